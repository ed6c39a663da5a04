/-! One judgement for a walk: heap, frame and locals' array are hidden; the goal says pc, locals, stack and world alone -/
abbrev lm_G : Type := va_G × ClassId × ClassId × ClassId
abbrev lm_ty (K : lm_G) : List (ClassId × FieldType) := [(K.2.1, .int), (K.2.2.1, .long), (K.2.2.2, .boolean)]
abbrev aI (K : lm_G) (n : Nat) (f : Nat → Int32) : va_E := .inl (K.2.1, n, .inl f)
abbrev aJ (K : lm_G) (n : Nat) (f : Nat → Int64) : va_E := .inl (K.2.2.1, n, .inr (.inl f))
abbrev aZ (K : lm_G) (n : Nat) (f : Nat → Int32) : va_E := .inl (K.2.2.2, n, .inl f)
abbrev lm_Me : Type := MethodName × ByteArray × Nat × Option FieldType
def lm_W (M : lm_Me) : List Cond := .code M.1 M.2.1 M.2.2.1 M.2.2.2 :: lm_T
def lm_In (K : lm_G) (ws : va_W) (sz : Nat) (U : State) : Prop := U.heap.size = sz ∧ va_P K.1 lmCl ws U.heap ∧ va_K K.1 lmCl (lm_ty K) U ∧ va_D (fun _ => True) ws ∧ lm_N U
def lm_Q (K : lm_G) (A : Nat → Prop) (post : Option Value → va_W → Prop) : Array Value → State → Outcome → State → Prop := fun _ st oc t => (∃ (v : Option Value) (w : va_W), oc = .returned v ∧ post v w ∧ va_P K.1 lmCl w t.heap ∧ va_D A w) ∧ va_F A st t
/-- a contract: the arguments, the world ahead, what comes back and the world behind -/
def lm_C (l : Launch) (K : lm_G) (M : lm_Me) (rm : Room) (as : List Value) (ws : va_W) (post : Option Value → va_W → Prop) : Prop := ∀ sz : Nat, Met l M.1 (lm_W M) rm (va_Pc as (lm_In K ws sz)) (lm_Q K (va_A ws sz) post) rm.cells rm.slots (va_A ws sz)
abbrev lx_E : Type := Program × Launch × Env × Room × State × MethodId × Array Value × List Frame × Method × Code × (State → Prop) × (Nat → Prop)
abbrev xp (E : lx_E) : Program := E.1
abbrev xl (E : lx_E) : Launch := E.2.1
abbrev xe (E : lx_E) : Env := E.2.2.1
abbrev xR (E : lx_E) : Room := E.2.2.2.1
abbrev xs (E : lx_E) : State := E.2.2.2.2.1
abbrev xm (E : lx_E) : MethodId := E.2.2.2.2.2.1
abbrev xa (E : lx_E) : Array Value := E.2.2.2.2.2.2.1
abbrev xb (E : lx_E) : List Frame := E.2.2.2.2.2.2.2.1
abbrev xt (E : lx_E) : Method := E.2.2.2.2.2.2.2.2.1
abbrev xc (E : lx_E) : Code := E.2.2.2.2.2.2.2.2.2.1
abbrev xq (E : lx_E) : State → Prop := E.2.2.2.2.2.2.2.2.2.2.1
abbrev xA (E : lx_E) : Nat → Prop := E.2.2.2.2.2.2.2.2.2.2.2
def lx_W (K : lm_G) (nL : Nat) (E : lx_E) (a b pc : Nat) (lv : List (Nat × Value)) (st : List Value) (ws : va_W) : Prop :=
  ∀ (H : Heap) (locs : List Loc) (ls : Array Slot), lv_has ls nL lv → va_P K.1 lmCl ws H → va_D (xA E) ws → va_S (xA E) (xs E).heap H locs → W (xp E) (xl E) (xe E) (xR E) (xs E) (xm E) (xa E) (xb E) (xt E) (xc E) H locs a b (xq E) (F0 (xm E) pc ls st)
def lx_F (K : lm_G) (nL : Nat) (E : lx_E) (cc : ByteArray) (own : String) (ret : Option FieldType) (rm : Room) : Prop :=
  CallFix (xp E) (xm E) (xc E) cc nL (xs E) (xa E) lm_T own ∧ va_K K.1 lmCl (lm_ty K) (xs E) ∧ lm_N (xs E) ∧ (∀ q, (xs E).heap.size ≤ q → xA E q) ∧ (xt E).sig.returnType = ret ∧ (xt E).locks = false ∧ xR E = rm
/-- what a return owes -/
def lx_RQ (K : lm_G) (E : lx_E) (a b : Nat) (post : Option Value → va_W → Prop) : Prop := ∀ (H : Heap) (locs : List Loc) (g : JFrame), W (xp E) (xl E) (xe E) (xR E) (xs E) (xm E) (xa E) (xb E) (xt E) (xc E) H locs a b (MQ (xb E) (lm_Q K (xA E) post) (xa E) (xs E) a b (xA E)) g → W (xp E) (xl E) (xe E) (xR E) (xs E) (xm E) (xa E) (xb E) (xt E) (xc E) H locs a b (xq E) g
section LXR
variable {K : lm_G} {nL : Nat} {E : lx_E} {cc : ByteArray} {own : String} {ret : Option FieldType} {rm : Room} {a b pc : Nat} {lv : List (Nat × Value)} {st : List Value} {ws : va_W}
theorem lx_iconst (F : lx_F K nL E cc own ret rm) {n : Int} {v : Int32} (hd : decode cc pc = .ok (.iconst n, 1)) (hv : Int32.ofInt n = v) (k : lx_W K nL E a b (pc + 1) lv (.int v :: st) ws) : lx_W K nL E a b pc lv (st) ws := fun H L ls h hP hD hS => lv_iconst F.1.1 F.1.2.1 hd hv (k H L ls h hP hD hS)
theorem lx_bipush (F : lx_F K nL E cc own ret rm) {n : Int} {v : Int32} (hd : decode cc pc = .ok (.bipush n, 2)) (hv : (Int8.ofInt n).toInt32 = v) (k : lx_W K nL E a b (pc + 2) lv (.int v :: st) ws) : lx_W K nL E a b pc lv (st) ws := fun H L ls h hP hD hS => lv_bipush F.1.1 F.1.2.1 hd hv (k H L ls h hP hD hS)
theorem lx_lconst (F : lx_F K nL E cc own ret rm) {n : Fin 2} {v : Int64} (hd : decode cc pc = .ok (.lconst n, 1)) (hv : Int64.ofNat (n : Nat) = v) (k : lx_W K nL E a b (pc + 1) lv (.long v :: st) ws) : lx_W K nL E a b pc lv (st) ws := fun H L ls h hP hD hS => lv_lconst F.1.1 F.1.2.1 hd hv (k H L ls h hP hD hS)
theorem lx_iload (F : lx_F K nL E cc own ret rm) {i : Nat} {x : Int32} (hd : decode cc pc = .ok (.iload i, 2)) (q : Nat) (hq : lv[q]? = some (i, .int x)) (k : lx_W K nL E a b (pc + 2) lv (.int x :: st) ws) : lx_W K nL E a b pc lv (st) ws := fun H L ls h hP hD hS => lv_iload F.1.1 F.1.2.1 hd (lv_at h q hq) (k H L ls h hP hD hS)
theorem lx_iload_n (F : lx_F K nL E cc own ret rm) {i : Fin 4} {x : Int32} (hd : decode cc pc = .ok (.iload_n i, 1)) (q : Nat) (hq : lv[q]? = some ((i : Nat), .int x)) (k : lx_W K nL E a b (pc + 1) lv (.int x :: st) ws) : lx_W K nL E a b pc lv (st) ws := fun H L ls h hP hD hS => lv_iload_n F.1.1 F.1.2.1 hd rfl (lv_at h q hq) (k H L ls h hP hD hS)
theorem lx_istore (F : lx_F K nL E cc own ret rm) {i : Nat} {x : Int32} (lv' : List (Nat × Value)) (ks : List Nat) (hd : decode cc pc = .ok (.istore i, 2)) (hl : lv_pick ((i, .int x) :: lv.filter (fun q => !(q.1 == i) && !(q.1 + 1 == i && q.2.category == 2))) ks = lv') (hn : i < nL) (k : lx_W K nL E a b (pc + 2) lv' st ws) : lx_W K nL E a b pc lv (.int x :: st) ws := fun H L ls h hP hD hS => lv_istore F.1.1 F.1.2.1 hd h hn rfl (fun ls' h' => k H L ls' (lv_sub h' ks hl) hP hD hS)
theorem lx_istore_n (F : lx_F K nL E cc own ret rm) {i : Fin 4} {x : Int32} (lv' : List (Nat × Value)) (ks : List Nat) (hd : decode cc pc = .ok (.istore_n i, 1)) (hl : lv_pick (((i : Nat), .int x) :: lv.filter (fun q => !(q.1 == (i : Nat)) && !(q.1 + 1 == (i : Nat) && q.2.category == 2))) ks = lv') (hn : (i : Nat) < nL) (k : lx_W K nL E a b (pc + 1) lv' st ws) : lx_W K nL E a b pc lv (.int x :: st) ws := fun H L ls h hP hD hS => lv_istore_n F.1.1 F.1.2.1 hd rfl h hn rfl (fun ls' h' => k H L ls' (lv_sub h' ks hl) hP hD hS)
theorem lx_lload (F : lx_F K nL E cc own ret rm) {i : Nat} {x : Int64} (hd : decode cc pc = .ok (.lload i, 2)) (q : Nat) (hq : lv[q]? = some (i, .long x)) (k : lx_W K nL E a b (pc + 2) lv (.long x :: st) ws) : lx_W K nL E a b pc lv (st) ws := fun H L ls h hP hD hS => lv_lload F.1.1 F.1.2.1 hd (lv_at h q hq) (k H L ls h hP hD hS)
theorem lx_lload_n (F : lx_F K nL E cc own ret rm) {i : Fin 4} {x : Int64} (hd : decode cc pc = .ok (.lload_n i, 1)) (q : Nat) (hq : lv[q]? = some ((i : Nat), .long x)) (k : lx_W K nL E a b (pc + 1) lv (.long x :: st) ws) : lx_W K nL E a b pc lv (st) ws := fun H L ls h hP hD hS => lv_lload_n F.1.1 F.1.2.1 hd rfl (lv_at h q hq) (k H L ls h hP hD hS)
theorem lx_lstore (F : lx_F K nL E cc own ret rm) {i : Nat} {x : Int64} (lv' : List (Nat × Value)) (ks : List Nat) (hd : decode cc pc = .ok (.lstore i, 2)) (hl : lv_pick ((i, .long x) :: lv.filter (fun q => !(q.1 == i) && (!(q.1 == i + 1) && !(q.1 + 1 == i && q.2.category == 2)))) ks = lv') (hn : i + 1 < nL) (k : lx_W K nL E a b (pc + 2) lv' st ws) : lx_W K nL E a b pc lv (.long x :: st) ws := fun H L ls h hP hD hS => lv_lstore F.1.1 F.1.2.1 hd h hn rfl (fun ls' h' => k H L ls' (lv_sub h' ks hl) hP hD hS)
theorem lx_lstore_n (F : lx_F K nL E cc own ret rm) {i : Fin 4} {x : Int64} (lv' : List (Nat × Value)) (ks : List Nat) (hd : decode cc pc = .ok (.lstore_n i, 1)) (hl : lv_pick (((i : Nat), .long x) :: lv.filter (fun q => !(q.1 == (i : Nat)) && (!(q.1 == (i : Nat) + 1) && !(q.1 + 1 == (i : Nat) && q.2.category == 2)))) ks = lv') (hn : (i : Nat) + 1 < nL) (k : lx_W K nL E a b (pc + 1) lv' st ws) : lx_W K nL E a b pc lv (.long x :: st) ws := fun H L ls h hP hD hS => lv_lstore_n F.1.1 F.1.2.1 hd rfl h hn rfl (fun ls' h' => k H L ls' (lv_sub h' ks hl) hP hD hS)
theorem lx_aload (F : lx_F K nL E cc own ret rm) {i : Nat} {x : Nat} (hd : decode cc pc = .ok (.aload i, 2)) (q : Nat) (hq : lv[q]? = some (i, .ref x)) (k : lx_W K nL E a b (pc + 2) lv (.ref x :: st) ws) : lx_W K nL E a b pc lv (st) ws := fun H L ls h hP hD hS => lv_aload F.1.1 F.1.2.1 hd (lv_at h q hq) (k H L ls h hP hD hS)
theorem lx_aload_n (F : lx_F K nL E cc own ret rm) {i : Fin 4} {x : Nat} (hd : decode cc pc = .ok (.aload_n i, 1)) (q : Nat) (hq : lv[q]? = some ((i : Nat), .ref x)) (k : lx_W K nL E a b (pc + 1) lv (.ref x :: st) ws) : lx_W K nL E a b pc lv (st) ws := fun H L ls h hP hD hS => lv_aload_n F.1.1 F.1.2.1 hd rfl (lv_at h q hq) (k H L ls h hP hD hS)
theorem lx_astore (F : lx_F K nL E cc own ret rm) {i : Nat} {x : Nat} (lv' : List (Nat × Value)) (ks : List Nat) (hd : decode cc pc = .ok (.astore i, 2)) (hl : lv_pick ((i, .ref x) :: lv.filter (fun q => !(q.1 == i) && !(q.1 + 1 == i && q.2.category == 2))) ks = lv') (hn : i < nL) (k : lx_W K nL E a b (pc + 2) lv' st ws) : lx_W K nL E a b pc lv (.ref x :: st) ws := fun H L ls h hP hD hS => lv_astore F.1.1 F.1.2.1 hd h hn rfl (fun ls' h' => k H L ls' (lv_sub h' ks hl) hP hD hS)
theorem lx_astore_n (F : lx_F K nL E cc own ret rm) {i : Fin 4} {x : Nat} (lv' : List (Nat × Value)) (ks : List Nat) (hd : decode cc pc = .ok (.astore_n i, 1)) (hl : lv_pick (((i : Nat), .ref x) :: lv.filter (fun q => !(q.1 == (i : Nat)) && !(q.1 + 1 == (i : Nat) && q.2.category == 2))) ks = lv') (hn : (i : Nat) < nL) (k : lx_W K nL E a b (pc + 1) lv' st ws) : lx_W K nL E a b pc lv (.ref x :: st) ws := fun H L ls h hP hD hS => lv_astore_n F.1.1 F.1.2.1 hd rfl h hn rfl (fun ls' h' => k H L ls' (lv_sub h' ks hl) hP hD hS)
theorem lx_iinc (F : lx_F K nL E cc own ret rm) {i : Nat} {n : Int} {x v : Int32} (lv' : List (Nat × Value)) (q : Nat) (ks : List Nat) (hd : decode cc pc = .ok (.iinc i n, 3)) (hq : lv[q]? = some (i, .int x)) (hv : x + Int32.ofInt n = v) (hl : lv_pick ((i, Value.int v) :: lv.filter (fun q => !(q.1 == i) && !(q.1 + 1 == i && q.2.category == 2))) ks = lv') (hn : i < nL) (k : lx_W K nL E a b (pc + 3) lv' st ws) : lx_W K nL E a b pc lv st ws := fun H L ls h hP hD hS => lv_iinc F.1.1 F.1.2.1 hd h hq hv hn rfl (fun ls' h' => k H L ls' (lv_sub h' ks hl) hP hD hS)
theorem lx_iadd (F : lx_F K nL E cc own ret rm) {x y z : Int32} (hd : decode cc pc = .ok (.iadd, 1)) (hz : x + y = z) (k : lx_W K nL E a b (pc + 1) lv (.int z :: st) ws) : lx_W K nL E a b pc lv (.int y :: .int x :: st) ws := fun H L ls h hP hD hS => lv_iadd F.1.1 F.1.2.1 hd (by rw [hz]; exact k H L ls h hP hD hS)
theorem lx_isub (F : lx_F K nL E cc own ret rm) {x y z : Int32} (hd : decode cc pc = .ok (.isub, 1)) (hz : x - y = z) (k : lx_W K nL E a b (pc + 1) lv (.int z :: st) ws) : lx_W K nL E a b pc lv (.int y :: .int x :: st) ws := fun H L ls h hP hD hS => lv_isub F.1.1 F.1.2.1 hd (by rw [hz]; exact k H L ls h hP hD hS)
theorem lx_iand (F : lx_F K nL E cc own ret rm) {x y z : Int32} (hd : decode cc pc = .ok (.iand, 1)) (hz : x &&& y = z) (k : lx_W K nL E a b (pc + 1) lv (.int z :: st) ws) : lx_W K nL E a b pc lv (.int y :: .int x :: st) ws := fun H L ls h hP hD hS => lv_iand F.1.1 F.1.2.1 hd (by rw [hz]; exact k H L ls h hP hD hS)
theorem lx_ladd (F : lx_F K nL E cc own ret rm) {x y z : Int64} (hd : decode cc pc = .ok (.ladd, 1)) (hz : x + y = z) (k : lx_W K nL E a b (pc + 1) lv (.long z :: st) ws) : lx_W K nL E a b pc lv (.long y :: .long x :: st) ws := fun H L ls h hP hD hS => lv_ladd F.1.1 F.1.2.1 hd (by rw [hz]; exact k H L ls h hP hD hS)
theorem lx_land (F : lx_F K nL E cc own ret rm) {x y z : Int64} (hd : decode cc pc = .ok (.land, 1)) (hz : x &&& y = z) (k : lx_W K nL E a b (pc + 1) lv (.long z :: st) ws) : lx_W K nL E a b pc lv (.long y :: .long x :: st) ws := fun H L ls h hP hD hS => lv_land F.1.1 F.1.2.1 hd (by rw [hz]; exact k H L ls h hP hD hS)
theorem lx_lor (F : lx_F K nL E cc own ret rm) {x y z : Int64} (hd : decode cc pc = .ok (.lor, 1)) (hz : x ||| y = z) (k : lx_W K nL E a b (pc + 1) lv (.long z :: st) ws) : lx_W K nL E a b pc lv (.long y :: .long x :: st) ws := fun H L ls h hP hD hS => lv_lor F.1.1 F.1.2.1 hd (by rw [hz]; exact k H L ls h hP hD hS)
theorem lx_lshl (F : lx_F K nL E cc own ret rm) {x v : Int64} {y : Int32} (hd : decode cc pc = .ok (.lshl, 1)) (hv : x <<< (y.toInt64 &&& 63) = v) (k : lx_W K nL E a b (pc + 1) lv (.long v :: st) ws) : lx_W K nL E a b pc lv (.int y :: .long x :: st) ws := fun H L ls h hP hD hS => lv_lshl F.1.1 F.1.2.1 hd hv (k H L ls h hP hD hS)
theorem lx_lshr (F : lx_F K nL E cc own ret rm) {x v : Int64} {y : Int32} (hd : decode cc pc = .ok (.lshr, 1)) (hv : x >>> (y.toInt64 &&& 63) = v) (k : lx_W K nL E a b (pc + 1) lv (.long v :: st) ws) : lx_W K nL E a b pc lv (.int y :: .long x :: st) ws := fun H L ls h hP hD hS => lv_lshr F.1.1 F.1.2.1 hd hv (k H L ls h hP hD hS)
theorem lx_i2l (F : lx_F K nL E cc own ret rm) {x : Int32} {v : Int64} (hd : decode cc pc = .ok (.i2l, 1)) (hv : x.toInt64 = v) (k : lx_W K nL E a b (pc + 1) lv (.long v :: st) ws) : lx_W K nL E a b pc lv (.int x :: st) ws := fun H L ls h hP hD hS => lv_i2l F.1.1 F.1.2.1 hd hv (k H L ls h hP hD hS)
theorem lx_l2i (F : lx_F K nL E cc own ret rm) {x : Int64} {v : Int32} (hd : decode cc pc = .ok (.l2i, 1)) (hv : x.toInt32 = v) (k : lx_W K nL E a b (pc + 1) lv (.int v :: st) ws) : lx_W K nL E a b pc lv (.long x :: st) ws := fun H L ls h hP hD hS => lv_l2i F.1.1 F.1.2.1 hd hv (k H L ls h hP hD hS)
theorem lx_dup (F : lx_F K nL E cc own ret rm) {v : Value} (hd : decode cc pc = .ok (.dup, 1)) (hv : v.category = 1) (k : lx_W K nL E a b (pc + 1) lv (v :: v :: st) ws) : lx_W K nL E a b pc lv (v :: st) ws := fun H L ls h hP hD hS => lv_dup F.1.1 F.1.2.1 hd hv (k H L ls h hP hD hS)
theorem lx_pop (F : lx_F K nL E cc own ret rm) {v : Value} (hd : decode cc pc = .ok (.pop, 1)) (hv : v.category = 1) (k : lx_W K nL E a b (pc + 1) lv st ws) : lx_W K nL E a b pc lv (v :: st) ws := fun H L ls h hP hD hS => lv_pop F.1.1 F.1.2.1 hd hv (k H L ls h hP hD hS)
theorem lx_goto (F : lx_F K nL E cc own ret rm) {off : Int} (tgt : Nat) (hd : decode cc pc = .ok (.goto off, 3)) (ht : (pc : Int) + off = (tgt : Int)) (k : lx_W K nL E a b tgt lv st ws) : lx_W K nL E a b pc lv st ws := fun H L ls h hP hD hS => lv_goto F.1.1 F.1.2.1 hd ht (k H L ls h hP hD hS)
theorem lx_icmp_eq (F : lx_F K nL E cc own ret rm) {x y : Int32} {off : Int} (tgt : Nat) (hd : decode cc pc = .ok (.if_icmp .eq off, 3)) (ht : (pc : Int) + off = (tgt : Int)) (kt : x = y → lx_W K nL E a b tgt lv st ws) (kf : ¬ x = y → lx_W K nL E a b (pc + 3) lv st ws) : lx_W K nL E a b pc lv (.int y :: .int x :: st) ws := fun H L ls h hP hD hS => lv_icmp_eq F.1.1 F.1.2.1 hd ht (fun q => kt q H L ls h hP hD hS) (fun q => kf q H L ls h hP hD hS)
theorem lx_if_eq (F : lx_F K nL E cc own ret rm) {x : Int32} {off : Int} (tgt : Nat) (hd : decode cc pc = .ok (.ifCond .eq off, 3)) (ht : (pc : Int) + off = (tgt : Int)) (kt : x = 0 → lx_W K nL E a b tgt lv st ws) (kf : ¬ x = 0 → lx_W K nL E a b (pc + 3) lv st ws) : lx_W K nL E a b pc lv (.int x :: st) ws := fun H L ls h hP hD hS => lv_if_eq F.1.1 F.1.2.1 hd ht (fun q => kt q H L ls h hP hD hS) (fun q => kf q H L ls h hP hD hS)
theorem lx_icmpN_eq (F : lx_F K nL E cc own ret rm) {x y : Nat} {off : Int} (tgt : Nat) (hx : x < 2 ^ 31) (hy : y < 2 ^ 31) (hd : decode cc pc = .ok (.if_icmp .eq off, 3)) (ht : (pc : Int) + off = (tgt : Int)) (kt : x = y → lx_W K nL E a b tgt lv st ws) (kf : x ≠ y → lx_W K nL E a b (pc + 3) lv st ws) : lx_W K nL E a b pc lv (.int (nI y) :: .int (nI x) :: st) ws := lx_icmp_eq F tgt hd ht (fun q => kt ((nI_eq hx hy).mp q)) (fun q => kf (fun z => q ((nI_eq hx hy).mpr z)))
theorem lx_ifN_eq (F : lx_F K nL E cc own ret rm) {x : Nat} {off : Int} (tgt : Nat) (hx : x < 2 ^ 31) (hd : decode cc pc = .ok (.ifCond .eq off, 3)) (ht : (pc : Int) + off = (tgt : Int)) (kt : x = 0 → lx_W K nL E a b tgt lv st ws) (kf : x ≠ 0 → lx_W K nL E a b (pc + 3) lv st ws) : lx_W K nL E a b pc lv (.int (nI x) :: st) ws := by
  have hy : 0 < 2 ^ 31 := by decide
  refine lx_if_eq F tgt hd ht (fun q => kt ?_) (fun q => kf ?_) <;> rw [← nI_0] at q
  · exact (nI_eq hx hy).mp q
  · exact fun z => q ((nI_eq hx hy).mpr z)
theorem lx_icmp_ne (F : lx_F K nL E cc own ret rm) {x y : Int32} {off : Int} (tgt : Nat) (hd : decode cc pc = .ok (.if_icmp .ne off, 3)) (ht : (pc : Int) + off = (tgt : Int)) (kt : ¬ x = y → lx_W K nL E a b tgt lv st ws) (kf : x = y → lx_W K nL E a b (pc + 3) lv st ws) : lx_W K nL E a b pc lv (.int y :: .int x :: st) ws := fun H L ls h hP hD hS => lv_icmp_ne F.1.1 F.1.2.1 hd ht (fun q => kt q H L ls h hP hD hS) (fun q => kf q H L ls h hP hD hS)
theorem lx_if_ne (F : lx_F K nL E cc own ret rm) {x : Int32} {off : Int} (tgt : Nat) (hd : decode cc pc = .ok (.ifCond .ne off, 3)) (ht : (pc : Int) + off = (tgt : Int)) (kt : ¬ x = 0 → lx_W K nL E a b tgt lv st ws) (kf : x = 0 → lx_W K nL E a b (pc + 3) lv st ws) : lx_W K nL E a b pc lv (.int x :: st) ws := fun H L ls h hP hD hS => lv_if_ne F.1.1 F.1.2.1 hd ht (fun q => kt q H L ls h hP hD hS) (fun q => kf q H L ls h hP hD hS)
theorem lx_icmpN_ne (F : lx_F K nL E cc own ret rm) {x y : Nat} {off : Int} (tgt : Nat) (hx : x < 2 ^ 31) (hy : y < 2 ^ 31) (hd : decode cc pc = .ok (.if_icmp .ne off, 3)) (ht : (pc : Int) + off = (tgt : Int)) (kt : x ≠ y → lx_W K nL E a b tgt lv st ws) (kf : x = y → lx_W K nL E a b (pc + 3) lv st ws) : lx_W K nL E a b pc lv (.int (nI y) :: .int (nI x) :: st) ws := lx_icmp_ne F tgt hd ht (fun q => kt (fun z => q ((nI_eq hx hy).mpr z))) (fun q => kf ((nI_eq hx hy).mp q))
theorem lx_ifN_ne (F : lx_F K nL E cc own ret rm) {x : Nat} {off : Int} (tgt : Nat) (hx : x < 2 ^ 31) (hd : decode cc pc = .ok (.ifCond .ne off, 3)) (ht : (pc : Int) + off = (tgt : Int)) (kt : x ≠ 0 → lx_W K nL E a b tgt lv st ws) (kf : x = 0 → lx_W K nL E a b (pc + 3) lv st ws) : lx_W K nL E a b pc lv (.int (nI x) :: st) ws := by
  have hy : 0 < 2 ^ 31 := by decide
  refine lx_if_ne F tgt hd ht (fun q => kt ?_) (fun q => kf ?_) <;> rw [← nI_0] at q
  · exact fun z => q ((nI_eq hx hy).mpr z)
  · exact (nI_eq hx hy).mp q
theorem lx_icmp_lt (F : lx_F K nL E cc own ret rm) {x y : Int32} {off : Int} (tgt : Nat) (hd : decode cc pc = .ok (.if_icmp .lt off, 3)) (ht : (pc : Int) + off = (tgt : Int)) (kt : x < y → lx_W K nL E a b tgt lv st ws) (kf : ¬ x < y → lx_W K nL E a b (pc + 3) lv st ws) : lx_W K nL E a b pc lv (.int y :: .int x :: st) ws := fun H L ls h hP hD hS => lv_icmp_lt F.1.1 F.1.2.1 hd ht (fun q => kt q H L ls h hP hD hS) (fun q => kf q H L ls h hP hD hS)
theorem lx_if_lt (F : lx_F K nL E cc own ret rm) {x : Int32} {off : Int} (tgt : Nat) (hd : decode cc pc = .ok (.ifCond .lt off, 3)) (ht : (pc : Int) + off = (tgt : Int)) (kt : x < 0 → lx_W K nL E a b tgt lv st ws) (kf : ¬ x < 0 → lx_W K nL E a b (pc + 3) lv st ws) : lx_W K nL E a b pc lv (.int x :: st) ws := fun H L ls h hP hD hS => lv_if_lt F.1.1 F.1.2.1 hd ht (fun q => kt q H L ls h hP hD hS) (fun q => kf q H L ls h hP hD hS)
theorem lx_icmpN_lt (F : lx_F K nL E cc own ret rm) {x y : Nat} {off : Int} (tgt : Nat) (hx : x < 2 ^ 31) (hy : y < 2 ^ 31) (hd : decode cc pc = .ok (.if_icmp .lt off, 3)) (ht : (pc : Int) + off = (tgt : Int)) (kt : x < y → lx_W K nL E a b tgt lv st ws) (kf : y ≤ x → lx_W K nL E a b (pc + 3) lv st ws) : lx_W K nL E a b pc lv (.int (nI y) :: .int (nI x) :: st) ws := lx_icmp_lt F tgt hd ht (fun q => kt ((nI_ltI hx hy).mp q)) (fun q => kf (Nat.le_of_not_lt (fun z => q ((nI_ltI hx hy).mpr z))))
theorem lx_ifN_lt (F : lx_F K nL E cc own ret rm) {x : Nat} {off : Int} (tgt : Nat) (hx : x < 2 ^ 31) (hd : decode cc pc = .ok (.ifCond .lt off, 3)) (ht : (pc : Int) + off = (tgt : Int)) (kt : x < 0 → lx_W K nL E a b tgt lv st ws) (kf : 0 ≤ x → lx_W K nL E a b (pc + 3) lv st ws) : lx_W K nL E a b pc lv (.int (nI x) :: st) ws := by
  have hy : 0 < 2 ^ 31 := by decide
  refine lx_if_lt F tgt hd ht (fun q => kt ?_) (fun q => kf ?_) <;> rw [← nI_0] at q
  · exact (nI_ltI hx hy).mp q
  · exact Nat.le_of_not_lt (fun z => q ((nI_ltI hx hy).mpr z))
theorem lx_icmp_ge (F : lx_F K nL E cc own ret rm) {x y : Int32} {off : Int} (tgt : Nat) (hd : decode cc pc = .ok (.if_icmp .ge off, 3)) (ht : (pc : Int) + off = (tgt : Int)) (kt : y ≤ x → lx_W K nL E a b tgt lv st ws) (kf : ¬ y ≤ x → lx_W K nL E a b (pc + 3) lv st ws) : lx_W K nL E a b pc lv (.int y :: .int x :: st) ws := fun H L ls h hP hD hS => lv_icmp_ge F.1.1 F.1.2.1 hd ht (fun q => kt q H L ls h hP hD hS) (fun q => kf q H L ls h hP hD hS)
theorem lx_if_ge (F : lx_F K nL E cc own ret rm) {x : Int32} {off : Int} (tgt : Nat) (hd : decode cc pc = .ok (.ifCond .ge off, 3)) (ht : (pc : Int) + off = (tgt : Int)) (kt : 0 ≤ x → lx_W K nL E a b tgt lv st ws) (kf : ¬ 0 ≤ x → lx_W K nL E a b (pc + 3) lv st ws) : lx_W K nL E a b pc lv (.int x :: st) ws := fun H L ls h hP hD hS => lv_if_ge F.1.1 F.1.2.1 hd ht (fun q => kt q H L ls h hP hD hS) (fun q => kf q H L ls h hP hD hS)
theorem lx_icmpN_ge (F : lx_F K nL E cc own ret rm) {x y : Nat} {off : Int} (tgt : Nat) (hx : x < 2 ^ 31) (hy : y < 2 ^ 31) (hd : decode cc pc = .ok (.if_icmp .ge off, 3)) (ht : (pc : Int) + off = (tgt : Int)) (kt : y ≤ x → lx_W K nL E a b tgt lv st ws) (kf : x < y → lx_W K nL E a b (pc + 3) lv st ws) : lx_W K nL E a b pc lv (.int (nI y) :: .int (nI x) :: st) ws := lx_icmp_ge F tgt hd ht (fun q => kt ((nI_leI hy hx).mp q)) (fun q => kf (Nat.lt_of_not_le (fun z => q ((nI_leI hy hx).mpr z))))
theorem lx_ifN_ge (F : lx_F K nL E cc own ret rm) {x : Nat} {off : Int} (tgt : Nat) (hx : x < 2 ^ 31) (hd : decode cc pc = .ok (.ifCond .ge off, 3)) (ht : (pc : Int) + off = (tgt : Int)) (kt : 0 ≤ x → lx_W K nL E a b tgt lv st ws) (kf : x < 0 → lx_W K nL E a b (pc + 3) lv st ws) : lx_W K nL E a b pc lv (.int (nI x) :: st) ws := by
  have hy : 0 < 2 ^ 31 := by decide
  refine lx_if_ge F tgt hd ht (fun q => kt ?_) (fun q => kf ?_) <;> rw [← nI_0] at q
  · exact (nI_leI hy hx).mp q
  · exact Nat.lt_of_not_le (fun z => q ((nI_leI hy hx).mpr z))
theorem lx_icmp_gt (F : lx_F K nL E cc own ret rm) {x y : Int32} {off : Int} (tgt : Nat) (hd : decode cc pc = .ok (.if_icmp .gt off, 3)) (ht : (pc : Int) + off = (tgt : Int)) (kt : y < x → lx_W K nL E a b tgt lv st ws) (kf : ¬ y < x → lx_W K nL E a b (pc + 3) lv st ws) : lx_W K nL E a b pc lv (.int y :: .int x :: st) ws := fun H L ls h hP hD hS => lv_icmp_gt F.1.1 F.1.2.1 hd ht (fun q => kt q H L ls h hP hD hS) (fun q => kf q H L ls h hP hD hS)
theorem lx_if_gt (F : lx_F K nL E cc own ret rm) {x : Int32} {off : Int} (tgt : Nat) (hd : decode cc pc = .ok (.ifCond .gt off, 3)) (ht : (pc : Int) + off = (tgt : Int)) (kt : 0 < x → lx_W K nL E a b tgt lv st ws) (kf : ¬ 0 < x → lx_W K nL E a b (pc + 3) lv st ws) : lx_W K nL E a b pc lv (.int x :: st) ws := fun H L ls h hP hD hS => lv_if_gt F.1.1 F.1.2.1 hd ht (fun q => kt q H L ls h hP hD hS) (fun q => kf q H L ls h hP hD hS)
theorem lx_icmpN_gt (F : lx_F K nL E cc own ret rm) {x y : Nat} {off : Int} (tgt : Nat) (hx : x < 2 ^ 31) (hy : y < 2 ^ 31) (hd : decode cc pc = .ok (.if_icmp .gt off, 3)) (ht : (pc : Int) + off = (tgt : Int)) (kt : y < x → lx_W K nL E a b tgt lv st ws) (kf : x ≤ y → lx_W K nL E a b (pc + 3) lv st ws) : lx_W K nL E a b pc lv (.int (nI y) :: .int (nI x) :: st) ws := lx_icmp_gt F tgt hd ht (fun q => kt ((nI_ltI hy hx).mp q)) (fun q => kf (Nat.le_of_not_lt (fun z => q ((nI_ltI hy hx).mpr z))))
theorem lx_ifN_gt (F : lx_F K nL E cc own ret rm) {x : Nat} {off : Int} (tgt : Nat) (hx : x < 2 ^ 31) (hd : decode cc pc = .ok (.ifCond .gt off, 3)) (ht : (pc : Int) + off = (tgt : Int)) (kt : 0 < x → lx_W K nL E a b tgt lv st ws) (kf : x ≤ 0 → lx_W K nL E a b (pc + 3) lv st ws) : lx_W K nL E a b pc lv (.int (nI x) :: st) ws := by
  have hy : 0 < 2 ^ 31 := by decide
  refine lx_if_gt F tgt hd ht (fun q => kt ?_) (fun q => kf ?_) <;> rw [← nI_0] at q
  · exact (nI_ltI hy hx).mp q
  · exact Nat.le_of_not_lt (fun z => q ((nI_ltI hy hx).mpr z))
theorem lx_icmp_le (F : lx_F K nL E cc own ret rm) {x y : Int32} {off : Int} (tgt : Nat) (hd : decode cc pc = .ok (.if_icmp .le off, 3)) (ht : (pc : Int) + off = (tgt : Int)) (kt : x ≤ y → lx_W K nL E a b tgt lv st ws) (kf : ¬ x ≤ y → lx_W K nL E a b (pc + 3) lv st ws) : lx_W K nL E a b pc lv (.int y :: .int x :: st) ws := fun H L ls h hP hD hS => lv_icmp_le F.1.1 F.1.2.1 hd ht (fun q => kt q H L ls h hP hD hS) (fun q => kf q H L ls h hP hD hS)
theorem lx_if_le (F : lx_F K nL E cc own ret rm) {x : Int32} {off : Int} (tgt : Nat) (hd : decode cc pc = .ok (.ifCond .le off, 3)) (ht : (pc : Int) + off = (tgt : Int)) (kt : x ≤ 0 → lx_W K nL E a b tgt lv st ws) (kf : ¬ x ≤ 0 → lx_W K nL E a b (pc + 3) lv st ws) : lx_W K nL E a b pc lv (.int x :: st) ws := fun H L ls h hP hD hS => lv_if_le F.1.1 F.1.2.1 hd ht (fun q => kt q H L ls h hP hD hS) (fun q => kf q H L ls h hP hD hS)
theorem lx_icmpN_le (F : lx_F K nL E cc own ret rm) {x y : Nat} {off : Int} (tgt : Nat) (hx : x < 2 ^ 31) (hy : y < 2 ^ 31) (hd : decode cc pc = .ok (.if_icmp .le off, 3)) (ht : (pc : Int) + off = (tgt : Int)) (kt : x ≤ y → lx_W K nL E a b tgt lv st ws) (kf : y < x → lx_W K nL E a b (pc + 3) lv st ws) : lx_W K nL E a b pc lv (.int (nI y) :: .int (nI x) :: st) ws := lx_icmp_le F tgt hd ht (fun q => kt ((nI_leI hx hy).mp q)) (fun q => kf (Nat.lt_of_not_le (fun z => q ((nI_leI hx hy).mpr z))))
theorem lx_ifN_le (F : lx_F K nL E cc own ret rm) {x : Nat} {off : Int} (tgt : Nat) (hx : x < 2 ^ 31) (hd : decode cc pc = .ok (.ifCond .le off, 3)) (ht : (pc : Int) + off = (tgt : Int)) (kt : x ≤ 0 → lx_W K nL E a b tgt lv st ws) (kf : 0 < x → lx_W K nL E a b (pc + 3) lv st ws) : lx_W K nL E a b pc lv (.int (nI x) :: st) ws := by
  have hy : 0 < 2 ^ 31 := by decide
  refine lx_if_le F tgt hd ht (fun q => kt ?_) (fun q => kf ?_) <;> rw [← nI_0] at q
  · exact (nI_leI hx hy).mp q
  · exact Nat.lt_of_not_le (fun z => q ((nI_leI hx hy).mpr z))
theorem lx_lcmp_eq {x y : Int64} : lg_cmp x y = 0 ↔ x = y := by
  unfold lg_cmp
  by_cases h : y < x
  · have : x ≠ y := fun q => by rw [q] at h; exact absurd h Int64.lt_irrefl
    simp [h, this]
  · by_cases h2 : x = y
    · simp [h, h2]
    · simp [h, h2]
theorem lx_lcmp_lt {x y : Int64} : lg_cmp x y < 0 ↔ x < y := by
  have t := Int64.lt_iff_toInt_lt (x := x) (y := y)
  have t2 := Int64.lt_iff_toInt_lt (x := y) (y := x)
  have t3 := Int64.toInt_inj (x := x) (y := y)
  unfold lg_cmp
  by_cases h : y < x
  · rw [if_pos h]
    have : ¬ x < y := by rw [t]; rw [t2] at h; omega
    exact ⟨fun q => absurd q (by decide), fun q => absurd q this⟩
  · rw [if_neg h]
    by_cases h2 : x = y
    · have : ¬ x < y := by rw [t]; rw [← t3] at h2; omega
      simp only [h2]
      rw [h2] at this
      simp [this]
    · have : x < y := by rw [t]; rw [t2] at h; rw [← t3] at h2; omega
      simp [h2, this]
theorem lx_lcmp_gt {x y : Int64} : 0 < lg_cmp x y ↔ y < x := by
  unfold lg_cmp
  by_cases h : y < x
  · simp [h]
  · by_cases h2 : x = y
    · simp [h, h2]
    · simp [h, h2]
theorem lx_lcmp_ifeq (F : lx_F K nL E cc own ret rm) {x y : Int64} {off : Int} (tgt : Nat) (hd : decode cc pc = .ok (.lcmp, 1)) (hd2 : decode cc (pc + 1) = .ok (.ifCond .eq off, 3)) (ht : ((pc + 1 : Nat) : Int) + off = (tgt : Int)) (kt : x = y → lx_W K nL E a b tgt lv st ws) (kf : x ≠ y → lx_W K nL E a b (pc + 1 + 3) lv st ws) : lx_W K nL E a b pc lv (.long y :: .long x :: st) ws := fun H L ls h hP hD hS => W.lcmp F.1.1 F.1.2.1 hd (lx_if_eq F tgt hd2 ht (fun q => kt (lx_lcmp_eq.mp q)) (fun q => kf (fun z => q (lx_lcmp_eq.mpr z))) H L ls h hP hD hS)
theorem lx_lcmp_ifne (F : lx_F K nL E cc own ret rm) {x y : Int64} {off : Int} (tgt : Nat) (hd : decode cc pc = .ok (.lcmp, 1)) (hd2 : decode cc (pc + 1) = .ok (.ifCond .ne off, 3)) (ht : ((pc + 1 : Nat) : Int) + off = (tgt : Int)) (kt : x ≠ y → lx_W K nL E a b tgt lv st ws) (kf : x = y → lx_W K nL E a b (pc + 1 + 3) lv st ws) : lx_W K nL E a b pc lv (.long y :: .long x :: st) ws := fun H L ls h hP hD hS => W.lcmp F.1.1 F.1.2.1 hd (lx_if_ne F tgt hd2 ht (fun q => kt (fun z => q (lx_lcmp_eq.mpr z))) (fun q => kf (lx_lcmp_eq.mp q)) H L ls h hP hD hS)
theorem lx_lcmp_iflt (F : lx_F K nL E cc own ret rm) {x y : Int64} {off : Int} (tgt : Nat) (hd : decode cc pc = .ok (.lcmp, 1)) (hd2 : decode cc (pc + 1) = .ok (.ifCond .lt off, 3)) (ht : ((pc + 1 : Nat) : Int) + off = (tgt : Int)) (kt : x < y → lx_W K nL E a b tgt lv st ws) (kf : ¬ x < y → lx_W K nL E a b (pc + 1 + 3) lv st ws) : lx_W K nL E a b pc lv (.long y :: .long x :: st) ws := fun H L ls h hP hD hS => W.lcmp F.1.1 F.1.2.1 hd (lx_if_lt F tgt hd2 ht (fun q => kt (lx_lcmp_lt.mp q)) (fun q => kf (fun z => q (lx_lcmp_lt.mpr z))) H L ls h hP hD hS)
theorem lx_lcmp_ifge (F : lx_F K nL E cc own ret rm) {x y : Int64} {off : Int} (tgt : Nat) (hd : decode cc pc = .ok (.lcmp, 1)) (hd2 : decode cc (pc + 1) = .ok (.ifCond .ge off, 3)) (ht : ((pc + 1 : Nat) : Int) + off = (tgt : Int)) (kt : ¬ x < y → lx_W K nL E a b tgt lv st ws) (kf : x < y → lx_W K nL E a b (pc + 1 + 3) lv st ws) : lx_W K nL E a b pc lv (.long y :: .long x :: st) ws := fun H L ls h hP hD hS => W.lcmp F.1.1 F.1.2.1 hd (lx_if_ge F tgt hd2 ht (fun q => kt (fun z => (Int32.not_lt.mpr q) (lx_lcmp_lt.mpr z))) (fun q => kf (lx_lcmp_lt.mp (Int32.not_le.mp q))) H L ls h hP hD hS)
theorem lx_lcmp_ifgt (F : lx_F K nL E cc own ret rm) {x y : Int64} {off : Int} (tgt : Nat) (hd : decode cc pc = .ok (.lcmp, 1)) (hd2 : decode cc (pc + 1) = .ok (.ifCond .gt off, 3)) (ht : ((pc + 1 : Nat) : Int) + off = (tgt : Int)) (kt : y < x → lx_W K nL E a b tgt lv st ws) (kf : ¬ y < x → lx_W K nL E a b (pc + 1 + 3) lv st ws) : lx_W K nL E a b pc lv (.long y :: .long x :: st) ws := fun H L ls h hP hD hS => W.lcmp F.1.1 F.1.2.1 hd (lx_if_gt F tgt hd2 ht (fun q => kt (lx_lcmp_gt.mp q)) (fun q => kf (fun z => q (lx_lcmp_gt.mpr z))) H L ls h hP hD hS)
theorem lx_lcmp_ifle (F : lx_F K nL E cc own ret rm) {x y : Int64} {off : Int} (tgt : Nat) (hd : decode cc pc = .ok (.lcmp, 1)) (hd2 : decode cc (pc + 1) = .ok (.ifCond .le off, 3)) (ht : ((pc + 1 : Nat) : Int) + off = (tgt : Int)) (kt : ¬ y < x → lx_W K nL E a b tgt lv st ws) (kf : y < x → lx_W K nL E a b (pc + 1 + 3) lv st ws) : lx_W K nL E a b pc lv (.long y :: .long x :: st) ws := fun H L ls h hP hD hS => W.lcmp F.1.1 F.1.2.1 hd (lx_if_le F tgt hd2 ht (fun q => kt (fun z => (Int32.not_lt.mpr q) (lx_lcmp_gt.mpr z))) (fun q => kf (lx_lcmp_gt.mp (Int32.not_le.mp q))) H L ls h hP hD hS)
theorem lx_iald (F : lx_F K nL E cc own ret rm) (q0 n : Nat) {N q : Nat} {f : Nat → Int32} (hd : decode cc pc = .ok (.iaload, 1)) (he : ws[q0]? = some (q, aI K N f)) (hn : n < N) (hN : N < 2 ^ 31) (k : lx_W K nL E a b (pc + 1) lv (.int (f n) :: st) ws) : lx_W K nL E a b pc lv (.int (nI n) :: .ref q :: st) ws := fun H L ls h hP hD hS => va_iald F.1.1 F.1.2.1 F.2.1 hP q0 0 he rfl (vp_in_nI hn hN) hd (by rw [nI_clamp (Nat.lt_trans hn hN)]; exact k H L ls h hP hD hS)
theorem lx_lald (F : lx_F K nL E cc own ret rm) (q0 n : Nat) {N q : Nat} {f : Nat → Int64} (hd : decode cc pc = .ok (.laload, 1)) (he : ws[q0]? = some (q, aJ K N f)) (hn : n < N) (hN : N < 2 ^ 31) (k : lx_W K nL E a b (pc + 1) lv (.long (f n) :: st) ws) : lx_W K nL E a b pc lv (.int (nI n) :: .ref q :: st) ws := fun H L ls h hP hD hS => va_lald F.1.1 F.1.2.1 F.2.1 hP q0 1 he rfl (vp_in_nI hn hN) hd (by rw [nI_clamp (Nat.lt_trans hn hN)]; exact k H L ls h hP hD hS)
theorem lx_zald (F : lx_F K nL E cc own ret rm) (q0 n : Nat) {N q : Nat} {f : Nat → Int32} (hd : decode cc pc = .ok (.baload, 1)) (he : ws[q0]? = some (q, aZ K N f)) (hn : n < N) (hN : N < 2 ^ 31) (k : lx_W K nL E a b (pc + 1) lv (.int (f n) :: st) ws) : lx_W K nL E a b pc lv (.int (nI n) :: .ref q :: st) ws := fun H L ls h hP hD hS => va_zald F.1.1 F.1.2.1 F.2.1 hP q0 2 he rfl (vp_in_nI hn hN) hd (by rw [nI_clamp (Nat.lt_trans hn hN)]; exact k H L ls h hP hD hS)
theorem lx_iast (F : lx_F K nL E cc own ret rm) (q0 n : Nat) {N q : Nat} {f : Nat → Int32} {x : Int32} (ws' : va_W) (hd : decode cc pc = .ok (.iastore, 1)) (he : ws[q0]? = some (q, aI K N f)) (hn : n < N) (hN : N < 2 ^ 31) (hw : ws.set q0 (q, aI K N (lm_up f n x)) = ws') (k : lx_W K nL E a b (pc + 1) lv st ws') : lx_W K nL E a b pc lv (.int x :: .int (nI n) :: .ref q :: st) ws := fun H L ls h hP hD hS => va_iast F.1.1 F.1.2.1 F.2.1 hP hD hS q0 0 he rfl (vp_in_nI hn hN) hd (fun H1 L1 hP1 hD1 hS1 => by
    rw [nI_clamp (Nat.lt_trans hn hN)] at hP1 hD1
    subst hw
    exact k H1 L1 ls h hP1 hD1 hS1)
theorem lx_last (F : lx_F K nL E cc own ret rm) (q0 n : Nat) {N q : Nat} {f : Nat → Int64} {x : Int64} (ws' : va_W) (hd : decode cc pc = .ok (.lastore, 1)) (he : ws[q0]? = some (q, aJ K N f)) (hn : n < N) (hN : N < 2 ^ 31) (hw : ws.set q0 (q, aJ K N (lm_up f n x)) = ws') (k : lx_W K nL E a b (pc + 1) lv st ws') : lx_W K nL E a b pc lv (.long x :: .int (nI n) :: .ref q :: st) ws := fun H L ls h hP hD hS => va_last F.1.1 F.1.2.1 F.2.1 hP hD hS q0 1 he rfl (vp_in_nI hn hN) hd (fun H1 L1 hP1 hD1 hS1 => by
    rw [nI_clamp (Nat.lt_trans hn hN)] at hP1 hD1
    subst hw
    exact k H1 L1 ls h hP1 hD1 hS1)
theorem lx_zast (F : lx_F K nL E cc own ret rm) (q0 n : Nat) {N q : Nat} {f : Nat → Int32} {x : Int32} (ws' : va_W) (hd : decode cc pc = .ok (.bastore, 1)) (he : ws[q0]? = some (q, aZ K N f)) (hn : n < N) (hN : N < 2 ^ 31) (hx : vp_nar .boolean x = x) (hw : ws.set q0 (q, aZ K N (lm_up f n x)) = ws') (k : lx_W K nL E a b (pc + 1) lv st ws') : lx_W K nL E a b pc lv (.int x :: .int (nI n) :: .ref q :: st) ws := fun H L ls h hP hD hS => va_zast F.1.1 F.1.2.1 F.2.1 hP hD hS q0 2 he rfl (vp_in_nI hn hN) hd (fun H1 L1 hP1 hD1 hS1 => by
    rw [nI_clamp (Nat.lt_trans hn hN), hx] at hP1 hD1
    subst hw
    exact k H1 L1 ls h hP1 hD1 hS1)
theorem lx_alenI (F : lx_F K nL E cc own ret rm) (q0 : Nat) {N q : Nat} {f : Nat → Int32} (hd : decode cc pc = .ok (.arraylength, 1)) (he : ws[q0]? = some (q, aI K N f)) (k : lx_W K nL E a b (pc + 1) lv (.int (nI N) :: st) ws) : lx_W K nL E a b pc lv (.ref q :: st) ws := fun H L ls h hP hD hS => va_alen F.1.1 F.1.2.1 F.2.1 hP q0 0 he rfl rfl hd (k H L ls h hP hD hS)
theorem lx_alenJ (F : lx_F K nL E cc own ret rm) (q0 : Nat) {N q : Nat} {f : Nat → Int64} (hd : decode cc pc = .ok (.arraylength, 1)) (he : ws[q0]? = some (q, aJ K N f)) (k : lx_W K nL E a b (pc + 1) lv (.int (nI N) :: st) ws) : lx_W K nL E a b pc lv (.ref q :: st) ws := fun H L ls h hP hD hS => va_alen F.1.1 F.1.2.1 F.2.1 hP q0 1 he rfl rfl hd (k H L ls h hP hD hS)
theorem lx_fm {is : List Nat} {w : va_W} (h : is.map (fun i => ws[i]?) = w.map some) : is.filterMap (fun i => ws[i]?) = w := by
  have h1 := congrArg (List.filterMap id) h
  rw [List.filterMap_map] at h1
  rw [show (is.filterMap (fun i => ws[i]?)) = is.filterMap (id ∘ fun i => ws[i]?) from rfl, h1]
  simp [List.filterMap_map]
theorem lx_perm (is : List Nat) (ws' : va_W) (hn : va_nd is = true) (hs : is.map (fun i => ws[i]?) = ws'.map some) (k : lx_W K nL E a b pc lv st ws') : lx_W K nL E a b pc lv st ws := fun H L ls h hP hD hS => k H L ls h (hP.sub is (lx_fm hs)) (hD.sub is hn hs) hS
theorem lx_lv (ks : List Nat) (lv' : List (Nat × Value)) (hl : lv_pick lv ks = lv') (k : lx_W K nL E a b pc lv' st ws) : lx_W K nL E a b pc lv st ws := fun H L ls h hP hD hS => k H L ls (lv_sub h ks hl) hP hD hS
theorem lx_nmI {x : Int32} (k : ∀ y : Int32, y = x → lx_W K nL E a b pc lv (.int y :: st) ws) : lx_W K nL E a b pc lv (.int x :: st) ws := k x rfl
theorem lx_nmJ {x : Int64} (k : ∀ y : Int64, y = x → lx_W K nL E a b pc lv (.long y :: st) ws) : lx_W K nL E a b pc lv (.long x :: st) ws := k x rfl
theorem lx_wide {a' b' : Nat} (h1 : a ≤ a') (h2 : b ≤ b') (k : lx_W K nL E a' b' pc lv st ws) : lx_W K nL E a b pc lv st ws := fun H L ls h hP hD hS => W.widen h1 h2 (k H L ls h hP hD hS)
theorem lx_st {a' b' : Nat} (st' : List Value) (h1 : a = a') (h2 : b = b') (h3 : st = st') (k : lx_W K nL E a' b' pc lv st' ws) : lx_W K nL E a b pc lv st ws := by subst h1 h2 h3; exact k
theorem lx_pc {pc' : Nat} (h : pc = pc') (k : lx_W K nL E a b pc' lv st ws) : lx_W K nL E a b pc lv st ws := h ▸ k
theorem lx_iret (F : lx_F K nL E cc own (some .int) rm) {post : Option Value → va_W → Prop} {v : Int32} (hR : lx_RQ K E a b post) (hd : decode cc pc = .ok (.ireturn, 1)) (hp : post (some (.int v)) ws) : lx_W K nL E a b pc lv [.int v] ws := fun H L ls h hP hD hS => hR _ _ _ (W.iret F.1.1 F.1.2.1 F.2.2.2.2.1 (fun t ht hW => ⟨⟨_, _, rfl, hp, by rw [ht]; exact hP, hD⟩, hS.F ht⟩) hS.2.2 hd F.2.2.2.2.2.1)
theorem lx_lret (F : lx_F K nL E cc own (some .long) rm) {post : Option Value → va_W → Prop} {v : Int64} (hR : lx_RQ K E a b post) (hd : decode cc pc = .ok (.lreturn, 1)) (hp : post (some (.long v)) ws) : lx_W K nL E a b pc lv [.long v] ws := fun H L ls h hP hD hS => hR _ _ _ (W.lret F.1.1 F.1.2.1 F.2.2.2.2.1 (fun t ht hW => ⟨⟨_, _, rfl, hp, by rw [ht]; exact hP, hD⟩, hS.F ht⟩) hS.2.2 hd F.2.2.2.2.2.1)
theorem lx_zret (F : lx_F K nL E cc own (some .boolean) rm) {post : Option Value → va_W → Prop} {v : Int32} (hR : lx_RQ K E a b post) (hn : narrow .boolean (.int v) = .int v) (hd : decode cc pc = .ok (.ireturn, 1)) (hp : post (some (.int v)) ws) : lx_W K nL E a b pc lv [.int v] ws := fun H L ls h hP hD hS => hR _ _ _ (W.zret F.1.1 F.1.2.1 F.2.2.2.2.1 hn (fun t ht hW => ⟨⟨_, _, rfl, hp, by rw [ht]; exact hP, hD⟩, hS.F ht⟩) hS.2.2 hd F.2.2.2.2.2.1)
theorem lx_vret (F : lx_F K nL E cc own none rm) {post : Option Value → va_W → Prop} (hR : lx_RQ K E a b post) (hd : decode cc pc = .ok (.return_, 1)) (hp : post none ws) : lx_W K nL E a b pc lv [] ws := fun H L ls h hP hD hS => hR _ _ _ (W.vret F.1.1 F.1.2.1 F.2.2.2.2.1 (fun t ht hW => ⟨⟨_, _, rfl, hp, by rw [ht]; exact hP, hD⟩, hS.F ht⟩) hS.2.2 hd F.2.2.2.2.2.1)
theorem lx_ldc2 (F : lx_F K nL E cc own ret rm) {index : Nat} {v : Int64} (hd : decode cc pc = .ok (.ldc2_w index, 3)) (hc : Cond.constantLong own index v ∈ lm_T) (k : lx_W K nL E a b (pc + 3) lv (.long v :: st) ws) : lx_W K nL E a b pc lv st ws := fun H L ls h hP hD hS => lv_ldc2 F.1.1 F.1.2.1 F.1.2.2.2.1 (F.1.2.2.2.2 _ hc) hd (k H L ls h hP hD hS)
theorem lx_tableOut (F : lx_F K nL E cc own ret rm) {dflt lo hi : Int} {offs : Array Int} {len : Nat} {x : Int32} (tgt : Nat) (hd : decode cc pc = .ok (.tableswitch dflt lo hi offs, len)) (hx : x.toInt < lo ∨ hi < x.toInt) (ht : (pc : Int) + dflt = (tgt : Int)) (k : lx_W K nL E a b tgt lv st ws) : lx_W K nL E a b pc lv (.int x :: st) ws := fun H L ls h hP hD hS => lv_tableOut F.1.1 F.1.2.1 hd hx ht (k H L ls h hP hD hS)
theorem lx_tableIn (F : lx_F K nL E cc own ret rm) {dflt lo hi : Int} {offs : Array Int} {len : Nat} {x : Int32} {off : Int} (tgt : Nat) (hd : decode cc pc = .ok (.tableswitch dflt lo hi offs, len)) (h1 : ¬ x.toInt < lo) (h2 : ¬ hi < x.toInt) (ho : offs[(x.toInt - lo).toNat]? = some off) (ht : (pc : Int) + off = (tgt : Int)) (k : lx_W K nL E a b tgt lv st ws) : lx_W K nL E a b pc lv (.int x :: st) ws := fun H L ls h hP hD hS => lv_tableIn F.1.1 F.1.2.1 hd h1 h2 ho ht (k H L ls h hP hD hS)
theorem lx_lookup (F : lx_F K nL E cc own ret rm) {dflt : Int} {ps : Array (Int × Int)} {len : Nat} {x : Int32} {off : Int} (tgt : Nat) (hd : decode cc pc = .ok (.lookupswitch dflt ps, len)) (hp : (ps.toList.zip (ps.toList.drop 1)).all (fun (a, next) => a.1 < next.1) = true) (ho : Op.lookupswitch.offset ps.toList dflt x.toInt = off) (ht : (pc : Int) + off = (tgt : Int)) (k : lx_W K nL E a b tgt lv st ws) : lx_W K nL E a b pc lv (.int x :: st) ws := fun H L ls h hP hD hS => lv_lookup F.1.1 F.1.2.1 hd hp ho ht (k H L ls h hP hD hS)
theorem lx_newI (F : lx_F K nL E cc own ret rm) (n : Nat) (hd : decode cc pc = .ok (.newarray .int, 2)) (hc : Cond.arrayClass .int ∈ lm_T) (hn : n < 2 ^ 20) (hcells : a + 1 ≤ rm.cells) (hslots : b + n ≤ rm.slots) (k : ∀ q : Nat, lx_W K nL E (a + 1) (b + n) (pc + 2) lv (.ref q :: st) (ws ++ [(q, aI K n (fun _ => 0))])) : lx_W K nL E a b pc lv (.int (nI n) :: st) ws := by
  intro H L ls h hP hD hS
  have hR : xR E = rm := F.2.2.2.2.2.2
  have hn31 : n < 2 ^ 31 := Nat.lt_trans hn (by decide)
  refine va_newa F.1.1 F.1.2.1 (atype := .int) (ty := .int) (N' := n) (a0 := (n, .inl (fun _ => 0))) (F.1.2.2.2.2 _ hc) rfl F.2.1 hP hD hS F.2.2.2.1 (fun cA => by first | rfl | simp [vp_cell, defaultValue]) (nI_pos hn31) (nI_clamp hn31) (by simp only [componentBytes]; omega) (by rw [hR]; exact hcells) (by rw [hR]; exact hslots) hd (fun q cA H1 hK1 hP1 hD1 hS1 => ?_)
  have e1 := (F.2.1.2 0 _ rfl).2
  have e2 := (hK1.2 3 _ rfl).2
  have e3 : cA = K.2.1 := by
    have g1 : (xs E).vm.findClass _ = some _ := e1
    have g2 : (xs E).vm.findClass _ = some cA := e2
    exact Option.some.inj (g2.symm.trans g1)
  subst e3
  exact k q H1 L ls h hP1 hD1 hS1
theorem lx_newJ (F : lx_F K nL E cc own ret rm) (n : Nat) (hd : decode cc pc = .ok (.newarray .long, 2)) (hc : Cond.arrayClass .long ∈ lm_T) (hn : n < 2 ^ 20) (hcells : a + 1 ≤ rm.cells) (hslots : b + n ≤ rm.slots) (k : ∀ q : Nat, lx_W K nL E (a + 1) (b + n) (pc + 2) lv (.ref q :: st) (ws ++ [(q, aJ K n (fun _ => 0))])) : lx_W K nL E a b pc lv (.int (nI n) :: st) ws := by
  intro H L ls h hP hD hS
  have hR : xR E = rm := F.2.2.2.2.2.2
  have hn31 : n < 2 ^ 31 := Nat.lt_trans hn (by decide)
  refine va_newa F.1.1 F.1.2.1 (atype := .long) (ty := .long) (N' := n) (a0 := (n, .inr (.inl (fun _ => 0)))) (F.1.2.2.2.2 _ hc) rfl F.2.1 hP hD hS F.2.2.2.1 (fun cA => by first | rfl | simp [vp_cell, defaultValue]) (nI_pos hn31) (nI_clamp hn31) (by simp only [componentBytes]; omega) (by rw [hR]; exact hcells) (by rw [hR]; exact hslots) hd (fun q cA H1 hK1 hP1 hD1 hS1 => ?_)
  have e1 := (F.2.1.2 1 _ rfl).2
  have e2 := (hK1.2 3 _ rfl).2
  have e3 : cA = K.2.2.1 := by
    have g1 : (xs E).vm.findClass _ = some _ := e1
    have g2 : (xs E).vm.findClass _ = some cA := e2
    exact Option.some.inj (g2.symm.trans g1)
  subst e3
  exact k q H1 L ls h hP1 hD1 hS1
theorem lx_newZ (F : lx_F K nL E cc own ret rm) (n : Nat) (hd : decode cc pc = .ok (.newarray .boolean, 2)) (hc : Cond.arrayClass .boolean ∈ lm_T) (hn : n < 2 ^ 20) (hcells : a + 1 ≤ rm.cells) (hslots : b + n ≤ rm.slots) (k : ∀ q : Nat, lx_W K nL E (a + 1) (b + n) (pc + 2) lv (.ref q :: st) (ws ++ [(q, aZ K n (fun _ => 0))])) : lx_W K nL E a b pc lv (.int (nI n) :: st) ws := by
  intro H L ls h hP hD hS
  have hR : xR E = rm := F.2.2.2.2.2.2
  have hn31 : n < 2 ^ 31 := Nat.lt_trans hn (by decide)
  refine va_newa F.1.1 F.1.2.1 (atype := .boolean) (ty := .boolean) (N' := n) (a0 := (n, .inl (fun _ => 0))) (F.1.2.2.2.2 _ hc) rfl F.2.1 hP hD hS F.2.2.2.1 (fun cA => by first | rfl | simp [vp_cell, defaultValue]) (nI_pos hn31) (nI_clamp hn31) (by simp only [componentBytes]; omega) (by rw [hR]; exact hcells) (by rw [hR]; exact hslots) hd (fun q cA H1 hK1 hP1 hD1 hS1 => ?_)
  have e1 := (F.2.1.2 2 _ rfl).2
  have e2 := (hK1.2 3 _ rfl).2
  have e3 : cA = K.2.2.2 := by
    have g1 : (xs E).vm.findClass _ = some _ := e1
    have g2 : (xs E).vm.findClass _ = some cA := e2
    exact Option.some.inj (g2.symm.trans g1)
  subst e3
  exact k q H1 L ls h hP1 hD1 hS1
end LXR
