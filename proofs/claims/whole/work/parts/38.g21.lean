set_option maxHeartbeats 4000000 in
set_option maxRecDepth 100000 in
theorem zL_step {K : lm_G} {E : lx_E} (F : lx_F K 8 E cL_law RL (some .boolean) room_1) {s0 L : Nat} {vs : Nat → Int32} (hX : lx_S E s0 L vs) (hTh : lm_Th (xl E) (xA E) (xs E) (xs E).heap) (hL : L ≤ 2048) (x y out k : Nat) (hk : 4 * k + 4 ≤ L) (c : Nat → Nat) (w : Nat → lm_V) (u : Nat) (rt : Nat → lm_V) (z : Int32) (hst : lm_st c w u rt) (th : Int32) (go : Nat → Int64) (W1 W2 : va_W) (h1 : lm_obj K x (c, w, u, rt, z) W1) (h2 : lm_mod K y (c, w, u, rt, z) th W2) (hend : ∀ (σ9 : lm_X) (t9 : Int32) (g9 : Nat → Int64) (A9 B9 : va_W), lm_sx σ9 → lm_obj K x σ9 A9 → lm_mod K y σ9 t9 B9 → lx_W K 8 E (34 + k + 1) (2954 + 6 * k + 6) 1142 [(0, .ref s0), (1, .ref x), (2, .ref y), (3, .ref out), (4, .int (nI (4 * k)))] [] (B9 ++ ((out, aJ K 1 g9) :: A9))) : lx_W K 8 E (34 + k) (2954 + 6 * k) 32 [(0, .ref s0), (1, .ref x), (2, .ref y), (3, .ref out), (4, .int (nI (4 * k)))] [] (W2 ++ ((out, aJ K 1 go) :: W1)) := by
  refine lx_aload_n F dL_law_32 0 rfl ?_
  refine lx_iload F dL_law_33 4 rfl ?_
  refine lx_sld F hX (4 * k) dL_law_35 (by omega) (by omega) ?_
  refine lx_bipush F dL_law_36 kb_31 ?_
  refine lx_iand F dL_law_38 rfl ?_
  refine lx_nmI (fun v hv => ?_)
  by_cases hb : v.toInt < 0 ∨ 18 < v.toInt
  · skip
    refine lx_tableOut F 1142 dL_law_39 hb rfl ?_
    refine lx_wide (a' := 34 + k + 1) (b' := 2954 + 6 * k + 6) (by omega) (by omega) ?_
    exact hend (c, w, u, rt, z) th go W1 W2 hst h1 h2
  · skip
    rcases (show v.toInt = 0 ∨ v.toInt = 1 ∨ v.toInt = 2 ∨ v.toInt = 3 ∨ v.toInt = 4 ∨ v.toInt = 5 ∨ v.toInt = 6 ∨ v.toInt = 7 ∨ v.toInt = 8 ∨ v.toInt = 9 ∨ v.toInt = 10 ∨ v.toInt = 11 ∨ v.toInt = 12 ∨ v.toInt = 13 ∨ v.toInt = 14 ∨ v.toInt = 15 ∨ v.toInt = 16 ∨ v.toInt = 17 ∨ v.toInt = 18 by omega) with h0 | h0 | h0 | h0 | h0 | h0 | h0 | h0 | h0 | h0 | h0 | h0 | h0 | h0 | h0 | h0 | h0 | h0 | h0
    · exact lx_tableIn F 128 dL_law_39 (by omega) (by omega) (by rw [h0]; rfl) rfl (zL_number F hX hTh hL x y out k hk c w u rt z hst th go W1 W2 h1 h2 hend)
    · exact lx_tableIn F 208 dL_law_39 (by omega) (by omega) (by rw [h0]; rfl) rfl (zL_drop F hX hTh hL x y out k hk c w u rt z hst th go W1 W2 h1 h2 hend)
    · exact lx_tableIn F 244 dL_law_39 (by omega) (by omega) (by rw [h0]; rfl) rfl (zL_copy F hX hTh hL x y out k hk c w u rt z hst th go W1 W2 h1 h2 hend)
    · exact lx_tableIn F 292 dL_law_39 (by omega) (by omega) (by rw [h0]; rfl) rfl (zL_cons F hX hTh hL x y out k hk c w u rt z hst th go W1 W2 h1 h2 hend)
    · exact lx_tableIn F 352 dL_law_39 (by omega) (by omega) (by rw [h0]; rfl) rfl (zL_list F hX hTh hL x y out k hk c w u rt z hst th go W1 W2 h1 h2 hend)
    · exact lx_tableIn F 412 dL_law_39 (by omega) (by omega) (by rw [h0]; rfl) rfl (zL_first F hX hTh hL x y out k hk c w u rt z hst th go W1 W2 h1 h2 hend)
    · exact lx_tableIn F 460 dL_law_39 (by omega) (by omega) (by rw [h0]; rfl) rfl (zL_rest F hX hTh hL x y out k hk c w u rt z hst th go W1 W2 h1 h2 hend)
    · exact lx_tableIn F 508 dL_law_39 (by omega) (by omega) (by rw [h0]; rfl) rfl (zL_setFirst F hX hTh hL x y out k hk c w u rt z hst th go W1 W2 h1 h2 hend)
    · exact lx_tableIn F 556 dL_law_39 (by omega) (by omega) (by rw [h0]; rfl) rfl (zL_setRest F hX hTh hL x y out k hk c w u rt z hst th go W1 W2 h1 h2 hend)
    · exact lx_tableIn F 604 dL_law_39 (by omega) (by omega) (by rw [h0]; rfl) rfl (zL_append F hX hTh hL x y out k hk c w u rt z hst th go W1 W2 h1 h2 hend)
    · exact lx_tableIn F 664 dL_law_39 (by omega) (by omega) (by rw [h0]; rfl) rfl (zL_kind F hX hTh hL x y out k hk c w u rt z hst th go W1 W2 h1 h2 hend)
    · exact lx_tableIn F 720 dL_law_39 (by omega) (by omega) (by rw [h0]; rfl) rfl (zL_value F hX hTh hL x y out k hk c w u rt z hst th go W1 W2 h1 h2 hend)
    · exact lx_tableIn F 775 dL_law_39 (by omega) (by omega) (by rw [h0]; rfl) rfl (zL_same F hX hTh hL x y out k hk c w u rt z hst th go W1 W2 h1 h2 hend)
    · exact lx_tableIn F 850 dL_law_39 (by omega) (by omega) (by rw [h0]; rfl) rfl (zL_length F hX hTh hL x y out k hk c w u rt z hst th go W1 W2 h1 h2 hend)
    · exact lx_tableIn F 906 dL_law_39 (by omega) (by omega) (by rw [h0]; rfl) rfl (zL_words F hX hTh hL x y out k hk c w u rt z hst th go W1 W2 h1 h2 hend)
    · exact lx_tableIn F 962 dL_law_39 (by omega) (by omega) (by rw [h0]; rfl) rfl (zL_alike F hX hTh hL x y out k hk c w u rt z hst th go W1 W2 h1 h2 hend)
    · exact lx_tableIn F 1037 dL_law_39 (by omega) (by omega) (by rw [h0]; rfl) rfl (zL_collect F hX hTh hL x y out k hk c w u rt z hst th go W1 W2 h1 h2 hend)
    · exact lx_tableIn F 1050 dL_law_39 (by omega) (by omega) (by rw [h0]; rfl) rfl (zL_about F hX hTh hL x y out k hk c w u rt z hst th go W1 W2 h1 h2 hend)
    · exact lx_tableIn F 1075 dL_law_39 (by omega) (by omega) (by rw [h0]; rfl) rfl (zL_word F hX hTh hL x y out k hk c w u rt z hst th go W1 W2 h1 h2 hend)

set_option maxHeartbeats 4000000 in
set_option maxRecDepth 100000 in
theorem zL_loop {K : lm_G} {E : lx_E} (F : lx_F K 8 E cL_law RL (some .boolean) room_1) {s0 L : Nat} {vs : Nat → Int32} (hX : lx_S E s0 L vs) (hTh : lm_Th (xl E) (xA E) (xs E) (xs E).heap) (hL : L ≤ 2048) (hret : ∀ (lv9 : List (Nat × Value)) (ws9 : va_W), lx_W K 8 E 1067 11200 1149 lv9 [.int (nI 1)] ws9) (x y out : Nat) : ∀ (n9 k : Nat), k + n9 = 513 → ∀ (σ : lm_X) (th : Int32) (go : Nat → Int64) (W1 W2 : va_W), lm_sx σ → lm_obj K x σ W1 → lm_mod K y σ th W2 → lx_W K 8 E (34 + k) (2954 + 6 * k) 23 [(0, .ref s0), (1, .ref x), (2, .ref y), (3, .ref out), (4, .int (nI (4 * k)))] [] (W2 ++ ((out, aJ K 1 go) :: W1)) := by
  intro n9
  induction n9 with
  | zero =>
    intro k hk9 σ th go W1 W2 hs h1 h2
    refine lx_iload F dL_law_23 4 rfl ?_
    refine lx_aload_n F dL_law_25 0 rfl ?_
    refine lx_slen F hX dL_law_26 ?_
    refine lx_iconst F dL_law_27 kc_4 ?_
    refine lx_isub F dL_law_28 rfl ?_
    refine lx_icmp_gt F 1148 dL_law_29 rfl (fun _ => ?_) (fun h => absurd ((lm_gt4 (by omega) (by omega)).mpr (by omega)) h)
    refine lx_iconst F dL_law_1148 kc_1 ?_
    refine lx_wide (a' := 1067) (b' := 11200) (by omega) (by omega) ?_
    exact hret _ _
  | succ n9 ih =>
    intro k hk9 σ th go W1 W2 hs h1 h2
    obtain ⟨c, w, u, rt, z⟩ := σ
    refine lx_iload F dL_law_23 4 rfl ?_
    refine lx_aload_n F dL_law_25 0 rfl ?_
    refine lx_slen F hX dL_law_26 ?_
    refine lx_iconst F dL_law_27 kc_4 ?_
    refine lx_isub F dL_law_28 rfl ?_
    refine lx_icmp_gt F 1148 dL_law_29 rfl (fun hb => ?_) (fun hb => ?_)
    · skip
      refine lx_iconst F dL_law_1148 kc_1 ?_
      refine lx_wide (a' := 1067) (b' := 11200) (by omega) (by omega) ?_
      exact hret _ _
    · skip
      have hk := Nat.not_lt.mp (fun q => hb ((lm_gt4 (i := 4 * k) (L := L) (by omega) (by omega)).mpr q))
      refine zL_step F hX hTh hL x y out k hk c w u rt z hs th go W1 W2 h1 h2 (fun σ9 t9 g9 A9 B9 hs9 ho9 hm9 => ?_)
      refine lx_iinc F [(0, .ref s0), (1, .ref x), (2, .ref y), (3, .ref out), (4, .int (nI (4 * k + 4)))] 4 [1, 2, 3, 4, 0] dL_law_1142 rfl (by rw [show Int32.ofInt 4 = nI 4 by decide]; exact nI_add _ _) rfl (by decide) ?_
      refine lx_goto F 23 dL_law_1145 rfl ?_
      rw [show 4 * k + 4 = 4 * (k + 1) by omega]
      refine lx_wide (a' := 34 + (k + 1)) (b' := 2954 + 6 * (k + 1)) (by omega) (by omega) ?_
      exact ih (k + 1) (by omega) σ9 t9 g9 A9 B9 hs9 ho9 hm9

set_option maxHeartbeats 4000000 in
set_option maxRecDepth 100000 in
theorem zL_go {K : lm_G} {E : lx_E} (F : lx_F K 8 E cL_law RL (some .boolean) room_1) {s0 L : Nat} {vs : Nat → Int32} (hX : lx_S E s0 L vs) (hTh : lm_Th (xl E) (xA E) (xs E) (xs E).heap) (hL : L ≤ 2048) (hret : ∀ (lv9 : List (Nat × Value)) (ws9 : va_W), lx_W K 8 E 1067 11200 1149 lv9 [.int (nI 1)] ws9) : lx_W K 8 E 0 0 0 [(0, .ref s0)] [] [] := by
  refine nw_L_8 F dL_law_0 (by decide) (by decide) (fun x => ?_)
  refine lx_dup F dL_law_3 rfl ?_
  refine lx_ciA F (zX_init (xl E) K x) ci_L_78 rfl (st := [.ref x]) rfl (Nat.le_of_ble_eq_true rfl) (by decide) ⟨by decide, by decide⟩ dL_law_4 (fun v9 w9 h9 => ?_)
  obtain ⟨rfl, ho⟩ := h9
  show lx_W K 8 E 18 1472 7 [(0, .ref s0)] [.ref x] w9
  refine lx_astore_n F [(0, .ref s0), (1, .ref x)] [1, 0] dL_law_7 rfl (by decide) ?_
  refine nw_L_79 F dL_law_8 (by decide) (by decide) (fun y => ?_)
  refine lx_dup F dL_law_11 rfl ?_
  refine lx_ciA F (zr_init (xl E) K y) ci_L_81 rfl (st := [.ref y]) rfl (Nat.le_of_ble_eq_true rfl) (by decide) ⟨by decide, by decide⟩ dL_law_12 (fun v8 w8 h8 => ?_)
  obtain ⟨rfl, hx8⟩ := h8
  have hm : lm_mod K y lm_s0 (nI 0) w8 := by
    obtain ⟨acd, akd, act, ark, arr, ali, ala, anc, ank, ant, aag, abk, atd, ase, rfl⟩ := hx8
    exact ⟨_, _, _, _, _, _, _, _, _, _, _, _, _, _, _, _, _, _, _, _, _, _, _, _, _, _, _, _, _, _, _, _, (fun p h => absurd h (Nat.not_lt_zero p)), (fun r _ => ⟨(by decide : (0 : Int32) = nI 0), (by decide : (0 : Int64) = jI 0)⟩), rfl⟩
  show lx_W K 8 E 33 2953 15 [(0, .ref s0), (1, .ref x)] [.ref y] (w9 ++ w8)
  refine lx_astore_n F [(0, .ref s0), (1, .ref x), (2, .ref y)] [1, 2, 0] dL_law_15 rfl (by decide) ?_
  refine lx_iconst F dL_law_16 kc_1 ?_
  refine lx_newJ F 1 dL_law_17 ta_J (by decide) (by decide) (by decide) (fun out => ?_)
  rw [List.append_assoc]
  refine lx_swap ?_
  rw [List.append_assoc]
  show lx_W K 8 E 34 2954 19 [(0, .ref s0), (1, .ref x), (2, .ref y)] [.ref out] (w8 ++ ((out, aJ K 1 (fun _ => 0)) :: w9))
  refine lx_astore_n F [(0, .ref s0), (1, .ref x), (2, .ref y), (3, .ref out)] [1, 2, 3, 0] dL_law_19 rfl (by decide) ?_
  refine lx_iconst F dL_law_20 kc_0 ?_
  refine lx_istore F [(0, .ref s0), (1, .ref x), (2, .ref y), (3, .ref out), (4, .int (nI 0))] [1, 2, 3, 4, 0] dL_law_21 rfl (by decide) ?_
  exact zL_loop F hX hTh hL hret x y out 513 0 rfl lm_s0 (nI 0) (fun _ => 0) w9 w8 lm_s0_st ho hm

/-! THE CLAIM OUT OF ONE WALK OF THE LAW'S BODY. Your part is whole_start (and what it stands on); all else here is the same for every law, but numbers. -/
def R_law : String := "ListMemoryLaw"
def lw_P (b : Addr) (xs : List Int32) (args : Array Value) (s : State) : Prop := args = #[.ref b] ∧ s.IntsAt b xs ∧ xs.length ≤ 2048 ∧ (Jvm.Cond.and given_1 narrow_1).before args s = true
def lw_Q (_ : Array Value) (s : State) (o : Outcome) (t : State) : Prop := o = .returned (some (.int 1)) ∧ Framed s o t [] 1067 11200
def lw_Z (below : List Frame) (a : Array Value) (s : State) : State → Prop := fun t => ∃ o, t.status = .running ∧ Ended t below o ∧ lw_Q a s o t
/-- the law's own end, with 1 on the stack, nothing written that was there before, its room as the claim has it -/
theorem lw_ret {p : Program} {l : Launch} {e : Env} {s : State} {m : MethodId} {below : List Frame} {meth : Method} {c : Code} {b : Nat} (hx : p.tables.exec = Jvm.exec) (hb : c.code = code) (hr : meth.sig.returnType = ret) (hlocks : meth.locks = false) {pc : Nat} {H : Heap} {ls : Array Slot} (hdg : decode code pc = .ok (.ireturn, 1)) : W p l e room_1 s m #[Value.ref b] below meth c H [] 1067 11200 (lw_Z below #[Value.ref b] s) (F0 m pc ls [.int 1]) := by
  intro T hT X
  obtain ⟨fs, hret, hrun, hended, hW, hframe⟩ := X.leave (v := some (.int 1)) (hlocks := hlocks) (fun h => by rw [hr] at h; cases h)
  have hmeth' : T.vm.method? m = some meth := X.method'
  refine ⟨T.setFrames fs, ?_, .returned (some (.int 1)), hrun, hended, rfl, ⟨_, rfl⟩, hW, hframe⟩
  jvm_step X.here [X.here.top, hx, hb, hdg, hmeth', hr, ret, narrow_b1]
  (try refine ⟨rfl, ?_⟩); (try refine ⟨rfl, ?_⟩)
  first | (intro acts; rw [hret _ acts rfl rfl rfl]) | rw [hret _ _ rfl rfl rfl]
  exact Steps.refl _
/-- what holds at the law's entry: the machine, the code, the tables' words (any of lw_tbl by 'hts w (by decide +kernel)'), the script of L ints xs at the cell b, what the Statement gives of the start (any of its parts by flat_of_before) -/
def lw_At (p : Program) (s : State) (m : MethodId) (meth : Method) (c : Code) (b L : Nat) (xs : Nat → Int32) : Prop :=
  p.tables.exec = Jvm.exec ∧ c.code = code ∧ meth.sig.returnType = ret ∧ c.maxLocals = 8 ∧ s.vm.findClass R_law = some m.cls ∧ (∀ w ∈ lw_tbl, w.before #[Value.ref b] s = true) ∧ va_X b L xs s s.heap ∧ b < s.heap.size ∧ meth.locks = false ∧ (Jvm.Cond.and given_1 narrow_1).before #[Value.ref b] s = true

theorem lw_arr {s : State} {args : Array Value} {ty : FieldType} (hp : ∀ C, ty ≠ .object C) (h : (Cond.arrayClass ty).before args s = true) : ∃ cA : ClassId, ArrOfT s cA ty ∧ va_RA s cA ty := by
  obtain ⟨cA, kA, comp, h1, h2, h3⟩ := Cond.arrayClass_spec h
  refine ⟨cA, fun n z => ⟨fun k h => (by cases h), kA, h2, comp, h3⟩, ?_⟩
  cases ty with
  | object C => exact absurd rfl (hp C)
  | _ => exact h1
theorem lw_Tw {s : State} {b : Nat} {c3 : ClassId} (hc : s.vm.findClass RX3 = some c3) (hts : ∀ w ∈ lw_tbl, w.before #[Value.ref b] s = true) (hgv : (Jvm.Cond.and given_1 narrow_1).before #[Value.ref b] s = true) : lm_Tw s := by
  have hs := flat_of_before _ hgv
  refine ⟨fun w hw hd => va_Nw.of (lm_isD_t hd) (hts w hw), ?_, ?_⟩
  · intro q hq
    have hm : ∀ q ∈ lm_strs, Cond.stringRef RX3 q.1 q.2 ∈ lw_tbl := by decide +kernel
    have h1 : (Cond.stringRef RX3 q.1 q.2).before #[Value.ref b] s = true := hts _ (hm q hq)
    obtain ⟨-, -, -, sa, -, -, -, -, -, hev⟩ := Cond.stringRef_spec hc h1
    exact ⟨sa, vk_R.of h1 hev⟩
  · intro a ha b9 hb hab
    have hm : ∀ a ∈ lm_exc, ∀ b ∈ lm_exc, a ≠ b → Cond.not (.castable a b) ∈ flatC (Jvm.Cond.and given_1 narrow_1) := by decide +kernel
    exact va_Nc.of (hs _ (hm a ha b9 hb hab))
theorem whole_start {p : Program} {e : Env} {s : State} {m : MethodId} {below : List Frame} {meth : Method} {c : Code} (l : Launch) (hl : l.stackTraces = false) {b L : Nat} {xs : Nat → Int32} (hL : L ≤ 2048) (C0 : lw_At p s m meth c b L xs) : W p l e room_1 s m #[Value.ref b] below meth c s.heap [] 0 0 (lw_Z below #[Value.ref b] s) (entryFrame m ([Value.ref b] : List Value).toArray 8) := by
  obtain ⟨hx, hb, hr, hml, hown, hts, hXa, hbl, hlk, hgv⟩ := C0
  obtain ⟨c0, i0, k0⟩ := u_known (C := RX0) (T := TX0) (N := 5) (n := 5) hts (fun w hw => (List.mem_filter.mp (in_X0 w hw)).1) (hts _ (by decide +kernel))
  obtain ⟨c1, i1, k1⟩ := u_known (C := RX1) (T := TX1) (N := 3) (n := 3) hts (fun w hw => (List.mem_filter.mp (in_X1 w hw)).1) (hts _ (by decide +kernel))
  obtain ⟨c2, i2, k2⟩ := u_known (C := RX2) (T := TX2) (N := 4) (n := 4) hts (fun w hw => (List.mem_filter.mp (in_X2 w hw)).1) (hts _ (by decide +kernel))
  obtain ⟨c3, i3, k3⟩ := u_known (C := RX3) (T := TX3) (N := 7) (n := 7) hts (fun w hw => (List.mem_filter.mp (in_X3 w hw)).1) (hts _ (by decide +kernel))
  obtain ⟨c4, i4, k4⟩ := u_known (C := RX4) (T := TX4) (N := 21) (n := 21) hts (fun w hw => (List.mem_filter.mp (in_X4 w hw)).1) (hts _ (by decide +kernel))
  obtain ⟨cI, aI1, aI2⟩ := lw_arr (ty := .int) (fun _ h => by cases h) (hts _ (by decide +kernel))
  obtain ⟨cJ, aJ1, aJ2⟩ := lw_arr (ty := .long) (fun _ h => by cases h) (hts _ (by decide +kernel))
  obtain ⟨cZ, aZ1, aZ2⟩ := lw_arr (ty := .boolean) (fun _ h => by cases h) (hts _ (by decide +kernel))
  obtain ⟨K, hK⟩ : ∃ K : lm_G, va_K K.1 lmCl (lm_ty K) s := by
    refine ⟨((fun i => match i with | 0 => c0 | 1 => c1 | 2 => c2 | 3 => c3 | _ => c4, fun i => match i with | 0 => i0 | 1 => i1 | 2 => i2 | 3 => i3 | _ => i4), cI, cJ, cZ), fun i q hq => ?_, fun i q hq => ?_⟩
    · match i, hq with
      | 0, hq => cases hq; exact k0
      | 1, hq => cases hq; exact k1
      | 2, hq => cases hq; exact k2
      | 3, hq => cases hq; exact k3
      | 4, hq => cases hq; exact k4
      | _ + 5, hq => cases hq
    · match i, hq with
      | 0, hq => cases hq; exact ⟨aI1, aI2⟩
      | 1, hq => cases hq; exact ⟨aJ1, aJ2⟩
      | 2, hq => cases hq; exact ⟨aZ1, aZ2⟩
      | _ + 3, hq => cases hq
  have hs := flat_of_before _ hgv
  have hTh : lm_Th l (fun q => s.heap.size ≤ q) s s.heap := ⟨hl, vx_Zqof (hts _ (by decide +kernel)) (hts _ (by decide +kernel)) (hs _ (by decide +kernel)) (fun a h1 h2 => absurd h1 (Nat.not_lt.mpr h2)), vx_Zqof (hts _ (by decide +kernel)) (hts _ (by decide +kernel)) (hs _ (by decide +kernel)) (fun a h1 h2 => absurd h1 (Nat.not_lt.mpr h2)), lw_Tw k3.2.1 hts hgv⟩
  let E : lx_E := (p, l, e, room_1, s, m, #[Value.ref b], below, meth, c, lw_Z below #[Value.ref b] s, fun q => s.heap.size ≤ q)
  have F : lx_F K 8 E cL_law RL (some .boolean) room_1 := ⟨⟨hx, hb, hml, hown, fun w hw => hts w (List.mem_filter.mp hw).1⟩, hK, fun w hw hn => va_Nw.of (by cases w <;> first | rfl | exact absurd hn (by simp [lm_isN])) (hts w hw), fun q h => h, hr, hlk, rfl⟩
  have hX : lx_S E b L xs := ⟨hXa, hbl, Nat.not_le.mpr hbl⟩
  have hret : ∀ (lv9 : List (Nat × Value)) (ws9 : va_W), lx_W K 8 E 1067 11200 1149 lv9 [.int (nI 1)] ws9 := by
    intro lv9 ws9 H L9 ls h hP hD hS T hT X
    refine lw_ret (l := l) (ls := ls) (pc := 1149) (H := H) hx hb hr hlk dL_law_1149 T hT ?_
    exact ⟨X.admits, X.cas, X.clock, X.frames, X.room, X.hears, X.method, X.code, X.here, X.tail, X.warmed, X.limits, X.bytes, X.same.weaken (fun y hy hlt => absurd (hS.2.2 y hy) (Nat.not_le.mpr hlt)) (Nat.le_refl _) (Nat.le_refl _)⟩
  have hgo := zL_go F hX hTh hL hret
  have hl8 := lv_entry [Value.ref b] (n := 8) (Nat.le_of_ble_eq_true rfl)
  rw [lg_entry_eq]
  exact hgo s.heap [] _ hl8 (fun k q hk => (by simp at hk)) ⟨fun i j p q hp => (by simp at hp), fun k q hk => (by simp at hk)⟩ va_S.rf

set_option maxHeartbeats 4000000 in
theorem lw_walk (l : Launch) (hl : l.stackTraces = false) (b : Addr) (xs : List Int32) : MetFree l x (headSpec (Jvm.Cond.code x code maxLocals ret :: tables_1) room_1) (lw_P b xs) (fun _ _ _ _ _ => True) lw_Q := by
  refine MetFree.of_bodyS (code := code) (maxLocals := maxLocals) (ret := ret) (by decide) ?_ ?_
  · intro args s m h hn
    obtain ⟨meth, c, h1, h2, h3, h4, h5, h6, -, -⟩ := Cond.code_spec hn (atoms_spec (ws := Jvm.Cond.code x code maxLocals ret :: tables_1) h _ List.mem_cons_self)
    exact ⟨meth, c, h1, h2, h3, h4, h5, h6⟩
  · intro p e s m args below meth c s₁ B hml0 hP _
    obtain ⟨rfl, hx, hbd, hgv⟩ := hP
    obtain ⟨scr, harrAt, hlist, hof, hsmall⟩ := hx
    obtain ⟨hcb, hkn, -, -⟩ := State.arrayAt?_spec harrAt
    have hown : s.vm.findClass R_law = some m.cls := findClass_of_methodNamed B.named
    have hts0 : ∀ c ∈ (Jvm.Cond.code x code maxLocals ret :: tables_1), c.before #[Value.ref b] s = true := atoms_spec (ws := Jvm.Cond.code x code maxLocals ret :: tables_1) B.pre
    have hts : ∀ w ∈ lw_tbl, w.before #[Value.ref b] s = true := k2_hts_sels lw_privs (fun w hw => hts0 w (List.mem_cons_of_mem _ hw)) lw_privs_ok
    have hml : c.maxLocals = 8 := B.maxLocals_eq (hts0 _ List.mem_cons_self)
    have X₀ : Stand p l e room_1 s m #[Value.ref b] below meth c s₁ [] 0 0 := Stand.of_body B
    have hh0 : s₁.heap = s.heap := by rw [B.state]; rfl
    have hsz : scr.slots.size = xs.length := by rw [← Array.length_toList, hlist, List.length_map]
    have hval : ∀ j : Nat, j < xs.length → scr.slots[j]? = some (.int (xs.getD j 0)) := fun j hj => by
      rw [← Array.getElem?_toList, hlist]
      simp [hj]
    have hbl : b < s.heap.size := (Array.getElem?_eq_some_iff.mp hcb).1
    have hX : va_X b xs.length (fun j => xs.getD j 0) s s.heap := ⟨scr, hcb, hof, hkn, hsz, hval⟩
    have K : W p l e room_1 s m #[Value.ref b] below meth c s₁.heap [] 0 0 (lw_Z below #[Value.ref b] s) (entryFrame m ([Value.ref b] : List Value).toArray 8) := by
      rw [hh0]
      exact whole_start l hl hbd ⟨B.exec, B.bytes, B.returns, hml, hown, hts, hX, hbl, B.notSynchronized, hgv⟩
    obtain ⟨t, a1, o, b1, b2, b3⟩ := K s₁ rfl X₀
    exact ⟨t, o, a1, b1, b2, b3⟩
theorem lw_pre_spec {args : Array Value} {s : State} (h : (Jvm.Cond.and given_1 narrow_1).before args s = true) (hr : rest_1_c.before args s = true) : ∃ (b : Addr) (xs : List Int32), lw_P b xs args s := by
  have hs := flat_of_before _ h
  have hq := flat_of_before _ hr
  have hc : (Cond.count 1).before args s = true := hs _ (by decide +kernel)
  have harr : (Cond.arrayOf (.arg 0) .int).before args s = true := hs _ (by decide +kernel)
  have hle : (Cond.le (.length (.arg 0)) (.int 2048)).before args s = true := hs _ (by decide +kernel)
  have hlen : (Cond.isInt (.length (.arg 0))).before args s = true := hq _ (by decide +kernel)
  have hall : (Cond.all (.arg 0) (.isInt (.elem (.arg 0) (.index 0)))).before args s = true := hq _ (by decide +kernel)
  obtain ⟨b, xs, hb, hx⟩ := State.ints_of_pre rfl harr hlen hall
  have hsm : xs.length < 2 ^ 31 := hx.choose_spec.2.2.2
  have hev : (Term.length (.arg 0)).eval args s none [] s = some (.int xs.length.toInt32) := hx.length_eval hb
  have hv := Cond.le_ints hev (show (Term.int 2048).eval args s none [] s = some (.int 2048) from rfl)
  have hd : xs.length.toInt32 ≤ 2048 := by
    simpa [Cond.before, Cond.holds, hv] using hle
  have hN : xs.length ≤ 2048 := (Int32.ofNat_le_ofNat hsm (by decide)).mp (show Int32.ofNat xs.length ≤ Int32.ofNat 2048 from hd)
  exact ⟨b, xs, Cond.one_arg hc (show args[0]? = some (.ref b) from hb), hx, hN, h⟩
theorem lw_comes (l : Launch) (hl : l.stackTraces = false) : Comes l x (Jvm.Cond.code x code maxLocals ret :: tables_1) room_1 (fun tb e args s => Calls_1 tb e args s ∧ rest_1 tb e args s ∧ Pre_1 tb e args s)
    (fun _ _ args s o t => lw_Q args s o t) := by
  intro p e ha hc hk s m args below hf hfit hheap happ hpre
  obtain ⟨b, xs, hP⟩ := lw_pre_spec hpre.2.2 hpre.2.1
  obtain ⟨k, o, h1, h2, h3, hQ⟩ := lw_walk l hl b xs p e ha hc hk s m args below hf ((Spec.applies_iff_loose hf).mp happ).1 hP trivial
  exact ⟨k, o, h1, h2, h3, hQ⟩
theorem lw_frame {s t : State} {o : Outcome} {args : Array Value} (h : Framed s o t [] 1067 11200) :
    Framed s o t (fieldLocs frame_1_writes args s ++ arrayLocs frame_1_arrays args s ++ staticLocs frame_1_statics s) 1067 11200 := h
theorem lw_limb (L : Cond) (hL : ∀ (args : Array Value) (s t : State), L.after args s (.returned (some (.int 1))) t = true) :
    ArmFor flags0 classFile x code maxLocals ret World_1 tables_1 room_1 Calls_1 rest_1 Pre_1
      (fun tb e a s o t => postC L tb e a s o t ∧ Framed s o t (fieldLocs frame_1_writes a s ++ arrayLocs frame_1_arrays a s ++ staticLocs frame_1_statics s) 1067 11200) := by
  intro l hfl _ _ p e ha hc hk s m args below hf hfit hheap happ hpre
  have hl : l.stackTraces = false := by unfold Launch.stackTraces; rw [hfl]; decide +kernel
  obtain ⟨k, o, h1, h2, h3, rfl, hF⟩ := lw_comes l hl p e ha hc hk s m args below hf hfit hheap happ hpre
  exact ⟨k, _, h1, h2, h3, hL args s _, lw_frame hF⟩
theorem i_vc : Claimed_1_1 ∧ Claimed_1_2 := ⟨lw_limb limb_1_1 (fun args s t => by simp [limb_1_1, Cond.after, Cond.holds, Cond.value]), lw_limb limb_1_2 (fun args s t => Cond.after_iff.mpr (by
  first | (rw [show limb_1_2 = Cond.eq .result (.int 1) from rfl, Cond.eq_ints (x := 1) (y := 1) rfl rfl]; simp; done) | (simp [limb_1_2, Cond.value, Term.eval]; done)))⟩
