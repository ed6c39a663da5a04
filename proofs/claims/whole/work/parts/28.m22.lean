/-! Exceptions: what a method that throws must be given, what it owes; a throw, a call that throws, a call whose throw is caught -/
abbrev rx (d : Nat) : Room := { frames := d, cells := 1, slots := 6, locals := 36 * d }
def lm_isD : Cond → Bool
  | .declares _ => true
  | .castable _ _ => true
  | _ => false
abbrev eN : String := "java/util/NoSuchElementException"
abbrev eA : String := "java/lang/IllegalArgumentException"
abbrev eU : String := "java/lang/UnsupportedOperationException"
abbrev eS : String := "java/lang/IllegalStateException"
abbrev eB : String := "java/lang/IndexOutOfBoundsException"
def lm_exc : List String := [eN, eA, eU, eS, eB]
def lm_up2 : List String := ["java/lang/RuntimeException", "java/lang/Exception"]
def lm_strs : List (Nat × String) := [(55, "no number"), (75, "no such run of roots"), (115, "not a list with an end"), (125, "the root holds no number"), (151, "the word is not used"), (154, "nothing to tell of a word"), (162, "no such root"), (165, "the root holds no pair"), (172, "not enough words left")]
def lm_Tw (U : State) : Prop := (∀ w ∈ lw_tbl, lm_isD w = true → va_Nw w U) ∧ (∀ q ∈ lm_strs, ∃ sa : Nat, vk_R RX3 q.1 q.2 sa U) ∧ (∀ a ∈ lm_exc, ∀ b ∈ lm_exc, a ≠ b → va_Nc a b U)
theorem lm_Tw.warm {s U : State} (hW : s.WarmedH U.vm) (h : lm_Tw s) : lm_Tw U := by
  refine ⟨fun w hw hd => ?_, fun q hq => ?_, fun a ha b hb hab => va_Nc.moved hW.alike (h.2.2 a ha b hb hab)⟩
  · have h1 := h.1 w hw hd
    cases w <;> first | exact va_Nw.warmD hW h1 | exact va_Nw.warmC hW h1 | exact absurd hd (by simp [lm_isD])
  · obtain ⟨sa, h1⟩ := h.2.1 q hq
    exact ⟨sa, vk_R.warm hW h1⟩
theorem lm_al {u U : State} (hv : u.vm = U.vm) : u.vm.Alike U.vm := by rw [hv]; exact Vm.Alike.refl _
theorem lm_Tw.same {u U : State} (hv : u.vm = U.vm) (h : lm_Tw u) : lm_Tw U := by
  refine ⟨fun w hw hd => ?_, fun q hq => ?_, fun a ha b hb hab => va_Nc.moved (lm_al hv) (h.2.2 a ha b hb hab)⟩
  · have h1 := h.1 w hw hd
    cases w <;> first | exact va_Nw.same rfl hv h1 | exact absurd hd (by simp [lm_isD])
  · obtain ⟨sa, h1⟩ := h.2.1 q hq
    exact ⟨sa, vk_R.same hv.symm h1⟩
def lm_Th (l : Launch) (A : Nat → Prop) (U : State) (H : Heap) : Prop := l.stackTraces = false ∧ vx_Zq Bundle.tN "UNASSIGNED_STACK" Bundle.steD A U H ∧ vx_Zq Bundle.tN "SUPPRESSED_SENTINEL" Bundle.listD A U H ∧ lm_Tw U
theorem lm_Th.go {l : Launch} {A B : Nat → Prop} {s U : State} {H H1 : Heap} (hW : s.WarmedH U.vm) (hk : ∀ a : Nat, a < H.size → ¬ A a → H1[a]? = H[a]?) (hn : ∀ q, B q → A q) (h : lm_Th l A s H) : lm_Th l B U H1 :=
  ⟨h.1, vx_Zq.moved hW.alike (vx_Zq.narrow (vx_Zq.kept h.2.1 hk) hn), vx_Zq.moved hW.alike (vx_Zq.narrow (vx_Zq.kept h.2.2.1 hk) hn), h.2.2.2.warm hW⟩
theorem lm_Th.same {l : Launch} {A : Nat → Prop} {u U : State} {H : Heap} (hv : u.vm = U.vm) (h : lm_Th l A u H) : lm_Th l A U H :=
  ⟨h.1, vx_Zq.moved (lm_al hv) h.2.1, vx_Zq.moved (lm_al hv) h.2.2.1, h.2.2.2.same hv⟩
def lm_InX (l : Launch) (K : lm_G) (ws : va_W) (sz : Nat) (U : State) : Prop := lm_In K ws sz U ∧ lm_Th l (va_A ws sz) U U.heap
def lm_XQ (K : lm_G) (A : Nat → Prop) (cls : String) (post : va_W → Prop) : String → State → State → Prop := fun E st t => E = cls ∧ (∃ w : va_W, post w ∧ va_P K.1 lmCl w t.heap ∧ va_D A w) ∧ va_F A st t
def lm_no : Array Value → State → Outcome → State → Prop := fun _ _ _ _ => False
/-- a contract of a method that throws cls -/
def lm_CX (l : Launch) (K : lm_G) (M : lm_Me) (rm : Room) (as : List Value) (ws : va_W) (cls : String) (post : va_W → Prop) : Prop := ∀ sz : Nat, vx_Met l M.1 (lm_W M) rm (va_Pc as (lm_InX l K ws sz)) lm_no (lm_XQ K (va_A ws sz) cls post) rm.cells rm.slots (va_A ws sz)
def lx_X (K : lm_G) (E : lx_E) (rm : Room) (cls : String) (post : va_W → Prop) : Prop := lm_Th (xl E) (xA E) (xs E) (xs E).heap ∧ (∀ x ∈ (xc E).exceptionTable.toList, False) ∧ ∀ t : State, vx_MQ (xb E) lm_no (lm_XQ K (xA E) cls post) (xa E) (xs E) rm.cells rm.slots (xA E) t → xq E t
/-- the words of a throw -/
def lx_wT (own : String) (ik ic : Nat) (cls : String) : Prop := Cond.classLink own ik cls ∈ lm_T ∧ Cond.initialized cls ∈ lm_T ∧ (vx_atS own ic cls lm_up2).all (fun w => decide (w ∈ lw_tbl) && (goodWord w || lm_isD w)) = true ∧ (cls :: lm_up2).all Bundle.fit = true ∧ (Cond.classLink own ik cls :: Cond.initialized cls :: vx_atS own ic cls lm_up2).all vx_ot = true
theorem lm_isD_t {w : Cond} (h : lm_isD w = true) : w.onTables = true := by
  cases w <;> first | rfl | exact absurd h (by simp [lm_isD])
section LXX
variable {K : lm_G} {nL : Nat} {E : lx_E} {cc : ByteArray} {own : String} {ret : Option FieldType} {rm : Room} {a b pc : Nat} {lv : List (Nat × Value)} {st : List Value} {ws : va_W}
variable {M : lm_Me} {rm' : Room} {as stk : List Value} {wc : va_W} {index n : Nat} {H : Heap} {cls : String} {post postc : va_W → Prop}
theorem lx_throw (F : lx_F K nL E cc own ret rm) (X : lx_X K E rm cls post) {ik is ic : Nat} {text : String} (hw : lx_wT own ik ic cls) (ho : own = RX3) (hs : (is, text) ∈ lm_strs)
    (d0 : decode cc pc = .ok (.new ik, 3)) (d3 : decode cc (pc + 3) = .ok (.dup, 1)) (d4 : decode cc (pc + 4) = .ok (.ldc is, 2)) (d6 : decode cc (pc + 6) = .ok (.invokespecial ic, 3)) (d9 : decode cc (pc + 9) = .ok (.athrow, 1))
    (hr : 6 ≤ rm.frames ∧ 90 ≤ rm.locals ∧ a + 1 ≤ rm.cells ∧ b + 6 ≤ rm.slots) (hcat : (st.map fun v => v.category).sum ≤ 8) (hp : post ws) : lx_W K nL E a b pc lv st ws := by
  intro H L ls h hP hD hS
  have hRm : xR E = rm := F.2.2.2.2.2.2
  obtain ⟨hTh, hout, hq⟩ := X
  obtain ⟨w1, w2, w3, w4, w5⟩ := hw
  obtain ⟨sa, hstr⟩ := hTh.2.2.2.2.1 _ hs
  rw [← ho] at hstr
  have hf := List.all_eq_true.mp w4
  have hat : ∀ w ∈ vx_atS own ic cls lm_up2, w.before (xa E) (xs E) = true := by
    intro w hw9
    have h9 := List.all_eq_true.mp w3 w hw9
    rw [Bool.and_eq_true, Bool.or_eq_true] at h9
    have hm : w ∈ lw_tbl := of_decide_eq_true h9.1
    rcases h9.2 with g | g
    · exact F.1.2.2.2.2 _ (List.mem_filter.mpr ⟨hm, g⟩)
    · exact va_Nw.use (lm_isD_t g) (hTh.2.2.2.1 w hm g)
  have hgo := vx_throwS (p := xp E) (e := xe E) (R := xR E) (below := xb E) (H := H) (locs := L) (cells := a) (slots := b) (free := xA E) (ls := ls) (rest := st) (Qc := lm_no) (XC := lm_XQ K (xA E) cls post) (mc := rm.cells) (ms := rm.slots) (A := xA E) (pc := pc) F.1.1 F.1.2.1 hTh.1 F.1.2.2.2.1 (hf _ List.mem_cons_self) (fun n hn => hf n (List.mem_cons_of_mem _ hn)) (F.1.2.2.2.2 _ w1) (F.1.2.2.2.2 _ w2) hstr hat (List.all_eq_true.mp w5) hTh.2.1 hTh.2.2.1 hS (h.1.trans F.1.2.2.1.symm) d0 d3 d4 d6 d9 (fun x hx => (hout x hx).elim)
    (by rw [hRm]; show 2 + 3 < rm.frames; omega) (by rw [hRm]; show _ + (13 * (2 + 1) + 43) ≤ rm.locals; omega) (by rw [hRm]; exact hr.2.2.1) (by rw [hRm]; exact hr.2.2.2) F.2.2.2.2.2.1
    (fun t _ h1 h2 => ⟨rfl, ⟨ws, hp, fun k q hk => va_at.kept (hP k q hk) (h2 q.1 (hP k q hk).lt), hD⟩, Nat.le_trans hS.1 h1, fun q hq1 hq2 => (h2 q (Nat.lt_of_lt_of_le hq1 hS.1)).trans (hS.2.1 q hq1 hq2)⟩)
    hS.2.2 hr.2.2.1 hr.2.2.2
  intro T hT XT
  obtain ⟨t, a1, b1⟩ := hgo T hT XT
  exact ⟨t, a1, hq t b1⟩
theorem lx_preX (F : lx_F K nL E cc own ret rm) (hTh : lm_Th (xl E) (xA E) (xs E) (xs E).heap) {L : List Loc} (hP : va_P K.1 lmCl ws H) (hD : va_D (xA E) ws) (hS : va_S (xA E) (xs E).heap H L) (isC : List Nat) (hC : isC.map (fun i => ws[i]?) = wc.map some) (hnd : va_nd isC = true) : PreS (xs E) H (va_Pc as (lm_InX (xl E) K wc H.size)) as := by
  have h0 := lx_pre (as := as) F hP hD isC hC hnd
  have hF := va_free hD hS F.2.2.2.1 isC hC
  refine ⟨fun av U g mk q => ?_, fun U hU hW => ?_⟩
  · obtain ⟨q0, q1, q2⟩ := q
    obtain ⟨g0, g1⟩ := h0.1 av U g mk ⟨q0, q1⟩
    exact ⟨g0, g1, lm_Th.same (u := U) (U := U.calling g mk av) rfl q2⟩
  · obtain ⟨g0, g1⟩ := h0.2 U hU hW
    exact ⟨g0, g1, lm_Th.go hW (fun q hq hq2 => by rw [hU]; exact hS.2.1 q hq hq2) hF hTh⟩
/-- behind a call that threw: the world, and where it stands -/
theorem lx_thr (F : lx_F K nL E cc own ret rm) {wr : va_W} {L : List Loc} {ls : Array Slot} (isC isR : List Nat) (hC : isC.map (fun i => ws[i]?) = wc.map some) (hRs : isR.map (fun i => ws[i]?) = wr.map some) (hnr : va_nd isR = true) (hdis : ∀ i ∈ isR, i ∉ isC)
    (hP : va_P K.1 lmCl ws H) (hD : va_D (xA E) ws) (hS : va_S (xA E) (xs E).heap H L)
    (hr : vx_Run (xp E) (xl E) (xe E) (xR E) (xs E) (xm E) (xa E) (xb E) (xt E) (xc E) H L a b rm'.cells rm'.slots (F0 (xm E) pc ls stk) st (fun _ _ _ => False) (lm_XQ K (va_A wc H.size) cls postc) (va_A wc H.size))
    (k : ∀ (w : va_W) (H1 : Heap) (L1 : List Loc) (q : Nat) (ce : Cell), postc w → va_P K.1 lmCl (wr ++ w) H1 → va_D (xA E) (wr ++ w) → va_S (xA E) (xs E).heap H1 L1 → H1[q]? = some ce → ce.vm = .none → (xs E).vm.findClass cls = some ce.cls → vx_W (xp E) (xl E) (xe E) (xR E) (xs E) (xm E) (xa E) (xb E) (xt E) (xc E) H1 L1 (a + rm'.cells) (b + rm'.slots) (xq E) (F0 (xm E) pc ls st) q) :
    W (xp E) (xl E) (xe E) (xR E) (xs E) (xm E) (xa E) (xb E) (xt E) (xc E) H L a b (xq E) (F0 (xm E) pc ls stk) := by
  have hF := va_free hD hS F.2.2.2.1 isC hC
  intro T hT X
  rcases hr T hT X with ⟨v, st₀, t, T', L', h0, X', hL, e1, e2, hno, sg⟩ | ⟨q, st₀, t, T', L', cls', ce, h0, X', hL, e1, e2, hx, hce, hcv, hcl, sg⟩
  · exact hno.elim
  · obtain ⟨rfl, ⟨w, hp, hPw, hDw⟩, hFr⟩ := hx
    obtain ⟨k1, k2, k3⟩ := vx_keep h0 e1 hS (fun q _ hq => hF q hq) hF hL hFr
    rw [← e1] at hPw hce
    obtain ⟨hP', hD'⟩ := va_join hP hD isC isR hC hRs hnr hdis k2 hF hPw hDw
    obtain ⟨t2, a1, b1⟩ := k w T'.heap (L ++ L') q ce hp hP' hD' k3 hce hcv hcl T' rfl X'
    exact ⟨t2, sg.trans a1, b1⟩
theorem lx_gone (F : lx_F K nL E cc own ret rm) (X : lx_X K E rm cls post) {L1 : List Loc} {H1 : Heap} {ls : Array Slot} {q : Nat} {ce : Cell} {a1 b1 : Nat} (hp : post ws) (hP : va_P K.1 lmCl ws H1) (hD : va_D (xA E) ws) (hS : va_S (xA E) (xs E).heap H1 L1) (hce : H1[q]? = some ce) (hcv : ce.vm = .none) (hcl : (xs E).vm.findClass cls = some ce.cls) (hf : a1 ≤ rm.cells ∧ b1 ≤ rm.slots) :
    vx_W (xp E) (xl E) (xe E) (xR E) (xs E) (xm E) (xa E) (xb E) (xt E) (xc E) H1 L1 a1 b1 (xq E) (F0 (xm E) pc ls st) q := by
  have h1 := vx_out (p := xp E) (l := xl E) (e := xe E) (R := xR E) (s := xs E) (m := xm E) (args := xa E) (below := xb E) (meth := xt E) (c := xc E) (H := H1) (locs := L1) (cells := a1) (slots := b1) (free := xA E) (ls := ls) (rest := st) (pc := pc) (E := cls) (Qc := lm_no) (XC := lm_XQ K (xA E) cls post) (mc := rm.cells) (ms := rm.slots) (fun x hx => (X.2.1 x hx).elim) F.2.2.2.2.2.1 hce hcv hcl
    (fun t ht _ => ⟨rfl, ⟨ws, hp, by rw [ht]; exact hP, hD⟩, hS.F ht⟩) hS.2.2 hf.1 hf.2
  intro T hT XT
  obtain ⟨t, g1, g2⟩ := h1 T hT XT
  exact ⟨t, g1, X.2.2 t g2⟩
theorem lx_csX (F : lx_F K nL E cc own ret rm) (X : lx_X K E rm cls post) (hM : lm_CX (xl E) K M rm' as wc cls postc) (hw : lx_wS own index M n) (isC isR : List Nat) (wr : va_W) (hC : isC.map (fun i => ws[i]?) = wc.map some) (hRs : isR.map (fun i => ws[i]?) = wr.map some) (hq : va_nd isC = true ∧ va_nd isR = true ∧ ∀ i ∈ isR, i ∉ isC) (hn : as.length = n) (hst : stk = as.reverse ++ st) (hcat : (st.map fun v => v.category).sum ≤ 8) (hR : rm'.frames + 1 ≤ rm.frames ∧ 8 + (M.2.2.1 + 11) + rm'.locals ≤ rm.locals) (hf : a + rm'.cells ≤ rm.cells ∧ b + rm'.slots ≤ rm.slots) (hd : decode cc pc = .ok (.invokestatic index, 3))
    (k : ∀ w : va_W, postc w → post (wr ++ w)) : lx_W K nL E a b pc lv stk ws := by
  intro H L ls h hP hD hS
  have hRm : xR E = rm := F.2.2.2.2.2.2
  exact lx_thr F isC isR hC hRs hq.2.1 hq.2.2 hP hD hS (vx_runS (ret := M.2.2.2) F.1 (hM H.size) ⟨callB_of n F.1.2.2.2.2 (lx_goodIn hw.1) rfl rfl rfl (F.1.2.2.2.2 _ hw.2.1) (F.1.2.2.2.2 _ hw.2.2.1) hw.2.2.2.2 (by rw [hRm]; exact hR), F.1.2.2.2.2 _ hw.2.2.2.1⟩ (lx_preX F X.1 hP hD hS isC hC hq.1) rfl hn h.1 hst (lv_room hcat) hd (by rw [hRm]; exact hf)) (fun w H1 L1 q ce hp hP' hD' hS' hce hcv hcl => lx_gone F X (k w hp) hP' hD' hS' hce hcv hcl hf)
theorem lx_cvX (F : lx_F K nL E cc own ret rm) (X : lx_X K E rm cls post) {r : Nat} (hM : lm_CX (xl E) K M rm' (.ref r :: as) wc cls postc) (hw : lx_wV own index M n) (q0 : Nat) {ci : Nat} {fs : List Value} {T : u_T} {N : Nat} (hc : lmCl[ci]? = some (M.1.cls, T, N)) (he : ws[q0]? = some (r, .inr (ci, fs))) (isC isR : List Nat) (wr : va_W) (hC : isC.map (fun i => ws[i]?) = wc.map some) (hRs : isR.map (fun i => ws[i]?) = wr.map some) (hq : va_nd isC = true ∧ va_nd isR = true ∧ ∀ i ∈ isR, i ∉ isC) (hn : as.length = n) (hst : stk = as.reverse ++ .ref r :: st) (hcat : (st.map fun v => v.category).sum ≤ 8) (hR : rm'.frames + 1 ≤ rm.frames ∧ 8 + (M.2.2.1 + 11) + rm'.locals ≤ rm.locals) (hf : a + rm'.cells ≤ rm.cells ∧ b + rm'.slots ≤ rm.slots) (hd : decode cc pc = .ok (.invokevirtual index, 3))
    (k : ∀ w : va_W, postc w → post (wr ++ w)) : lx_W K nL E a b pc lv stk ws := by
  intro H L ls h hP hD hS
  have hRm : xR E = rm := F.2.2.2.2.2.2
  have hpre := lx_preX (as := .ref r :: as) F X.1 hP hD hS isC hC hq.1
  exact lx_thr F isC isR hC hRs hq.2.1 hq.2.2 hP hD hS (vx_runV (ret := M.2.2.2) (C := M.1.cls) F.1 (hM H.size) ⟨callB_of n F.1.2.2.2.2 (lx_goodIn hw.1) rfl rfl rfl (F.1.2.2.2.2 _ hw.2.1) (F.1.2.2.2.2 _ hw.2.2.1) hw.2.2.2.2 (by rw [hRm]; exact hR), F.1.2.2.2.2 _ hw.2.2.2.1.1, F.1.2.2.2.2 _ hw.2.2.2.1.2⟩ ⟨hpre.1, va_recv F.2.1 hP hc he, hpre.2⟩ rfl hn h.1 hst (lv_room hcat) hd (by rw [hRm]; exact hf)) (fun w H1 L1 q ce hp hP' hD' hS' hce hcv hcl => lx_gone F X (k w hp) hP' hD' hS' hce hcv hcl hf)
end LXX
/-- a throwing contract's start -/
theorem lx_metX {l : Launch} {K : lm_G} {M : lm_Me} {rm : Room} {as : List Value} {ws : va_W} {cls : String} {post : va_W → Prop} (own : String) (hy : plainName M.1.cls = true) (ho : M.1.cls = own) (hnl : (lg_sl as).length ≤ M.2.2.1)
    (body : ∀ E : lx_E, xl E = l → lx_F K M.2.2.1 E M.2.1 own M.2.2.2 rm → lx_X K E rm cls post → lx_W K M.2.2.1 E 0 0 0 (lv_args 0 as) [] ws) : lm_CX l K M rm as ws cls post := by
  intro sz
  refine vx_ofW (cc := M.2.1) (maxL := M.2.2.1) (ret := M.2.2.2) hy rfl ?_
  intro p e s m args below meth c s₁ B hml htab hv
  obtain ⟨rfl, ⟨hsz, hP, hK, hD0, hN⟩, hTh⟩ := hv
  have hts := atoms_spec (ws := lm_W M) B.pre
  have hown : s.vm.findClass own = some m.cls := by rw [← ho]; exact findClass_of_methodNamed B.named
  subst hsz
  have hl := lv_entry as (n := M.2.2.1) hnl
  rw [lg_entry_eq]
  exact body (p, l, e, (headSpec (lm_W M) rm).room, s, m, as.toArray, below, meth, c, _, va_A ws s.heap.size) rfl ⟨⟨B.exec, B.bytes, hml, hown, fun w hw => hts w (List.mem_cons_of_mem _ hw)⟩, hK, hN, fun q h => Or.inr h, B.returns, B.notSynchronized, rfl⟩ ⟨hTh, htab, fun _ h => h⟩ s.heap [] _ hl hP hD0.self va_S.rf
/-- the words of a throw whose constructor's place is another -/
def lx_wN (own : String) (ik ic : Nat) (cls : String) (ix : Nat) (rb : ByteArray) : Prop := Cond.classLink own ik cls ∈ lm_T ∧ Cond.initialized cls ∈ lm_T ∧ (nx_at own ic cls ix rb lm_up2).all (fun w => decide (w ∈ lw_tbl) && (goodWord w || lm_isD w)) = true ∧ (cls :: lm_up2).all Bundle.fit = true ∧ (Cond.classLink own ik cls :: Cond.initialized cls :: nx_at own ic cls ix rb lm_up2).all vx_ot = true ∧ decode rb 0 = .ok (.aload_n 0, 1) ∧ decode rb 1 = .ok (.aload_n 1, 1) ∧ decode rb 2 = .ok (.invokespecial ix, 3) ∧ decode rb 5 = .ok (.return_, 1)
theorem lx_throwN {K : lm_G} {nL : Nat} {E : lx_E} {cc : ByteArray} {own : String} {ret : Option FieldType} {rm : Room} {a b pc : Nat} {lv : List (Nat × Value)} {st : List Value} {ws : va_W} {cls : String} {post : va_W → Prop} (F : lx_F K nL E cc own ret rm) (X : lx_X K E rm cls post) {ik is ic ix : Nat} {rb : ByteArray} {text : String} (hw : lx_wN own ik ic cls ix rb) (ho : own = RX3) (hs : (is, text) ∈ lm_strs)
    (d0 : decode cc pc = .ok (.new ik, 3)) (d3 : decode cc (pc + 3) = .ok (.dup, 1)) (d4 : decode cc (pc + 4) = .ok (.ldc is, 2)) (d6 : decode cc (pc + 6) = .ok (.invokespecial ic, 3)) (d9 : decode cc (pc + 9) = .ok (.athrow, 1))
    (hr : 6 ≤ rm.frames ∧ 90 ≤ rm.locals ∧ a + 1 ≤ rm.cells ∧ b + 6 ≤ rm.slots) (hcat : (st.map fun v => v.category).sum ≤ 8) (hp : post ws) : lx_W K nL E a b pc lv st ws := by
  intro H L ls h hP hD hS
  have hRm : xR E = rm := F.2.2.2.2.2.2
  obtain ⟨hTh, hout, hq⟩ := X
  obtain ⟨w1, w2, w3, w4, w5, x0, x1, x2, x5⟩ := hw
  obtain ⟨sa, hstr⟩ := hTh.2.2.2.2.1 _ hs
  rw [← ho] at hstr
  have hf := List.all_eq_true.mp w4
  have hat : ∀ w ∈ nx_at own ic cls ix rb lm_up2, w.before (xa E) (xs E) = true := by
    intro w hw9
    have h9 := List.all_eq_true.mp w3 w hw9
    rw [Bool.and_eq_true, Bool.or_eq_true] at h9
    have hm : w ∈ lw_tbl := of_decide_eq_true h9.1
    rcases h9.2 with g | g
    · exact F.1.2.2.2.2 _ (List.mem_filter.mpr ⟨hm, g⟩)
    · exact va_Nw.use (lm_isD_t g) (hTh.2.2.2.1 w hm g)
  have hgo := nx_throw (p := xp E) (e := xe E) (R := xR E) (below := xb E) (H := H) (locs := L) (cells := a) (slots := b) (free := xA E) (ls := ls) (rest := st) (Qc := lm_no) (XC := lm_XQ K (xA E) cls post) (mc := rm.cells) (ms := rm.slots) (A := xA E) (pc := pc) F.1.1 F.1.2.1 hTh.1 x0 x1 x2 x5 F.1.2.2.2.1 (hf _ List.mem_cons_self) (fun n hn => hf n (List.mem_cons_of_mem _ hn)) (F.1.2.2.2.2 _ w1) (F.1.2.2.2.2 _ w2) hstr hat (List.all_eq_true.mp w5) hTh.2.1 hTh.2.2.1 hS (h.1.trans F.1.2.2.1.symm) d0 d3 d4 d6 d9 (fun x hx => (hout x hx).elim)
    (by rw [hRm]; show 2 + 3 < rm.frames; omega) (by rw [hRm]; show _ + (13 * (2 + 1) + 43) ≤ rm.locals; omega) (by rw [hRm]; exact hr.2.2.1) (by rw [hRm]; exact hr.2.2.2) F.2.2.2.2.2.1
    (fun t _ h1 h2 => ⟨rfl, ⟨ws, hp, fun k q hk => va_at.kept (hP k q hk) (h2 q.1 (hP k q hk).lt), hD⟩, Nat.le_trans hS.1 h1, fun q hq1 hq2 => (h2 q (Nat.lt_of_lt_of_le hq1 hS.1)).trans (hS.2.1 q hq1 hq2)⟩)
    hS.2.2 hr.2.2.1 hr.2.2.2
  intro T hT XT
  obtain ⟨t, a1, b1⟩ := hgo T hT XT
  exact ⟨t, a1, hq t b1⟩
