/-! Worlds as appended lists: a swap, a call that is given the last list; the script -/
theorem lx_nd {l : List Nat} (h : l.Nodup) : va_nd l = true := by
  induction l with
  | nil => rfl
  | cons a t ih =>
    have h := List.nodup_cons.mp h
    show (decide (a ∉ t) && va_nd t) = true
    rw [ih h.2, decide_eq_true h.1]; rfl
theorem lx_mapR (A B : va_W) : (List.range' A.length B.length).map (fun i => (A ++ B)[i]?) = B.map some := by
  apply List.ext_getElem?
  intro i
  by_cases h : i < B.length
  · rw [List.getElem?_map, List.getElem?_map, List.getElem?_range' h]
    simp [List.getElem?_append_right, List.getElem?_eq_getElem h]
  · rw [List.getElem?_eq_none (by simp; omega), List.getElem?_eq_none (by simp; omega)]
theorem lx_mapL (A B : va_W) : (List.range A.length).map (fun i => (A ++ B)[i]?) = A.map some := by
  apply List.ext_getElem?
  intro i
  by_cases h : i < A.length
  · rw [List.getElem?_map, List.getElem?_map, List.getElem?_range h]
    simp [List.getElem?_append_left h, List.getElem?_eq_getElem h]
  · rw [List.getElem?_eq_none (by simp; omega), List.getElem?_eq_none (by simp; omega)]
theorem lx_dis (n k : Nat) : ∀ i ∈ List.range n, i ∉ List.range' n k := by
  intro i h1 h2
  have a1 := List.mem_range.mp h1
  have a2 := List.mem_range'_1.mp h2
  omega
theorem lx_q3 (n k : Nat) : va_nd (List.range' n k) = true ∧ va_nd (List.range n) = true ∧ ∀ i ∈ List.range n, i ∉ List.range' n k := ⟨lx_nd List.nodup_range', lx_nd List.nodup_range, lx_dis n k⟩
section LXA
variable {K : lm_G} {nL : Nat} {E : lx_E} {cc : ByteArray} {own : String} {ret : Option FieldType} {rm : Room} {a b pc : Nat} {lv : List (Nat × Value)} {st : List Value} {ws : va_W}
variable {M : lm_Me} {rm' : Room} {as stk : List Value} {wc wr : va_W} {post : Option Value → va_W → Prop} {index n : Nat} {hh : List (Nat × Nat × Nat × Nat)}
theorem lx_swap {A B : va_W} (k : lx_W K nL E a b pc lv st (B ++ A)) : lx_W K nL E a b pc lv st (A ++ B) := by
  refine lx_perm (List.range' A.length B.length ++ List.range A.length) (B ++ A) (lx_nd (List.nodup_append.mpr ⟨List.nodup_range', List.nodup_range, fun x hx y hy e => ?_⟩)) (by rw [List.map_append, lx_mapR, lx_mapL, List.map_append]) k
  subst e
  exact lx_dis _ _ x hy hx
theorem lx_cvA (F : lx_F K nL E cc own ret rm) {r : Nat} (hM : lm_C (xl E) K M rm' (.ref r :: as) wc post) (hw : lx_wV own index M n) {ci : Nat} {fs : List Value} {T : u_T} {N : Nat} (hc : lmCl[ci]? = some (M.1.cls, T, N)) (he : wc[0]? = some (r, .inr (ci, fs))) (hn : as.length = n) (hst : stk = as.reverse ++ .ref r :: st) (hcat : (st.map fun v => v.category).sum ≤ 8) (hR : rm'.frames + 1 ≤ rm.frames ∧ 8 + (M.2.2.1 + 11) + rm'.locals ≤ rm.locals) (hf : a + rm'.cells ≤ rm.cells ∧ b + rm'.slots ≤ rm.slots) (hd : decode cc pc = .ok (.invokevirtual index, 3))
    (k : ∀ (v : Option Value) (w : va_W), post v w → lx_W K nL E (a + rm'.cells) (b + rm'.slots) (pc + 3) lv (v.toList ++ st) (wr ++ w)) : lx_W K nL E a b pc lv stk (wr ++ wc) :=
  lx_cv F hM hw wr.length hc (by rw [List.getElem?_append_right (Nat.le_refl _), Nat.sub_self]; exact he) (List.range' wr.length wc.length) (List.range wr.length) wr (lx_mapR wr wc) (lx_mapL wr wc) (lx_q3 _ _) hn hst hcat hR hf hd k
theorem lx_ciA (F : lx_F K nL E cc own ret rm) {r : Nat} {y : MethodName} {cb : ByteArray} {mL : Nat} (hM : lm_C (xl E) K (y, cb, mL, none) rm' (.ref r :: as) wc post) (hw : lx_wI own index (y, cb, mL, none) n) (hn : as.length = n) (hst : stk = as.reverse ++ .ref r :: st) (hcat : (st.map fun v => v.category).sum ≤ 8) (hR : rm'.frames + 1 ≤ rm.frames ∧ 8 + (mL + 11) + rm'.locals ≤ rm.locals) (hf : a + rm'.cells ≤ rm.cells ∧ b + rm'.slots ≤ rm.slots) (hd : decode cc pc = .ok (.invokespecial index, 3))
    (k : ∀ (v : Option Value) (w : va_W), post v w → lx_W K nL E (a + rm'.cells) (b + rm'.slots) (pc + 3) lv (v.toList ++ st) (wr ++ w)) : lx_W K nL E a b pc lv stk (wr ++ wc) :=
  lx_ci F hM hw (List.range' wr.length wc.length) (List.range wr.length) wr (lx_mapR wr wc) (lx_mapL wr wc) (lx_q3 _ _) hn hst hcat hR hf hd k
def lx_wH (own : String) (index : Nat) (M : lm_Me) (hh : List (Nat × Nat × Nat × Nat)) (n : Nat) : Prop := Cond.codeWith M.1 M.2.1 M.2.2.1 M.2.2.2 hh ∈ lm_T ∧ Cond.initialized M.1.cls ∈ lm_T ∧ Cond.methodLink own index M.1 ∈ lm_T ∧ Cond.static M.1 ∈ lm_T ∧ lx_ok M.1 n
theorem lx_goodH (hw : lx_wH own index M hh n) : GoodIn lm_T (va_wsS own index M.1 (lm_WH M hh)) := by
  intro w hm
  have h1 : w ∈ lm_T := by
    rcases List.mem_append.mp hm with e | e
    · simp only [List.mem_cons, List.not_mem_nil, or_false] at e
      rcases e with rfl | rfl | rfl
      · exact hw.2.2.1
      · exact hw.2.2.2.1
      · exact hw.2.1
    · rcases List.mem_cons.mp e with rfl | e
      · exact hw.1
      · exact e
  exact ⟨h1, good_of_word (lm_good h1)⟩
theorem lx_csH (F : lx_F K nL E cc own ret rm) (hTh : lm_Th (xl E) (xA E) (xs E) (xs E).heap) (hM : lm_CH (xl E) K M hh rm' as wc post) (hw : lx_wH own index M hh n) (hn : as.length = n) (hst : stk = as.reverse ++ st) (hcat : (st.map fun v => v.category).sum ≤ 8) (hR : rm'.frames + 1 ≤ rm.frames ∧ 8 + (M.2.2.1 + 11) + rm'.locals ≤ rm.locals) (hf : a + rm'.cells ≤ rm.cells ∧ b + rm'.slots ≤ rm.slots) (hd : decode cc pc = .ok (.invokestatic index, 3))
    (k : ∀ (v : Option Value) (w : va_W), post v w → lx_W K nL E (a + rm'.cells) (b + rm'.slots) (pc + 3) lv (v.toList ++ st) (wr ++ w)) : lx_W K nL E a b pc lv stk (wr ++ wc) := by
  intro H L ls h hP hD hS
  have hRm : xR E = rm := F.2.2.2.2.2.2
  have hq := lx_q3 wr.length wc.length
  have hC := lx_mapR wr wc
  have hrun : vx_Run (xp E) (xl E) (xe E) (xR E) (xs E) (xm E) (xa E) (xb E) (xt E) (xc E) H L a b rm'.cells rm'.slots (F0 (xm E) pc ls stk) st (lm_Q K (va_A wc H.size) post as.toArray) (fun _ _ _ => False) (va_A wc H.size) := vx_runSX (hh := hh) (ret := M.2.2.2) F.1 (hM H.size) (vx_cwSW n F.1.2.2.2.2 (lx_goodH hw) rfl rfl rfl hw.2.2.2.2 (by rw [hRm]; exact hR)) (lx_preX F hTh hP hD hS _ hC hq.1) rfl hn h.1 hst (lv_room hcat) hd (by rw [hRm]; exact hf)
  have hF := va_free hD hS F.2.2.2.1 _ hC
  intro T hT X
  rcases hrun T hT X with ⟨v, st₀, t, T', L', h0, X', hL, e1, e2, ⟨⟨v', w, hv, hp, hPw, hDw⟩, hFr⟩, sg⟩ | ⟨q, st₀, t, T', L', cl9, ce, h0, X', hL, e1, e2, hx, -⟩
  · cases hv
    obtain ⟨k1, k2, k3⟩ := vx_keep h0 e1 hS (fun q _ hq => hF q hq) hF hL hFr
    rw [← e1] at hPw
    obtain ⟨hP', hD'⟩ := va_join hP hD _ _ hC (lx_mapL wr wc) hq.2.1 hq.2.2 k2 hF hPw hDw
    obtain ⟨t2, a1, b1⟩ := k _ w hp T'.heap (L ++ L') ls h hP' hD' k3 T' rfl X'
    exact ⟨t2, sg t2 a1, b1⟩
  · exact hx.elim
def lx_S (E : lx_E) (b L : Nat) (vs : Nat → Int32) : Prop := va_X b L vs (xs E) (xs E).heap ∧ b < (xs E).heap.size ∧ ¬ xA E b
theorem lx_sld (F : lx_F K nL E cc own ret rm) {s0 L : Nat} {vs : Nat → Int32} (hX : lx_S E s0 L vs) (i : Nat) (hd : decode cc pc = .ok (.iaload, 1)) (hi : i < L) (hL : L < 2 ^ 31) (k : lx_W K nL E a b (pc + 1) lv (.int (vs i) :: st) ws) : lx_W K nL E a b pc lv (.int (nI i) :: .ref s0 :: st) ws := fun H L1 ls h hP hD hS => va_sld F.1.1 F.1.2.1 hX.1 hX.2.1 hX.2.2 hS (vp_in_nI hi hL) hd (by rw [nI_clamp (Nat.lt_trans hi hL)]; exact k H L1 ls h hP hD hS)
theorem lx_slen (F : lx_F K nL E cc own ret rm) {s0 L : Nat} {vs : Nat → Int32} (hX : lx_S E s0 L vs) (hd : decode cc pc = .ok (.arraylength, 1)) (k : lx_W K nL E a b (pc + 1) lv (.int (nI L) :: st) ws) : lx_W K nL E a b pc lv (.ref s0 :: st) ws := fun H L1 ls h hP hD hS => va_slen F.1.1 F.1.2.1 hX.1 hX.2.1 hX.2.2 hS hd (k H L1 ls h hP hD hS)
end LXA
theorem lm_gt4 {i L : Nat} (hi : i < 2 ^ 20) (hL : L < 2 ^ 20) : (nI L - nI 4) < nI i ↔ L < i + 4 := by
  rw [Int32.lt_iff_toInt_lt, nI_toInt (n := i) (by omega)]
  by_cases h : 4 ≤ L
  · rw [pk_sub h, nI_toInt (by omega)]; omega
  · rcases (show L = 0 ∨ L = 1 ∨ L = 2 ∨ L = 3 by omega) with e | e | e | e <;> subst e
    · rw [show (nI 0 - nI 4).toInt = -4 by decide]; omega
    · rw [show (nI 1 - nI 4).toInt = -3 by decide]; omega
    · rw [show (nI 2 - nI 4).toInt = -2 by decide]; omega
    · rw [show (nI 3 - nI 4).toInt = -1 by decide]; omega
