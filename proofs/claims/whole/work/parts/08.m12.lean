/-! The reference's laying -/
def lm_om (fla nc nk : Nat → Int32) (nt : Nat → Int64) (s : lm_S) : Prop := (∀ p, p < 120 → fla p = oI (s.1 p)) ∧ ∀ j, j < s.2.length → nc j = nI (s.2.getD j (0, 0, 0)).1 ∧ nk j = nI (s.2.getD j (0, 0, 0)).2.1 ∧ nt j = jI (s.2.getD j (0, 0, 0)).2.2
theorem lm_om_1 {fla nc nk : Nat → Int32} {nt : Nat → Int64} {s : lm_S} {p k : Nat} {v : lm_V} (h : lm_om fla nc nk nt s) : lm_om (lm_up fla p (nI s.2.length)) (lm_up nc s.2.length (nI k)) (lm_up nk s.2.length (nI v.1)) (lm_up nt s.2.length (jI v.2)) (lm_mark s.1 p s.2.length, s.2 ++ [(k, v)]) := by
  refine ⟨lm_mark_up h.1, fun j hj => ?_⟩
  show _ = nI ((s.2 ++ [(k, v)]).getD j (0, 0, 0)).1 ∧ _ = nI ((s.2 ++ [(k, v)]).getD j (0, 0, 0)).2.1 ∧ _ = jI ((s.2 ++ [(k, v)]).getD j (0, 0, 0)).2.2
  by_cases e : j = s.2.length
  · rw [e, lm_up_eq, lm_up_eq, lm_up_eq, lm_getD_r (Nat.le_refl _)]; simp
  · have : j < s.2.length := by simp at hj; omega
    rw [lm_up_ne e, lm_up_ne e, lm_up_ne e, lm_getD_l this]; exact h.2 j this
theorem lm_om_2 {fla nc nk : Nat → Int32} {nt : Nat → Int64} {s : lm_S} {p k k2 : Nat} {v v2 : lm_V} (h : lm_om fla nc nk nt s) : lm_om (lm_up fla p (nI s.2.length)) (lm_up (lm_up nc s.2.length (nI k)) (s.2.length + 1) (nI k2)) (lm_up (lm_up nk s.2.length (nI v.1)) (s.2.length + 1) (nI v2.1)) (lm_up (lm_up nt s.2.length (jI v.2)) (s.2.length + 1) (jI v2.2)) (lm_mark s.1 p s.2.length, s.2 ++ [(k, v), (k2, v2)]) := by
  refine ⟨lm_mark_up h.1, fun j hj => ?_⟩
  show _ = nI ((s.2 ++ [(k, v), (k2, v2)]).getD j (0, 0, 0)).1 ∧ _ = nI ((s.2 ++ [(k, v), (k2, v2)]).getD j (0, 0, 0)).2.1 ∧ _ = jI ((s.2 ++ [(k, v), (k2, v2)]).getD j (0, 0, 0)).2.2
  have hj : j < s.2.length + 2 := by simpa using hj
  rcases (show j < s.2.length ∨ j = s.2.length ∨ j = s.2.length + 1 by omega) with e | e | e
  · rw [lm_up_ne (by omega), lm_up_ne (by omega), lm_up_ne (by omega), lm_up_ne (by omega), lm_up_ne (by omega), lm_up_ne (by omega), lm_getD_l e]; exact h.2 j e
  · have a1 : s.2.length ≠ s.2.length + 1 := by omega
    rw [e, lm_up_ne a1, lm_up_ne a1, lm_up_ne a1, lm_up_eq, lm_up_eq, lm_up_eq, lm_getD_r (Nat.le_refl _)]; simp
  · rw [e, lm_up_eq, lm_up_eq, lm_up_eq, lm_getD_r (by omega)]; simp
def lm_trs (c : Nat → Nat) (w : Nat → lm_V) (s : lm_S) (p : Nat) : lm_S := if s.1 p = none then lm_spine c w 120 s p else s
theorem lm_trs_y {c : Nat → Nat} {w : Nat → lm_V} {s : lm_S} {p : Nat} (h : s.1 p = none) : lm_trs c w s p = lm_spO c w 120 s (some p) := by
  unfold lm_trs; rw [if_pos h]; rfl
theorem lm_trs_n {c : Nat → Nat} {w : Nat → lm_V} {s : lm_S} {p : Nat} (h : ¬ s.1 p = none) : lm_trs c w s p = s := by
  unfold lm_trs; rw [if_neg h]
theorem lm_try_trs {c : Nat → Nat} {w : Nat → lm_V} {L : List Nat} {hd : Bool} {s : lm_S} {p : Nat} (h : ¬ (hd = true ∧ lm_isRb c w L p = true)) : lm_try c w L hd s p = lm_trs c w s p := by
  unfold lm_try lm_trs
  by_cases e : s.1 p = none
  · rw [if_pos ⟨e, h⟩, if_pos e]
  · rw [if_neg (fun z => e z.1), if_neg e]
theorem lm_I_lt {c : Nat → Nat} {w : Nat → lm_V} {u : Nat} {L : List Nat} {s : lm_S} {D : List Nat} {k p : Nat} (hw : lm_wf c w u) (hL : lm_gd c w u L) (h : lm_I c w u L s D k (some p)) (hp : s.1 p = none) (hpL : p ∈ L) : D.length < 120 := by
  have hpD : p ∉ D := fun q => (h.2.1 p).mp q hp
  have n1 : (p :: D).Nodup := List.nodup_cons.mpr ⟨hpD, h.1⟩
  have := lm_gd_len (c := c) (w := w) (u := u) (L := p :: D) ⟨n1, fun q hq => by
    rcases List.mem_cons.mp hq with a | a
    · subst a; exact hL.2 _ hpL
    · exact hL.2 q (h.2.2.1 q a)⟩
  have h1 := hw.1
  simp only [List.length_cons] at this
  omega
theorem lm_sp_next {c : Nat → Nat} {w : Nat → lm_V} {u : Nat} {L : List Nat} {s : lm_S} {D : List Nat} {k p n : Nat} (hw : lm_wf c w u) (hL : lm_gd c w u L) (hcl : ∀ p ∈ L, lm_cs c w L p) (h : lm_I c w u L s D k (some p)) (hp : s.1 p = none) (hpL : p ∈ L) (hD : 120 ≤ D.length + (n + 1)) : ∀ x, (lm_lay c w s p).2 = some x → (lm_lay c w s p).1.1 x = none ∧ x ∈ L ∧ ∃ D k, lm_I c w u L (lm_lay c w s p).1 D k (some x) ∧ 120 ≤ D.length + n := by
  intro x hx
  obtain ⟨h1, h2⟩ := lm_lay_I hw hL hcl h hp hpL
  obtain ⟨h3, h4⟩ := h2 x hx
  rw [hx] at h1
  exact ⟨h3, h4, D ++ [p], k, h1, by simp; omega⟩
theorem lm_I_open {c : Nat → Nat} {w : Nat → lm_V} {u : Nat} {L : List Nat} {s : lm_S} {D : List Nat} {k p : Nat} (h : lm_I c w u L s D k none) : lm_I c w u L s D (k + 1) (some p) := by
  obtain ⟨i1, i2, i3, i4, i5, i6, i7, i8⟩ := h
  refine ⟨i1, i2, i3, fun q hq hk => Or.inl ((i4 q hq hk).resolve_right (by simp)), ?_, i6, ?_, i8⟩
  · simp only [if_true] at i5
    simp
    omega
  · obtain ⟨a1, a2, a3, a4⟩ := i7
    exact ⟨a1, fun n hn h0 => Or.inl ((a2 n hn h0).resolve_right (fun z => by simp at z)), a3, a4⟩
theorem oI_neg {o : Option Nat} (h : ∀ n, o = some n → n < 2 ^ 31) (h2 : ¬ 0 ≤ oI o) : o = none := by
  cases o with
  | none => rfl
  | some n => exact absurd (nI_pos' (h n rfl)) h2
theorem lm_ln1 (O : lm_O) (x : Nat × lm_V) : O.length + 1 = (O ++ [x]).length := by simp
theorem lm_ln2 (O : lm_O) (x y : Nat × lm_V) : O.length + 1 + 1 = (O ++ [x, y]).length := by simp
