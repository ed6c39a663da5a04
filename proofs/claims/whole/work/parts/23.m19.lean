/-! A collection keeps the lists: a laid cell's rest is the rest in the new half -/
def lm_iso (c : Nat → Nat) (w : Nat → lm_V) (s : lm_S) (pend : Option Nat) : Prop := ∀ p n, s.1 p = some n → n < s.2.length ∧
  (((s.2.getD n (0, 0, 0)).1 = 1 ∧ (lm_rest c w p).1 = 0) ∨
   ((s.2.getD n (0, 0, 0)).1 = 0 ∧ (lm_rest c w p).1 = 2 ∧ (s.1 (lm_to w (lm_rest c w p)) = some (n + 1) ∨ (pend = some (lm_to w (lm_rest c w p)) ∧ n + 1 = s.2.length))) ∨
   ((s.2.getD n (0, 0, 0)).1 = 2 ∧ s.2.getD (n + 1) (0, 0, 0) = (3, lm_rest c w p) ∧ n + 1 < s.2.length))
theorem lm_iso_lay {c : Nat → Nat} {w : Nat → lm_V} {s : lm_S} {p : Nat} (h : lm_iso c w s (some p)) (hp : s.1 p = none) : lm_iso c w (lm_lay c w s p).1 (lm_lay c w s p).2 := by
  have old : ∀ (M : lm_O) (pd : Option Nat), 0 < M.length → ∀ q n, q ≠ p → s.1 q = some n → n < (s.2 ++ M).length ∧
      ((((s.2 ++ M).getD n (0, 0, 0)).1 = 1 ∧ (lm_rest c w q).1 = 0) ∨
       (((s.2 ++ M).getD n (0, 0, 0)).1 = 0 ∧ (lm_rest c w q).1 = 2 ∧ (lm_mark s.1 p s.2.length (lm_to w (lm_rest c w q)) = some (n + 1) ∨ (pd = some (lm_to w (lm_rest c w q)) ∧ n + 1 = (s.2 ++ M).length))) ∨
       (((s.2 ++ M).getD n (0, 0, 0)).1 = 2 ∧ (s.2 ++ M).getD (n + 1) (0, 0, 0) = (3, lm_rest c w q) ∧ n + 1 < (s.2 ++ M).length)) := by
    intro M pd hM q n hq hn
    obtain ⟨h1, h2⟩ := h q n hn
    refine ⟨by simp; omega, ?_⟩
    rw [lm_getD_l h1]
    rcases h2 with a | ⟨a, b, d⟩ | ⟨a, b, d⟩
    · exact Or.inl a
    · refine Or.inr (Or.inl ⟨a, b, Or.inl ?_⟩)
      rcases d with d | ⟨d, e⟩
      · unfold lm_mark
        have : lm_to w (lm_rest c w q) ≠ p := fun z => by rw [z, hp] at d; cases d
        rw [if_neg this]; exact d
      · have := Option.some.inj d
        unfold lm_mark; rw [if_pos this.symm, e]
    · refine Or.inr (Or.inr ⟨a, ?_, by simp; omega⟩)
      rw [lm_getD_l d]; exact b
  have new0 : ∀ (M : lm_O), 0 < M.length → s.2.length < (s.2 ++ M).length := fun M hM => by simp; omega
  by_cases e0 : (lm_rest c w p).1 = 0
  · rw [lm_lay_e e0]
    intro q n hq
    have hq : lm_mark s.1 p s.2.length q = some n := hq
    by_cases e : q = p
    · unfold lm_mark at hq
      rw [if_pos e] at hq
      have hn := Option.some.inj hq
      subst hn
      refine ⟨new0 _ (by simp), Or.inl ?_⟩
      show ((s.2 ++ [(1, w p)]).getD s.2.length (0, 0, 0)).1 = 1 ∧ _
      rw [lm_getD_r (Nat.le_refl _), e]; exact ⟨by simp, e0⟩
    · unfold lm_mark at hq
      rw [if_neg e] at hq
      exact old _ _ (by simp) q n e hq
  · by_cases e2 : (lm_rest c w p).1 = 2 ∧ lm_mark s.1 p s.2.length (lm_to w (lm_rest c w p)) = none
    · rw [lm_lay_n e2.1 e2.2]
      intro q n hq
      have hq : lm_mark s.1 p s.2.length q = some n := hq
      by_cases e : q = p
      · unfold lm_mark at hq
        rw [if_pos e] at hq
        have hn := Option.some.inj hq
        subst hn
        refine ⟨new0 _ (by simp), Or.inr (Or.inl ?_)⟩
        show ((s.2 ++ [(0, w p)]).getD s.2.length (0, 0, 0)).1 = 0 ∧ _ ∧ _
        rw [lm_getD_r (Nat.le_refl _), e]
        refine ⟨by simp, e2.1, Or.inr ⟨rfl, ?_⟩⟩
        show s.2.length + 1 = (s.2 ++ [(0, w p)]).length
        simp
      · unfold lm_mark at hq
        rw [if_neg e] at hq
        exact old _ _ (by simp) q n e hq
    · rw [lm_lay_p e0 e2]
      intro q n hq
      have hq : lm_mark s.1 p s.2.length q = some n := hq
      by_cases e : q = p
      · unfold lm_mark at hq
        rw [if_pos e] at hq
        have hn := Option.some.inj hq
        subst hn
        refine ⟨new0 _ (by simp), Or.inr (Or.inr ?_)⟩
        show ((s.2 ++ [(2, w p), (3, lm_rest c w p)]).getD s.2.length (0, 0, 0)).1 = 2 ∧ (s.2 ++ [(2, w p), (3, lm_rest c w p)]).getD (s.2.length + 1) (0, 0, 0) = (3, lm_rest c w q) ∧ s.2.length + 1 < (s.2 ++ [(2, w p), (3, lm_rest c w p)]).length
        rw [lm_getD_r (Nat.le_refl _), lm_getD_r (by omega), e]
        exact ⟨by simp, by simp, by simp⟩
      · unfold lm_mark at hq
        rw [if_neg e] at hq
        exact old _ _ (by simp) q n e hq
theorem lm_iso_spine {c : Nat → Nat} {w : Nat → lm_V} {u : Nat} {L : List Nat} (hw : lm_wf c w u) (hL : lm_gd c w u L) (hcl : ∀ p ∈ L, lm_cs c w L p) : ∀ (n : Nat) (s : lm_S) (D : List Nat) (k p : Nat), lm_I c w u L s D k (some p) → s.1 p = none → p ∈ L → 120 ≤ D.length + n → lm_iso c w s (some p) → lm_iso c w (lm_spine c w n s p) none := by
  intro n
  induction n with
  | zero =>
    intro s D k p h hp hpL hn _
    have := lm_I_lt hw hL h hp hpL
    omega
  | succ n ih =>
    intro s D k p h hp hpL hn hi
    obtain ⟨h1, h2⟩ := lm_lay_I hw hL hcl h hp hpL
    have h3 := lm_iso_lay hi hp
    unfold lm_spine
    cases e : (lm_lay c w s p).2 with
    | none => rw [e] at h3; exact h3
    | some q =>
      rw [e] at h1 h3
      obtain ⟨h4, h5⟩ := h2 q e
      exact ih _ _ _ q h1 h4 h5 (by simp; omega) h3
theorem lm_iso_phase {c : Nat → Nat} {w : Nat → lm_V} {u : Nat} {L : List Nat} {hd : Bool} {s : lm_S} (hw : lm_wf c w u) (hL : lm_gd c w u L) (hcl : ∀ p ∈ L, lm_cs c w L p) (h : ∃ D k, lm_I c w u L s D k none) (hi : lm_iso c w s none) : ∀ n, n ≤ L.length → lm_iso c w (lm_phase c w L hd s n) none := by
  intro n
  induction n with
  | zero => intro _; exact hi
  | succ n ih =>
    intro hn
    obtain ⟨D, k, hI⟩ := lm_phase_I (hd := hd) hw hL hcl h n (by omega)
    have h1 := ih (by omega)
    show lm_iso c w (lm_try c w L hd (lm_phase c w L hd s n) (L.getD n 0)) none
    unfold lm_try
    by_cases e : (lm_phase c w L hd s n).1 (L.getD n 0) = none ∧ ¬ (hd = true ∧ lm_isRb c w L (L.getD n 0) = true)
    · rw [if_pos e]
      refine lm_iso_spine hw hL hcl 120 _ D (k + 1) (L.getD n 0) (lm_I_open hI) e.1 (lm_getD_in (by omega)) (by omega) ?_
      intro p m hm
      obtain ⟨a, b⟩ := h1 p m hm
      refine ⟨a, ?_⟩
      rcases b with b | ⟨b1, b2, b3⟩ | b
      · exact Or.inl b
      · refine Or.inr (Or.inl ⟨b1, b2, Or.inl ?_⟩)
        rcases b3 with b3 | b3
        · exact b3
        · have := b3.1; cases this
      · exact Or.inr (Or.inr b)
    · rw [if_neg e]; exact h1
theorem lm_iso_laid {c : Nat → Nat} {w : Nat → lm_V} {u : Nat} {L : List Nat} (hw : lm_wf c w u) (hL : lm_gd c w u L) (hcl : ∀ p ∈ L, lm_cs c w L p) : lm_iso c w (lm_laid c w L) none := by
  unfold lm_laid
  have h0 : lm_iso c w (fun _ => none, []) none := fun p n h => by cases h
  exact lm_iso_phase hw hL hcl (lm_phase_I hw hL hcl lm_I_0 _ (Nat.le_refl _)) (lm_iso_phase hw hL hcl lm_I_0 h0 _ (Nat.le_refl _)) _ (Nat.le_refl _)
theorem lm_iso_rest {c : Nat → Nat} {w : Nat → lm_V} {u : Nat} {rt : Nat → lm_V} (h : lm_st c w u rt) {p n : Nat} (hp : p ∈ lm_list c w rt) (hn : (lm_laid c w (lm_list c w rt)).1 p = some n) : lm_rest (lm_gc c w rt) (lm_gw c w rt) n = lm_tr w (lm_laid c w (lm_list c w rt)).1 (lm_rest c w p) := by
  obtain ⟨hw, hr⟩ := h
  obtain ⟨hL, hroot, hcl⟩ := lm_list_spec hw hr
  have hok := lm_rest_ok hw (hL.2 p hp)
  obtain ⟨h1, h2⟩ := lm_iso_laid hw hL hcl p n hn
  rcases h2 with ⟨a, b⟩ | ⟨a, b, d⟩ | ⟨a, b, d⟩
  · rw [lm_rest_0 (show lm_gc c w rt n ≠ 0 by show ((lm_laid c w (lm_list c w rt)).2.getD n (0, 0, 0)).1 ≠ 0; omega) (show lm_gc c w rt n ≠ 2 by show ((lm_laid c w (lm_list c w rt)).2.getD n (0, 0, 0)).1 ≠ 2; omega), lm_tr_no (by omega)]
    rcases hok with z | z | z
    · exact (Prod.ext z.1 z.2).symm
    · omega
    · have := z.1; omega
  · rw [lm_rest_n (show lm_gc c w rt n = 0 from a)]
    have d := d.resolve_right (fun z => by have := z.1; cases this)
    unfold lm_tr
    rw [if_pos b, d]; rfl
  · rw [lm_rest_2 (show lm_gc c w rt n = 2 from a)]
    show lm_tr w _ ((lm_laid c w (lm_list c w rt)).2.getD (n + 1) (0, 0, 0)).2 = _
    rw [b]
theorem lm_isL_tr {c : Nat → Nat} {w : Nat → lm_V} {u : Nat} {rt : Nat → lm_V} (h : lm_st c w u rt) : ∀ (k : Nat) (v : lm_V), lm_ok c u v → (v.1 = 2 → lm_to w v ∈ lm_list c w rt) → lm_isL c w k v → lm_isL (lm_gc c w rt) (lm_gw c w rt) k (lm_tr w (lm_laid c w (lm_list c w rt)).1 v) := by
  intro k
  induction k with
  | zero => intro v _ _ _; trivial
  | succ k ih =>
    intro v hv hin hl
    have hl : v.1 = 2 ∧ lm_isL c w k (lm_rest c w (lm_to w v)) := hl
    have hst := lm_gather_st h
    obtain ⟨hw, hr⟩ := id h
    obtain ⟨hL, hroot, hcl⟩ := lm_list_spec hw hr
    obtain ⟨l1, -, -, -⟩ := lm_laid_spec hw hL hcl
    have hp := hin hl.1
    obtain ⟨n, a1, a2, a3⟩ := l1 _ hp
    have htr : lm_tr w (lm_laid c w (lm_list c w rt)).1 v = (2, ((n : Nat) : Int)) := by unfold lm_tr; rw [if_pos hl.1, a1]; rfl
    rw [htr]
    have hto : lm_to (lm_gw c w rt) (2, ((n : Nat) : Int)) = n := by
      rw [lm_to_q (q := n) rfl]
      have := hst.2.2 n a2
      exact lm_cell_n (by omega)
    refine ⟨rfl, ?_⟩
    show lm_isL (lm_gc c w rt) (lm_gw c w rt) k (lm_rest (lm_gc c w rt) (lm_gw c w rt) (lm_to (lm_gw c w rt) (2, ((n : Nat) : Int))))
    rw [hto, lm_iso_rest h hp a1]
    have hcp := hL.2 _ hp
    exact ih _ (lm_rest_ok hw hcp) (hcl _ hp).2 hl.2
theorem lm_isL_rm {c c1 : Nat → Nat} {w w1 : Nat → lm_V} {u u1 : Nat} {rt rt1 : Nat → lm_V} {z z1 : Int32} {n k r : Nat} (hs : lm_st c w u rt) (h : lm_rm n (c, w, u, rt, z) = (c1, w1, u1, rt1, z1)) (hr : r < 10) (hl : lm_isL c w k (rt r)) : lm_isL c1 w1 k (rt1 r) := by
  unfold lm_rm at h
  split at h
  · cases h; exact hl
  · cases h
    exact lm_isL_tr hs k (rt r) (hs.2 r hr) ((lm_list_spec hs.1 hs.2).2.1 r hr) hl
theorem lm_len_L {c : Nat → Nat} {w : Nat → lm_V} : ∀ (f n : Nat) (v : lm_V), ¬ lm_len c w f n v < 0 → ∃ k, lm_len c w f n v = ((n + k : Nat) : Int) ∧ k < f ∧ lm_isL c w k v := by
  intro f
  induction f with
  | zero => intro n v h; exact absurd (show (-2 : Int) < 0 by decide) h
  | succ f ih =>
    intro n v h
    by_cases h2 : v.1 = 2
    · rw [lm_len_2 h2] at h ⊢
      obtain ⟨k, a, b, d⟩ := ih _ _ h
      exact ⟨k + 1, by rw [a]; congr 1; omega, by omega, h2, d⟩
    · by_cases h0 : v.1 = 0
      · rw [lm_len_0 h0]; exact ⟨0, rfl, by omega, trivial⟩
      · rw [lm_len_1 h2 h0] at h; exact absurd (show (-1 : Int) < 0 by decide) h
theorem lm_an_len {c : Nat → Nat} {w : Nat → lm_V} : ∀ (n : Nat) (v ed : lm_V), (lm_apM c w (n + 1) v ed).length = lm_an (n + 1) ed := by
  intro n
  induction n with
  | zero =>
    intro v ed
    unfold lm_an
    by_cases h : ed.1 = 0
    · rw [lm_apM_1n h, if_pos h]; rfl
    · rw [lm_apM_1p h, if_neg h]; rfl
  | succ n ih =>
    intro v ed
    rw [lm_apM_2, List.length_cons, ih]
    unfold lm_an; omega
