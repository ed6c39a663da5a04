/-! What a half's arrays hold, and what its questions answer -/
def lm_hf (f : Nat → Int32) (g : Nat → Int64) (c : Nat → Nat) (w : Nat → lm_V) (u : Nat) : Prop := ∀ p, p < u → f p = nI (c p) ∧ g p = en (w p)
abbrev rk (d : Nat) : Room := { frames := d, cells := 0, slots := 0, locals := 36 * d }
theorem lm_k4 {c : Nat → Nat} {w : Nat → lm_V} {u p : Nat} (hw : lm_wf c w u) (hp : p < u) : (w p).1 < 4 := by
  rcases hw.2.2.2.2.2.1 p hp with h | h
  · have := lm_ok_kind h; omega
  · have := h.1; omega
theorem lm_in_of {c : Nat → Nat} {w : Nat → lm_V} {u p : Nat} (hw : lm_wf c w u) (hp : p < u) : en_in (w p) := by
  rcases hw.2.2.2.2.2.1 p hp with h | h
  · exact en_of hw.1 h
  · obtain ⟨h1, -, q, h2, -, h3, -⟩ := h
    have := hw.1
    exact ⟨by omega, by omega, by omega⟩
theorem lm_cellOf_facts {c : Nat → Nat} {w : Nat → lm_V} {u : Nat} {v : lm_V} (hw : lm_wf c w u) (hv : lm_ok c u v) (hk : v.1 = 2) : ∃ q : Nat, v.2 = (q : Int) ∧ q < u ∧ (w q).1 < 4 ∧ en_in v ∧ en_in (w q) ∧ ((w q).1 = 3 → ∃ r : Nat, (w q).2 = (r : Int) ∧ r < 120 ∧ lm_to w v = r) ∧ ((w q).1 ≠ 3 → lm_to w v = q) := by
  have hiv := en_of hw.1 hv
  rcases hv with h1 | h1 | ⟨-, q, h1, h2, h3⟩
  · omega
  · omega
  · refine ⟨q, h1, h2, lm_k4 hw h2, hiv, lm_in_of hw h2, fun h => ?_, fun h => ?_⟩
    · rcases hw.2.2.2.2.2.1 q h2 with a | a
      · have := lm_ok_kind a; omega
      · obtain ⟨-, -, r, hr, -, h5, -⟩ := a
        have := hw.1
        refine ⟨r, hr, by omega, ?_⟩
        unfold lm_to lm_cell
        rw [h1]
        simp only [Int.toNat_natCast]
        rw [if_pos h, hr]
        simp only [Int.toNat_natCast]
    · unfold lm_to lm_cell
      rw [h1]
      simp only [Int.toNat_natCast]
      rw [if_neg h]
theorem lm_rest_n {c : Nat → Nat} {w : Nat → lm_V} {p : Nat} (h : c p = 0) : lm_rest c w p = (2, ((p + 1 : Nat) : Int)) := if_pos h
theorem lm_rest_2 {c : Nat → Nat} {w : Nat → lm_V} {p : Nat} (h : c p = 2) : lm_rest c w p = w (p + 1) := by
  unfold lm_rest; rw [if_neg (by omega), if_pos h]
theorem lm_rest_0 {c : Nat → Nat} {w : Nat → lm_V} {p : Nat} (h0 : c p ≠ 0) (h2 : c p ≠ 2) : lm_rest c w p = (0, 0) := by
  unfold lm_rest; rw [if_neg h0, if_neg h2]
theorem en_0j : en (0, 0) = jI 0 := by decide +kernel
def lm_cnt (w : Nat → lm_V) : Nat → Nat
  | 0 => 0
  | n + 1 => lm_cnt w n + (if (w n).1 = 3 then 1 else 0)
theorem lm_cnt_le (w : Nat → lm_V) : ∀ n, lm_cnt w n ≤ n := by
  intro n
  induction n with
  | zero => exact Nat.le_refl _
  | succ n ih => unfold lm_cnt; split <;> omega
theorem lm_us1 {p : Int32} {u : Nat} (h : p < 0) : decide (0 ≤ p.toInt ∧ p.toInt < (u : Int)) = false := by
  rw [Int32.lt_iff_toInt_lt, Int32.toInt_zero] at h
  simp; omega
theorem lm_us2 {p : Int32} {u : Nat} (hu : u < 2 ^ 31) (h : nI u ≤ p) : decide (0 ≤ p.toInt ∧ p.toInt < (u : Int)) = false := by
  rw [Int32.le_iff_toInt_le, nI_toInt hu] at h
  simp; omega
theorem lm_us3 {p : Int32} {u : Nat} (hu : u < 2 ^ 31) (h0 : ¬ p < 0) (h : ¬ nI u ≤ p) : decide (0 ≤ p.toInt ∧ p.toInt < (u : Int)) = true := by
  rw [Int32.lt_iff_toInt_lt, Int32.toInt_zero] at h0
  rw [Int32.le_iff_toInt_le, nI_toInt hu] at h
  simp; omega
