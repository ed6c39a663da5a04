/-! a number's range -/
theorem lm_rg_1 {x : Int64} (h : x < jI (-288230376151711744)) : lm_rg x = true := by
  rw [Int64.lt_iff_toInt_lt, jI_int (by omega)] at h
  unfold lm_rg; simp; omega
theorem lm_rg_2 {x : Int64} (h : jI 288230376151711743 < x) : lm_rg x = true := by
  rw [Int64.lt_iff_toInt_lt, jI_int (by omega)] at h
  unfold lm_rg; simp; omega
theorem lm_rg_3 {x : Int64} (h : ¬ x < jI (-288230376151711744)) (h2 : ¬ jI 288230376151711743 < x) : lm_rg x = false := by
  rw [Int64.lt_iff_toInt_lt, jI_int (by omega)] at h h2
  unfold lm_rg; simp; omega
