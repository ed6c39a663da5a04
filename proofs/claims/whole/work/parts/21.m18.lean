/-! list: its run of roots; a collection keeps the roots' kinds -/
theorem lm_lb_m {n : Int32} (h1 : ¬ n < nI 1) (h2 : ¬ nI 10 < n) : ∃ m : Nat, n = nI m ∧ 1 ≤ m ∧ m ≤ 10 := by
  rw [Int32.lt_iff_toInt_lt, nI_toInt (by omega)] at h1 h2
  refine ⟨n.toInt.toNat, ?_, by omega, by omega⟩
  apply Int32.toInt_inj.1
  rw [nI_toInt (by omega)]
  omega
theorem lm_lb_t {j m : Nat} (hj : j < 2 ^ 31) (hm : m < 2 ^ 31) (h1 : 1 ≤ m) (h2 : m ≤ 10) (h : lm_lb (nI j) (nI m) = true) : 10 < j + m := by
  unfold lm_lb at h
  have h := of_decide_eq_true h
  rw [nI_toInt hj, nI_toInt hm] at h
  omega
theorem lm_lb_f {j : Nat} {n : Int32} (hj : j < 2 ^ 31) (h : lm_lb (nI j) n = false) : ∃ m : Nat, n = nI m ∧ 1 ≤ m ∧ m ≤ 10 ∧ j + m ≤ 10 := by
  unfold lm_lb at h
  have h := of_decide_eq_false h
  rw [nI_toInt hj] at h
  refine ⟨n.toInt.toNat, ?_, by omega, by omega, by omega⟩
  apply Int32.toInt_inj.1
  rw [nI_toInt (by omega)]
  omega
theorem lm_ix_n10 {m : Nat} (h : m ≤ 10) : lm_ix (nI m) = m := by
  unfold lm_ix; rw [nI_toInt (by omega)]; exact Int.toNat_natCast m
theorem lm_lsM_2 {rt : Nat → lm_V} {f n : Nat} (h : n ≠ 0) : lm_lsM rt f (n + 1) = (0, rt f) :: lm_lsM rt (f + 1) n := by
  rw [lm_lsM, if_neg h]
theorem lm_rm_k {c c1 : Nat → Nat} {w w1 : Nat → lm_V} {u u1 : Nat} {rt rt1 : Nat → lm_V} {z z1 : Int32} {n k : Nat} (h : lm_rm n (c, w, u, rt, z) = (c1, w1, u1, rt1, z1)) (h2 : (rt k).1 = 2) : (rt1 k).1 = 2 := by
  unfold lm_rm at h
  split at h
  · cases h; exact h2
  · cases h
    show (lm_gr c w rt k).1 = 2
    rw [lm_gr_k]; exact h2
