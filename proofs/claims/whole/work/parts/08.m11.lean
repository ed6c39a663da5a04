/-! What the reference's arrays hold -/
def lm_mf (cd kd : Nat → Int32) (ct : Nat → Int64) (c : Nat → Nat) (w : Nat → lm_V) (u : Nat) : Prop := ∀ p, p < u → cd p = nI (c p) ∧ kd p = nI (w p).1 ∧ ct p = jI (w p).2
def lm_rf (a b : Bool) : Nat := if a = true then 1 else if b = true then 2 else 0
def lm_none (r : Int32) : Bool := decide (r.toInt < 0 ∨ 9 < r.toInt)
theorem lm_none_1 {r : Int32} (h : r < 0) : lm_none r = true := by
  rw [Int32.lt_iff_toInt_lt, Int32.toInt_zero] at h
  unfold lm_none; simp; omega
theorem lm_none_2 {r : Int32} (h : ¬ r ≤ nI 9) : lm_none r = true := by
  rw [Int32.le_iff_toInt_le, nI_toInt (by omega)] at h
  unfold lm_none; simp; omega
theorem lm_none_3 {r : Int32} (h : ¬ r < 0) (h2 : r ≤ nI 9) : lm_none r = false := by
  rw [Int32.lt_iff_toInt_lt, Int32.toInt_zero] at h
  rw [Int32.le_iff_toInt_le, nI_toInt (by omega)] at h2
  unfold lm_none; simp; omega
theorem lm_cell_n {w : Nat → lm_V} {q : Nat} (h : (w q).1 ≠ 3) : lm_cell w q = q := by
  unfold lm_cell; rw [if_neg h]
theorem lm_cell_m {c : Nat → Nat} {w : Nat → lm_V} {u q : Nat} (hw : lm_wf c w u) (hq : q < u) (h : (w q).1 = 3) : ∃ r : Nat, (w q).2 = (r : Int) ∧ lm_cell w q = r := by
  rcases hw.2.2.2.2.2.1 q hq with a | a
  · have := lm_ok_kind a; omega
  · obtain ⟨-, -, r, hr, -⟩ := a
    refine ⟨r, hr, ?_⟩
    unfold lm_cell; rw [if_pos h, hr]; simp only [Int.toNat_natCast]
theorem lm_ok_p {c : Nat → Nat} {u : Nat} {v : lm_V} (h : lm_ok c u v) (h2 : v.1 = 2) : ∃ q : Nat, v.2 = (q : Int) ∧ q < u ∧ c q ≠ 3 := by
  rcases h with a | a | ⟨-, q, a⟩
  · omega
  · omega
  · exact ⟨q, a⟩
theorem lm_to_q {w : Nat → lm_V} {v : lm_V} {q : Nat} (h : v.2 = (q : Int)) : lm_to w v = lm_cell w q := by
  unfold lm_to; rw [h]; simp only [Int.toNat_natCast]
theorem lm_same_k {w : Nat → lm_V} {a b : lm_V} (h : a.1 ≠ b.1) : lm_same w a b = false := by
  unfold lm_same
  by_cases e : a.1 = 2 ∧ b.1 = 2
  · omega
  · rw [if_neg e]
    exact decide_eq_false (fun z => h (by rw [z]))
theorem lm_same_z {c : Nat → Nat} {w : Nat → lm_V} {u : Nat} {a b : lm_V} (ha : lm_ok c u a) (hb : lm_ok c u b) (h : a.1 = b.1) (h0 : a.1 = 0) : lm_same w a b = true := by
  rw [lm_same_np (by omega)]
  refine decide_eq_true ?_
  rcases ha with a1 | a1 | a1
  · rcases hb with b1 | b1 | b1
    · exact Prod.ext h (by rw [a1.2, b1.2])
    · omega
    · have := b1.1; omega
  · omega
  · have := a1.1; omega
theorem lm_same_e1 {c : Nat → Nat} {w : Nat → lm_V} {u : Nat} {a b : lm_V} (hw : lm_wf c w u) (ha : lm_ok c u a) (hb : lm_ok c u b) (h1 : a.1 = 1) (h2 : b.1 = 1) (he : jI a.2 ≠ jI b.2) : lm_same w a b = false := by
  rw [lm_same_np (by omega)]
  exact decide_eq_false (fun z => he (by rw [z]))
theorem lm_same_e2 {c : Nat → Nat} {w : Nat → lm_V} {u : Nat} {a b : lm_V} (hw : lm_wf c w u) (ha : lm_ok c u a) (hb : lm_ok c u b) (h1 : a.1 = 1) (h2 : b.1 = 1) (he : jI a.2 = jI b.2) : lm_same w a b = true := by
  rw [lm_same_np (by omega)]
  have e1 := en_of hw.1 ha
  have e2 := en_of hw.1 hb
  obtain ⟨-, x1, x2⟩ := e1
  obtain ⟨-, y1, y2⟩ := e2
  have := (jI_eq (by omega) (by omega)).mp he
  exact decide_eq_true (Prod.ext (by rw [h1, h2]) this)
theorem lm_notin {L : List Nat} {x : Nat} (h : ∀ j, j < L.length → L.getD j 0 ≠ x) : x ∉ L := by
  intro hx
  obtain ⟨i, hi, e⟩ := lm_mem_getD hx
  exact h i hi e
theorem lm_l1_new {fl : Nat → Int32} {L : List Nat} {x : Nat} (h : ∀ j, j < L.length → fl j = nI (L.getD j 0)) : ∀ j, j < (L ++ [x]).length → lm_up fl L.length (nI x) j = nI ((L ++ [x]).getD j 0) := by
  intro j hj
  by_cases e : j = L.length
  · rw [e, lm_up_eq, lm_getD_last]
  · have : j < L.length := by simp at hj; omega
    rw [lm_up_ne e, lm_getD_app this]; exact h j this
theorem lm_ne_s {L : List Nat} {x i : Nat} (h : ∀ j, j < i → L.getD j 0 ≠ x) (h2 : L.getD i 0 ≠ x) : ∀ j, j < i + 1 → L.getD j 0 ≠ x := by
  intro j hj
  by_cases e : j = i
  · rw [e]; exact h2
  · exact h j (by omega)
