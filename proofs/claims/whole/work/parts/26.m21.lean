theorem lm_cell_ne {c : Nat → Nat} {w : Nat → lm_V} {u q : Nat} (hw : lm_wf c w u) (hq : q < u) (h : (w q).1 = 3) : ¬ lm_cell w q = q := by
  rcases hw.2.2.2.2.2.1 q hq with a | a
  · have := lm_ok_kind a; omega
  · obtain ⟨-, -, r, hr, h4, -⟩ := a
    unfold lm_cell; rw [if_pos h, hr]; simp only [Int.toNat_natCast]; omega
