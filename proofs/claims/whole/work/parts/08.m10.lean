/-! The questions' answers, unfolded -/
theorem lm_same_np {w : Nat → lm_V} {a b : lm_V} (h : ¬ (a.1 = 2 ∧ b.1 = 2)) : lm_same w a b = decide (a = b) := by
  unfold lm_same; rw [if_neg h]
theorem lm_same_p {w : Nat → lm_V} {a b : lm_V} (h1 : a.1 = 2) (h2 : b.1 = 2) : lm_same w a b = decide (lm_to w a = lm_to w b) := by
  unfold lm_same; rw [if_pos ⟨h1, h2⟩]
theorem lm_len_2 {c : Nat → Nat} {w : Nat → lm_V} {f n : Nat} {v : lm_V} (h : v.1 = 2) : lm_len c w (f + 1) n v = lm_len c w f (n + 1) (lm_rest c w (lm_to w v)) := by
  rw [lm_len, if_pos h]
theorem lm_len_0 {c : Nat → Nat} {w : Nat → lm_V} {f n : Nat} {v : lm_V} (h : v.1 = 0) : lm_len c w (f + 1) n v = (n : Int) := by
  rw [lm_len, if_neg (by omega), if_pos h]
theorem lm_len_1 {c : Nat → Nat} {w : Nat → lm_V} {f n : Nat} {v : lm_V} (h : v.1 ≠ 2) (h0 : v.1 ≠ 0) : lm_len c w (f + 1) n v = -1 := by
  rw [lm_len, if_neg h, if_neg h0]
theorem lm_wds_no {c : Nat → Nat} {w : Nat → lm_V} {f n : Nat} {S : List Nat} {v : lm_V} (h : v.1 ≠ 2) : lm_wds c w (f + 1) S v n = n := by
  rw [lm_wds, if_neg (fun z => h z.1)]
theorem lm_wds_old {c : Nat → Nat} {w : Nat → lm_V} {f n : Nat} {S : List Nat} {v : lm_V} (_ : v.1 = 2) (hs : lm_to w v ∈ S) : lm_wds c w (f + 1) S v n = n := by
  rw [lm_wds, if_neg (fun z => z.2 hs)]
theorem lm_wds_new {c : Nat → Nat} {w : Nat → lm_V} {f n : Nat} {S : List Nat} {v : lm_V} (h : v.1 = 2) (hs : lm_to w v ∉ S) : lm_wds c w (f + 1) S v n = lm_wds c w f (lm_to w v :: S) (lm_rest c w (lm_to w v)) (n + (if c (lm_to w v) = 2 then 2 else 1) + (if lm_to w v = v.2.toNat then 0 else 1)) := by
  rw [lm_wds, if_pos ⟨h, hs⟩]
theorem lm_up_mem {fc : Nat → Int32} {S : List Nat} {x : Nat} (h : ∀ p, p < 120 → fc p = nI (if p ∈ S then 1 else 0)) : ∀ p, p < 120 → lm_up fc x (nI 1) p = nI (if p ∈ x :: S then 1 else 0) := by
  intro p hp
  by_cases e : p = x
  · rw [e, lm_up_eq]; simp
  · rw [lm_up_ne e, h p hp]; simp [e]
def lm_ab (w : Nat → lm_V) (u : Nat) (z : Int32) (what : Int32) : Int32 := if what.toInt = 0 then nI u else if what.toInt = 1 then nI (lm_cnt w u) else if what.toInt = 2 then z else -1
theorem lm_ab_0 {w : Nat → lm_V} {u : Nat} {z what : Int32} (h : what.toInt = 0) : lm_ab w u z what = nI u := by
  unfold lm_ab; rw [if_pos h]
theorem lm_ab_1 {w : Nat → lm_V} {u : Nat} {z what : Int32} (h : what.toInt = 1) : lm_ab w u z what = nI (lm_cnt w u) := by
  unfold lm_ab; rw [if_neg (by omega), if_pos h]
theorem lm_ab_2 {w : Nat → lm_V} {u : Nat} {z what : Int32} (h : what.toInt = 2) : lm_ab w u z what = z := by
  unfold lm_ab; rw [if_neg (by omega), if_neg (by omega), if_pos h]
theorem lm_ab_o {w : Nat → lm_V} {u : Nat} {z what : Int32} (h : what.toInt < 0 ∨ 2 < what.toInt) : lm_ab w u z what = -1 := by
  unfold lm_ab; rw [if_neg (by omega), if_neg (by omega), if_neg (by omega)]
