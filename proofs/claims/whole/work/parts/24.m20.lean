/-! append as the reference does it; words; alike -/
def lm_apK (c : Nat → Nat) (w : Nat → lm_V) (nil : Bool) : Nat → lm_V → lm_O
  | 0, _ => []
  | n + 1, v => ((if n = 0 then (if nil = true then 1 else 2) else 0), w (lm_to w v)) :: lm_apK c w nil n (lm_rest c w (lm_to w v))
theorem lm_apK_M {c : Nat → Nat} {w : Nat → lm_V} {ed : lm_V} : ∀ (n : Nat) (v : lm_V), lm_apM c w (n + 1) v ed = lm_apK c w (decide (ed.1 = 0)) (n + 1) v ++ (if ed.1 = 0 then [] else [(3, ed)]) := by
  intro n
  induction n with
  | zero =>
    intro v
    by_cases h : ed.1 = 0
    · rw [lm_apM_1n h, if_pos h]; simp [lm_apK, h]
    · rw [lm_apM_1p h, if_neg h]; simp [lm_apK, h]
  | succ n ih =>
    intro v
    rw [lm_apM_2, ih]
    rw [show lm_apK c w (decide (ed.1 = 0)) (n + 1 + 1) v = ((if n + 1 = 0 then (if decide (ed.1 = 0) = true then 1 else 2) else 0), w (lm_to w v)) :: lm_apK c w (decide (ed.1 = 0)) (n + 1) (lm_rest c w (lm_to w v)) from rfl, if_neg (show ¬ n + 1 = 0 by omega)]
    rfl
theorem lm_apK_len {c : Nat → Nat} {w : Nat → lm_V} {nil : Bool} : ∀ (n : Nat) (v : lm_V), (lm_apK c w nil n v).length = n := by
  intro n
  induction n with
  | zero => intro v; rfl
  | succ n ih => intro v; show (lm_apK c w nil n (lm_rest c w (lm_to w v))).length + 1 = n + 1; rw [ih]
theorem lm_rm_k2 {c c1 : Nat → Nat} {w w1 : Nat → lm_V} {u u1 : Nat} {rt rt1 : Nat → lm_V} {z z1 : Int32} {n k : Nat} (h : lm_rm n (c, w, u, rt, z) = (c1, w1, u1, rt1, z1)) : (rt1 k).1 = (rt k).1 := by
  unfold lm_rm at h
  split at h
  · cases h; rfl
  · cases h
    show (lm_gr c w rt k).1 = _
    rw [lm_gr_k]
theorem lm_len_neg {x : Int} (h : x < 0) (h2 : -2 ≤ x) : ¬ (0 : Int32) ≤ Int32.ofInt x := by
  rw [Int32.le_iff_toInt_le, Int32.toInt_zero, Int32.toInt_ofInt_of_le (by omega) (by omega)]
  omega
theorem lm_len_ge {c : Nat → Nat} {w : Nat → lm_V} : ∀ (f n : Nat) (v : lm_V), -2 ≤ lm_len c w f n v := by
  intro f
  induction f with
  | zero => intro n v; exact Int.le_refl _
  | succ f ih =>
    intro n v
    rw [lm_len]
    split
    · exact ih _ _
    · split
      · omega
      · decide
theorem lm_gd_cons {c : Nat → Nat} {w : Nat → lm_V} {u x : Nat} {L : List Nat} (h : lm_gd c w u L) (hx : lm_cl c w u x) (hn : x ∉ L) : lm_gd c w u (x :: L) := by
  refine ⟨List.nodup_cons.mpr ⟨hn, h.1⟩, fun p hp => ?_⟩
  rcases List.mem_cons.mp hp with e | e
  · rw [e]; exact hx
  · exact h.2 p e
theorem lm_ms_b {fo ba wa : Nat → Int32} {m : lm_M} {wa1 : Nat → Int32} (h : lm_ms fo ba wa m) (h2 : ∀ j, j < m.2.2.length → wa1 j = nI (m.2.2.getD j 0)) : lm_ms fo ba wa1 m := ⟨h.1, h.2.1, h2⟩
theorem lm_fit_npz {c : Nat → Nat} {w : Nat → lm_V} {u : Nat} {m : lm_M} {a b : lm_V} (ha : lm_ok c u a) (hb : lm_ok c u b) (h : ¬ (a.1 = 2 ∧ b.1 = 2)) (h1 : a.1 = b.1) (h0 : a.1 = 0) : lm_fit w m a b = (m, true) := by
  rw [lm_fit_np h]
  have := lm_same_z (w := w) ha hb h1 h0
  rw [lm_same_np (by omega)] at this
  rw [this]
theorem lm_fit_npe {w : Nat → lm_V} {m : lm_M} {a b : lm_V} (h : ¬ (a.1 = 2 ∧ b.1 = 2)) (h1 : a.1 = b.1) (h2 : a.2 = b.2) : lm_fit w m a b = (m, true) := by
  rw [lm_fit_np h, decide_eq_true (Prod.ext h1 h2)]
theorem lm_fit_npn {w : Nat → lm_V} {m : lm_M} {a b : lm_V} (h : ¬ (a.1 = 2 ∧ b.1 = 2)) (h1 : a ≠ b) : lm_fit w m a b = (m, false) := by
  rw [lm_fit_np h, decide_eq_false h1]
theorem lm_ok_eq {c : Nat → Nat} {u : Nat} {a b : lm_V} (hu : u ≤ 120) (ha : lm_ok c u a) (hb : lm_ok c u b) : jI a.2 = jI b.2 ↔ a.2 = b.2 := by
  obtain ⟨-, x1, x2⟩ := en_of hu ha
  obtain ⟨-, y1, y2⟩ := en_of hu hb
  exact jI_eq (by omega) (by omega)
