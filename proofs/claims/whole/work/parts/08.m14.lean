/-! append: the words that are taken -/
def lm_isL (c : Nat → Nat) (w : Nat → lm_V) : Nat → lm_V → Prop
  | 0, _ => True
  | n + 1, v => v.1 = 2 ∧ lm_isL c w n (lm_rest c w (lm_to w v))
def lm_apM (c : Nat → Nat) (w : Nat → lm_V) : Nat → lm_V → lm_V → lm_O
  | 0, _, _ => []
  | n + 1, v, ed => if n = 0 then (if ed.1 = 0 then [(1, w (lm_to w v))] else [(2, w (lm_to w v)), (3, ed)]) else (0, w (lm_to w v)) :: lm_apM c w n (lm_rest c w (lm_to w v)) ed
theorem lm_apM_1n {c : Nat → Nat} {w : Nat → lm_V} {v ed : lm_V} (h : ed.1 = 0) : lm_apM c w (0 + 1) v ed = [(1, w (lm_to w v))] := by
  rw [lm_apM, if_pos rfl, if_pos h]
theorem lm_apM_1p {c : Nat → Nat} {w : Nat → lm_V} {v ed : lm_V} (h : ed.1 ≠ 0) : lm_apM c w (0 + 1) v ed = [(2, w (lm_to w v)), (3, ed)] := by
  rw [lm_apM, if_pos rfl, if_neg h]
theorem lm_apM_2 {c : Nat → Nat} {w : Nat → lm_V} {n : Nat} {v ed : lm_V} : lm_apM c w (n + 1 + 1) v ed = (0, w (lm_to w v)) :: lm_apM c w (n + 1) (lm_rest c w (lm_to w v)) ed := by
  rw [lm_apM, if_neg (by omega)]
theorem lm_apM_pos (c : Nat → Nat) (w : Nat → lm_V) (n : Nat) (v ed : lm_V) : 0 < (lm_apM c w (n + 1) v ed).length := by
  rw [lm_apM]
  split
  · split <;> simp
  · simp
theorem lm_hf_low {f : Nat → Int32} {g : Nat → Int64} {c : Nat → Nat} {w : Nat → lm_V} {u n : Nat} {M : lm_O} (h : lm_hf f g (lm_ac c u M) (lm_aw w u M) (u + n)) : lm_hf f g c w u := by
  intro p hp
  have := h p (by omega)
  unfold lm_ac lm_aw at this
  rw [if_pos hp, if_pos hp] at this
  exact this
theorem lm_hf_0 {f : Nat → Int32} {g : Nat → Int64} {c : Nat → Nat} {w : Nat → lm_V} {u : Nat} (h : lm_hf f g c w u) : lm_hf f g (lm_ac c u []) (lm_aw w u []) (u + 0) := by
  intro p hp
  unfold lm_ac lm_aw
  rw [if_pos (by omega), if_pos (by omega)]; exact h p (by omega)
theorem lm_hf_app {f : Nat → Int32} {g : Nat → Int64} {c : Nat → Nat} {w : Nat → lm_V} {u n k : Nat} {x : lm_V} {M : lm_O} (h : lm_hf f g (lm_ac c u M) (lm_aw w u M) (u + n)) (hM : M.length = n) : lm_hf (lm_up f (u + n) (nI k)) (lm_up g (u + n) (en x)) (lm_ac c u (M ++ [(k, x)])) (lm_aw w u (M ++ [(k, x)])) (u + n + 1) := by
  intro p hp
  unfold lm_ac lm_aw
  by_cases e : p = u + n
  · rw [e, lm_up_eq, lm_up_eq, if_neg (by omega), if_neg (by omega), Nat.add_sub_cancel_left, ← hM, lm_getD_r (Nat.le_refl _)]
    simp
  · rw [lm_up_ne e, lm_up_ne e]
    have h1 := h p (by omega)
    unfold lm_ac lm_aw at h1
    by_cases e2 : p < u
    · rw [if_pos e2, if_pos e2] at h1 ⊢; exact h1
    · rw [if_neg e2, if_neg e2] at h1 ⊢
      rw [lm_getD_l (by omega)]; exact h1
theorem lm_hf_app2 {f : Nat → Int32} {g : Nat → Int64} {c : Nat → Nat} {w : Nat → lm_V} {u n k k2 : Nat} {x x2 : lm_V} {M : lm_O} (h : lm_hf f g (lm_ac c u M) (lm_aw w u M) (u + n)) (hM : M.length = n) : lm_hf (lm_up (lm_up f (u + n) (nI k)) (u + n + 1) (nI k2)) (lm_up (lm_up g (u + n) (en x)) (u + n + 1) (en x2)) (lm_ac c u (M ++ [(k, x), (k2, x2)])) (lm_aw w u (M ++ [(k, x), (k2, x2)])) (u + n + 1 + 1) := by
  have h1 := lm_hf_app (k := k) (x := x) h hM
  have h2 := lm_hf_app (n := n + 1) (k := k2) (x := x2) (M := M ++ [(k, x)]) h1 (by simp [hM])
  rw [List.append_assoc] at h2
  exact h2
theorem lm_hf_le {f : Nat → Int32} {g : Nat → Int64} {c : Nat → Nat} {w : Nat → lm_V} {u n : Nat} {M : lm_O} (h : lm_hf f g (lm_ac c u M) (lm_aw w u M) n) (hn : u ≤ n) : lm_hf f g c w u := by
  obtain ⟨k, rfl⟩ : ∃ k, n = u + k := ⟨n - u, by omega⟩
  exact lm_hf_low h
