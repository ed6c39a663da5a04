/-! The reference's collection -/
theorem lm_tr_k (w : Nat → lm_V) (lay : Nat → Option Nat) (v : lm_V) : (lm_tr w lay v).1 = v.1 := by
  unfold lm_tr
  by_cases h : v.1 = 2
  · rw [if_pos h]; exact h.symm
  · rw [if_neg h]
theorem lm_gr_k (c : Nat → Nat) (w rt : Nat → lm_V) (r : Nat) : (lm_gr c w rt r).1 = (rt r).1 := lm_tr_k _ _ _
theorem lm_gw_k (c : Nat → Nat) (w rt : Nat → lm_V) (j : Nat) : (lm_gw c w rt j).1 = ((lm_laid c w (lm_list c w rt)).2.getD j (0, 0, 0)).2.1 := lm_tr_k _ _ _
theorem lm_gr_no {c : Nat → Nat} {w rt : Nat → lm_V} {r : Nat} (h : (rt r).1 ≠ 2) : lm_gr c w rt r = rt r := lm_tr_no h
theorem lm_gw_no {c : Nat → Nat} {w rt : Nat → lm_V} {j : Nat} (h : ((lm_laid c w (lm_list c w rt)).2.getD j (0, 0, 0)).2.1 ≠ 2) : lm_gw c w rt j = ((lm_laid c w (lm_list c w rt)).2.getD j (0, 0, 0)).2 := lm_tr_no h
theorem lm_tr_facts {c : Nat → Nat} {w : Nat → lm_V} {u : Nat} {lay : Nat → Option Nat} {v : lm_V} (hw : lm_wf c w u) (hv : lm_ok c u v) (h2 : v.1 = 2) (h : ∃ n, lay (lm_to w v) = some n ∧ n < 2 ^ 31) : ∃ q n : Nat, v.2 = (q : Int) ∧ q < u ∧ c q ≠ 3 ∧ lm_cell w q < 120 ∧ lay (lm_cell w q) = some n ∧ n < 2 ^ 31 ∧ (lm_tr w lay v).2 = (n : Int) := by
  obtain ⟨q, a, b, d⟩ := lm_ok_p hv h2
  obtain ⟨n, h3, h4⟩ := h
  have ht := lm_to_q (w := w) a
  have hc := (lm_cell_cl hw b d).1
  have hu := hw.1
  refine ⟨q, n, a, b, d, by omega, by rw [← ht]; exact h3, h4, ?_⟩
  unfold lm_tr; rw [if_pos h2, h3]; rfl
theorem lm_mf_s {cd kd : Nat → Int32} {ct : Nat → Int64} {c : Nat → Nat} {w : Nat → lm_V} {i : Nat} (h : lm_mf cd kd ct c w i) : lm_mf (lm_up cd i (nI (c i))) (lm_up kd i (nI (w i).1)) (lm_up ct i (jI (w i).2)) c w (i + 1) := by
  intro p hp
  by_cases e : p = i
  · rw [e, lm_up_eq, lm_up_eq, lm_up_eq]; exact ⟨rfl, rfl, rfl⟩
  · rw [lm_up_ne e, lm_up_ne e, lm_up_ne e]; exact h p (by omega)
theorem lm_up_ext {α : Type} {f F : Nat → α} {i : Nat} {x : α} (h : ∀ j, j < i → f j = F j) (hx : x = F i) : ∀ j, j < i + 1 → lm_up f i x j = F j := by
  intro j hj
  by_cases e : j = i
  · rw [e, lm_up_eq]; exact hx
  · rw [lm_up_ne e]; exact h j (by omega)
theorem lm_I_0 {c : Nat → Nat} {w : Nat → lm_V} {u : Nat} {L : List Nat} : ∃ D k, lm_I c w u L (fun _ => none, []) D k none :=
  ⟨[], 0, List.nodup_nil, fun p => by simp, fun p hp => (by cases hp), fun p hp => (by cases hp), by simp, fun p n h => (by cases h), ⟨fun n hn => by simp at hn, fun n hn => by simp at hn, fun n hn => by simp at hn, fun n hn => by simp at hn⟩, fun x hx => (by cases hx)⟩
theorem lm_phase_I {c : Nat → Nat} {w : Nat → lm_V} {u : Nat} {L : List Nat} {hd : Bool} {s : lm_S} (hw : lm_wf c w u) (hL : lm_gd c w u L) (hcl : ∀ p ∈ L, lm_cs c w L p) (h : ∃ D k, lm_I c w u L s D k none) : ∀ n, n ≤ L.length → ∃ D k, lm_I c w u L (lm_phase c w L hd s n) D k none := by
  intro n
  induction n with
  | zero => intro _; exact h
  | succ n ih =>
    intro hn
    obtain ⟨D, k, hI⟩ := ih (by omega)
    show ∃ D k, lm_I c w u L (lm_try c w L hd (lm_phase c w L hd s n) (L.getD n 0)) D k none
    unfold lm_try
    by_cases e : (lm_phase c w L hd s n).1 (L.getD n 0) = none ∧ ¬ (hd = true ∧ lm_isRb c w L (L.getD n 0) = true)
    · rw [if_pos e]
      obtain ⟨D', a, -, -⟩ := lm_spine_I hw hL hcl 120 _ D (k + 1) (L.getD n 0) (lm_I_open hI) e.1 (lm_getD_in (by omega)) (by omega)
      exact ⟨D', _, a⟩
    · rw [if_neg e]; exact ⟨D, k, hI⟩
theorem lm_take_s {L : List Nat} {i : Nat} (hi : i < L.length) : L.take (i + 1) = L.take i ++ [L.getD i 0] := by
  rw [List.take_succ_eq_append_getElem hi, List.getD_eq_getElem?_getD, List.getElem?_eq_getElem hi]
  rfl
