/-! What the matching's arrays hold -/
def lm_ms (fo ba wa : Nat → Int32) (m : lm_M) : Prop := (∀ p, p < 120 → fo p = oI (m.1 p)) ∧ (∀ p, p < 120 → ba p = oI (m.2.1 p)) ∧ ∀ j, j < m.2.2.length → wa j = nI (m.2.2.getD j 0)
theorem lm_ms_0 {fo ba wa : Nat → Int32} (h1 : ∀ j, j < 120 → fo j = -1) (h2 : ∀ j, j < 120 → ba j = -1) : lm_ms fo ba wa (fun _ => none, fun _ => none, []) := ⟨h1, h2, fun j hj => by simp at hj⟩
theorem lm_ms_new {fo ba wa : Nat → Int32} {m : lm_M} {x y : Nat} (h : lm_ms fo ba wa m) : lm_ms (lm_up fo x (nI y)) (lm_up ba y (nI x)) (lm_up wa m.2.2.length (nI x)) (lm_mark m.1 x y, lm_mark m.2.1 y x, m.2.2 ++ [x]) := by
  refine ⟨lm_mark_up h.1, lm_mark_up h.2.1, fun j hj => ?_⟩
  show _ = nI ((m.2.2 ++ [x]).getD j 0)
  by_cases e : j = m.2.2.length
  · rw [e, lm_up_eq, lm_getD_last]
  · have : j < m.2.2.length := by simp at hj; omega
    rw [lm_up_ne e, lm_getD_app this]; exact h.2.2 j this
theorem lm_fit_np {w : Nat → lm_V} {m : lm_M} {a b : lm_V} (h : ¬ (a.1 = 2 ∧ b.1 = 2)) : lm_fit w m a b = (m, decide (a = b)) := by
  unfold lm_fit; rw [if_neg h]
theorem lm_fit_old {w : Nat → lm_V} {m : lm_M} {a b : lm_V} (h1 : a.1 = 2) (h2 : b.1 = 2) (h : ¬ (m.1 (lm_to w a) = none ∧ m.2.1 (lm_to w b) = none)) : lm_fit w m a b = (m, decide (m.1 (lm_to w a) = some (lm_to w b))) := by
  unfold lm_fit; rw [if_pos ⟨h1, h2⟩, if_neg h]
theorem lm_fit_new {w : Nat → lm_V} {m : lm_M} {a b : lm_V} (h1 : a.1 = 2) (h2 : b.1 = 2) (h3 : m.1 (lm_to w a) = none) (h4 : m.2.1 (lm_to w b) = none) : lm_fit w m a b = ((lm_mark m.1 (lm_to w a) (lm_to w b), lm_mark m.2.1 (lm_to w b) (lm_to w a), m.2.2 ++ [lm_to w a]), true) := by
  unfold lm_fit; rw [if_pos ⟨h1, h2⟩, if_pos ⟨h3, h4⟩]
theorem lm_mok_0 {c : Nat → Nat} {w : Nat → lm_V} {u : Nat} : lm_mok c w u (fun _ => none, fun _ => none, []) := by
  refine ⟨⟨List.nodup_nil, fun p hp => (by cases hp)⟩, fun p => by simp, fun p q => by simp, fun p q h => (by cases h)⟩
theorem lm_mok_b {c : Nat → Nat} {w : Nat → lm_V} {u : Nat} {m : lm_M} (hm : lm_mok c w u m) (hw : lm_wf c w u) (p : Nat) : ∀ k, m.1 p = some k → k < 2 ^ 31 := by
  intro k hk
  have h1 := (hm.2.2.2 p k hk).1
  have h2 := hw.1
  omega
theorem lm_mok_b2 {c : Nat → Nat} {w : Nat → lm_V} {u : Nat} {m : lm_M} (hm : lm_mok c w u m) (hw : lm_wf c w u) (p : Nat) : ∀ k, m.2.1 p = some k → k < 2 ^ 31 := by
  intro k hk
  have h0 := (hm.2.2.1 k p).mpr hk
  have h3 : k ∈ m.2.2 := (hm.2.1 k).mpr (by rw [h0]; simp)
  have h1 := (hm.1.2 k h3).1
  have h2 := hw.1
  omega
theorem lm_mok_in {c : Nat → Nat} {w : Nat → lm_V} {u : Nat} {m : lm_M} (hm : lm_mok c w u m) {p : Nat} (hp : p ∈ m.2.2) : ∃ q, m.1 p = some q := by
  have h := (hm.2.1 p).mp hp
  cases e : m.1 p with
  | none => exact absurd e h
  | some q => exact ⟨q, rfl⟩
theorem lm_alk_end {c : Nat → Nat} {w : Nat → lm_V} {n i : Nat} {m : lm_M} (h : m.2.2.length ≤ i) : lm_alk c w (n + 1) i m = true := by
  unfold lm_alk; rw [if_neg (by omega)]
theorem lm_alk_step {c : Nat → Nat} {w : Nat → lm_V} {n i p q : Nat} {m : lm_M} (h : i < m.2.2.length) (hp : p = m.2.2.getD i 0) (hq : m.1 p = some q) : lm_alk c w (n + 1) i m = if (lm_pair c w m p q).2 = true then lm_alk c w n (i + 1) (lm_pair c w m p q).1 else false := by
  rw [lm_alk, if_pos h, ← hp, hq]; rfl
theorem lm_pair_f1 {c : Nat → Nat} {w : Nat → lm_V} {n i p q : Nat} {m : lm_M} (h : (lm_fit w m (w p) (w q)).2 = false) : (if (lm_pair c w m p q).2 = true then lm_alk c w n (i + 1) (lm_pair c w m p q).1 else false) = false := by
  have : lm_pair c w m p q = lm_fit w m (w p) (w q) := by unfold lm_pair; rw [if_neg (by rw [h]; simp)]
  rw [this, h]; simp
theorem lm_pair_f2 {c : Nat → Nat} {w : Nat → lm_V} {n i p q : Nat} {m : lm_M} (h : (lm_fit w m (w p) (w q)).2 = true) (h2 : (lm_fit w (lm_fit w m (w p) (w q)).1 (lm_rest c w p) (lm_rest c w q)).2 = false) : (if (lm_pair c w m p q).2 = true then lm_alk c w n (i + 1) (lm_pair c w m p q).1 else false) = false := by
  have : lm_pair c w m p q = lm_fit w (lm_fit w m (w p) (w q)).1 (lm_rest c w p) (lm_rest c w q) := by unfold lm_pair; rw [if_pos h]
  rw [this, h2]; simp
theorem lm_pair_t {c : Nat → Nat} {w : Nat → lm_V} {n i p q : Nat} {m : lm_M} (h : (lm_fit w m (w p) (w q)).2 = true) (h2 : (lm_fit w (lm_fit w m (w p) (w q)).1 (lm_rest c w p) (lm_rest c w q)).2 = true) : (if (lm_pair c w m p q).2 = true then lm_alk c w n (i + 1) (lm_pair c w m p q).1 else false) = lm_alk c w n (i + 1) (lm_fit w (lm_fit w m (w p) (w q)).1 (lm_rest c w p) (lm_rest c w q)).1 := by
  have : lm_pair c w m p q = lm_fit w (lm_fit w m (w p) (w q)).1 (lm_rest c w p) (lm_rest c w q) := by unfold lm_pair; rw [if_pos h]
  rw [this, if_pos h2]
theorem lm_alike_t {c : Nat → Nat} {w : Nat → lm_V} {a b : lm_V} (h : (lm_fit w (fun _ => none, fun _ => none, []) a b).2 = true) : lm_alk c w 120 0 (lm_fit w (fun _ => none, fun _ => none, []) a b).1 = lm_alike c w a b := by
  unfold lm_alike; rw [if_pos h]
theorem lm_alike_f {c : Nat → Nat} {w : Nat → lm_V} {a b : lm_V} (h : (lm_fit w (fun _ => none, fun _ => none, []) a b).2 = false) : lm_alike c w a b = false := by
  unfold lm_alike; rw [if_neg (by rw [h]; simp)]
theorem lm_bI_f {x : Bool} (h : bI x = 0) : x = false := by
  cases x with
  | false => rfl
  | true => exact absurd h (by decide +kernel)
theorem lm_bI_t {x : Bool} (h : ¬ bI x = 0) : x = true := by
  cases x with
  | true => rfl
  | false => exact absurd (by decide +kernel) h
