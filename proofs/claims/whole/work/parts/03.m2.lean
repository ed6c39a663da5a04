/-! Laying: where a cell is laid (lay), and the words of the other half (O) -/
abbrev lm_O : Type := List (Nat × lm_V)
abbrev lm_S : Type := (Nat → Option Nat) × lm_O
def lm_mark (lay : Nat → Option Nat) (p n : Nat) : Nat → Option Nat := fun q => if q = p then some n else lay q
/-- one cell is laid; the cell that is to lie behind it -/
def lm_lay (c : Nat → Nat) (w : Nat → lm_V) (s : lm_S) (p : Nat) : lm_S × Option Nat :=
  if (lm_rest c w p).1 = 0 then ((lm_mark s.1 p s.2.length, s.2 ++ [(1, w p)]), none)
  else if (lm_rest c w p).1 = 2 ∧ lm_mark s.1 p s.2.length (lm_to w (lm_rest c w p)) = none then ((lm_mark s.1 p s.2.length, s.2 ++ [(0, w p)]), some (lm_to w (lm_rest c w p)))
  else ((lm_mark s.1 p s.2.length, s.2 ++ [(2, w p), (3, lm_rest c w p)]), none)
def lm_spine (c : Nat → Nat) (w : Nat → lm_V) : Nat → lm_S → Nat → lm_S
  | 0, s, _ => s
  | n + 1, s, p => match (lm_lay c w s p).2 with
    | none => (lm_lay c w s p).1
    | some q => lm_spine c w n (lm_lay c w s p).1 q
/-- it is the rest of a listed pair -/
def lm_isR (c : Nat → Nat) (w : Nat → lm_V) (L : List Nat) (p : Nat) : Prop := ∃ y ∈ L, (lm_rest c w y).1 = 2 ∧ lm_to w (lm_rest c w y) = p
def lm_isRb (c : Nat → Nat) (w : Nat → lm_V) (L : List Nat) (p : Nat) : Bool := L.any (fun y => decide ((lm_rest c w y).1 = 2 ∧ lm_to w (lm_rest c w y) = p))
theorem lm_isRb_iff {c : Nat → Nat} {w : Nat → lm_V} {L : List Nat} {p : Nat} : lm_isRb c w L p = true ↔ lm_isR c w L p := by
  unfold lm_isRb lm_isR
  simp [List.any_eq_true]
/-- hd: heads alone -/
def lm_try (c : Nat → Nat) (w : Nat → lm_V) (L : List Nat) (hd : Bool) (s : lm_S) (p : Nat) : lm_S :=
  if s.1 p = none ∧ ¬ (hd = true ∧ lm_isRb c w L p = true) then lm_spine c w 120 s p else s
def lm_phase (c : Nat → Nat) (w : Nat → lm_V) (L : List Nat) (hd : Bool) (s : lm_S) : Nat → lm_S
  | 0 => s
  | n + 1 => lm_try c w L hd (lm_phase c w L hd s n) (L.getD n 0)
def lm_laid (c : Nat → Nat) (w : Nat → lm_V) (L : List Nat) : lm_S := lm_phase c w L false (lm_phase c w L true (fun _ => none, []) L.length) L.length
/-- a value in the other half -/
def lm_tr (w : Nat → lm_V) (lay : Nat → Option Nat) (v : lm_V) : lm_V := if v.1 = 2 then (2, (((lay (lm_to w v)).getD 0 : Nat) : Int)) else v
/-- the words are well formed; the last may wait for the next -/
def lm_wO (O : lm_O) (pend : Prop) : Prop :=
  (∀ n, n < O.length → (O.getD n (0, 0, 0)).1 ≤ 3) ∧
  (∀ n, n < O.length → (O.getD n (0, 0, 0)).1 = 0 → (n + 1 < O.length ∧ (O.getD (n + 1) (0, 0, 0)).1 ≠ 3) ∨ (pend ∧ n + 1 = O.length)) ∧
  (∀ n, n < O.length → (O.getD n (0, 0, 0)).1 = 2 → n + 1 < O.length ∧ (O.getD (n + 1) (0, 0, 0)).1 = 3) ∧
  (∀ n, n < O.length → (O.getD n (0, 0, 0)).1 = 3 → ∃ j, n = j + 1 ∧ (O.getD j (0, 0, 0)).1 = 2)
/-- what a value of O is: good in the old half, its pair listed -/
def lm_vO (c : Nat → Nat) (w : Nat → lm_V) (u : Nat) (L : List Nat) (O : lm_O) : Prop := ∀ x ∈ O, lm_ok c u x.2 ∧ (x.2.1 = 2 → lm_to w x.2 ∈ L)
def lm_nil (c : Nat → Nat) (w : Nat → lm_V) (p : Nat) : Bool := decide ((lm_rest c w p).1 = 0)
/-- D: the cells laid so far; k: how many heads there were; pend: the cell that comes next -/
def lm_I (c : Nat → Nat) (w : Nat → lm_V) (u : Nat) (L : List Nat) (s : lm_S) (D : List Nat) (k : Nat) (pend : Option Nat) : Prop :=
  D.Nodup ∧ (∀ p, p ∈ D ↔ s.1 p ≠ none) ∧ (∀ p ∈ D, p ∈ L) ∧
  (∀ p ∈ D, (lm_rest c w p).1 = 2 → lm_to w (lm_rest c w p) ∈ D ∨ pend = some (lm_to w (lm_rest c w p))) ∧
  (s.2.length + (D.filter (lm_nil c w)).length + (if pend = none then 0 else 1) = D.length + k) ∧
  (∀ p n, s.1 p = some n → n < s.2.length ∧ (s.2.getD n (0, 0, 0)).1 ≠ 3) ∧ lm_wO s.2 (pend ≠ none) ∧ lm_vO c w u L s.2
theorem lm_mark_eq {lay : Nat → Option Nat} {p n q : Nat} : lm_mark lay p n q = none ↔ q ≠ p ∧ lay q = none := by
  unfold lm_mark
  by_cases h : q = p
  · simp [h]
  · simp [h]
theorem lm_getD_l {O M : lm_O} {n : Nat} {d : Nat × lm_V} (h : n < O.length) : (O ++ M).getD n d = O.getD n d := by
  simp [List.getD_eq_getElem?_getD, List.getElem?_append_left h]
theorem lm_getD_r {O M : lm_O} {n : Nat} {d : Nat × lm_V} (h : O.length ≤ n) : (O ++ M).getD n d = M.getD (n - O.length) d := by
  simp [List.getD_eq_getElem?_getD, List.getElem?_append_right h]
theorem lm_wO_1 {O : lm_O} {P Q : Prop} {v : lm_V} (k : Nat) (hk : k = 0 ∧ Q ∨ k = 1) (h : lm_wO O P) : lm_wO (O ++ [(k, v)]) Q := by
  obtain ⟨h1, h2, h3, h4⟩ := h
  have hl : (O ++ [(k, v)]).length = O.length + 1 := by simp
  have hlast : (O ++ [(k, v)]).getD O.length (0, 0, 0) = (k, v) := by rw [lm_getD_r (Nat.le_refl _)]; simp
  refine ⟨fun n hn => ?_, fun n hn => ?_, fun n hn => ?_, fun n hn => ?_⟩
  · by_cases e : n < O.length
    · rw [lm_getD_l e]; exact h1 n e
    · have : n = O.length := by omega
      subst this; rw [hlast]; rcases hk with ⟨a, -⟩ | a <;> simp [a]
  · by_cases e : n < O.length
    · rw [lm_getD_l e]
      intro h0
      rcases h2 n e h0 with ⟨a, b⟩ | ⟨-, b⟩
      · exact Or.inl ⟨by omega, by rw [lm_getD_l a]; exact b⟩
      · refine Or.inl ⟨by omega, ?_⟩
        rw [b, hlast]; rcases hk with ⟨a, -⟩ | a <;> simp [a]
    · have : n = O.length := by omega
      subst this; rw [hlast]
      intro h0
      rcases hk with ⟨-, a⟩ | a
      · exact Or.inr ⟨a, by omega⟩
      · simp [a] at h0
  · by_cases e : n < O.length
    · rw [lm_getD_l e]
      intro h0
      obtain ⟨a, b⟩ := h3 n e h0
      exact ⟨by omega, by rw [lm_getD_l a]; exact b⟩
    · have : n = O.length := by omega
      subst this; rw [hlast]
      intro h0
      rcases hk with ⟨a, -⟩ | a <;> simp [a] at h0
  · by_cases e : n < O.length
    · rw [lm_getD_l e]
      intro h0
      obtain ⟨j, a, b⟩ := h4 n e h0
      exact ⟨j, a, by rw [lm_getD_l (by omega)]; exact b⟩
    · have : n = O.length := by omega
      subst this; rw [hlast]
      intro h0
      rcases hk with ⟨a, -⟩ | a <;> simp [a] at h0
theorem lm_wO_2 {O : lm_O} {P Q : Prop} {v r : lm_V} (h : lm_wO O P) : lm_wO (O ++ [(2, v), (3, r)]) Q := by
  obtain ⟨h1, h2, h3, h4⟩ := h
  have hl : (O ++ [(2, v), (3, r)]).length = O.length + 2 := by simp
  have hA : (O ++ [(2, v), (3, r)]).getD O.length (0, 0, 0) = (2, v) := by rw [lm_getD_r (Nat.le_refl _)]; simp
  have hB : (O ++ [(2, v), (3, r)]).getD (O.length + 1) (0, 0, 0) = (3, r) := by rw [lm_getD_r (by omega)]; simp
  refine ⟨fun n hn => ?_, fun n hn => ?_, fun n hn => ?_, fun n hn => ?_⟩
  · rcases (show n < O.length ∨ n = O.length ∨ n = O.length + 1 by omega) with e | e | e
    · rw [lm_getD_l e]; exact h1 n e
    · subst e; rw [hA]; simp
    · subst e; rw [hB]; simp
  · rcases (show n < O.length ∨ n = O.length ∨ n = O.length + 1 by omega) with e | e | e
    · rw [lm_getD_l e]
      intro h0
      rcases h2 n e h0 with ⟨a, b⟩ | ⟨-, b⟩
      · exact Or.inl ⟨by omega, by rw [lm_getD_l a]; exact b⟩
      · exact Or.inl ⟨by omega, by rw [b, hA]; simp⟩
    · subst e; rw [hA]; intro h0; simp at h0
    · subst e; rw [hB]; intro h0; simp at h0
  · rcases (show n < O.length ∨ n = O.length ∨ n = O.length + 1 by omega) with e | e | e
    · rw [lm_getD_l e]
      intro h0
      obtain ⟨a, b⟩ := h3 n e h0
      exact ⟨by omega, by rw [lm_getD_l a]; exact b⟩
    · subst e; intro _; exact ⟨by omega, by rw [hB]⟩
    · subst e; rw [hB]; intro h0; simp at h0
  · rcases (show n < O.length ∨ n = O.length ∨ n = O.length + 1 by omega) with e | e | e
    · rw [lm_getD_l e]
      intro h0
      obtain ⟨j, a, b⟩ := h4 n e h0
      exact ⟨j, a, by rw [lm_getD_l (by omega)]; exact b⟩
    · subst e; rw [hA]; intro h0; simp at h0
    · subst e; intro _; exact ⟨O.length, rfl, by rw [hA]⟩
theorem lm_vO_app {c : Nat → Nat} {w : Nat → lm_V} {u : Nat} {L : List Nat} {O M : lm_O} (h : lm_vO c w u L O) (h2 : lm_vO c w u L M) : lm_vO c w u L (O ++ M) := by
  intro x hx
  rcases List.mem_append.mp hx with a | a
  · exact h x a
  · exact h2 x a
/-- one cell is laid -/
theorem lm_lay_I {c : Nat → Nat} {w : Nat → lm_V} {u : Nat} {L : List Nat} (hw : lm_wf c w u) (hL : lm_gd c w u L) (hcl : ∀ p ∈ L, lm_cs c w L p) {s : lm_S} {D : List Nat} {k p : Nat} (h : lm_I c w u L s D k (some p)) (hp : s.1 p = none) (hpL : p ∈ L) :
    lm_I c w u L (lm_lay c w s p).1 (D ++ [p]) k (lm_lay c w s p).2 ∧ ∀ q, (lm_lay c w s p).2 = some q → (lm_lay c w s p).1.1 q = none ∧ q ∈ L := by
  obtain ⟨i1, i2, i3, i4, i5, i6, i7, i8⟩ := h
  have hpD : p ∉ D := fun q => (i2 p).mp q hp
  have n1 : (D ++ [p]).Nodup := by
    rw [List.nodup_append]
    refine ⟨i1, by simp, ?_⟩
    intro a ha b hb
    simp only [List.mem_singleton] at hb
    subst hb
    intro e
    exact hpD (e ▸ ha)
  have n2 : ∀ q, q ∈ D ++ [p] ↔ lm_mark s.1 p s.2.length q ≠ none := by
    intro q
    rw [List.mem_append, List.mem_singleton, i2 q, Ne, Ne, lm_mark_eq]
    by_cases e : q = p <;> simp [e]
  have n3 : ∀ q ∈ D ++ [p], q ∈ L := by
    intro q hq
    rcases List.mem_append.mp hq with a | a
    · exact i3 q a
    · rw [List.mem_singleton] at a; subst a; exact hpL
  have n4 : ∀ q ∈ D, (lm_rest c w q).1 = 2 → lm_to w (lm_rest c w q) ∈ D ++ [p] := by
    intro q hq hk
    rcases i4 q hq hk with a | a
    · exact List.mem_append_left _ a
    · rw [← Option.some.inj a]; simp
  have n6 : ∀ (M : lm_O), (M.getD 0 (0, 0, 0)).1 ≠ 3 → 0 < M.length → ∀ q n, lm_mark s.1 p s.2.length q = some n → n < (s.2 ++ M).length ∧ ((s.2 ++ M).getD n (0, 0, 0)).1 ≠ 3 := by
    intro M hM hM0 q n hq
    unfold lm_mark at hq
    by_cases e : q = p
    · rw [if_pos e] at hq
      have := Option.some.inj hq
      subst this
      refine ⟨by simp; omega, ?_⟩
      rw [lm_getD_r (Nat.le_refl _)]; simpa using hM
    · rw [if_neg e] at hq
      obtain ⟨a, b⟩ := i6 q n hq
      exact ⟨by simp; omega, by rw [lm_getD_l a]; exact b⟩
  have hc1 := hL.2 p hpL
  have hc2 := hcl p hpL
  have v1 : ∀ k' : Nat, lm_vO c w u L [(k', w p)] := by
    intro k' x hx
    rw [List.mem_singleton] at hx; subst hx
    exact ⟨lm_first_ok hw hc1, hc2.1⟩
  have nf : ((D ++ [p]).filter (lm_nil c w)).length = (D.filter (lm_nil c w)).length + (if (lm_rest c w p).1 = 0 then 1 else 0) := by
    rw [List.filter_append, List.length_append]
    by_cases e : (lm_rest c w p).1 = 0
    · simp [lm_nil, e]
    · simp [lm_nil, e]
  have i5' : s.2.length + (D.filter (lm_nil c w)).length + 1 = D.length + k := by simpa using i5
  unfold lm_lay
  by_cases e0 : (lm_rest c w p).1 = 0
  · rw [if_pos e0]
    rw [if_pos e0] at nf
    refine ⟨⟨n1, n2, n3, fun q hq hk => ?_, ?_, n6 _ (by simp) (by simp), lm_wO_1 1 (Or.inr rfl) i7, lm_vO_app i8 (v1 1)⟩, fun q hq => (by cases hq)⟩
    · rcases List.mem_append.mp hq with a | a
      · exact Or.inl (n4 q a hk)
      · rw [List.mem_singleton] at a; subst a; omega
    · simp only [List.length_append, List.length_singleton, if_true] at *
      omega
  · rw [if_neg e0]
    rw [if_neg e0] at nf
    by_cases e2 : (lm_rest c w p).1 = 2 ∧ lm_mark s.1 p s.2.length (lm_to w (lm_rest c w p)) = none
    · rw [if_pos e2]
      refine ⟨⟨n1, n2, n3, fun q hq hk => ?_, ?_, n6 _ (by simp) (by simp), lm_wO_1 0 (Or.inl ⟨rfl, by simp⟩) i7, lm_vO_app i8 (v1 0)⟩, fun q hq => ?_⟩
      · rcases List.mem_append.mp hq with a | a
        · exact Or.inl (n4 q a hk)
        · rw [List.mem_singleton] at a; subst a; exact Or.inr rfl
      · show (s.2 ++ [(0, w p)]).length + ((D ++ [p]).filter (lm_nil c w)).length + (if (some (lm_to w (lm_rest c w p)) : Option Nat) = none then 0 else 1) = (D ++ [p]).length + k
        rw [if_neg (by simp), nf, List.length_append, List.length_append, List.length_singleton, List.length_singleton]
        omega
      · have := Option.some.inj hq
        subst this
        exact ⟨e2.2, hc2.2 e2.1⟩
    · rw [if_neg e2]
      refine ⟨⟨n1, n2, n3, fun q hq hk => ?_, ?_, n6 _ (by simp) (by simp), lm_wO_2 i7, lm_vO_app i8 ?_⟩, fun q hq => (by cases hq)⟩
      · rcases List.mem_append.mp hq with a | a
        · exact Or.inl (n4 q a hk)
        · rw [List.mem_singleton] at a; subst a
          refine Or.inl ((n2 _).mpr (fun z => e2 ⟨hk, z⟩))
      · simp only [List.length_append, List.length_singleton, List.length_cons, List.length_nil, if_true] at *
        omega
      · intro x hx
        rcases List.mem_cons.mp hx with a | a
        · subst a; exact ⟨lm_first_ok hw hc1, hc2.1⟩
        · rw [List.mem_singleton] at a; subst a; exact ⟨lm_rest_ok hw hc1, hc2.2⟩
/-- a spine is laid -/
theorem lm_spine_I {c : Nat → Nat} {w : Nat → lm_V} {u : Nat} {L : List Nat} (hw : lm_wf c w u) (hL : lm_gd c w u L) (hcl : ∀ p ∈ L, lm_cs c w L p) : ∀ (n : Nat) (s : lm_S) (D : List Nat) (k p : Nat), lm_I c w u L s D k (some p) → s.1 p = none → p ∈ L → 120 ≤ D.length + n →
    ∃ D', lm_I c w u L (lm_spine c w n s p) D' k none ∧ (∀ q ∈ D, q ∈ D') ∧ p ∈ D' := by
  intro n
  induction n with
  | zero =>
    intro s D k p h hp hpL hn
    exfalso
    have hpD : p ∉ D := fun q => (h.2.1 p).mp q hp
    have n1 : (p :: D).Nodup := List.nodup_cons.mpr ⟨hpD, h.1⟩
    have := lm_gd_len (c := c) (w := w) (u := u) (L := p :: D) ⟨n1, fun q hq => by
      rcases List.mem_cons.mp hq with a | a
      · subst a; exact hL.2 _ hpL
      · exact hL.2 q (h.2.2.1 q a)⟩
    have h1 := hw.1
    simp only [List.length_cons] at this
    omega
  | succ n ih =>
    intro s D k p h hp hpL hn
    obtain ⟨h1, h2⟩ := lm_lay_I hw hL hcl h hp hpL
    unfold lm_spine
    cases e : (lm_lay c w s p).2 with
    | none =>
      rw [e] at h1
      exact ⟨D ++ [p], h1, fun q hq => List.mem_append_left _ hq, by simp⟩
    | some q =>
      rw [e] at h1
      obtain ⟨h3, h4⟩ := h2 q e
      obtain ⟨D', a1, a2, a3⟩ := ih _ _ _ q h1 h3 h4 (by simp; omega)
      exact ⟨D', a1, fun x hx => a2 x (List.mem_append_left _ hx), a2 p (by simp)⟩
