/-! The memory as mathematics: a value is a kind (0 nil, 1 number, 2 pair, 3 moved) and a body; a half is its codes c, its contents w, how many words are used u. -/
abbrev lm_V : Type := Nat × Int
def lm_cell (w : Nat → lm_V) (q : Nat) : Nat := if (w q).1 = 3 then (w q).2.toNat else q
def lm_rest (c : Nat → Nat) (w : Nat → lm_V) (p : Nat) : lm_V := if c p = 0 then (2, ((p + 1 : Nat) : Int)) else if c p = 2 then w (p + 1) else (0, 0)
/-- the cell that a pair's value leads to -/
def lm_to (w : Nat → lm_V) (v : lm_V) : Nat := lm_cell w v.2.toNat
def lm_ok (c : Nat → Nat) (u : Nat) (v : lm_V) : Prop := (v.1 = 0 ∧ v.2 = 0) ∨ (v.1 = 1 ∧ -288230376151711744 ≤ v.2 ∧ v.2 ≤ 288230376151711743) ∨ (v.1 = 2 ∧ ∃ q : Nat, v.2 = (q : Int) ∧ q < u ∧ c q ≠ 3)
def lm_mv (c : Nat → Nat) (w : Nat → lm_V) (u p : Nat) : Prop := (w p).1 = 3 ∧ c p < 2 ∧ ∃ q : Nat, (w p).2 = (q : Int) ∧ p < q ∧ q < u ∧ c q = 2 ∧ (w q).1 ≠ 3 ∧ ∀ j, q = j + 1 → c j ≠ 0
def lm_wf (c : Nat → Nat) (w : Nat → lm_V) (u : Nat) : Prop :=
  u ≤ 120 ∧ (∀ p, p < u → c p ≤ 3) ∧ (∀ p, p < u → c p = 0 → p + 1 < u ∧ c (p + 1) ≠ 3) ∧ (∀ p, p < u → c p = 2 → p + 1 < u ∧ c (p + 1) = 3) ∧
  (∀ p, p < u → c p = 3 → ∃ j, p = j + 1 ∧ c j = 2) ∧ (∀ p, p < u → lm_ok c u (w p) ∨ lm_mv c w u p) ∧
  (∀ p p', p < u → p' < u → (w p).1 = 3 → (w p').1 = 3 → (w p).2 = (w p').2 → p = p')
/-- a cell that is no longer passed through -/
def lm_cl (c : Nat → Nat) (w : Nat → lm_V) (u p : Nat) : Prop := p < u ∧ c p ≠ 3 ∧ (w p).1 ≠ 3
theorem lm_ok_kind {c : Nat → Nat} {u : Nat} {v : lm_V} (h : lm_ok c u v) : v.1 < 3 := by
  rcases h with h | h | h <;> omega
theorem lm_cell_cl {c : Nat → Nat} {w : Nat → lm_V} {u q : Nat} (h : lm_wf c w u) (hq : q < u) (hc : c q ≠ 3) : lm_cl c w u (lm_cell w q) := by
  unfold lm_cell lm_cl
  by_cases h3 : (w q).1 = 3
  · rw [if_pos h3]
    rcases h.2.2.2.2.2.1 q hq with h1 | h1
    · have := lm_ok_kind h1; omega
    · obtain ⟨-, -, x, hx, -, h4, h5, h6, -⟩ := h1
      rw [hx]
      simp only [Int.toNat_natCast]
      exact ⟨h4, by omega, h6⟩
  · rw [if_neg h3]; exact ⟨hq, hc, h3⟩
theorem lm_to_cl {c : Nat → Nat} {w : Nat → lm_V} {u : Nat} {v : lm_V} (h : lm_wf c w u) (hv : lm_ok c u v) (hk : v.1 = 2) : lm_cl c w u (lm_to w v) := by
  rcases hv with h1 | h1 | ⟨-, q, h1, h2, h3⟩
  · omega
  · omega
  · unfold lm_to; rw [h1]; simp only [Int.toNat_natCast]; exact lm_cell_cl h h2 h3
theorem lm_first_ok {c : Nat → Nat} {w : Nat → lm_V} {u p : Nat} (h : lm_wf c w u) (hp : lm_cl c w u p) : lm_ok c u (w p) := by
  rcases h.2.2.2.2.2.1 p hp.1 with h1 | h1
  · exact h1
  · exact absurd h1.1 hp.2.2
theorem lm_second_ok {c : Nat → Nat} {w : Nat → lm_V} {u p : Nat} (h : lm_wf c w u) (hp : p < u) (hc : c p = 2) : lm_ok c u (w (p + 1)) := by
  have h2 := h.2.2.2.1 p hp hc
  rcases h.2.2.2.2.2.1 (p + 1) h2.1 with h1 | h1
  · exact h1
  · have := h1.2.1; omega
theorem lm_rest_ok {c : Nat → Nat} {w : Nat → lm_V} {u p : Nat} (h : lm_wf c w u) (hp : lm_cl c w u p) : lm_ok c u (lm_rest c w p) := by
  unfold lm_rest
  by_cases h0 : c p = 0
  · rw [if_pos h0]
    have := h.2.2.1 p hp.1 h0
    exact Or.inr (Or.inr ⟨rfl, p + 1, rfl, this.1, this.2⟩)
  · rw [if_neg h0]
    by_cases h2 : c p = 2
    · rw [if_pos h2]; exact lm_second_ok h hp.1 h2
    · rw [if_neg h2]; exact Or.inl ⟨rfl, rfl⟩
/-- the pairs that can be reached -/
def lm_enl (w : Nat → lm_V) (L : List Nat) (v : lm_V) : List Nat := if v.1 = 2 ∧ lm_to w v ∉ L then L ++ [lm_to w v] else L
def lm_bfs (c : Nat → Nat) (w : Nat → lm_V) : Nat → Nat → List Nat → List Nat
  | 0, _, L => L
  | n + 1, i, L => if i < L.length then lm_bfs c w n (i + 1) (lm_enl w (lm_enl w L (w (L.getD i 0))) (lm_rest c w (L.getD i 0))) else L
def lm_list0 (w : Nat → lm_V) (rt : Nat → lm_V) : Nat → List Nat
  | 0 => []
  | n + 1 => lm_enl w (lm_list0 w rt n) (rt n)
def lm_list (c : Nat → Nat) (w : Nat → lm_V) (rt : Nat → lm_V) : List Nat := lm_bfs c w 120 0 (lm_list0 w rt 10)
def lm_gd (c : Nat → Nat) (w : Nat → lm_V) (u : Nat) (L : List Nat) : Prop := L.Nodup ∧ ∀ p ∈ L, lm_cl c w u p
theorem lm_gd_len {c : Nat → Nat} {w : Nat → lm_V} {u : Nat} {L : List Nat} (h : lm_gd c w u L) : L.length ≤ u := by
  have := List.Nodup.length_le_of_subset h.1 (l₂ := List.range u) (fun p hp => List.mem_range.mpr (h.2 p hp).1)
  simpa using this
theorem lm_enl_sub {w : Nat → lm_V} {L : List Nat} {v : lm_V} : ∀ p ∈ L, p ∈ lm_enl w L v := by
  intro p hp
  unfold lm_enl
  split
  · exact List.mem_append_left _ hp
  · exact hp
theorem lm_enl_in {w : Nat → lm_V} {L : List Nat} {v : lm_V} (hv : v.1 = 2) : lm_to w v ∈ lm_enl w L v := by
  unfold lm_enl
  by_cases h : lm_to w v ∈ L
  · rw [if_neg (fun q => q.2 h)]; exact h
  · rw [if_pos ⟨hv, h⟩]; simp
theorem lm_enl_gd {c : Nat → Nat} {w : Nat → lm_V} {u : Nat} {L : List Nat} {v : lm_V} (h : lm_wf c w u) (hL : lm_gd c w u L) (hv : lm_ok c u v) : lm_gd c w u (lm_enl w L v) := by
  unfold lm_enl
  split
  · rename_i hk
    refine ⟨?_, fun p hp => ?_⟩
    · rw [List.nodup_append]
      refine ⟨hL.1, by simp, ?_⟩
      intro a ha b hb
      simp only [List.mem_singleton] at hb
      subst hb
      intro e
      exact hk.2 (e ▸ ha)
    · rcases List.mem_append.mp hp with h1 | h1
      · exact hL.2 p h1
      · rw [List.mem_singleton] at h1; subst h1; exact lm_to_cl h hv hk.1
  · exact hL
theorem lm_enl_pre {w : Nat → lm_V} {L : List Nat} {v : lm_V} : ∃ M, lm_enl w L v = L ++ M := by
  unfold lm_enl
  split
  · exact ⟨_, rfl⟩
  · exact ⟨[], by simp⟩
theorem lm_enl_getD {w : Nat → lm_V} {L : List Nat} {v : lm_V} {j : Nat} (hj : j < L.length) : (lm_enl w L v).getD j 0 = L.getD j 0 := by
  obtain ⟨M, hM⟩ := lm_enl_pre (w := w) (L := L) (v := v)
  rw [hM]; simp [List.getD_eq_getElem?_getD, List.getElem?_append_left hj]
theorem lm_enl_len {w : Nat → lm_V} {L : List Nat} {v : lm_V} : L.length ≤ (lm_enl w L v).length := by
  obtain ⟨M, hM⟩ := lm_enl_pre (w := w) (L := L) (v := v)
  rw [hM]; simp
/-- the first and the rest of p, if they are pairs, are in L -/
def lm_cs (c : Nat → Nat) (w : Nat → lm_V) (L : List Nat) (p : Nat) : Prop := ((w p).1 = 2 → lm_to w (w p) ∈ L) ∧ ((lm_rest c w p).1 = 2 → lm_to w (lm_rest c w p) ∈ L)
theorem lm_bfs_spec {c : Nat → Nat} {w : Nat → lm_V} {u : Nat} (h : lm_wf c w u) : ∀ (n i : Nat) (L : List Nat), lm_gd c w u L → (∀ j, j < i → j < L.length → lm_cs c w L (L.getD j 0)) → 120 ≤ i + n →
    lm_gd c w u (lm_bfs c w n i L) ∧ (∀ p ∈ L, p ∈ lm_bfs c w n i L) ∧ ∀ p ∈ lm_bfs c w n i L, lm_cs c w (lm_bfs c w n i L) p := by
  intro n
  induction n with
  | zero =>
    intro i L hL hc hn
    refine ⟨hL, fun p hp => hp, fun p hp => ?_⟩
    have hp : p ∈ L := hp
    show lm_cs c w L p
    obtain ⟨j, hj, e⟩ := List.getElem_of_mem hp
    have h1 := lm_gd_len hL
    have h2 := h.1
    have := hc j (by omega) hj
    rw [List.getD_eq_getElem?_getD, List.getElem?_eq_getElem hj] at this
    simp only [Option.getD_some] at this
    rw [e] at this
    exact this
  | succ n ih =>
    intro i L hL hc hn
    unfold lm_bfs
    by_cases hi : i < L.length
    · rw [if_pos hi]
      have hm : L.getD i 0 ∈ L := by
        rw [List.getD_eq_getElem?_getD, List.getElem?_eq_getElem hi]; simp
      have hcl := hL.2 _ hm
      have g1 := lm_enl_gd h hL (lm_first_ok h hcl)
      have g2 := lm_enl_gd h g1 (lm_rest_ok h hcl)
      obtain ⟨a1, a2, a3⟩ := ih (i + 1) (lm_enl w (lm_enl w L (w (L.getD i 0))) (lm_rest c w (L.getD i 0))) g2 (fun j hj hjl => by
        by_cases hji : j < L.length
        · rw [lm_enl_getD (Nat.lt_of_lt_of_le hji lm_enl_len), lm_enl_getD hji]
          by_cases hjj : j < i
          · have := hc j hjj hji
            exact ⟨fun q => lm_enl_sub _ (lm_enl_sub _ (this.1 q)), fun q => lm_enl_sub _ (lm_enl_sub _ (this.2 q))⟩
          · have hji2 : j = i := by omega
            subst hji2
            exact ⟨fun q => lm_enl_sub _ (lm_enl_in q), fun q => lm_enl_in q⟩
        · omega) (by omega)
      exact ⟨a1, fun p hp => a2 p (lm_enl_sub _ (lm_enl_sub _ hp)), a3⟩
    · rw [if_neg hi]
      refine ⟨hL, fun p hp => hp, fun p hp => ?_⟩
      obtain ⟨j, hj, e⟩ := List.getElem_of_mem hp
      have := hc j (by omega) hj
      rw [List.getD_eq_getElem?_getD, List.getElem?_eq_getElem hj] at this
      simp only [Option.getD_some] at this
      rw [e] at this
      exact this
theorem lm_list0_spec {c : Nat → Nat} {w : Nat → lm_V} {u : Nat} {rt : Nat → lm_V} (h : lm_wf c w u) : ∀ n, (∀ r, r < n → lm_ok c u (rt r)) → lm_gd c w u (lm_list0 w rt n) ∧ ∀ r, r < n → (rt r).1 = 2 → lm_to w (rt r) ∈ lm_list0 w rt n := by
  intro n
  induction n with
  | zero => intro _; exact ⟨⟨List.nodup_nil, fun p hp => (by cases hp)⟩, fun r hr => by omega⟩
  | succ n ih =>
    intro hr
    obtain ⟨h1, h2⟩ := ih (fun r hr' => hr r (by omega))
    refine ⟨lm_enl_gd h h1 (hr n (by omega)), fun r hr' hk => ?_⟩
    by_cases e : r = n
    · subst e; exact lm_enl_in hk
    · exact lm_enl_sub _ (h2 r (by omega) hk)
theorem lm_list_spec {c : Nat → Nat} {w : Nat → lm_V} {u : Nat} {rt : Nat → lm_V} (h : lm_wf c w u) (hr : ∀ r, r < 10 → lm_ok c u (rt r)) :
    lm_gd c w u (lm_list c w rt) ∧ (∀ r, r < 10 → (rt r).1 = 2 → lm_to w (rt r) ∈ lm_list c w rt) ∧ ∀ p ∈ lm_list c w rt, lm_cs c w (lm_list c w rt) p := by
  obtain ⟨h1, h2⟩ := lm_list0_spec (rt := rt) h 10 hr
  obtain ⟨a1, a2, a3⟩ := lm_bfs_spec h 120 0 (lm_list0 w rt 10) h1 (fun j hj => by omega) (by omega)
  exact ⟨a1, fun r hr' hk => a2 _ (h2 r hr' hk), a3⟩
