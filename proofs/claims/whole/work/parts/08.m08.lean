/-! What the collector's arrays hold while it lists -/
theorem lm_up_fill {f : Nat → Int32} {x : Int32} {i : Nat} (hf : ∀ j, j < i → f j = x) : ∀ j, j < i + 1 → lm_up f i x j = x := by
  intro j hj
  by_cases e : j = i
  · rw [e, lm_up_eq]
  · rw [lm_up_ne e]; exact hf j (by omega)
def lm_ls (fl fi : Nat → Int32) (L : List Nat) : Prop := (∀ j, j < L.length → fl j = nI (L.getD j 0)) ∧ ∀ p, p < 120 → fi p = nI (if p ∈ L then 1 else 0)
theorem lm_ls_0 {fl fi : Nat → Int32} (h : ∀ j, j < 120 → fi j = nI 0) : lm_ls fl fi [] := ⟨fun j hj => by simp at hj, fun p hp => by rw [h p hp]; simp⟩
theorem lm_enl_no {w : Nat → lm_V} {L : List Nat} {v : lm_V} (h : v.1 ≠ 2) : lm_enl w L v = L := by
  unfold lm_enl; rw [if_neg (fun q => h q.1)]
theorem lm_enl_old {w : Nat → lm_V} {L : List Nat} {v : lm_V} (h : lm_to w v ∈ L) : lm_enl w L v = L := by
  unfold lm_enl; rw [if_neg (fun q => q.2 h)]
theorem lm_enl_new {w : Nat → lm_V} {L : List Nat} {v : lm_V} (h2 : v.1 = 2) (h : lm_to w v ∉ L) : lm_enl w L v = L ++ [lm_to w v] := by
  unfold lm_enl; rw [if_pos ⟨h2, h⟩]
theorem lm_enl_lt {c : Nat → Nat} {w : Nat → lm_V} {u : Nat} {L : List Nat} {v : lm_V} (hw : lm_wf c w u) (hL : lm_gd c w u L) (hv : lm_ok c u v) (h2 : v.1 = 2) (h : lm_to w v ∉ L) : L.length < 120 := by
  have h1 := lm_gd_len (lm_enl_gd hw hL hv)
  rw [lm_enl_new h2 h] at h1
  simp at h1
  have := hw.1
  omega
theorem lm_getD_app {L : List Nat} {x j : Nat} (hj : j < L.length) : (L ++ [x]).getD j 0 = L.getD j 0 := by
  simp [List.getD_eq_getElem?_getD, List.getElem?_append_left hj]
theorem lm_getD_last {L : List Nat} {x : Nat} : (L ++ [x]).getD L.length 0 = x := by
  simp [List.getD_eq_getElem?_getD]
theorem lm_ls_new {fl fi : Nat → Int32} {L : List Nat} {x : Nat} (h : lm_ls fl fi L) (hm : x ∉ L) (hx : x < 120) : lm_ls (lm_up fl L.length (nI x)) (lm_up fi x (nI 1)) (L ++ [x]) := by
  refine ⟨fun j hj => ?_, fun p hp => ?_⟩
  · by_cases e : j = L.length
    · rw [e, lm_up_eq, lm_getD_last]
    · have : j < L.length := by simp at hj; omega
      rw [lm_up_ne e, lm_getD_app this]; exact h.1 j this
  · by_cases e : p = x
    · rw [e, lm_up_eq]; simp
    · rw [lm_up_ne e, h.2 p hp]
      simp [e]
theorem lm_getD_in {L : List Nat} {i : Nat} (hi : i < L.length) : L.getD i 0 ∈ L := by
  rw [List.getD_eq_getElem?_getD, List.getElem?_eq_getElem hi]; simp
theorem lm_bfs_end {c : Nat → Nat} {w : Nat → lm_V} {n i : Nat} {L : List Nat} (h : L.length ≤ i) : lm_bfs c w (n + 1) i L = L := by
  unfold lm_bfs; rw [if_neg (by omega)]
theorem lm_bfs_step {c : Nat → Nat} {w : Nat → lm_V} {n i : Nat} {L : List Nat} (h : i < L.length) : lm_bfs c w (n + 1) i L = lm_bfs c w n (i + 1) (lm_enl w (lm_enl w L (w (L.getD i 0))) (lm_rest c w (L.getD i 0))) := by
  rw [lm_bfs, if_pos h]
theorem lm_enl_take {w : Nat → lm_V} {i : Nat} {L : List Nat} {a b : lm_V} (hi : i < L.length) : (lm_enl w (lm_enl w L a) b).take (i + 1) = L.take i ++ [L.getD i 0] := by
  obtain ⟨M, hM⟩ := lm_enl_pre (w := w) (L := L) (v := a)
  obtain ⟨M2, hM2⟩ := lm_enl_pre (w := w) (L := lm_enl w L a) (v := b)
  rw [hM2, hM, List.append_assoc, List.take_append_of_le_length (by omega), List.take_succ_eq_append_getElem hi]
  rw [List.getD_eq_getElem?_getD, List.getElem?_eq_getElem hi]
  rfl
theorem lm_isRb_app {c : Nat → Nat} {w : Nat → lm_V} {M : List Nat} {y p : Nat} : lm_isRb c w (M ++ [y]) p = (lm_isRb c w M p || decide ((lm_rest c w y).1 = 2 ∧ lm_to w (lm_rest c w y) = p)) := by
  unfold lm_isRb
  simp [List.any_append]
theorem lm_isR_no {c : Nat → Nat} {w : Nat → lm_V} {M : List Nat} {y : Nat} {fr : Nat → Int32} (hfr : ∀ p, p < 120 → fr p = nI (if lm_isRb c w M p = true then 1 else 0)) (h2 : (lm_rest c w y).1 ≠ 2) : ∀ p, p < 120 → fr p = nI (if lm_isRb c w (M ++ [y]) p = true then 1 else 0) := by
  intro p hp
  rw [hfr p hp, lm_isRb_app]
  simp [h2]
theorem lm_isR_yes {c : Nat → Nat} {w : Nat → lm_V} {M : List Nat} {y : Nat} {fr : Nat → Int32} (hfr : ∀ p, p < 120 → fr p = nI (if lm_isRb c w M p = true then 1 else 0)) (h2 : (lm_rest c w y).1 = 2) : ∀ p, p < 120 → lm_up fr (lm_to w (lm_rest c w y)) (nI 1) p = nI (if lm_isRb c w (M ++ [y]) p = true then 1 else 0) := by
  intro p hp
  by_cases e : p = lm_to w (lm_rest c w y)
  · rw [e, lm_up_eq, lm_isRb_app]; simp [h2]
  · rw [lm_up_ne e, hfr p hp, lm_isRb_app]
    have : ¬ lm_to w (lm_rest c w y) = p := fun q => e q.symm
    simp [this]
/-! .. and while it lays: lay by newPlaces, O by the other half's words -/
def lm_os (fn f2 : Nat → Int32) (g2 : Nat → Int64) (s : lm_S) : Prop := (∀ p, p < 120 → fn p = oI (s.1 p)) ∧ ∀ j, j < s.2.length → f2 j = nI (s.2.getD j (0, 0, 0)).1 ∧ g2 j = en (s.2.getD j (0, 0, 0)).2
def lm_sb (s : lm_S) : Prop := ∀ q n, s.1 q = some n → n < 2 ^ 31
theorem lm_mark_up {fn : Nat → Int32} {lay : Nat → Option Nat} {p n : Nat} (h : ∀ q, q < 120 → fn q = oI (lay q)) : ∀ q, q < 120 → lm_up fn p (nI n) q = oI (lm_mark lay p n q) := by
  intro q hq
  by_cases e : q = p
  · rw [e, lm_up_eq]; simp [lm_mark, oI]
  · rw [lm_up_ne e, h q hq]; simp [lm_mark, e]
theorem lm_os_1 {fn f2 : Nat → Int32} {g2 : Nat → Int64} {s : lm_S} {p k : Nat} {v : lm_V} (h : lm_os fn f2 g2 s) : lm_os (lm_up fn p (nI s.2.length)) (lm_up f2 s.2.length (nI k)) (lm_up g2 s.2.length (en v)) (lm_mark s.1 p s.2.length, s.2 ++ [(k, v)]) := by
  refine ⟨lm_mark_up h.1, fun j hj => ?_⟩
  show _ = nI ((s.2 ++ [(k, v)]).getD j (0, 0, 0)).1 ∧ _ = en ((s.2 ++ [(k, v)]).getD j (0, 0, 0)).2
  by_cases e : j = s.2.length
  · rw [e, lm_up_eq, lm_up_eq, lm_getD_r (Nat.le_refl _)]; simp
  · have : j < s.2.length := by simp at hj; omega
    rw [lm_up_ne e, lm_up_ne e, lm_getD_l this]; exact h.2 j this
theorem lm_os_2 {fn f2 : Nat → Int32} {g2 : Nat → Int64} {s : lm_S} {p k k2 : Nat} {v v2 : lm_V} (h : lm_os fn f2 g2 s) : lm_os (lm_up fn p (nI s.2.length)) (lm_up (lm_up f2 s.2.length (nI k)) (s.2.length + 1) (nI k2)) (lm_up (lm_up g2 s.2.length (en v)) (s.2.length + 1) (en v2)) (lm_mark s.1 p s.2.length, s.2 ++ [(k, v), (k2, v2)]) := by
  refine ⟨lm_mark_up h.1, fun j hj => ?_⟩
  show _ = nI ((s.2 ++ [(k, v), (k2, v2)]).getD j (0, 0, 0)).1 ∧ _ = en ((s.2 ++ [(k, v), (k2, v2)]).getD j (0, 0, 0)).2
  have hj : j < s.2.length + 2 := by simpa using hj
  rcases (show j < s.2.length ∨ j = s.2.length ∨ j = s.2.length + 1 by omega) with e | e | e
  · rw [lm_up_ne (by omega), lm_up_ne (by omega), lm_up_ne (by omega), lm_up_ne (by omega), lm_getD_l e]; exact h.2 j e
  · have a1 : s.2.length ≠ s.2.length + 1 := by omega
    rw [e, lm_up_ne a1, lm_up_ne a1, lm_up_eq, lm_up_eq, lm_getD_r (Nat.le_refl _)]; simp
  · rw [e, lm_up_eq, lm_up_eq, lm_getD_r (by omega)]; simp
theorem lm_lay_e {c : Nat → Nat} {w : Nat → lm_V} {s : lm_S} {p : Nat} (h : (lm_rest c w p).1 = 0) : lm_lay c w s p = ((lm_mark s.1 p s.2.length, s.2 ++ [(1, w p)]), none) := by
  unfold lm_lay; rw [if_pos h]
theorem lm_lay_n {c : Nat → Nat} {w : Nat → lm_V} {s : lm_S} {p : Nat} (h : (lm_rest c w p).1 = 2) (h2 : lm_mark s.1 p s.2.length (lm_to w (lm_rest c w p)) = none) : lm_lay c w s p = ((lm_mark s.1 p s.2.length, s.2 ++ [(0, w p)]), some (lm_to w (lm_rest c w p))) := by
  unfold lm_lay; rw [if_neg (by omega), if_pos ⟨h, h2⟩]
theorem lm_lay_p {c : Nat → Nat} {w : Nat → lm_V} {s : lm_S} {p : Nat} (h : (lm_rest c w p).1 ≠ 0) (h2 : ¬ ((lm_rest c w p).1 = 2 ∧ lm_mark s.1 p s.2.length (lm_to w (lm_rest c w p)) = none)) : lm_lay c w s p = ((lm_mark s.1 p s.2.length, s.2 ++ [(2, w p), (3, lm_rest c w p)]), none) := by
  unfold lm_lay; rw [if_neg h, if_neg h2]
theorem lm_lay_len {c : Nat → Nat} {w : Nat → lm_V} {s : lm_S} {p : Nat} : s.2.length + 1 ≤ (lm_lay c w s p).1.2.length := by
  unfold lm_lay
  split
  · simp
  · split <;> simp
theorem lm_mark_b {lay : Nat → Option Nat} {p n : Nat} (h : ∀ q k, lay q = some k → k < 2 ^ 31) (hn : n < 2 ^ 31) : ∀ q k, lm_mark lay p n q = some k → k < 2 ^ 31 := by
  intro q k hq
  unfold lm_mark at hq
  by_cases e : q = p
  · rw [if_pos e] at hq; cases hq; exact hn
  · rw [if_neg e] at hq; exact h q k hq
theorem lm_lay_b {c : Nat → Nat} {w : Nat → lm_V} {s : lm_S} {p : Nat} (h : lm_sb s) (hn : s.2.length < 2 ^ 31) : lm_sb (lm_lay c w s p).1 := by
  have : (lm_lay c w s p).1.1 = lm_mark s.1 p s.2.length := by
    unfold lm_lay
    split
    · rfl
    · split <;> rfl
  intro q k hq
  rw [this] at hq
  exact lm_mark_b h hn q k hq
theorem lm_lay_q {c : Nat → Nat} {w : Nat → lm_V} {u : Nat} {s : lm_S} {p q : Nat} (hw : lm_wf c w u) (hp : lm_cl c w u p) (h : (lm_lay c w s p).2 = some q) : lm_cl c w u q := by
  unfold lm_lay at h
  by_cases e : (lm_rest c w p).1 = 0
  · rw [if_pos e] at h; cases h
  · rw [if_neg e] at h
    by_cases e2 : (lm_rest c w p).1 = 2 ∧ lm_mark s.1 p s.2.length (lm_to w (lm_rest c w p)) = none
    · rw [if_pos e2] at h
      have := Option.some.inj h
      rw [← this]; exact lm_to_cl hw (lm_rest_ok hw hp) e2.1
    · rw [if_neg e2] at h; cases h
/-- a spine that may have ended already -/
def lm_spO (c : Nat → Nat) (w : Nat → lm_V) (n : Nat) (s : lm_S) (o : Option Nat) : lm_S := match o with
  | none => s
  | some p => lm_spine c w n s p
theorem lm_spO_s {c : Nat → Nat} {w : Nat → lm_V} {n : Nat} {s : lm_S} {p : Nat} : lm_spO c w (n + 1) s (some p) = lm_spO c w n (lm_lay c w s p).1 (lm_lay c w s p).2 := by
  unfold lm_spO
  show lm_spine c w (n + 1) s p = _
  rw [lm_spine]
  first | done | (generalize (lm_lay c w s p).2 = o; cases o <;> rfl)
theorem lm_spO_len {c : Nat → Nat} {w : Nat → lm_V} : ∀ (n : Nat) (s : lm_S) (o : Option Nat), s.2.length ≤ (lm_spO c w n s o).2.length := by
  intro n
  induction n with
  | zero =>
    intro s o
    cases o <;> exact Nat.le_refl _
  | succ n ih =>
    intro s o
    cases o with
    | none => exact Nat.le_refl _
    | some p =>
      rw [lm_spO_s]
      have := ih (lm_lay c w s p).1 (lm_lay c w s p).2
      have := lm_lay_len (c := c) (w := w) (s := s) (p := p)
      omega
theorem lm_spO_b {c : Nat → Nat} {w : Nat → lm_V} : ∀ (n : Nat) (s : lm_S) (o : Option Nat), lm_sb s → (lm_spO c w n s o).2.length ≤ 120 → lm_sb (lm_spO c w n s o) := by
  intro n
  induction n with
  | zero =>
    intro s o h _
    cases o <;> exact h
  | succ n ih =>
    intro s o h hl
    cases o with
    | none => exact h
    | some p =>
      rw [lm_spO_s] at hl ⊢
      have h1 := lm_spO_len (c := c) (w := w) n (lm_lay c w s p).1 (lm_lay c w s p).2
      have h2 := lm_lay_len (c := c) (w := w) (s := s) (p := p)
      exact ih _ _ (lm_lay_b h (by omega)) hl
theorem lm_try_y {c : Nat → Nat} {w : Nat → lm_V} {L : List Nat} {hd : Bool} {s : lm_S} {p : Nat} (h1 : s.1 p = none) (h2 : ¬ (hd = true ∧ lm_isRb c w L p = true)) : lm_try c w L hd s p = lm_spO c w 120 s (some p) := by
  unfold lm_try; rw [if_pos ⟨h1, h2⟩]; rfl
theorem lm_try_n {c : Nat → Nat} {w : Nat → lm_V} {L : List Nat} {hd : Bool} {s : lm_S} {p : Nat} (h : ¬ (s.1 p = none ∧ ¬ (hd = true ∧ lm_isRb c w L p = true))) : lm_try c w L hd s p = s := by
  unfold lm_try; rw [if_neg h]
theorem lm_try_len {c : Nat → Nat} {w : Nat → lm_V} {L : List Nat} {hd : Bool} {s : lm_S} {p : Nat} : s.2.length ≤ (lm_try c w L hd s p).2.length := by
  by_cases h : s.1 p = none ∧ ¬ (hd = true ∧ lm_isRb c w L p = true)
  · rw [lm_try_y h.1 h.2]; exact lm_spO_len 120 s (some p)
  · rw [lm_try_n h]; exact Nat.le_refl _
theorem lm_try_b {c : Nat → Nat} {w : Nat → lm_V} {L : List Nat} {hd : Bool} {s : lm_S} {p : Nat} (h : lm_sb s) (hl : (lm_try c w L hd s p).2.length ≤ 120) : lm_sb (lm_try c w L hd s p) := by
  by_cases e : s.1 p = none ∧ ¬ (hd = true ∧ lm_isRb c w L p = true)
  · rw [lm_try_y e.1 e.2] at hl ⊢; exact lm_spO_b 120 s (some p) h hl
  · rw [lm_try_n e]; exact h
theorem lm_phase_len {c : Nat → Nat} {w : Nat → lm_V} {L : List Nat} {hd : Bool} {s : lm_S} : ∀ (k n : Nat), n ≤ k → (lm_phase c w L hd s n).2.length ≤ (lm_phase c w L hd s k).2.length := by
  intro k
  induction k with
  | zero => intro n hn; rw [show n = 0 by omega]; exact Nat.le_refl _
  | succ k ih =>
    intro n hn
    by_cases e : n = k + 1
    · rw [e]; exact Nat.le_refl _
    · have h1 := ih n (by omega)
      have h2 := lm_try_len (c := c) (w := w) (L := L) (hd := hd) (s := lm_phase c w L hd s k) (p := L.getD k 0)
      show _ ≤ (lm_try c w L hd (lm_phase c w L hd s k) (L.getD k 0)).2.length
      omega
theorem lm_phase_b {c : Nat → Nat} {w : Nat → lm_V} {L : List Nat} {hd : Bool} {s : lm_S} (h : lm_sb s) : ∀ n, (lm_phase c w L hd s n).2.length ≤ 120 → lm_sb (lm_phase c w L hd s n) := by
  intro n
  induction n with
  | zero => intro _; exact h
  | succ n ih =>
    intro hl
    have h1 := lm_phase_len (c := c) (w := w) (L := L) (hd := hd) (s := s) (n + 1) n (by omega)
    exact lm_try_b (ih (by omega)) hl
theorem lm_tr_no {w : Nat → lm_V} {lay : Nat → Option Nat} {v : lm_V} (h : v.1 ≠ 2) : lm_tr w lay v = v := by
  unfold lm_tr; rw [if_neg h]
theorem lm_up_lt {α : Type} {f : Nat → α} {F : Nat → α} {i : Nat} (h : ∀ j, j < i → f j = F j) : ∀ j, j < i + 1 → lm_up f i (F i) j = F j := by
  intro j hj
  by_cases e : j = i
  · rw [e, lm_up_eq]
  · rw [lm_up_ne e]; exact h j (by omega)
