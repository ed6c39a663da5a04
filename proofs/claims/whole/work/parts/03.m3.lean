/-! A collection never takes more words than were used: each spine has a cell of its own whose code isn't NEXT -/
def lm_nx (c : Nat → Nat) (w : Nat → lm_V) (p : Nat) : Nat := if (lm_rest c w p).1 = 2 then lm_to w (lm_rest c w p) else p
def lm_it (c : Nat → Nat) (w : Nat → lm_V) : Nat → Nat → Nat
  | 0, p => p
  | n + 1, p => lm_it c w n (lm_nx c w p)
theorem lm_it_add {c : Nat → Nat} {w : Nat → lm_V} : ∀ (a b p : Nat), lm_it c w (a + b) p = lm_it c w b (lm_it c w a p) := by
  intro a
  induction a with
  | zero => intro b p; simp [lm_it]
  | succ a ih => intro b p; rw [Nat.add_right_comm]; simp only [lm_it]; exact ih b _
/-- where the run of NEXT ends -/
def lm_end (c : Nat → Nat) (w : Nat → lm_V) : Nat → Nat → Nat
  | 0, p => p
  | n + 1, p => if c p = 0 then lm_end c w n (lm_cell w (p + 1)) else p
theorem lm_next {c : Nat → Nat} {w : Nat → lm_V} {u p : Nat} (h : lm_wf c w u) (hp : lm_cl c w u p) (h0 : c p = 0) : lm_nx c w p = lm_cell w (p + 1) ∧ p < lm_cell w (p + 1) ∧ lm_cl c w u (lm_cell w (p + 1)) ∧ (lm_rest c w p).1 = 2 ∧ lm_to w (lm_rest c w p) = lm_cell w (p + 1) := by
  have hr : lm_rest c w p = (2, ((p + 1 : Nat) : Int)) := by unfold lm_rest; rw [if_pos h0]
  have h1 := h.2.2.1 p hp.1 h0
  have ht : lm_to w (lm_rest c w p) = lm_cell w (p + 1) := by rw [hr]; unfold lm_to; simp only [Int.toNat_natCast]
  refine ⟨by unfold lm_nx; rw [if_pos (by rw [hr]), ht], ?_, lm_cell_cl h h1.1 h1.2, by rw [hr], ht⟩
  unfold lm_cell
  by_cases h3 : (w (p + 1)).1 = 3
  · rw [if_pos h3]
    rcases h.2.2.2.2.2.1 (p + 1) h1.1 with a | a
    · have := lm_ok_kind a; omega
    · obtain ⟨-, -, x, hx, h4, -⟩ := a
      rw [hx]; simp only [Int.toNat_natCast]; omega
  · rw [if_neg h3]; omega
theorem lm_next_inj {c : Nat → Nat} {w : Nat → lm_V} {u p q : Nat} (h : lm_wf c w u) (hp : lm_cl c w u p) (hq : lm_cl c w u q) (h0 : c p = 0) (h1 : c q = 0) (e : lm_cell w (p + 1) = lm_cell w (q + 1)) : p = q := by
  have a := h.2.2.1 p hp.1 h0
  have b := h.2.2.1 q hq.1 h1
  unfold lm_cell at e
  by_cases m1 : (w (p + 1)).1 = 3
  · rcases h.2.2.2.2.2.1 (p + 1) a.1 with z | z
    · have := lm_ok_kind z; omega
    obtain ⟨-, -, x, hx, hx1, hx2, hx3, hx4, hx5⟩ := z
    by_cases m2 : (w (q + 1)).1 = 3
    · rcases h.2.2.2.2.2.1 (q + 1) b.1 with z | z
      · have := lm_ok_kind z; omega
      obtain ⟨-, -, y, hy, -⟩ := z
      rw [if_pos m1, if_pos m2, hx, hy] at e
      simp only [Int.toNat_natCast] at e
      have := h.2.2.2.2.2.2 (p + 1) (q + 1) a.1 b.1 m1 m2 (by rw [hx, hy, e])
      omega
    · rw [if_pos m1, if_neg m2, hx] at e
      simp only [Int.toNat_natCast] at e
      exact absurd h1 (hx5 q e)
  · by_cases m2 : (w (q + 1)).1 = 3
    · rcases h.2.2.2.2.2.1 (q + 1) b.1 with z | z
      · have := lm_ok_kind z; omega
      obtain ⟨-, -, y, hy, -, -, -, -, hy5⟩ := z
      rw [if_neg m1, if_pos m2, hy] at e
      simp only [Int.toNat_natCast] at e
      exact absurd h0 (hy5 p e.symm)
    · rw [if_neg m1, if_neg m2] at e
      omega
theorem lm_end_stable {c : Nat → Nat} {w : Nat → lm_V} {u : Nat} (h : lm_wf c w u) : ∀ (n p : Nat), lm_cl c w u p → u ≤ p + n → ∀ k, lm_end c w (n + k) p = lm_end c w n p := by
  intro n
  induction n with
  | zero => intro p hp hn; have := hp.1; omega
  | succ n ih =>
    intro p hp hn k
    rw [Nat.add_right_comm]
    simp only [lm_end]
    by_cases h0 : c p = 0
    · rw [if_pos h0, if_pos h0]
      have := lm_next h hp h0
      exact ih _ this.2.2.1 (by omega) k
    · rw [if_neg h0, if_neg h0]
theorem lm_end_step {c : Nat → Nat} {w : Nat → lm_V} {u p : Nat} (h : lm_wf c w u) (hp : lm_cl c w u p) : lm_end c w 120 p = if c p = 0 then lm_end c w 120 (lm_cell w (p + 1)) else p := by
  have h1 : lm_end c w 120 p = lm_end c w 121 p := (lm_end_stable h 120 p hp (by have := h.1; omega) 1).symm
  rw [h1]
  simp only [lm_end]
theorem lm_end_in {c : Nat → Nat} {w : Nat → lm_V} {u : Nat} {L : List Nat} (h : lm_wf c w u) (hL : lm_gd c w u L) (hcl : ∀ p ∈ L, lm_cs c w L p) : ∀ (k p : Nat), u - p ≤ k → p ∈ L → lm_end c w 120 p ∈ L ∧ c (lm_end c w 120 p) ≠ 0 := by
  intro k
  induction k with
  | zero => intro p hk hp; have := (hL.2 p hp).1; omega
  | succ k ih =>
    intro p hk hp
    have hc := hL.2 p hp
    rw [lm_end_step h hc]
    by_cases h0 : c p = 0
    · rw [if_pos h0]
      have := lm_next h hc h0
      exact ih _ (by omega) (by rw [← this.2.2.2.2]; exact (hcl p hp).2 this.2.2.2.1)
    · rw [if_neg h0]; exact ⟨hp, h0⟩
/-- b comes behind a by rests -/
def lm_far (c : Nat → Nat) (w : Nat → lm_V) (a b : Nat) : Prop := ∃ i, lm_it c w i a = b
theorem lm_far_rf {c : Nat → Nat} {w : Nat → lm_V} {a : Nat} : lm_far c w a a := ⟨0, rfl⟩
theorem lm_far_step {c : Nat → Nat} {w : Nat → lm_V} {a b : Nat} (h : lm_far c w (lm_nx c w a) b) : lm_far c w a b := by
  obtain ⟨i, hi⟩ := h; exact ⟨i + 1, hi⟩
/-- .. by runs of NEXT alone -/
def lm_run (c : Nat → Nat) (w : Nat → lm_V) : Nat → Nat → Nat → Prop
  | 0, a, b => a = b
  | n + 1, a, b => a = b ∨ (c a = 0 ∧ lm_run c w n (lm_cell w (a + 1)) b)
theorem lm_run_mono {c : Nat → Nat} {w : Nat → lm_V} : ∀ (n a b : Nat), lm_run c w n a b → lm_run c w (n + 1) a b := by
  intro n
  induction n with
  | zero => intro a b h; exact Or.inl h
  | succ n ih =>
    intro a b h
    rcases h with h | ⟨h1, h2⟩
    · exact Or.inl h
    · exact Or.inr ⟨h1, ih _ _ h2⟩
theorem lm_run_far {c : Nat → Nat} {w : Nat → lm_V} {u : Nat} (h : lm_wf c w u) : ∀ (n a b : Nat), lm_cl c w u a → lm_run c w n a b → lm_far c w a b := by
  intro n
  induction n with
  | zero => intro a b _ hr; exact ⟨0, hr⟩
  | succ n ih =>
    intro a b ha hr
    rcases hr with hr | ⟨h0, hr⟩
    · exact ⟨0, hr⟩
    · have := lm_next h ha h0
      refine lm_far_step ?_
      rw [this.1]
      exact ih _ _ this.2.2.1 hr
/-- the run from a comes to the word behind b: then b itself lies on it, or b's rest is a -/
theorem lm_run_back {c : Nat → Nat} {w : Nat → lm_V} {u : Nat} (h : lm_wf c w u) {b : Nat} (hb : lm_cl c w u b) (hb0 : c b = 0) : ∀ (n a : Nat), lm_cl c w u a → lm_run c w n a (lm_cell w (b + 1)) → a = lm_cell w (b + 1) ∨ lm_run c w n a b := by
  intro n
  induction n with
  | zero => intro a _ hr; exact Or.inl hr
  | succ n ih =>
    intro a ha hr
    rcases hr with hr | ⟨h0, hr⟩
    · exact Or.inl hr
    · have := lm_next h ha h0
      rcases ih _ this.2.2.1 hr with e | e
      · have := lm_next_inj h ha hb h0 hb0 e
        exact Or.inr (Or.inl this)
      · exact Or.inr (Or.inr ⟨h0, e⟩)
theorem lm_end_chain {c : Nat → Nat} {w : Nat → lm_V} {u : Nat} (h : lm_wf c w u) : ∀ (k a b : Nat), (u - a) + (u - b) ≤ k → lm_cl c w u a → lm_cl c w u b → lm_end c w 120 a = lm_end c w 120 b → (∃ n, lm_run c w n a b) ∨ ∃ n, lm_run c w n b a := by
  intro k
  induction k with
  | zero => intro a b hk ha hb; have := ha.1; omega
  | succ k ih =>
    intro a b hk ha hb e
    by_cases ea : c a = 0
    · have na := lm_next h ha ea
      rw [lm_end_step h ha, if_pos ea] at e
      by_cases eb : c b = 0
      · have nb := lm_next h hb eb
        rw [lm_end_step h hb, if_pos eb] at e
        rcases ih _ _ (by have := ha.1; have := hb.1; omega) na.2.2.1 nb.2.2.1 e with ⟨n, hn⟩ | ⟨n, hn⟩
        · rcases lm_run_back h hb eb n _ na.2.2.1 hn with z | z
          · have := lm_next_inj h ha hb ea eb z
            exact Or.inl ⟨0, this⟩
          · exact Or.inl ⟨n + 1, Or.inr ⟨ea, z⟩⟩
        · rcases lm_run_back h ha ea n _ nb.2.2.1 hn with z | z
          · have := lm_next_inj h hb ha eb ea z
            exact Or.inr ⟨0, this⟩
          · exact Or.inr ⟨n + 1, Or.inr ⟨eb, z⟩⟩
      · rcases ih _ b (by have := ha.1; omega) na.2.2.1 hb e with ⟨n, hn⟩ | ⟨n, hn⟩
        · exact Or.inl ⟨n + 1, Or.inr ⟨ea, hn⟩⟩
        · cases n with
          | zero => exact Or.inl ⟨1, Or.inr ⟨ea, Eq.symm hn⟩⟩
          | succ n =>
            rcases hn with hn | ⟨h0, -⟩
            · exact Or.inl ⟨1, Or.inr ⟨ea, hn.symm⟩⟩
            · exact absurd h0 eb
    · rw [lm_end_step h ha, if_neg ea] at e
      by_cases eb : c b = 0
      · have nb := lm_next h hb eb
        rw [lm_end_step h hb, if_pos eb] at e
        rcases ih a _ (by have := hb.1; omega) ha nb.2.2.1 (by rw [lm_end_step h ha, if_neg ea]; exact e) with ⟨n, hn⟩ | ⟨n, hn⟩
        · cases n with
          | zero => exact Or.inr ⟨1, Or.inr ⟨eb, Eq.symm hn⟩⟩
          | succ n =>
            rcases hn with hn | ⟨h0, -⟩
            · exact Or.inr ⟨1, Or.inr ⟨eb, hn.symm⟩⟩
            · exact absurd h0 ea
        · exact Or.inr ⟨n + 1, Or.inr ⟨eb, hn⟩⟩
      · rw [lm_end_step h hb, if_neg eb] at e
        exact Or.inl ⟨0, e⟩
/-- cells of which each has one ahead of it among them come back to themselves -/
theorem lm_round {c : Nat → Nat} {w : Nat → lm_V} {L : List Nat} (hL : L.length ≤ 120) (U : Nat → Prop) (hU : ∀ x, U x → x ∈ L) (hp : ∀ x, U x → ∃ y, U y ∧ lm_nx c w y = x) (x : Nat) (hx : U x) : ∃ m, 0 < m ∧ lm_it c w m x = x := by
  have hY : ∀ k x, U x → ∃ y, U y ∧ lm_it c w k y = x := by
    intro k
    induction k with
    | zero => intro x hx; exact ⟨x, hx, rfl⟩
    | succ k ih =>
      intro x hx
      obtain ⟨y, hy, e⟩ := ih x hx
      obtain ⟨z, hz, e2⟩ := hp y hy
      exact ⟨z, hz, by simp only [lm_it]; rw [e2]; exact e⟩
  have hY2 : ∀ k, ∃ y, U y ∧ lm_it c w k y = x := fun k => hY k x hx
  have hch : ∃ Y : Nat → Nat, ∀ k, U (Y k) ∧ lm_it c w k (Y k) = x := ⟨fun k => Classical.choose (hY2 k), fun k => Classical.choose_spec (hY2 k)⟩
  obtain ⟨Y, hYs⟩ := hch
  have hno : ¬ ((List.range 121).map Y).Nodup := by
    intro hn
    have := List.Nodup.length_le_of_subset hn (l₂ := L) (fun y hy => by
      obtain ⟨k, -, rfl⟩ := List.mem_map.mp hy
      exact hU _ (hYs k).1)
    simp at this
    omega
  have hex : ∃ i j, i < j ∧ Y i = Y j := by
    apply Classical.byContradiction
    intro hne
    apply hno
    unfold List.Nodup
    rw [List.pairwise_map]
    refine List.Pairwise.imp (R := fun a b => a < b) (fun {a b} hab e => hne ⟨a, b, hab, e⟩) List.pairwise_lt_range
  obtain ⟨i, j, hij, e⟩ := hex
  refine ⟨j - i, by omega, ?_⟩
  have h1 := (hYs i).2
  have h2 := (hYs j).2
  rw [← e] at h2
  have : j = i + (j - i) := by omega
  rw [this, lm_it_add, h1] at h2
  exact h2
/-- what is laid is closed under rests: then all that comes behind is laid -/
theorem lm_far_in {c : Nat → Nat} {w : Nat → lm_V} {D : List Nat} (hD : ∀ p ∈ D, (lm_rest c w p).1 = 2 → lm_to w (lm_rest c w p) ∈ D) : ∀ (i a : Nat), a ∈ D → lm_it c w i a ∈ D := by
  intro i
  induction i with
  | zero => intro a ha; exact ha
  | succ i ih =>
    intro a ha
    simp only [lm_it]
    refine ih _ ?_
    unfold lm_nx
    by_cases e : (lm_rest c w a).1 = 2
    · rw [if_pos e]; exact hD a ha e
    · rw [if_neg e]; exact ha
theorem lm_run_R {c : Nat → Nat} {w : Nat → lm_V} {u : Nat} {L : List Nat} (h : lm_wf c w u) (hL : lm_gd c w u L) (hcl : ∀ p ∈ L, lm_cs c w L p) : ∀ (n a b : Nat), a ∈ L → lm_run c w n a b → a = b ∨ lm_isR c w L b := by
  intro n
  induction n with
  | zero => intro a b _ hr; exact Or.inl hr
  | succ n ih =>
    intro a b ha hr
    rcases hr with hr | ⟨h0, hr⟩
    · exact Or.inl hr
    · have na := lm_next h (hL.2 a ha) h0
      have hin : lm_cell w (a + 1) ∈ L := by rw [← na.2.2.2.2]; exact (hcl a ha).2 na.2.2.2.1
      rcases ih _ _ hin hr with e | e
      · exact Or.inr ⟨a, ha, na.2.2.2.1, by rw [na.2.2.2.2]; exact e⟩
      · exact Or.inr e
/-- the heads: each was laid; the ends of their runs differ; in the first phase they are no rests -/
def lm_J (c : Nat → Nat) (w : Nat → lm_V) (u : Nat) (L : List Nat) (hd : Bool) (s : lm_S) (D Hs : List Nat) : Prop :=
  lm_I c w u L s D Hs.length none ∧ (∀ x ∈ Hs, x ∈ D) ∧ (Hs.map (lm_end c w 120)).Nodup ∧ (hd = true → ∀ x ∈ Hs, ¬ lm_isR c w L x) ∧ (hd = false → ∀ x ∈ Hs, lm_isR c w L x → ∃ m, 0 < m ∧ lm_it c w m x = x) ∧
  (hd = false → ∀ x ∈ L, x ∉ D → ∃ m, 0 < m ∧ lm_it c w m x = x)
theorem lm_try_J {c : Nat → Nat} {w : Nat → lm_V} {u : Nat} {L : List Nat} (hw : lm_wf c w u) (hL : lm_gd c w u L) (hcl : ∀ p ∈ L, lm_cs c w L p) {hd : Bool} {s : lm_S} {D Hs : List Nat} {p : Nat} (hJ : lm_J c w u L hd s D Hs) (hp : p ∈ L) :
    ∃ D' Hs', lm_J c w u L hd (lm_try c w L hd s p) D' Hs' ∧ (∀ q ∈ D, q ∈ D') ∧ (¬ (hd = true ∧ lm_isR c w L p) → p ∈ D') := by
  obtain ⟨j1, j2, j3, j4, j5, j6⟩ := hJ
  unfold lm_try
  by_cases e : s.1 p = none ∧ ¬ (hd = true ∧ lm_isRb c w L p = true)
  · rw [if_pos e]
    rw [lm_isRb_iff] at e
    obtain ⟨e1, e2⟩ := e
    have hpD : p ∉ D := fun q => (j1.2.1 p).mp q e1
    have hst : lm_I c w u L s D (Hs ++ [p]).length (some p) := by
      obtain ⟨i1, i2, i3, i4, i5, i6, i7, i8⟩ := j1
      refine ⟨i1, i2, i3, fun q hq hk => Or.inl ((i4 q hq hk).resolve_right (by simp)), ?_, i6, ?_, i8⟩
      · simp only [if_true, List.length_append, List.length_singleton] at i5 ⊢
        simp
        omega
      · obtain ⟨a1, a2, a3, a4⟩ := i7
        exact ⟨a1, fun n hn h0 => Or.inl ((a2 n hn h0).resolve_right (fun z => by simp at z)), a3, a4⟩
    obtain ⟨D', a1, a2, a3⟩ := lm_spine_I hw hL hcl 120 s D _ p hst e1 hp (by omega)
    have hclo : ∀ q ∈ D, (lm_rest c w q).1 = 2 → lm_to w (lm_rest c w q) ∈ D := fun q hq hk => (j1.2.2.2.1 q hq hk).resolve_right (by simp)
    refine ⟨D', Hs ++ [p], ⟨a1, fun x hx => ?_, ?_, fun h1 x hx => ?_, fun h1 x hx => ?_, fun h1 x hx hxD => ?_⟩, a2, fun _ => a3⟩
    · rcases List.mem_append.mp hx with z | z
      · exact a2 x (j2 x z)
      · rw [List.mem_singleton] at z; subst z; exact a3
    · rw [List.map_append, List.nodup_append]
      refine ⟨j3, by simp, ?_⟩
      intro a ha b hb hab
      simp only [List.map_cons, List.map_nil, List.mem_singleton] at hb
      subst hb
      obtain ⟨y, hy, rfl⟩ := List.mem_map.mp ha
      have hyD := j2 y hy
      have hyL := j1.2.2.1 y hyD
      rcases lm_end_chain hw _ y p (Nat.le_refl _) (hL.2 y hyL) (hL.2 p hp) hab with ⟨n, hn⟩ | ⟨n, hn⟩
      · obtain ⟨i, hi⟩ := lm_run_far hw n y p (hL.2 y hyL) hn
        exact hpD (hi ▸ lm_far_in hclo i y hyD)
      · rcases lm_run_R hw hL hcl n p y hp hn with z | z
        · subst z; exact hpD hyD
        · cases hd with
          | true => exact j4 rfl y hy z
          | false =>
            obtain ⟨m, hm, hm2⟩ := j6 rfl p hp hpD
            obtain ⟨i, hi⟩ := lm_run_far hw n p y (hL.2 p hp) hn
            have hmul : ∀ k, lm_it c w (m * k) p = p := by
              intro k
              induction k with
              | zero => rfl
              | succ k ih => rw [Nat.mul_succ, lm_it_add, ih, hm2]
            have hle : i ≤ m * i := Nat.le_mul_of_pos_left i hm
            have h3 : m * i = i + (m * i - i) := by omega
            have h4 := hmul i
            rw [h3, lm_it_add, hi] at h4
            exact hpD (h4 ▸ lm_far_in hclo _ y hyD)
    · rcases List.mem_append.mp hx with z | z
      · exact j4 h1 x z
      · rw [List.mem_singleton] at z; subst z; exact fun q => e2 ⟨h1, q⟩
    · rcases List.mem_append.mp hx with z | z
      · exact j5 h1 x z
      · rw [List.mem_singleton] at z; subst z; exact fun _ => j6 h1 x hp hpD
    · exact j6 h1 x hx (fun q => hxD (a2 x q))
  · rw [if_neg e]
    refine ⟨D, Hs, ⟨j1, j2, j3, j4, j5, j6⟩, fun q hq => hq, fun hno => ?_⟩
    rw [lm_isRb_iff] at e
    apply Classical.byContradiction
    intro hpD
    apply e
    refine ⟨?_, hno⟩
    apply Classical.byContradiction
    intro z
    exact hpD ((j1.2.1 p).mpr z)
theorem lm_phase_J {c : Nat → Nat} {w : Nat → lm_V} {u : Nat} {L : List Nat} (hw : lm_wf c w u) (hL : lm_gd c w u L) (hcl : ∀ p ∈ L, lm_cs c w L p) {hd : Bool} {s : lm_S} {D Hs : List Nat} (hJ : lm_J c w u L hd s D Hs) : ∀ n, n ≤ L.length →
    ∃ D' Hs', lm_J c w u L hd (lm_phase c w L hd s n) D' Hs' ∧ (∀ q ∈ D, q ∈ D') ∧ ∀ i, i < n → ¬ (hd = true ∧ lm_isR c w L (L.getD i 0)) → L.getD i 0 ∈ D' := by
  intro n
  induction n with
  | zero => intro _; exact ⟨D, Hs, hJ, fun q hq => hq, fun i hi => by omega⟩
  | succ n ih =>
    intro hn
    obtain ⟨D1, H1, a1, a2, a3⟩ := ih (by omega)
    have hm : L.getD n 0 ∈ L := by
      rw [List.getD_eq_getElem?_getD, List.getElem?_eq_getElem (by omega)]; simp
    obtain ⟨D2, H2, b1, b2, b3⟩ := lm_try_J hw hL hcl a1 hm
    refine ⟨D2, H2, b1, fun q hq => b2 q (a2 q hq), fun i hi hno => ?_⟩
    by_cases e : i = n
    · subst e; exact b3 hno
    · exact b2 _ (a3 i (by omega) hno)
theorem lm_mem_getD {L : List Nat} {p : Nat} (h : p ∈ L) : ∃ i, i < L.length ∧ L.getD i 0 = p := by
  obtain ⟨j, hj, e⟩ := List.getElem_of_mem h
  exact ⟨j, hj, by rw [List.getD_eq_getElem?_getD, List.getElem?_eq_getElem hj]; simpa using e⟩
/-- both phases: all that is listed is laid, and no more words are taken than were used -/
theorem lm_laid_spec {c : Nat → Nat} {w : Nat → lm_V} {u : Nat} {L : List Nat} (hw : lm_wf c w u) (hL : lm_gd c w u L) (hcl : ∀ p ∈ L, lm_cs c w L p) :
    (∀ p ∈ L, ∃ n, (lm_laid c w L).1 p = some n ∧ n < (lm_laid c w L).2.length ∧ ((lm_laid c w L).2.getD n (0, 0, 0)).1 ≠ 3) ∧ lm_wO (lm_laid c w L).2 False ∧ lm_vO c w u L (lm_laid c w L).2 ∧ (lm_laid c w L).2.length ≤ u := by
  have h0 : lm_J c w u L true (fun _ => none, []) [] [] := by
    refine ⟨⟨List.nodup_nil, fun p => by simp, fun p hp => (by cases hp), fun p hp => (by cases hp), by simp, fun p n h => (by cases h), ⟨fun n hn => by simp at hn, fun n hn => by simp at hn, fun n hn => by simp at hn, fun n hn => by simp at hn⟩, fun x hx => (by cases hx)⟩, fun x hx => (by cases hx), by simp, fun _ x hx => (by cases hx), fun h => (by cases h), fun h => (by cases h)⟩
  obtain ⟨D1, H1, a1, -, a3⟩ := lm_phase_J hw hL hcl h0 L.length (Nat.le_refl _)
  have hlen : L.length ≤ 120 := Nat.le_trans (lm_gd_len hL) hw.1
  have hclo1 : ∀ q ∈ D1, (lm_rest c w q).1 = 2 → lm_to w (lm_rest c w q) ∈ D1 := fun q hq hk => (a1.1.2.2.2.1 q hq hk).resolve_right (by simp)
  have hround : ∀ x ∈ L, x ∉ D1 → ∃ m, 0 < m ∧ lm_it c w m x = x := by
    intro x hx hxD
    refine lm_round hlen (fun x => x ∈ L ∧ x ∉ D1) (fun x hx => hx.1) (fun x hx => ?_) x ⟨hx, hxD⟩
    obtain ⟨i, hi, e⟩ := lm_mem_getD hx.1
    have hR : lm_isR c w L x := by
      apply Classical.byContradiction
      intro hno
      exact hx.2 (e ▸ a3 i hi (fun z => hno (e ▸ z.2)))
    obtain ⟨y, hy, hy1, hy2⟩ := hR
    refine ⟨y, ⟨hy, fun z => hx.2 (hy2 ▸ hclo1 y z hy1)⟩, ?_⟩
    unfold lm_nx; rw [if_pos hy1]; exact hy2
  have h1 : lm_J c w u L false (lm_phase c w L true (fun _ => none, []) L.length) D1 H1 := ⟨a1.1, a1.2.1, a1.2.2.1, (fun h => (by cases h)), (fun _ x hx hR => absurd hR (a1.2.2.2.1 rfl x hx)), (fun _ => hround)⟩
  obtain ⟨D2, H2, b1, -, b3⟩ := lm_phase_J hw hL hcl h1 L.length (Nat.le_refl _)
  have hall : ∀ p ∈ L, p ∈ D2 := by
    intro p hp
    obtain ⟨i, hi, e⟩ := lm_mem_getD hp
    exact e ▸ b3 i hi (fun z => by cases z.1)
  obtain ⟨⟨i1, i2, i3, i4, i5, i6, i7, i8⟩, j2, j3, -⟩ := b1
  refine ⟨fun p hp => ?_, ?_, i8, ?_⟩
  · have h2 := (i2 p).mp (hall p hp)
    cases e : (lm_phase c w L false (lm_phase c w L true (fun _ => none, []) L.length) L.length).1 p with
    | none => exact absurd e h2
    | some n =>
      obtain ⟨g1, g2⟩ := i6 p n e
      exact ⟨n, e, g1, g2⟩
  · obtain ⟨c1, c2, c3, c4⟩ := i7
    exact ⟨c1, fun n hn h0 => Or.inl ((c2 n hn h0).resolve_right (fun z => by simp at z)), c3, c4⟩
  · -- the count
    show (lm_phase c w L false (lm_phase c w L true (fun _ => none, []) L.length) L.length).2.length ≤ u
    generalize lm_phase c w L false (lm_phase c w L true (fun _ => none, []) L.length) L.length = S at *
    have k1 : H2.length ≤ (L.filter (fun p => decide (c p ≠ 0))).length := by
      have := List.Nodup.length_le_of_subset j3 (l₂ := L.filter (fun p => decide (c p ≠ 0))) (fun y hy => by
        obtain ⟨x, hx, rfl⟩ := List.mem_map.mp hy
        have hxL := i3 x (j2 x hx)
        have := lm_end_in hw hL hcl _ x (Nat.le_refl _) hxL
        exact List.mem_filter.mpr ⟨this.1, by simpa using this.2⟩)
      simpa using this
    have k2 : (L.filter (fun p => decide (c p ≠ 0))).length = (L.filter (fun p => decide (c p = 1))).length + (L.filter (fun p => decide (c p = 2))).length := by
      have hcode : ∀ p ∈ L, c p = 0 ∨ c p = 1 ∨ c p = 2 := fun p hp => by
        have h1 := hL.2 p hp
        have h2 := hw.2.1 p h1.1
        have h3 := h1.2.1
        omega
      clear k1 i1 i2 i3 i4 i5 i6 i7 i8 j2 j3 b3 hall h1 hround hclo1 hlen a1 a3 h0
      clear hcl hL
      induction L with
      | nil => rfl
      | cons a l ih =>
        have := ih (fun p hp => hcode p (List.mem_cons_of_mem _ hp))
        rcases hcode a List.mem_cons_self with e | e | e
        · simp [List.filter_cons, e]; simpa using this
        · simp [List.filter_cons, e]; simp at this; omega
        · simp [List.filter_cons, e]; simp at this; omega
    have k3 : (L.filter (fun p => decide (c p = 1))).length ≤ (D2.filter (lm_nil c w)).length := by
      refine List.Nodup.length_le_of_subset (List.Nodup.sublist List.filter_sublist hL.1) (fun p hp => ?_)
      obtain ⟨h1, h2⟩ := List.mem_filter.mp hp
      refine List.mem_filter.mpr ⟨hall p h1, ?_⟩
      have h2 : c p = 1 := by simpa using h2
      simp [lm_nil, lm_rest, h2]
    have k4 : D2.length + (L.filter (fun p => decide (c p = 2))).length ≤ u := by
      have hn : (D2 ++ (L.filter (fun p => decide (c p = 2))).map (· + 1)).Nodup := by
        rw [List.nodup_append]
        refine ⟨i1, ?_, ?_⟩
        · unfold List.Nodup
          rw [List.pairwise_map]
          exact List.Pairwise.imp (fun {a b} h e => h (by omega)) (List.Nodup.sublist List.filter_sublist hL.1)
        · intro a ha b hb hab
          obtain ⟨x, hx, rfl⟩ := List.mem_map.mp hb
          obtain ⟨h1, h2⟩ := List.mem_filter.mp hx
          have h2 : c x = 2 := by simpa using h2
          have := hw.2.2.2.1 x (hL.2 x h1).1 h2
          have h3 := (hL.2 a (i3 a ha)).2.1
          rw [hab] at h3
          exact h3 this.2
      have := List.Nodup.length_le_of_subset hn (l₂ := List.range u) (fun y hy => by
        rcases List.mem_append.mp hy with z | z
        · exact List.mem_range.mpr (hL.2 y (i3 y z)).1
        · obtain ⟨x, hx, rfl⟩ := List.mem_map.mp z
          obtain ⟨h1, h2⟩ := List.mem_filter.mp hx
          have h2 : c x = 2 := by simpa using h2
          exact List.mem_range.mpr (hw.2.2.2.1 x (hL.2 x h1).1 h2).1)
      simp at this
      simpa using this
    simp only [if_true] at i5
    omega
