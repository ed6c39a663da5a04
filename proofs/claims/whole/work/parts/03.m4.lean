/-! The state behind a collection, and behind each change, is as it must be -/
def lm_gc (c : Nat → Nat) (w rt : Nat → lm_V) : Nat → Nat := fun n => ((lm_laid c w (lm_list c w rt)).2.getD n (0, 0, 0)).1
def lm_gw (c : Nat → Nat) (w rt : Nat → lm_V) : Nat → lm_V := fun n => lm_tr w (lm_laid c w (lm_list c w rt)).1 ((lm_laid c w (lm_list c w rt)).2.getD n (0, 0, 0)).2
def lm_gu (c : Nat → Nat) (w rt : Nat → lm_V) : Nat := (lm_laid c w (lm_list c w rt)).2.length
def lm_gr (c : Nat → Nat) (w rt : Nat → lm_V) : Nat → lm_V := fun r => lm_tr w (lm_laid c w (lm_list c w rt)).1 (rt r)
def lm_st (c : Nat → Nat) (w : Nat → lm_V) (u : Nat) (rt : Nat → lm_V) : Prop := lm_wf c w u ∧ ∀ r, r < 10 → lm_ok c u (rt r)
theorem lm_getD_mem {O : lm_O} {n : Nat} {d : Nat × lm_V} (h : n < O.length) : O.getD n d ∈ O := by
  rw [List.getD_eq_getElem?_getD, List.getElem?_eq_getElem h]; simp
theorem lm_gather_st {c : Nat → Nat} {w : Nat → lm_V} {u : Nat} {rt : Nat → lm_V} (h : lm_st c w u rt) : lm_st (lm_gc c w rt) (lm_gw c w rt) (lm_gu c w rt) (lm_gr c w rt) ∧ lm_gu c w rt ≤ u ∧ ∀ n, n < lm_gu c w rt → (lm_gw c w rt n).1 < 3 := by
  obtain ⟨hw, hr⟩ := h
  obtain ⟨hL, hroot, hcl⟩ := lm_list_spec hw hr
  obtain ⟨l1, ⟨l2, l3, l4, l5⟩, l6, l7⟩ := lm_laid_spec hw hL hcl
  have htr : ∀ v : lm_V, lm_ok c u v → (v.1 = 2 → lm_to w v ∈ lm_list c w rt) → lm_ok (lm_gc c w rt) (lm_gu c w rt) (lm_tr w (lm_laid c w (lm_list c w rt)).1 v) := by
    intro v hv hin
    unfold lm_tr
    by_cases e : v.1 = 2
    · rw [if_pos e]
      obtain ⟨n, h1, h2, h3⟩ := l1 _ (hin e)
      rw [h1]
      exact Or.inr (Or.inr ⟨rfl, n, rfl, h2, h3⟩)
    · rw [if_neg e]
      rcases hv with a | a | a
      · exact Or.inl a
      · exact Or.inr (Or.inl a)
      · exact absurd a.1 e
  have hok : ∀ n, n < lm_gu c w rt → lm_ok (lm_gc c w rt) (lm_gu c w rt) (lm_gw c w rt n) := by
    intro n hn
    have := l6 _ (lm_getD_mem (d := (0, 0, 0)) hn)
    exact htr _ this.1 this.2
  have hk : ∀ n, n < lm_gu c w rt → (lm_gw c w rt n).1 < 3 := fun n hn => lm_ok_kind (hok n hn)
  refine ⟨⟨⟨Nat.le_trans l7 hw.1, fun p hp => l2 p hp, fun p hp h0 => (l3 p hp h0).resolve_right (fun z => z.1), fun p hp h0 => l4 p hp h0, fun p hp h0 => l5 p hp h0, fun p hp => Or.inl (hok p hp), fun p p' hp _ h3 _ _ => ?_⟩, fun r hr' => htr _ (hr r hr') (hroot r hr')⟩, l7, hk⟩
  have := hk p hp
  omega
/-- words M taken behind those used -/
def lm_ac (c : Nat → Nat) (u : Nat) (M : lm_O) : Nat → Nat := fun p => if p < u then c p else (M.getD (p - u) (0, 0, 0)).1
def lm_aw (w : Nat → lm_V) (u : Nat) (M : lm_O) : Nat → lm_V := fun p => if p < u then w p else (M.getD (p - u) (0, 0, 0)).2
theorem lm_ok_app {c : Nat → Nat} {u : Nat} {M : lm_O} {v : lm_V} (h : lm_ok c u v) : lm_ok (lm_ac c u M) (u + M.length) v := by
  rcases h with a | a | ⟨a, q, b1, b2, b3⟩
  · exact Or.inl a
  · exact Or.inr (Or.inl a)
  · exact Or.inr (Or.inr ⟨a, q, b1, by omega, by unfold lm_ac; rw [if_pos b2]; exact b3⟩)
theorem lm_app_wf {c : Nat → Nat} {w : Nat → lm_V} {u : Nat} {M : lm_O} (h : lm_wf c w u) (hM : lm_wO M False) (hv : ∀ x ∈ M, lm_ok c u x.2 ∨ ∃ n, x.2 = (2, ((u + n : Nat) : Int)) ∧ n < M.length ∧ (M.getD n (0, 0, 0)).1 ≠ 3) (h3 : ∀ x ∈ M, M.getD 0 (0, 0, 0) = x → x.1 ≠ 3) (hu : u + M.length ≤ 120) : lm_wf (lm_ac c u M) (lm_aw w u M) (u + M.length) := by
  obtain ⟨w1, w2, w3, w4, w5, w6, w7⟩ := h
  obtain ⟨m1, m2, m3, m4⟩ := hM
  have cl : ∀ p, p < u → lm_ac c u M p = c p := fun p hp => by unfold lm_ac; rw [if_pos hp]
  have wl : ∀ p, p < u → lm_aw w u M p = w p := fun p hp => by unfold lm_aw; rw [if_pos hp]
  have ch : ∀ n, lm_ac c u M (u + n) = (M.getD n (0, 0, 0)).1 := fun n => by unfold lm_ac; rw [if_neg (by omega), Nat.add_sub_cancel_left]
  have wh : ∀ n, lm_aw w u M (u + n) = (M.getD n (0, 0, 0)).2 := fun n => by unfold lm_aw; rw [if_neg (by omega), Nat.add_sub_cancel_left]
  have hok : ∀ n, n < M.length → lm_ok (lm_ac c u M) (u + M.length) (lm_aw w u M (u + n)) := by
    intro n hn
    rw [wh]
    rcases hv _ (lm_getD_mem (d := (0, 0, 0)) hn) with a | ⟨k, a, b, d⟩
    · exact lm_ok_app a
    · rw [a]; exact Or.inr (Or.inr ⟨rfl, u + k, rfl, by omega, by rw [ch]; exact d⟩)
  refine ⟨hu, fun p hp => ?_, fun p hp h0 => ?_, fun p hp h0 => ?_, fun p hp h0 => ?_, fun p hp => ?_, fun p p' hp hp' k1 k2 e => ?_⟩
  · by_cases e : p < u
    · rw [cl p e]; exact w2 p e
    · have : p = u + (p - u) := by omega
      rw [this, ch]; exact m1 _ (by omega)
  · by_cases e : p < u
    · rw [cl p e] at h0
      have := w3 p e h0
      exact ⟨by omega, by rw [cl _ this.1]; exact this.2⟩
    · have e2 : p = u + (p - u) := by omega
      rw [e2, ch] at h0
      have := (m2 _ (by omega) h0).resolve_right (fun z => z.1)
      refine ⟨by omega, ?_⟩
      rw [show p + 1 = u + (p - u + 1) by omega, ch]; exact this.2
  · by_cases e : p < u
    · rw [cl p e] at h0
      have := w4 p e h0
      exact ⟨by omega, by rw [cl _ this.1]; exact this.2⟩
    · have e2 : p = u + (p - u) := by omega
      rw [e2, ch] at h0
      have := m3 _ (by omega) h0
      refine ⟨by omega, ?_⟩
      rw [show p + 1 = u + (p - u + 1) by omega, ch]; exact this.2
  · by_cases e : p < u
    · rw [cl p e] at h0
      obtain ⟨j, a, b⟩ := w5 p e h0
      exact ⟨j, a, by rw [cl j (by omega)]; exact b⟩
    · have e2 : p = u + (p - u) := by omega
      rw [e2, ch] at h0
      obtain ⟨j, a, b⟩ := m4 _ (by omega) h0
      exact ⟨u + j, by omega, by rw [ch]; exact b⟩
  · by_cases e : p < u
    · rw [wl p e]
      rcases w6 p e with a | ⟨a1, a2, q, a3, a4, a5, a6, a7, a8⟩
      · exact Or.inl (lm_ok_app a)
      · refine Or.inr ?_
        unfold lm_mv
        rw [wl p e, cl p e]
        exact ⟨a1, a2, q, a3, a4, by omega, by rw [cl q a5]; exact a6, by rw [wl q a5]; exact a7, fun j hj => by rw [cl j (by omega)]; exact a8 j hj⟩
    · have e2 : p = u + (p - u) := by omega
      rw [e2]; exact Or.inl (hok _ (by omega))
  · have hs : ∀ z, z < u + M.length → (lm_aw w u M z).1 = 3 → z < u := by
      intro z hz hk
      by_cases e : z < u
      · exact e
      · have e2 : z = u + (z - u) := by omega
        rw [e2] at hk
        have := lm_ok_kind (hok (z - u) (by omega))
        omega
    have a := hs p hp k1
    have b := hs p' hp' k2
    rw [wl p a] at k1 e
    rw [wl p' b] at k2 e
    exact w7 p p' a b k1 k2 e
/-- one content changes, neither the old nor the new one is moved -/
def lm_up {α : Type} (f : Nat → α) (k : Nat) (x : α) : Nat → α := fun j => if j = k then x else f j
theorem lm_up_eq {α : Type} {f : Nat → α} {k : Nat} {x : α} : lm_up f k x k = x := by simp [lm_up]
theorem lm_up_ne {α : Type} {f : Nat → α} {k j : Nat} {x : α} (h : j ≠ k) : lm_up f k x j = f j := by simp [lm_up, h]
theorem lm_set_wf {c : Nat → Nat} {w : Nat → lm_V} {u p : Nat} {v : lm_V} (h : lm_wf c w u) (hp : p < u) (hk : (w p).1 ≠ 3) (hv : lm_ok c u v) : lm_wf c (lm_up w p v) u := by
  obtain ⟨w1, w2, w3, w4, w5, w6, w7⟩ := h
  have hv3 := lm_ok_kind hv
  refine ⟨w1, w2, w3, w4, w5, fun z hz => ?_, fun z z' hz hz' k1 k2 e => ?_⟩
  · by_cases e : z = p
    · subst e; rw [lm_up_eq]; exact Or.inl hv
    · rw [lm_up_ne e]
      rcases w6 z hz with a | ⟨a1, a2, q, a3, a4, a5, a6, a7, a8⟩
      · exact Or.inl a
      · refine Or.inr ?_
        unfold lm_mv
        rw [lm_up_ne e]
        refine ⟨a1, a2, q, a3, a4, a5, a6, ?_, a8⟩
        by_cases e2 : q = p
        · subst e2; rw [lm_up_eq]; omega
        · rw [lm_up_ne e2]; exact a7
  · have n1 : z ≠ p := fun q => by subst q; rw [lm_up_eq] at k1; omega
    have n2 : z' ≠ p := fun q => by subst q; rw [lm_up_eq] at k2; omega
    rw [lm_up_ne n1] at k1 e
    rw [lm_up_ne n2] at k2 e
    exact w7 z z' hz hz' k1 k2 e
/-- a pair moves to two new words -/
theorem lm_move_wf {c : Nat → Nat} {w : Nat → lm_V} {u p : Nat} {v : lm_V} (h : lm_wf c w u) (hp : lm_cl c w u p) (hc : c p ≠ 2) (hv : lm_ok c u v) (hu : u + 2 ≤ 120) :
    lm_wf (lm_ac c u [(2, w p), (3, v)]) (lm_up (lm_aw w u [(2, w p), (3, v)]) p (3, (u : Int))) (u + 2) := by
  have hok := lm_first_ok h hp
  have hA := lm_app_wf (M := [(2, w p), (3, v)]) h (by
      refine ⟨fun n hn => ?_, fun n hn h0 => ?_, fun n hn h0 => ?_, fun n hn h0 => ?_⟩
      · rcases (show n = 0 ∨ n = 1 by simp at hn; omega) with e | e <;> subst e <;> simp
      · rcases (show n = 0 ∨ n = 1 by simp at hn; omega) with e | e <;> subst e <;> simp at h0
      · rcases (show n = 0 ∨ n = 1 by simp at hn; omega) with e | e
        · subst e; simp
        · subst e; simp at h0
      · rcases (show n = 0 ∨ n = 1 by simp at hn; omega) with e | e
        · subst e; simp at h0
        · subst e; exact ⟨0, rfl, by simp⟩) (fun x hx => by
      rcases List.mem_cons.mp hx with a | a
      · subst a; exact Or.inl hok
      · rw [List.mem_singleton] at a; subst a; exact Or.inl hv) (fun x _ e => by subst e; simp) (by simpa using hu)
  have hlt : c p < 2 := by
    have := h.2.1 p hp.1
    have := hp.2.1
    omega
  have cl : ∀ z, z < u → lm_ac c u [(2, w p), (3, v)] z = c z := fun z hz => by unfold lm_ac; rw [if_pos hz]
  have wl : ∀ z, z < u → lm_aw w u [(2, w p), (3, v)] z = w z := fun z hz => by unfold lm_aw; rw [if_pos hz]
  have cu : lm_ac c u [(2, w p), (3, v)] u = 2 := by unfold lm_ac; rw [if_neg (by omega)]; simp
  have wu : lm_aw w u [(2, w p), (3, v)] u = w p := by unfold lm_aw; rw [if_neg (by omega)]; simp
  obtain ⟨w1, w2, w3, w4, w5, w6, w7⟩ := hA
  have hne : u ≠ p := by have := hp.1; omega
  refine ⟨w1, w2, w3, w4, w5, fun z hz => ?_, fun z z' hz hz' k1 k2 e => ?_⟩
  · by_cases e : z = p
    · subst e
      refine Or.inr ⟨by rw [lm_up_eq], by rw [cl z hp.1]; exact hlt, u, by rw [lm_up_eq], hp.1, by omega, cu, ?_, fun j hj => ?_⟩
      · rw [lm_up_ne hne, wu]; exact hp.2.2
      · rw [cl j (by omega)]
        intro h0
        have := h.2.2.1 j (by omega) h0
        omega
    · rw [lm_up_ne e]
      rcases w6 z hz with a | ⟨a1, a2, q, a3, a4, a5, a6, a7, a8⟩
      · exact Or.inl a
      · refine Or.inr ?_
        unfold lm_mv
        rw [lm_up_ne e]
        refine ⟨a1, a2, q, a3, a4, a5, a6, ?_, a8⟩
        by_cases e2 : q = p
        · subst e2
          rw [cl q hp.1] at a6
          exact absurd a6 hc
        · rw [lm_up_ne e2]; exact a7
  · -- no other word is moved to u
    have hold : ∀ z, z < u + 2 → z ≠ p → (lm_aw w u [(2, w p), (3, v)] z).1 = 3 → z < u ∧ ∃ q : Nat, (lm_aw w u [(2, w p), (3, v)] z).2 = (q : Int) ∧ q < u := by
      intro z hz hzp hk
      rcases w6 z hz with a | ⟨a1, a2, q, a3, a4, a5, a6, a7, a8⟩
      · have := lm_ok_kind a; omega
      · have hzu : z < u := by
          apply Classical.byContradiction
          intro hno
          rcases (show z = u ∨ z = u + 1 by omega) with e | e
          · subst e; rw [wu] at hk; exact hp.2.2 hk
          · subst e
            have : lm_aw w u [(2, w p), (3, v)] (u + 1) = v := by unfold lm_aw; rw [if_neg (by omega)]; simp
            rw [this] at hk
            have := lm_ok_kind hv
            omega
        refine ⟨hzu, ?_⟩
        rw [wl z hzu] at hk ⊢
        rcases h.2.2.2.2.2.1 z hzu with b | ⟨b1, b2, q', b3, b4, b5, -⟩
        · have := lm_ok_kind b; omega
        · exact ⟨q', b3, b5⟩
    by_cases n1 : z = p
    · by_cases n2 : z' = p
      · rw [n1, n2]
      · exfalso
        subst n1
        rw [lm_up_ne n2] at k2 e
        rw [lm_up_eq] at e
        obtain ⟨-, q, hq, hq2⟩ := hold z' hz' n2 k2
        rw [hq] at e
        have e : ((u : Nat) : Int) = (q : Int) := e
        omega
    · by_cases n2 : z' = p
      · exfalso
        subst n2
        rw [lm_up_ne n1] at k1 e
        rw [lm_up_eq] at e
        obtain ⟨-, q, hq, hq2⟩ := hold z hz n1 k1
        rw [hq] at e
        have e : ((q : Nat) : Int) = (u : Int) := e
        omega
      · rw [lm_up_ne n1] at k1 e
        rw [lm_up_ne n2] at k2 e
        exact w7 z z' hz hz' k1 k2 e
