/-! every call leaves a well formed state -/
theorem lm_wO_c {M : lm_O} {v : lm_V} (h : lm_wO M False) (hl : 0 < M.length) (h3 : (M.getD 0 (0, 0, 0)).1 ≠ 3) : lm_wO ((0, v) :: M) False := by
  obtain ⟨h1, h2, h3', h4⟩ := h
  refine ⟨fun n hn => ?_, fun n hn h0 => ?_, fun n hn h0 => ?_, fun n hn h0 => ?_⟩
  · cases n with
    | zero => simp
    | succ n => rw [List.getD_cons_succ]; exact h1 n (by simpa using hn)
  · left
    cases n with
    | zero => rw [List.getD_cons_succ]; exact ⟨by simp; omega, h3⟩
    | succ n =>
      rw [List.getD_cons_succ] at h0
      rcases h2 n (by simpa using hn) h0 with a | a
      · rw [List.getD_cons_succ]; exact ⟨by simp; omega, a.2⟩
      · exact a.1.elim
  · cases n with
    | zero => simp at h0
    | succ n =>
      rw [List.getD_cons_succ] at h0
      have a := h3' n (by simpa using hn) h0
      rw [List.getD_cons_succ]; exact ⟨by simp; omega, a.2⟩
  · cases n with
    | zero => simp at h0
    | succ n =>
      rw [List.getD_cons_succ] at h0
      obtain ⟨j, e, hj⟩ := h4 n (by simpa using hn) h0
      exact ⟨j + 1, by omega, by rw [List.getD_cons_succ]; exact hj⟩
theorem lm_wO_s {v : lm_V} : lm_wO [(1, v)] False := by
  refine ⟨fun n hn => ?_, fun n hn h0 => ?_, fun n hn h0 => ?_, fun n hn h0 => ?_⟩ <;> (have e : n = 0 := by simp at hn; omega) <;> subst e
  · simp
  · simp at h0
  · simp at h0
  · simp at h0
theorem lm_lsM_s {rt : Nat → lm_V} : ∀ (n f : Nat), lm_wO (lm_lsM rt f (n + 1)) False ∧ ((lm_lsM rt f (n + 1)).getD 0 (0, 0, 0)).1 ≠ 3 ∧ (lm_lsM rt f (n + 1)).length = n + 1 ∧ ∀ x ∈ lm_lsM rt f (n + 1), ∃ i, i < f + (n + 1) ∧ x.2 = rt i := by
  intro n
  induction n with
  | zero =>
    intro f
    rw [show lm_lsM rt f (0 + 1) = [(1, rt f)] from rfl]
    exact ⟨lm_wO_s, by simp, rfl, fun x hx => ⟨f, by omega, by simp at hx; rw [hx]⟩⟩
  | succ n ih =>
    intro f
    obtain ⟨a1, a2, a3, a4⟩ := ih (f + 1)
    rw [lm_lsM_2 (by omega)]
    refine ⟨lm_wO_c a1 (by omega) a2, by simp, by simp [a3], fun x hx => ?_⟩
    rcases List.mem_cons.mp hx with e | e
    · exact ⟨f, by omega, by rw [e]⟩
    · obtain ⟨i, g1, g2⟩ := a4 x e
      exact ⟨i, by omega, g2⟩
theorem lm_apM_s {c : Nat → Nat} {w : Nat → lm_V} {u : Nat} {ed : lm_V} (hw : lm_wf c w u) (he : lm_ok c u ed) : ∀ (n : Nat) (v : lm_V), lm_isL c w (n + 1) v → lm_ok c u v → lm_wO (lm_apM c w (n + 1) v ed) False ∧ ((lm_apM c w (n + 1) v ed).getD 0 (0, 0, 0)).1 ≠ 3 ∧ 0 < (lm_apM c w (n + 1) v ed).length ∧ ∀ x ∈ lm_apM c w (n + 1) v ed, lm_ok c u x.2 := by
  intro n
  induction n with
  | zero =>
    intro v hL hv
    have hf := lm_first_ok hw (lm_to_cl hw hv hL.1)
    by_cases h : ed.1 = 0
    · rw [lm_apM_1n h]
      exact ⟨lm_wO_s, by simp, by simp, fun x hx => by simp at hx; rw [hx]; exact hf⟩
    · rw [lm_apM_1p h]
      refine ⟨lm_wO_p, by simp, by simp, fun x hx => ?_⟩
      rcases List.mem_cons.mp hx with e | e
      · rw [e]; exact hf
      · simp at e; rw [e]; exact he
  | succ n ih =>
    intro v hL hv
    have hc := lm_to_cl hw hv hL.1
    obtain ⟨a1, a2, a3, a4⟩ := ih (lm_rest c w (lm_to w v)) hL.2 (lm_rest_ok hw hc)
    rw [lm_apM_2]
    refine ⟨lm_wO_c a1 a3 a2, by simp, by simp, fun x hx => ?_⟩
    rcases List.mem_cons.mp hx with e | e
    · rw [e]; exact lm_first_ok hw hc
    · exact a4 x e
theorem lm_nb {r : Int32} (h : lm_none r = false) : lm_ix r < 10 := by
  obtain ⟨k, hk, rfl⟩ := lm_none_f h
  rw [lm_ix_n hk]; exact hk
theorem lm_or2 {a b : Bool} (h : ¬ (a || b) = true) : a = false ∧ b = false := by
  cases a <;> cases b <;> simp_all
theorem lm_or3 {a b d : Bool} (h : ¬ (a || b || d) = true) : a = false ∧ b = false ∧ d = false := by
  cases a <;> cases b <;> cases d <;> simp_all
theorem lm_sx_ap {σ : lm_X} {M : lm_O} {k : Nat} (h : lm_sx σ) (hM : lm_wO M False) (hv : ∀ x ∈ M, lm_ok σ.1 σ.2.2.1 x.2) (h3 : (M.getD 0 (0, 0, 0)).1 ≠ 3) (hl : 0 < M.length) (hu : σ.2.2.1 + M.length ≤ 120) : lm_sx (lm_set (lm_ap σ M) k (2, (σ.2.2.1 : Int))) := lm_sx_set (σ := lm_ap σ M) (lm_st_app h hM hv (fun _ => h3) hu) (lm_ok_new hl h3)
theorem lm_k_number {σ : lm_X} (r : Int32) (x : Int64) (h : lm_sx σ) : lm_sx (lm_oNumber r x σ).2 := by
  unfold lm_oNumber
  split
  · exact h
  · split
    · exact h
    · rename_i g1 g2
      refine lm_sx_set h (Or.inr (Or.inl ⟨rfl, ?_⟩))
      have g3 : lm_rg x = false := by cases e : lm_rg x with
        | false => rfl
        | true => exact absurd e g2
      have g4 := of_decide_eq_false g3
      exact ⟨by show (-288230376151711744 : Int) ≤ x.toInt; omega, by show x.toInt ≤ 288230376151711743; omega⟩
theorem lm_k_drop {σ : lm_X} (r : Int32) (h : lm_sx σ) : lm_sx (lm_oDrop r σ).2 := by
  unfold lm_oDrop
  split
  · exact h
  · exact lm_sx_set h (Or.inl ⟨rfl, rfl⟩)
theorem lm_k_copy {σ : lm_X} (r f : Int32) (h : lm_sx σ) : lm_sx (lm_oCopy r f σ).2 := by
  unfold lm_oCopy
  split
  · exact h
  · rename_i g
    exact lm_sx_set h (h.2 _ (lm_nb (lm_or2 g).2))
theorem lm_k_first {σ : lm_X} (r f : Int32) (h : lm_sx σ) : lm_sx (lm_oFirst r f σ).2 := by
  unfold lm_oFirst
  split
  · exact h
  · rename_i g
    split
    · exact h
    · rename_i g2
      exact lm_sx_set h (lm_first_ok h.1 (lm_to_cl h.1 (h.2 _ (lm_nb (lm_or2 g).2)) (Decidable.not_not.mp g2)))
theorem lm_k_rest {σ : lm_X} (r f : Int32) (h : lm_sx σ) : lm_sx (lm_oRest r f σ).2 := by
  unfold lm_oRest
  split
  · exact h
  · rename_i g
    split
    · exact h
    · rename_i g2
      exact lm_sx_set h (lm_rest_ok h.1 (lm_to_cl h.1 (h.2 _ (lm_nb (lm_or2 g).2)) (Decidable.not_not.mp g2)))
theorem lm_k_setFirst {σ : lm_X} (r f : Int32) (h : lm_sx σ) : lm_sx (lm_oSetFirst r f σ).2 := by
  unfold lm_oSetFirst
  split
  · exact h
  · rename_i g
    split
    · exact h
    · rename_i g2
      have hc := lm_to_cl h.1 (h.2 _ (lm_nb (lm_or2 g).1)) (Decidable.not_not.mp g2)
      exact ⟨lm_set_wf h.1 hc.1 hc.2.2 (h.2 _ (lm_nb (lm_or2 g).2)), h.2⟩
theorem lm_k_cons {σ : lm_X} (r f t : Int32) (h : lm_sx σ) : lm_sx (lm_oCons r f t σ).2 := by
  unfold lm_oCons
  have h1 := lm_sx_rm 2 h
  split
  · exact h
  · rename_i g
    have g := lm_or3 g
    split
    · rename_i g2
      refine lm_sx_ap h1 lm_wO_p (fun x hx => ?_) (by simp) (by simp) g2
      rcases List.mem_cons.mp hx with e | e
      · rw [e]; exact h1.2 _ (lm_nb g.2.1)
      · simp at e; rw [e]; exact h1.2 _ (lm_nb g.2.2)
    · exact h1
theorem lm_k_list {σ : lm_X} (r f n : Int32) (h : lm_sx σ) : lm_sx (lm_oList r f n σ).2 := by
  unfold lm_oList
  have h1 := lm_sx_rm (lm_ix n) h
  split
  · exact h
  · rename_i g
    have g := lm_or2 g
    split
    · exact h
    · rename_i gl
      obtain ⟨j, hj, rfl⟩ := lm_none_f g.2
      have gl2 : lm_lb (nI j) n = false := by cases e : lm_lb (nI j) n with
        | false => rfl
        | true => exact absurd e gl
      obtain ⟨m, rfl, hm1, hm2, hm3⟩ := lm_lb_f (by omega) gl2
      obtain ⟨m0, rfl⟩ : ∃ m0, m = m0 + 1 := ⟨m - 1, by omega⟩
      split
      · rename_i g2
        rw [lm_ix_n hj]
        rw [lm_ix_n10 hm2] at g2 h1 ⊢
        obtain ⟨a1, a2, a3, a4⟩ := lm_lsM_s (rt := (lm_rm (m0 + 1) σ).2.2.2.1) m0 j
        refine lm_sx_ap h1 a1 (fun x hx => ?_) a2 (by omega) (by rw [a3]; exact g2)
        obtain ⟨i, g1, g3⟩ := a4 x hx
        rw [g3]; exact h1.2 i (by omega)
      · exact h1
theorem lm_k_sr {σ : lm_X} {r f : Nat} (h : lm_sx σ) (hr : r < 10) (hf : f < 10) (h2 : (σ.2.2.2.1 r).1 = 2) (hu : σ.1 (lm_to σ.2.1 (σ.2.2.2.1 r)) ≠ 2 → σ.2.2.1 + 2 ≤ 120) : lm_sx (lm_sr r f σ) := by
  have hc := lm_to_cl h.1 (h.2 r hr) h2
  unfold lm_sr
  split
  · rename_i g
    have h3 := h.1.2.2.2.1 _ hc.1 g
    refine ⟨lm_set_wf h.1 h3.1 ?_ (h.2 f hf), h.2⟩
    rcases h.1.2.2.2.2.2.1 _ h3.1 with a | a
    · have := lm_ok_kind a; omega
    · have := a.2.1; omega
  · rename_i g
    exact ⟨lm_move_wf h.1 hc g (h.2 f hf) (hu g), fun q hq => lm_ok_app (M := [(2, σ.2.1 (lm_to σ.2.1 (σ.2.2.2.1 r))), (3, σ.2.2.2.1 f)]) (h.2 q hq)⟩
theorem lm_k_setRest {σ : lm_X} (r f : Int32) (h : lm_sx σ) : lm_sx (lm_oSetRest r f σ).2 := by
  unfold lm_oSetRest
  have h1 := lm_sx_rm 2 h
  split
  · exact h
  · rename_i g
    have g := lm_or2 g
    split
    · exact h
    · rename_i g2
      have g2 := Decidable.not_not.mp g2
      split
      · exact h
      · split
        · rename_i g3
          exact lm_k_sr h (lm_nb g.1) (lm_nb g.2) g2 (fun q => absurd g3 q)
        · split
          · rename_i g4
            obtain ⟨c, w, u, rt, z⟩ := σ
            obtain ⟨c1, w1, u1, rt1, z1, hσ⟩ : ∃ c1 w1 u1 rt1 z1, lm_rm 2 (c, w, u, rt, z) = (c1, w1, u1, rt1, z1) := ⟨_, _, _, _, _, rfl⟩
            rw [hσ] at h1 g4 ⊢
            exact lm_k_sr h1 (lm_nb g.1) (lm_nb g.2) (lm_rm_k hσ g2) (fun _ => g4)
          · exact h1
theorem lm_k_append {σ : lm_X} (r a b : Int32) (h : lm_sx σ) : lm_sx (lm_oAppend r a b σ).2 := by
  unfold lm_oAppend
  split
  · exact h
  · rename_i g
    have g := lm_or3 g
    split
    · exact h
    · rename_i hneg
      split
      · exact lm_sx_set h (h.2 _ (lm_nb g.2.2))
      · rename_i h0
        obtain ⟨n, hlen, -, hisL⟩ := lm_len_L 121 0 _ hneg
        rw [Nat.zero_add] at hlen
        have hn : (lm_len σ.1 σ.2.1 121 0 (σ.2.2.2.1 (lm_ix a))).toNat = n := by rw [hlen]; simp
        rw [hn]
        have h1 := lm_sx_rm (lm_an n (σ.2.2.2.1 (lm_ix b))) h
        obtain ⟨n0, rfl⟩ : ∃ n0, n = n0 + 1 := ⟨n - 1, by have h9 : ¬ ((n : Nat) : Int) = 0 := by rw [← hlen]; exact h0
                                                          omega⟩
        split
        · rename_i g2
          obtain ⟨c, w, u, rt, z⟩ := σ
          obtain ⟨c1, w1, u1, rt1, z1, hσ⟩ : ∃ c1 w1 u1 rt1 z1, lm_rm (lm_an (n0 + 1) (rt (lm_ix b))) (c, w, u, rt, z) = (c1, w1, u1, rt1, z1) := ⟨_, _, _, _, _, rfl⟩
          rw [hσ] at h1 g2 ⊢
          have hL1 := lm_isL_rm h hσ (lm_nb g.2.1) hisL
          obtain ⟨a1, a2, a3, a4⟩ := lm_apM_s (c := c1) (w := w1) (u := u1) h1.1 (h1.2 _ (lm_nb g.2.2)) n0 (rt1 (lm_ix a)) hL1 (h1.2 _ (lm_nb g.2.1))
          refine lm_sx_ap (σ := (c1, w1, u1, rt1, z1)) h1 a1 a4 a2 a3 ?_
          show u1 + (lm_apM c1 w1 (n0 + 1) (rt1 (lm_ix a)) (rt1 (lm_ix b))).length ≤ 120
          rw [lm_an_len]
          have e9 : lm_an (n0 + 1) (rt1 (lm_ix b)) = lm_an (n0 + 1) (rt (lm_ix b)) := by unfold lm_an; rw [lm_rm_k2 (k := lm_ix b) hσ]
          rw [e9]; exact g2
        · exact h1
