/-! The memory's state and what each call does to it: a code (0: no refusal), the new state -/
abbrev lm_X : Type := (Nat → Nat) × (Nat → lm_V) × Nat × (Nat → lm_V) × Int32
def lm_sx (σ : lm_X) : Prop := lm_st σ.1 σ.2.1 σ.2.2.1 σ.2.2.2.1
def lm_set (σ : lm_X) (r : Nat) (v : lm_V) : lm_X := (σ.1, σ.2.1, σ.2.2.1, lm_up σ.2.2.2.1 r v, σ.2.2.2.2)
def lm_col (σ : lm_X) : lm_X := (lm_gc σ.1 σ.2.1 σ.2.2.2.1, lm_gw σ.1 σ.2.1 σ.2.2.2.1, lm_gu σ.1 σ.2.1 σ.2.2.2.1, lm_gr σ.1 σ.2.1 σ.2.2.2.1, σ.2.2.2.2 + nI 1)
def lm_rm (n : Nat) (σ : lm_X) : lm_X := if σ.2.2.1 + n ≤ 120 then σ else lm_col σ
def lm_ap (σ : lm_X) (M : lm_O) : lm_X := (lm_ac σ.1 σ.2.2.1 M, lm_aw σ.2.1 σ.2.2.1 M, σ.2.2.1 + M.length, σ.2.2.2.1, σ.2.2.2.2)
def lm_pt (σ : lm_X) (p : Nat) (v : lm_V) : lm_X := (σ.1, lm_up σ.2.1 p v, σ.2.2.1, σ.2.2.2.1, σ.2.2.2.2)
def lm_ix (r : Int32) : Nat := r.toInt.toNat
theorem lm_ix_n {k : Nat} (h : k < 10) : lm_ix (nI k) = k := by
  unfold lm_ix; rw [nI_toInt (by omega)]; exact Int.toNat_natCast k
theorem lm_none_n {k : Nat} (h : k < 10) : lm_none (nI k) = false := by
  unfold lm_none; rw [nI_toInt (by omega)]; simp; omega
theorem lm_none_f {r : Int32} (h : lm_none r = false) : ∃ k : Nat, k < 10 ∧ r = nI k := by
  unfold lm_none at h
  have h := of_decide_eq_false h
  refine ⟨r.toInt.toNat, by omega, ?_⟩
  apply Int32.toInt_inj.1
  rw [nI_toInt (by omega)]
  omega
def lm_rg (x : Int64) : Bool := decide (x.toInt < -288230376151711744 ∨ 288230376151711743 < x.toInt)
def lm_oNumber (r : Int32) (x : Int64) (σ : lm_X) : Nat × lm_X := if lm_none r = true then (1, σ) else if lm_rg x = true then (2, σ) else (0, lm_set σ (lm_ix r) (1, x.toInt))
def lm_oDrop (r : Int32) (σ : lm_X) : Nat × lm_X := if lm_none r = true then (1, σ) else (0, lm_set σ (lm_ix r) (0, 0))
def lm_oCopy (r f : Int32) (σ : lm_X) : Nat × lm_X := if (lm_none r || lm_none f) = true then (1, σ) else (0, lm_set σ (lm_ix r) (σ.2.2.2.1 (lm_ix f)))
def lm_oCons (r f t : Int32) (σ : lm_X) : Nat × lm_X := if (lm_none r || lm_none f || lm_none t) = true then (1, σ) else
  if (lm_rm 2 σ).2.2.1 + 2 ≤ 120 then (0, lm_set (lm_ap (lm_rm 2 σ) [(2, (lm_rm 2 σ).2.2.2.1 (lm_ix f)), (3, (lm_rm 2 σ).2.2.2.1 (lm_ix t))]) (lm_ix r) (2, ((lm_rm 2 σ).2.2.1 : Int))) else (2, lm_rm 2 σ)
/-- a run of n roots from f on: its words from i on -/
def lm_lsM (rt : Nat → lm_V) (f : Nat) : Nat → lm_O
  | 0 => []
  | n + 1 => if n = 0 then [(1, rt f)] else (0, rt f) :: lm_lsM rt (f + 1) n
def lm_lb (f n : Int32) : Bool := decide (n.toInt < 1 ∨ 10 < n.toInt ∨ 10 - n.toInt < f.toInt)
def lm_oList (r f n : Int32) (σ : lm_X) : Nat × lm_X := if (lm_none r || lm_none f) = true then (1, σ) else if lm_lb f n = true then (2, σ) else
  if (lm_rm (lm_ix n) σ).2.2.1 + lm_ix n ≤ 120 then (0, lm_set (lm_ap (lm_rm (lm_ix n) σ) (lm_lsM (lm_rm (lm_ix n) σ).2.2.2.1 (lm_ix f) (lm_ix n))) (lm_ix r) (2, ((lm_rm (lm_ix n) σ).2.2.1 : Int))) else (3, lm_rm (lm_ix n) σ)
def lm_oFirst (r f : Int32) (σ : lm_X) : Nat × lm_X := if (lm_none r || lm_none f) = true then (1, σ) else if (σ.2.2.2.1 (lm_ix f)).1 ≠ 2 then (2, σ) else (0, lm_set σ (lm_ix r) (σ.2.1 (lm_to σ.2.1 (σ.2.2.2.1 (lm_ix f)))))
def lm_oRest (r f : Int32) (σ : lm_X) : Nat × lm_X := if (lm_none r || lm_none f) = true then (1, σ) else if (σ.2.2.2.1 (lm_ix f)).1 ≠ 2 then (2, σ) else (0, lm_set σ (lm_ix r) (lm_rest σ.1 σ.2.1 (lm_to σ.2.1 (σ.2.2.2.1 (lm_ix f)))))
def lm_oSetFirst (r f : Int32) (σ : lm_X) : Nat × lm_X := if (lm_none r || lm_none f) = true then (1, σ) else if (σ.2.2.2.1 (lm_ix r)).1 ≠ 2 then (2, σ) else (0, lm_pt σ (lm_to σ.2.1 (σ.2.2.2.1 (lm_ix r))) (σ.2.2.2.1 (lm_ix f)))
/-- setRest where the cell of root r is known: its code is 2, or it is not and there is room -/
def lm_sr (r f : Nat) (σ : lm_X) : lm_X := if σ.1 (lm_to σ.2.1 (σ.2.2.2.1 r)) = 2 then lm_pt σ (lm_to σ.2.1 (σ.2.2.2.1 r) + 1) (σ.2.2.2.1 f)
  else lm_pt (lm_ap σ [(2, σ.2.1 (lm_to σ.2.1 (σ.2.2.2.1 r))), (3, σ.2.2.2.1 f)]) (lm_to σ.2.1 (σ.2.2.2.1 r)) (3, (σ.2.2.1 : Int))
def lm_oSetRest (r f : Int32) (σ : lm_X) : Nat × lm_X := if (lm_none r || lm_none f) = true then (1, σ) else if (σ.2.2.2.1 (lm_ix r)).1 ≠ 2 then (2, σ) else
  if lm_same σ.2.1 (lm_rest σ.1 σ.2.1 (lm_to σ.2.1 (σ.2.2.2.1 (lm_ix r)))) (σ.2.2.2.1 (lm_ix f)) = true then (0, σ) else
  if σ.1 (lm_to σ.2.1 (σ.2.2.2.1 (lm_ix r))) = 2 then (0, lm_sr (lm_ix r) (lm_ix f) σ) else
  if (lm_rm 2 σ).2.2.1 + 2 ≤ 120 then (0, lm_sr (lm_ix r) (lm_ix f) (lm_rm 2 σ)) else (3, lm_rm 2 σ)
def lm_an (n : Nat) (v : lm_V) : Nat := n + (if v.1 = 0 then 0 else 1)
def lm_oAppend (r a b : Int32) (σ : lm_X) : Nat × lm_X := if (lm_none r || lm_none a || lm_none b) = true then (1, σ) else
  if lm_len σ.1 σ.2.1 121 0 (σ.2.2.2.1 (lm_ix a)) < 0 then (2, σ) else
  if lm_len σ.1 σ.2.1 121 0 (σ.2.2.2.1 (lm_ix a)) = 0 then (0, lm_set σ (lm_ix r) (σ.2.2.2.1 (lm_ix b))) else
  if (lm_rm (lm_an (lm_len σ.1 σ.2.1 121 0 (σ.2.2.2.1 (lm_ix a))).toNat (σ.2.2.2.1 (lm_ix b))) σ).2.2.1 + lm_an (lm_len σ.1 σ.2.1 121 0 (σ.2.2.2.1 (lm_ix a))).toNat (σ.2.2.2.1 (lm_ix b)) ≤ 120 then
    (0, lm_set (lm_ap (lm_rm (lm_an (lm_len σ.1 σ.2.1 121 0 (σ.2.2.2.1 (lm_ix a))).toNat (σ.2.2.2.1 (lm_ix b))) σ)
      (lm_apM (lm_rm (lm_an (lm_len σ.1 σ.2.1 121 0 (σ.2.2.2.1 (lm_ix a))).toNat (σ.2.2.2.1 (lm_ix b))) σ).1 (lm_rm (lm_an (lm_len σ.1 σ.2.1 121 0 (σ.2.2.2.1 (lm_ix a))).toNat (σ.2.2.2.1 (lm_ix b))) σ).2.1 (lm_len σ.1 σ.2.1 121 0 (σ.2.2.2.1 (lm_ix a))).toNat
        ((lm_rm (lm_an (lm_len σ.1 σ.2.1 121 0 (σ.2.2.2.1 (lm_ix a))).toNat (σ.2.2.2.1 (lm_ix b))) σ).2.2.2.1 (lm_ix a)) ((lm_rm (lm_an (lm_len σ.1 σ.2.1 121 0 (σ.2.2.2.1 (lm_ix a))).toNat (σ.2.2.2.1 (lm_ix b))) σ).2.2.2.1 (lm_ix b)))) (lm_ix r) (2, ((lm_rm (lm_an (lm_len σ.1 σ.2.1 121 0 (σ.2.2.2.1 (lm_ix a))).toNat (σ.2.2.2.1 (lm_ix b))) σ).2.2.1 : Int)))
  else (3, lm_rm (lm_an (lm_len σ.1 σ.2.1 121 0 (σ.2.2.2.1 (lm_ix a))).toNat (σ.2.2.2.1 (lm_ix b))) σ)
/-! where the state is as it must be behind each call -/
theorem lm_st_set {c : Nat → Nat} {w : Nat → lm_V} {u : Nat} {rt : Nat → lm_V} {k : Nat} {v : lm_V} (h : lm_st c w u rt) (hv : lm_ok c u v) : lm_st c w u (lm_up rt k v) := by
  refine ⟨h.1, fun r hr => ?_⟩
  by_cases e : r = k
  · rw [e, lm_up_eq]; exact hv
  · rw [lm_up_ne e]; exact h.2 r hr
theorem lm_sx_set {σ : lm_X} {k : Nat} {v : lm_V} (h : lm_sx σ) (hv : lm_ok σ.1 σ.2.2.1 v) : lm_sx (lm_set σ k v) := lm_st_set h hv
theorem lm_sx_col {σ : lm_X} (h : lm_sx σ) : lm_sx (lm_col σ) := (lm_gather_st h).1
theorem lm_sx_rm {σ : lm_X} (n : Nat) (h : lm_sx σ) : lm_sx (lm_rm n σ) := by
  unfold lm_rm
  split
  · exact h
  · exact lm_sx_col h
theorem lm_st_app {c : Nat → Nat} {w : Nat → lm_V} {u : Nat} {rt : Nat → lm_V} {M : lm_O} (h : lm_st c w u rt) (hM : lm_wO M False) (hv : ∀ x ∈ M, lm_ok c u x.2) (h3 : M.getD 0 (0, 0, 0) ∈ M → (M.getD 0 (0, 0, 0)).1 ≠ 3) (hu : u + M.length ≤ 120) : lm_st (lm_ac c u M) (lm_aw w u M) (u + M.length) rt :=
  ⟨lm_app_wf h.1 hM (fun x hx => Or.inl (hv x hx)) (fun x hx e => by rw [← e] at hx ⊢; exact h3 hx) hu, fun r hr => lm_ok_app (h.2 r hr)⟩
theorem lm_wO_p {a b : lm_V} : lm_wO [(2, a), (3, b)] False := by
  refine ⟨fun n hn => ?_, fun n hn h0 => ?_, fun n hn h0 => ?_, fun n hn h0 => ?_⟩
  · rcases (show n = 0 ∨ n = 1 by simp at hn; omega) with e | e <;> subst e <;> simp
  · rcases (show n = 0 ∨ n = 1 by simp at hn; omega) with e | e <;> subst e <;> simp at h0
  · rcases (show n = 0 ∨ n = 1 by simp at hn; omega) with e | e
    · subst e; simp
    · subst e; simp at h0
  · rcases (show n = 0 ∨ n = 1 by simp at hn; omega) with e | e
    · subst e; simp at h0
    · subst e; exact ⟨0, rfl, by simp⟩
theorem lm_ok_new {c : Nat → Nat} {u : Nat} {M : lm_O} (h : 0 < M.length) (h3 : (M.getD 0 (0, 0, 0)).1 ≠ 3) : lm_ok (lm_ac c u M) (u + M.length) (2, (u : Int)) := by
  refine Or.inr (Or.inr ⟨rfl, u, rfl, by omega, ?_⟩)
  unfold lm_ac; rw [if_neg (by omega), Nat.sub_self]; exact h3
/-- the reference's arrays behind a taken word -/
theorem lm_mf_app {cd kd : Nat → Int32} {ct : Nat → Int64} {c : Nat → Nat} {w : Nat → lm_V} {u n k : Nat} {x : lm_V} {M : lm_O} (h : lm_mf cd kd ct (lm_ac c u M) (lm_aw w u M) (u + n)) (hM : M.length = n) : lm_mf (lm_up cd (u + n) (nI k)) (lm_up kd (u + n) (nI x.1)) (lm_up ct (u + n) (jI x.2)) (lm_ac c u (M ++ [(k, x)])) (lm_aw w u (M ++ [(k, x)])) (u + n + 1) := by
  intro p hp
  unfold lm_ac lm_aw
  by_cases e : p = u + n
  · rw [e, lm_up_eq, lm_up_eq, lm_up_eq, if_neg (by omega), if_neg (by omega), Nat.add_sub_cancel_left, ← hM, lm_getD_r (Nat.le_refl _)]
    simp
  · rw [lm_up_ne e, lm_up_ne e, lm_up_ne e]
    have h1 := h p (by omega)
    unfold lm_ac lm_aw at h1
    by_cases e2 : p < u
    · rw [if_pos e2, if_pos e2] at h1 ⊢; exact h1
    · rw [if_neg e2, if_neg e2] at h1 ⊢
      rw [lm_getD_l (by omega)]; exact h1
theorem lm_mf_0 {cd kd : Nat → Int32} {ct : Nat → Int64} {c : Nat → Nat} {w : Nat → lm_V} {u : Nat} (h : lm_mf cd kd ct c w u) : lm_mf cd kd ct (lm_ac c u []) (lm_aw w u []) (u + 0) := by
  intro p hp
  unfold lm_ac lm_aw
  rw [if_pos (by omega), if_pos (by omega)]; exact h p (by omega)
theorem lm_mf_le {cd kd : Nat → Int32} {ct : Nat → Int64} {c : Nat → Nat} {w : Nat → lm_V} {u n : Nat} {M : lm_O} (h : lm_mf cd kd ct (lm_ac c u M) (lm_aw w u M) n) (hn : u ≤ n) : lm_mf cd kd ct c w u := by
  intro p hp
  have := h p (by omega)
  unfold lm_ac lm_aw at this
  rw [if_pos hp, if_pos hp] at this
  exact this
theorem lm_mf_2 {cd kd : Nat → Int32} {ct : Nat → Int64} {c : Nat → Nat} {w : Nat → lm_V} {u k k2 : Nat} {x x2 : lm_V} (h : lm_mf cd kd ct c w u) : lm_mf (lm_up (lm_up cd u (nI k)) (u + 1) (nI k2)) (lm_up (lm_up kd u (nI x.1)) (u + 1) (nI x2.1)) (lm_up (lm_up ct u (jI x.2)) (u + 1) (jI x2.2)) (lm_ac c u [(k, x), (k2, x2)]) (lm_aw w u [(k, x), (k2, x2)]) (u + 1 + 1) := by
  have h1 := lm_mf_app (k := k) (x := x) (lm_mf_0 h) rfl
  exact lm_mf_app (n := 1) (k := k2) (x := x2) (M := [(k, x)]) h1 rfl
theorem lm_hf_2 {f : Nat → Int32} {g : Nat → Int64} {c : Nat → Nat} {w : Nat → lm_V} {u k k2 : Nat} {x x2 : lm_V} (h : lm_hf f g c w u) : lm_hf (lm_up (lm_up f u (nI k)) (u + 1) (nI k2)) (lm_up (lm_up g u (en x)) (u + 1) (en x2)) (lm_ac c u [(k, x), (k2, x2)]) (lm_aw w u [(k, x), (k2, x2)]) (u + 1 + 1) := by
  have h1 := lm_hf_app (k := k) (x := x) (lm_hf_0 h) rfl
  exact lm_hf_app (n := 1) (k := k2) (x := x2) (M := [(k, x)]) h1 rfl
theorem lm_mf_up {cd kd : Nat → Int32} {ct : Nat → Int64} {c : Nat → Nat} {w : Nat → lm_V} {u p : Nat} {v : lm_V} (h : lm_mf cd kd ct c w u) : lm_mf cd (lm_up kd p (nI v.1)) (lm_up ct p (jI v.2)) c (lm_up w p v) u := by
  intro q hq
  by_cases e : q = p
  · subst e; rw [lm_up_eq, lm_up_eq, lm_up_eq]; exact ⟨(h q hq).1, rfl, rfl⟩
  · rw [lm_up_ne e, lm_up_ne e, lm_up_ne e]; exact h q hq
theorem lm_hf_up {f : Nat → Int32} {g : Nat → Int64} {c : Nat → Nat} {w : Nat → lm_V} {u p : Nat} {v : lm_V} (h : lm_hf f g c w u) : lm_hf f (lm_up g p (en v)) c (lm_up w p v) u := by
  intro q hq
  by_cases e : q = p
  · subst e; rw [lm_up_eq, lm_up_eq]; exact ⟨(h q hq).1, rfl⟩
  · rw [lm_up_ne e, lm_up_ne e]; exact h q hq
theorem lm_ro_up {rk1 : Nat → Int32} {rr1 : Nat → Int64} {rt : Nat → lm_V} {k : Nat} {v : lm_V} (h : ∀ r, r < 10 → rk1 r = nI (rt r).1 ∧ rr1 r = jI (rt r).2) : ∀ r, r < 10 → lm_up rk1 k (nI v.1) r = nI (lm_up rt k v r).1 ∧ lm_up rr1 k (jI v.2) r = jI (lm_up rt k v r).2 := by
  intro r hr
  by_cases e : r = k
  · rw [e, lm_up_eq, lm_up_eq, lm_up_eq]; exact ⟨rfl, rfl⟩
  · rw [lm_up_ne e, lm_up_ne e, lm_up_ne e]; exact h r hr
theorem lm_rc_up {gr : Nat → Int64} {rt : Nat → lm_V} {k : Nat} {v : lm_V} (h : ∀ r, r < 10 → gr r = en (rt r)) : ∀ r, r < 10 → lm_up gr k (en v) r = en (lm_up rt k v r) := by
  intro r hr
  by_cases e : r = k
  · rw [e, lm_up_eq, lm_up_eq]
  · rw [lm_up_ne e, lm_up_ne e]; exact h r hr
theorem jI_toInt (x : Int64) : jI x.toInt = x := by
  unfold jI; exact Int64.ofInt_toInt x
theorem lm_rm_y {n : Nat} {σ : lm_X} (h : σ.2.2.1 + n ≤ 120) : lm_rm n σ = σ := by unfold lm_rm; rw [if_pos h]
theorem lm_rm_n {n : Nat} {σ : lm_X} (h : ¬ σ.2.2.1 + n ≤ 120) : lm_rm n σ = lm_col σ := by unfold lm_rm; rw [if_neg h]
