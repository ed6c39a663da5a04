/-! Questions: a code, the state as it was -/
def lm_q0 (σ : lm_X) : Nat × lm_X := (0, σ)
def lm_qc (σ : lm_X) : Nat × lm_X := (0, lm_col σ)
def lm_q1 (r : Int32) (σ : lm_X) : Nat × lm_X := (if lm_none r = true then 1 else 0, σ)
def lm_q2 (r f : Int32) (σ : lm_X) : Nat × lm_X := (if (lm_none r || lm_none f) = true then 1 else 0, σ)
def lm_qv (r : Int32) (σ : lm_X) : Nat × lm_X := (if lm_none r = true then 1 else if (σ.2.2.2.1 (lm_ix r)).1 ≠ 1 then 2 else 0, σ)
def lm_wb (what : Int32) : Bool := decide (what.toInt < 0 ∨ 2 < what.toInt)
def lm_qw (p what : Int32) (σ : lm_X) : Nat × lm_X := (if decide (0 ≤ p.toInt ∧ p.toInt < (σ.2.2.1 : Int)) = false then 1 else if lm_wb what = true then 2 else 0, σ)
def lm_wd (c : Nat → Nat) (w : Nat → lm_V) (u : Nat) (p what : Int32) : Int64 := if decide (0 ≤ p.toInt ∧ p.toInt < (u : Int)) = false ∨ lm_wb what = true then jI 0 else if what.toInt = 0 then jI ((c (lm_ix p) : Nat) : Int) else if what.toInt = 1 then jI (((w (lm_ix p)).1 : Nat) : Int) else jI (w (lm_ix p)).2
theorem lm_wh_1 {what : Int32} (h : what < 0) : lm_wb what = true := by
  rw [Int32.lt_iff_toInt_lt, Int32.toInt_zero] at h
  unfold lm_wb; simp; omega
theorem lm_wh_2 {what : Int32} (h : ¬ what ≤ nI 2) : lm_wb what = true := by
  rw [Int32.le_iff_toInt_le, nI_toInt (by omega)] at h
  unfold lm_wb; simp; omega
theorem lm_wh_3 {what : Int32} (h : ¬ what < 0) (h2 : what ≤ nI 2) : lm_wb what = false := by
  rw [Int32.lt_iff_toInt_lt, Int32.toInt_zero] at h
  rw [Int32.le_iff_toInt_le, nI_toInt (by omega)] at h2
  unfold lm_wb; simp; omega
theorem lm_us_n {p : Int32} {u : Nat} (hu : u < 2 ^ 31) (h : decide (0 ≤ p.toInt ∧ p.toInt < (u : Int)) = false) (h0 : ¬ p < 0) : ¬ p < nI u := by
  have h := of_decide_eq_false h
  rw [Int32.lt_iff_toInt_lt, Int32.toInt_zero] at h0
  rw [Int32.lt_iff_toInt_lt, nI_toInt hu]
  omega
theorem lm_us_q {p : Int32} {u : Nat} (hu : u < 2 ^ 31) (h : decide (0 ≤ p.toInt ∧ p.toInt < (u : Int)) = true) : ∃ q : Nat, q < u ∧ p = nI q := by
  have h := of_decide_eq_true h
  refine ⟨p.toInt.toNat, by omega, ?_⟩
  apply Int32.toInt_inj.1
  rw [nI_toInt (by omega)]
  omega
theorem lm_us_t {u q : Nat} (hq : q < u) (hu : u ≤ 120) : decide (0 ≤ (nI q).toInt ∧ (nI q).toInt < (u : Int)) = true := by
  rw [nI_toInt (by omega)]; simp; omega
theorem lm_ix_u {u q : Nat} (hq : q < u) (hu : u ≤ 120) : lm_ix (nI q) = q := by
  unfold lm_ix; rw [nI_toInt (by omega)]; exact Int.toNat_natCast q
theorem lm_qw_1 {c : Nat → Nat} {w : Nat → lm_V} {u : Nat} {rt : Nat → lm_V} {z p what : Int32} (h : decide (0 ≤ p.toInt ∧ p.toInt < (u : Int)) = false) : lm_qw p what (c, w, u, rt, z) = (1, (c, w, u, rt, z)) := by
  unfold lm_qw; rw [if_pos h]
theorem lm_qw_2 {c : Nat → Nat} {w : Nat → lm_V} {u : Nat} {rt : Nat → lm_V} {z what : Int32} {q : Nat} (hq : q < u) (hu : u ≤ 120) (h : lm_wb what = true) : lm_qw (nI q) what (c, w, u, rt, z) = (2, (c, w, u, rt, z)) := by
  unfold lm_qw; rw [if_neg (by show ¬ decide (0 ≤ (nI q).toInt ∧ (nI q).toInt < (u : Int)) = false; rw [lm_us_t hq hu]; simp), if_pos h]
theorem lm_qw_0 {c : Nat → Nat} {w : Nat → lm_V} {u : Nat} {rt : Nat → lm_V} {z what : Int32} {q : Nat} (hq : q < u) (hu : u ≤ 120) (h : lm_wb what = false) : lm_qw (nI q) what (c, w, u, rt, z) = (0, (c, w, u, rt, z)) := by
  unfold lm_qw; rw [if_neg (by show ¬ decide (0 ≤ (nI q).toInt ∧ (nI q).toInt < (u : Int)) = false; rw [lm_us_t hq hu]; simp), if_neg (by rw [h]; simp)]
theorem lm_wd_1 {c : Nat → Nat} {w : Nat → lm_V} {u : Nat} {p what : Int32} (h : decide (0 ≤ p.toInt ∧ p.toInt < (u : Int)) = false) : lm_wd c w u p what = jI 0 := by
  unfold lm_wd; rw [if_pos (Or.inl h)]
theorem lm_wd_2 {c : Nat → Nat} {w : Nat → lm_V} {u : Nat} {p what : Int32} (h : lm_wb what = true) : lm_wd c w u p what = jI 0 := by
  unfold lm_wd; rw [if_pos (Or.inr h)]
theorem lm_wd_n {c : Nat → Nat} {w : Nat → lm_V} {u : Nat} {what : Int32} {q : Nat} (hq : q < u) (hu : u ≤ 120) (h : lm_wb what = false) : lm_wd c w u (nI q) what = if what.toInt = 0 then jI ((c q : Nat) : Int) else if what.toInt = 1 then jI (((w q).1 : Nat) : Int) else jI (w q).2 := by
  unfold lm_wd
  rw [if_neg (by rw [lm_us_t hq hu, h]; simp), lm_ix_u hq hu]
theorem lm_wd_c {c : Nat → Nat} {w : Nat → lm_V} {u : Nat} {what : Int32} {q : Nat} (hq : q < u) (hu : u ≤ 120) (h : lm_wb what = false) (h0 : what = 0) : lm_wd c w u (nI q) what = jI ((c q : Nat) : Int) := by
  rw [lm_wd_n hq hu h, if_pos (by rw [h0]; rfl)]
theorem lm_wd_k {c : Nat → Nat} {w : Nat → lm_V} {u : Nat} {what : Int32} {q : Nat} (hq : q < u) (hu : u ≤ 120) (h : lm_wb what = false) (h1 : what = nI 1) : lm_wd c w u (nI q) what = jI (((w q).1 : Nat) : Int) := by
  rw [lm_wd_n hq hu h, if_neg (by rw [h1]; decide), if_pos (by rw [h1]; decide)]
theorem lm_wh_i {what : Int32} (h0 : ¬ what = 0) (h1 : ¬ what = nI 1) : ¬ what.toInt = 0 ∧ ¬ what.toInt = 1 := by
  refine ⟨fun z => h0 (Int32.toInt_inj.1 (by rw [z]; rfl)), fun z => h1 (Int32.toInt_inj.1 (by rw [z]; decide))⟩
theorem lm_wd_d {c : Nat → Nat} {w : Nat → lm_V} {u : Nat} {what : Int32} {q : Nat} (hq : q < u) (hu : u ≤ 120) (h : lm_wb what = false) (h0 : ¬ what = 0) (h1 : ¬ what = nI 1) : lm_wd c w u (nI q) what = jI (w q).2 := by
  rw [lm_wd_n hq hu h, if_neg (lm_wh_i h0 h1).1, if_neg (lm_wh_i h0 h1).2]
theorem lm_wd_z {c : Nat → Nat} {w : Nat → lm_V} {u : Nat} {what : Int32} {q : Nat} (hw : lm_wf c w u) (hq : q < u) (h : lm_wb what = false) (h0 : ¬ what = 0) (h1 : ¬ what = nI 1) (hk : (w q).1 = 0) : lm_wd c w u (nI q) what = jI 0 := by
  rw [lm_wd_d hq hw.1 h h0 h1]
  rcases hw.2.2.2.2.2.1 q hq with a | a
  · rcases a with a | a | a
    · rw [a.2]
    · omega
    · have := a.1; omega
  · have := a.1; omega
theorem lm_ab_e0 {w : Nat → lm_V} {u : Nat} {z what : Int32} (h : what = 0) : lm_ab w u z what = nI u := lm_ab_0 (by rw [h]; rfl)
theorem lm_ab_e1 {w : Nat → lm_V} {u : Nat} {z what : Int32} (h : what = nI 1) : lm_ab w u z what = nI (lm_cnt w u) := lm_ab_1 (by rw [h]; decide)
theorem lm_ab_e2 {w : Nat → lm_V} {u : Nat} {z what : Int32} (h : what = nI 2) : lm_ab w u z what = z := lm_ab_2 (by rw [h]; decide)
theorem lm_ab_e3 {w : Nat → lm_V} {u : Nat} {z what : Int32} (h0 : ¬ what = 0) (h1 : ¬ what = nI 1) (h2 : ¬ what = nI 2) : lm_ab w u z what = -1 := by
  unfold lm_ab
  rw [if_neg (lm_wh_i h0 h1).1, if_neg (lm_wh_i h0 h1).2, if_neg (fun q => h2 (Int32.toInt_inj.1 (by rw [q]; decide)))]
