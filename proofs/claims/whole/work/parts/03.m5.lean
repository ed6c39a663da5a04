/-! A content as the class holds it: one long, the body above the kind -/
def en (v : lm_V) : Int64 := Int64.ofInt (4 * v.2 + (v.1 : Int))
def en_in (v : lm_V) : Prop := v.1 < 4 ∧ -288230376151711744 ≤ v.2 ∧ v.2 ≤ 288230376151711743
theorem en_of {c : Nat → Nat} {u : Nat} {v : lm_V} (hu : u ≤ 120) (h : lm_ok c u v) : en_in v := by
  rcases h with a | a | ⟨a, q, b, d, -⟩ <;> refine ⟨by omega, by omega, by omega⟩
theorem en_nat (v : lm_V) : (en v).toBitVec.toNat = ((4 * v.2 + (v.1 : Int)) % 18446744073709551616).toNat := by
  unfold en
  rw [Int64.toBitVec_ofInt, BitVec.toNat_ofInt]
  rfl
theorem en_int {v : lm_V} (h : en_in v) : (en v).toInt = 4 * v.2 + (v.1 : Int) := by
  obtain ⟨h1, h2, h3⟩ := h
  unfold en
  exact Int64.toInt_ofInt_of_le (by omega) (by omega)
theorem en_and {v : lm_V} (h : v.1 < 4) : en v &&& 3 = lN v.1 := by
  apply Int64.toBitVec_inj.1
  apply BitVec.eq_of_toNat_eq
  have h1 : (en v &&& 3).toBitVec.toNat = (en v).toBitVec.toNat % 4 := by
    show ((en v).toBitVec &&& (3#64)).toNat = _
    rw [BitVec.toNat_and]
    show _ &&& (2 ^ 2 - 1) = _
    rw [Nat.and_two_pow_sub_one_eq_mod]
  rw [h1, en_nat]
  show _ = (BitVec.ofNat 64 v.1).toNat
  rw [BitVec.toNat_ofNat]
  omega
theorem en_kind {v : lm_V} (h : v.1 < 4) : (en v &&& 3).toInt32 = nI v.1 := by rw [en_and h, lN_i]
theorem en_sh2 : ((2 : Int32).toInt64 &&& 63) = 2 := by decide +kernel
theorem en_body {v : lm_V} (h : en_in v) : en v >>> ((2 : Int32).toInt64 &&& 63) = Int64.ofInt v.2 := by
  rw [en_sh2]
  apply Int64.toInt_inj.1
  have h1 : (en v >>> (2 : Int64)).toInt = (en v).toInt >>> 2 := by
    show ((en v).toBitVec.sshiftRight' ((2 : Int64).toBitVec.smod 64)).toInt = _
    rw [show ((2 : Int64).toBitVec.smod 64) = 2#64 by decide +kernel, BitVec.toInt_sshiftRight']
    rfl
  obtain ⟨h2, h3, h4⟩ := id h
  rw [h1, en_int h, Int64.toInt_ofInt_of_le (by omega) (by omega), Int.shiftRight_eq_div_pow]
  omega
theorem en_mk {k : Nat} {b : Int} {x : Int64} (hk : k < 4) (hx : x = Int64.ofInt b) : (x <<< ((2 : Int32).toInt64 &&& 63)) ||| lN k = en (k, b) := by
  subst hx
  rw [en_sh2]
  apply Int64.toBitVec_inj.1
  apply BitVec.eq_of_toNat_eq
  rw [en_nat]
  have h1 : ((Int64.ofInt b <<< (2 : Int64)) ||| lN k).toBitVec.toNat = ((BitVec.ofInt 64 b) <<< 2).toNat ||| k := by
    show (((BitVec.ofInt 64 b) <<< ((2 : Int64).toBitVec.smod 64)) ||| (BitVec.ofNat 64 k)).toNat = _
    rw [show ((2 : Int64).toBitVec.smod 64) = 2#64 by decide +kernel, BitVec.toNat_or, BitVec.toNat_ofNat, Nat.mod_eq_of_lt (by omega)]
    rfl
  rw [h1, BitVec.toNat_shiftLeft, BitVec.toNat_ofInt, Nat.shiftLeft_eq]
  have h2 : ((b % ((2 ^ 64 : Nat) : Int)).toNat * 2 ^ 2) % 2 ^ 64 = 2 ^ 2 * ((b % ((2 ^ 64 : Nat) : Int)).toNat % 2 ^ 62) := by omega
  rw [h2, ← Nat.two_pow_add_eq_or_of_lt (by omega)]
  show 2 ^ 2 * ((b % ((2 ^ 64 : Nat) : Int)).toNat % 2 ^ 62) + k = ((4 * b + (k : Int)) % 18446744073709551616).toNat
  omega
theorem en_inj {v v' : lm_V} (h : en_in v) (h' : en_in v') : en v = en v' ↔ v = v' := by
  constructor
  · intro e
    have e1 := congrArg Int64.toInt e
    rw [en_int h, en_int h'] at e1
    obtain ⟨a1, a2, a3⟩ := h
    obtain ⟨b1, b2, b3⟩ := h'
    obtain ⟨k, b⟩ := v
    obtain ⟨k', b'⟩ := v'
    simp only at *
    have : k = k' := by omega
    have : b = b' := by omega
    subst_vars
    rfl
  · intro e; rw [e]
theorem en_0 : en (0, 0) = 0 := by decide +kernel
/-! What the questions answer -/
def lm_len (c : Nat → Nat) (w : Nat → lm_V) : Nat → Nat → lm_V → Int
  | 0, _, _ => -2
  | f + 1, n, v => if v.1 = 2 then lm_len c w f (n + 1) (lm_rest c w (lm_to w v)) else if v.1 = 0 then (n : Int) else -1
/-- words: S: the cells counted already -/
def lm_wds (c : Nat → Nat) (w : Nat → lm_V) : Nat → List Nat → lm_V → Nat → Nat
  | 0, _, _, n => n
  | f + 1, S, v, n => if v.1 = 2 ∧ lm_to w v ∉ S then lm_wds c w f (lm_to w v :: S) (lm_rest c w (lm_to w v)) (n + (if c (lm_to w v) = 2 then 2 else 1) + (if lm_to w v = v.2.toNat then 0 else 1)) else n
def lm_same (w : Nat → lm_V) (a b : lm_V) : Bool := if a.1 = 2 ∧ b.1 = 2 then decide (lm_to w a = lm_to w b) else decide (a = b)
/-- alike: pairs set against one another: forth, back, those that wait -/
abbrev lm_M : Type := (Nat → Option Nat) × (Nat → Option Nat) × List Nat
def lm_fit (w : Nat → lm_V) (m : lm_M) (a b : lm_V) : lm_M × Bool :=
  if a.1 = 2 ∧ b.1 = 2 then
    if m.1 (lm_to w a) = none ∧ m.2.1 (lm_to w b) = none then ((lm_mark m.1 (lm_to w a) (lm_to w b), lm_mark m.2.1 (lm_to w b) (lm_to w a), m.2.2 ++ [lm_to w a]), true)
    else (m, decide (m.1 (lm_to w a) = some (lm_to w b)))
  else (m, decide (a = b))
def lm_pair (c : Nat → Nat) (w : Nat → lm_V) (m : lm_M) (p q : Nat) : lm_M × Bool :=
  if (lm_fit w m (w p) (w q)).2 = true then lm_fit w (lm_fit w m (w p) (w q)).1 (lm_rest c w p) (lm_rest c w q) else lm_fit w m (w p) (w q)
def lm_alk (c : Nat → Nat) (w : Nat → lm_V) : Nat → Nat → lm_M → Bool
  | 0, _, _ => true
  | f + 1, i, m => if i < m.2.2.length then
      if (lm_pair c w m (m.2.2.getD i 0) ((m.1 (m.2.2.getD i 0)).getD 0)).2 = true then lm_alk c w f (i + 1) (lm_pair c w m (m.2.2.getD i 0) ((m.1 (m.2.2.getD i 0)).getD 0)).1 else false
    else true
def lm_alike (c : Nat → Nat) (w : Nat → lm_V) (a b : lm_V) : Bool :=
  if (lm_fit w (fun _ => none, fun _ => none, []) a b).2 = true then lm_alk c w 120 0 (lm_fit w (fun _ => none, fun _ => none, []) a b).1 else false
/-- those that are set: forth and back agree, all are cells, each waits once -/
def lm_mok (c : Nat → Nat) (w : Nat → lm_V) (u : Nat) (m : lm_M) : Prop :=
  lm_gd c w u m.2.2 ∧ (∀ p, p ∈ m.2.2 ↔ m.1 p ≠ none) ∧ (∀ p q, m.1 p = some q ↔ m.2.1 q = some p) ∧ ∀ p q, m.1 p = some q → lm_cl c w u q
theorem lm_fit_ok {c : Nat → Nat} {w : Nat → lm_V} {u : Nat} (h : lm_wf c w u) {m : lm_M} {a b : lm_V} (hm : lm_mok c w u m) (ha : lm_ok c u a) (hb : lm_ok c u b) : lm_mok c w u (lm_fit w m a b).1 ∧ ∃ M, (lm_fit w m a b).1.2.2 = m.2.2 ++ M := by
  unfold lm_fit
  by_cases e : a.1 = 2 ∧ b.1 = 2
  · rw [if_pos e]
    by_cases e2 : m.1 (lm_to w a) = none ∧ m.2.1 (lm_to w b) = none
    · rw [if_pos e2]
      obtain ⟨⟨m1, m2⟩, m3, m4, m5⟩ := hm
      have ca := lm_to_cl h ha e.1
      have cb := lm_to_cl h hb e.2
      have hno : lm_to w a ∉ m.2.2 := fun q => (m3 _).mp q e2.1
      refine ⟨⟨⟨?_, fun p hp => ?_⟩, fun p => ?_, fun p q => ?_, fun p q hq => ?_⟩, _, rfl⟩
      · rw [List.nodup_append]
        refine ⟨m1, by simp, ?_⟩
        intro x hx y hy
        simp only [List.mem_singleton] at hy
        subst hy
        intro z
        exact hno (z ▸ hx)
      · rcases List.mem_append.mp hp with z | z
        · exact m2 p z
        · rw [List.mem_singleton] at z; subst z; exact ca
      · show p ∈ m.2.2 ++ [lm_to w a] ↔ lm_mark m.1 (lm_to w a) (lm_to w b) p ≠ none
        rw [List.mem_append, List.mem_singleton, m3 p, Ne, Ne, lm_mark_eq]
        by_cases z : p = lm_to w a <;> simp [z]
      · show lm_mark m.1 (lm_to w a) (lm_to w b) p = some q ↔ lm_mark m.2.1 (lm_to w b) (lm_to w a) q = some p
        unfold lm_mark
        by_cases z1 : p = lm_to w a
        · by_cases z2 : q = lm_to w b
          · simp [z1, z2]
          · rw [if_pos z1, if_neg z2, ← m4 p q]
            constructor
            · intro z; exact absurd (Option.some.inj z).symm z2
            · intro z; rw [z1, e2.1] at z; cases z
        · by_cases z2 : q = lm_to w b
          · rw [if_neg z1, if_pos z2, m4 p q]
            constructor
            · intro z; rw [z2, e2.2] at z; cases z
            · intro z; exact absurd (Option.some.inj z).symm z1
          · rw [if_neg z1, if_neg z2]; exact m4 p q
      · have hq : lm_mark m.1 (lm_to w a) (lm_to w b) p = some q := hq
        unfold lm_mark at hq
        by_cases z : p = lm_to w a
        · rw [if_pos z] at hq
          rw [← Option.some.inj hq]; exact cb
        · rw [if_neg z] at hq; exact m5 p q hq
    · rw [if_neg e2]; exact ⟨hm, [], by simp⟩
  · rw [if_neg e]; exact ⟨hm, [], by simp⟩
/-- the same is alike: each cell is set against itself -/
def lm_id (m : lm_M) : Prop := ∀ p, (m.1 p = none ∨ m.1 p = some p) ∧ m.2.1 p = m.1 p
theorem lm_fit_id {w : Nat → lm_V} {m : lm_M} (hm : lm_id m) {a b : lm_V} (hab : a = b ∨ (a.1 = 2 ∧ b.1 = 2 ∧ lm_to w a = lm_to w b)) : lm_id (lm_fit w m a b).1 ∧ (lm_fit w m a b).2 = true := by
  unfold lm_fit
  by_cases e : a.1 = 2 ∧ b.1 = 2
  · rw [if_pos e]
    have ht : lm_to w a = lm_to w b := by
      rcases hab with z | z
      · rw [z]
      · exact z.2.2
    rw [← ht]
    by_cases e2 : m.1 (lm_to w a) = none ∧ m.2.1 (lm_to w a) = none
    · rw [if_pos e2]
      refine ⟨fun p => ?_, rfl⟩
      show (lm_mark m.1 (lm_to w a) (lm_to w a) p = none ∨ lm_mark m.1 (lm_to w a) (lm_to w a) p = some p) ∧ lm_mark m.2.1 (lm_to w a) (lm_to w a) p = lm_mark m.1 (lm_to w a) (lm_to w a) p
      unfold lm_mark
      by_cases z : p = lm_to w a
      · rw [if_pos z, if_pos z]; exact ⟨Or.inr (by rw [z]), rfl⟩
      · rw [if_neg z, if_neg z]; exact hm p
    · rw [if_neg e2]
      refine ⟨hm, ?_⟩
      obtain ⟨h1, h2⟩ := hm (lm_to w a)
      rcases h1 with z | z
      · exact absurd ⟨z, h2.trans z⟩ e2
      · simp [z]
  · rw [if_neg e]
    rcases hab with z | z
    · exact ⟨hm, by simp [z]⟩
    · exact absurd ⟨z.1, z.2.1⟩ e
theorem lm_alk_id {c : Nat → Nat} {w : Nat → lm_V} : ∀ (f i : Nat) (m : lm_M), lm_id m → (∀ p, p ∈ m.2.2 → m.1 p ≠ none) → (∀ m a b, lm_id m → (∀ p, p ∈ m.2.2 → m.1 p ≠ none) → ∀ p, p ∈ (lm_fit w m a b).1.2.2 → (lm_fit w m a b).1.1 p ≠ none) → lm_alk c w f i m = true := by
  intro f
  induction f with
  | zero => intro i m _ _ _; rfl
  | succ f ih =>
    intro i m hm hw hk
    unfold lm_alk
    by_cases e : i < m.2.2.length
    · rw [if_pos e]
      have hin : m.2.2.getD i 0 ∈ m.2.2 := by
        rw [List.getD_eq_getElem?_getD, List.getElem?_eq_getElem e]; simp
      have hs : (m.1 (m.2.2.getD i 0)).getD 0 = m.2.2.getD i 0 := by
        rcases (hm (m.2.2.getD i 0)).1 with z | z
        · exact absurd z (hw _ hin)
        · rw [z]; rfl
      rw [hs]
      generalize m.2.2.getD i 0 = p
      obtain ⟨a1, a2⟩ := lm_fit_id (w := w) hm (a := w p) (b := w p) (Or.inl rfl)
      obtain ⟨b1, b2⟩ := lm_fit_id (w := w) a1 (a := lm_rest c w p) (b := lm_rest c w p) (Or.inl rfl)
      have hp : lm_pair c w m p p = lm_fit w (lm_fit w m (w p) (w p)).1 (lm_rest c w p) (lm_rest c w p) := by unfold lm_pair; rw [if_pos a2]
      rw [hp, if_pos b2]
      exact ih _ _ b1 (hk _ _ _ a1 (hk _ _ _ hm hw)) hk
    · rw [if_neg e]
theorem lm_fit_wait {w : Nat → lm_V} {m : lm_M} {a b : lm_V} (h : ∀ p, p ∈ m.2.2 → m.1 p ≠ none) : ∀ p, p ∈ (lm_fit w m a b).1.2.2 → (lm_fit w m a b).1.1 p ≠ none := by
  unfold lm_fit
  by_cases e : a.1 = 2 ∧ b.1 = 2
  · rw [if_pos e]
    by_cases e2 : m.1 (lm_to w a) = none ∧ m.2.1 (lm_to w b) = none
    · rw [if_pos e2]
      intro p hp
      show lm_mark m.1 (lm_to w a) (lm_to w b) p ≠ none
      rw [Ne, lm_mark_eq]
      rcases List.mem_append.mp hp with z | z
      · intro q; exact h p z q.2
      · rw [List.mem_singleton] at z; intro q; exact q.1 z
    · rw [if_neg e2]; exact h
  · rw [if_neg e]; exact h
theorem lm_alike_same {c : Nat → Nat} {w : Nat → lm_V} {a b : lm_V} (h : lm_same w a b = true) : lm_alike c w a b = true := by
  have hab : a = b ∨ (a.1 = 2 ∧ b.1 = 2 ∧ lm_to w a = lm_to w b) := by
    unfold lm_same at h
    by_cases e : a.1 = 2 ∧ b.1 = 2
    · rw [if_pos e] at h; exact Or.inr ⟨e.1, e.2, by simpa using h⟩
    · rw [if_neg e] at h; exact Or.inl (by simpa using h)
  have h0 : lm_id (fun _ => none, fun _ => none, []) := fun p => ⟨Or.inl rfl, rfl⟩
  obtain ⟨a1, a2⟩ := lm_fit_id (w := w) h0 hab
  unfold lm_alike
  rw [if_pos a2]
  exact lm_alk_id _ _ _ a1 (lm_fit_wait (fun p hp => (by cases hp))) (fun m a b _ hw => lm_fit_wait hw)
