/-! Numbers as the walks speak of them: jI: a long by its integer; oI: a place or -1; bI: a boolean -/
def jI (b : Int) : Int64 := Int64.ofInt b
def oI (o : Option Nat) : Int32 := match o with | none => -1 | some n => nI n
def bI (x : Bool) : Int32 := if x = true then nI 1 else nI 0
theorem jI_add (a b : Int) : jI a + jI b = jI (a + b) := (Int64.ofInt_add a b).symm
theorem jI_int {a : Int} (h : -4611686018427387904 ≤ a ∧ a ≤ 4611686018427387904) : (jI a).toInt = a := Int64.toInt_ofInt_of_le (by omega) (by omega)
theorem jI_lt {a b : Int} (ha : -4611686018427387904 ≤ a ∧ a ≤ 4611686018427387904) (hb : -4611686018427387904 ≤ b ∧ b ≤ 4611686018427387904) : jI a < jI b ↔ a < b := by
  rw [Int64.lt_iff_toInt_lt, jI_int ha, jI_int hb]
theorem jI_eq {a b : Int} (ha : -4611686018427387904 ≤ a ∧ a ≤ 4611686018427387904) (hb : -4611686018427387904 ≤ b ∧ b ≤ 4611686018427387904) : jI a = jI b ↔ a = b := by
  rw [← Int64.toInt_inj, jI_int ha, jI_int hb]
theorem jI_lN (n : Nat) : jI (n : Int) = lN n := by
  unfold jI lN
  rfl
theorem jI_i2l {n : Nat} (h : n < 2 ^ 31) : (nI n).toInt64 = jI (n : Int) := by rw [nI_l h, jI_lN]
theorem jI_l2i (n : Nat) : (jI (n : Int)).toInt32 = nI n := by rw [jI_lN, lN_i]
theorem k_inc (a : Nat) : nI a + Int32.ofInt 1 = nI (a + 1) := by
  rw [show Int32.ofInt 1 = (1 : Int32) by decide +kernel]; exact nI_1 a
theorem kc_m1 : Int32.ofInt (-1) = (-1) := by decide +kernel
theorem kc_0 : Int32.ofInt 0 = nI 0 := by decide +kernel
theorem kc_1 : Int32.ofInt 1 = nI 1 := by decide +kernel
theorem kc_2 : Int32.ofInt 2 = nI 2 := by decide +kernel
theorem kc_3 : Int32.ofInt 3 = nI 3 := by decide +kernel
theorem kc_4 : Int32.ofInt 4 = nI 4 := by decide +kernel
theorem kc_5 : Int32.ofInt 5 = nI 5 := by decide +kernel
theorem kb_9 : (Int8.ofInt 9).toInt32 = nI 9 := by decide +kernel
theorem kb_10 : (Int8.ofInt 10).toInt32 = nI 10 := by decide +kernel
theorem kb_31 : (Int8.ofInt 31).toInt32 = nI 31 := by decide +kernel
theorem kb_32 : (Int8.ofInt 32).toInt32 = nI 32 := by decide +kernel
theorem kb_120 : (Int8.ofInt 120).toInt32 = nI 120 := by decide +kernel
theorem kl_0 : Int64.ofNat ((0 : Fin 2) : Nat) = jI 0 := by decide +kernel
theorem kl_1 : Int64.ofNat ((1 : Fin 2) : Nat) = jI 1 := by decide +kernel
theorem oI_none {o : Option Nat} (h : ∀ n, o = some n → n < 2 ^ 31) : oI o = -1 ↔ o = none := by
  cases o with
  | none => simp [oI]
  | some n =>
    have h1 := nI_toInt (h n rfl)
    constructor
    · intro q
      have q : nI n = -1 := q
      rw [q] at h1
      have h2 : (-1 : Int32).toInt = -1 := by decide +kernel
      omega
    · intro q; cases q
theorem oI_some {o : Option Nat} {n : Nat} (hn : n < 2 ^ 31) (h : ∀ k, o = some k → k < 2 ^ 31) : oI o = nI n ↔ o = some n := by
  cases o with
  | none =>
    constructor
    · intro q
      have q : (-1 : Int32) = nI n := q
      have h1 := nI_toInt hn
      rw [← q] at h1
      have h2 : (-1 : Int32).toInt = -1 := by decide +kernel
      omega
    · intro q; cases q
  | some k =>
    constructor
    · intro q
      have q : nI k = nI n := q
      rw [(nI_eq (h k rfl) hn).mp q]
    · intro q; cases q; rfl
theorem bI_0 {x : Bool} : bI x = nI 0 ↔ x = false := by cases x <;> decide +kernel
theorem bI_nar (x : Bool) : narrow .boolean (.int (bI x)) = .int (bI x) := by cases x <;> decide +kernel
theorem bI_vp (x : Bool) : vp_nar .boolean (bI x) = bI x := by cases x <;> decide +kernel
theorem en_kind2 {v : lm_V} (h : v.1 < 4) : (en v &&& jI 3).toInt32 = nI v.1 := en_kind h
theorem en_sh2' : ((nI 2).toInt64 &&& 63) = ((2 : Int32).toInt64 &&& 63) := by decide +kernel
theorem en_body2 {v : lm_V} (h : en_in v) : en v >>> ((nI 2).toInt64 &&& 63) = jI v.2 := by rw [en_sh2']; exact en_body h
theorem en_mk2 {k : Nat} {b : Int} (hk : k < 4) : (jI b <<< ((nI 2).toInt64 &&& 63)) ||| jI ((k : Nat) : Int) = en (k, b) := by
  rw [en_sh2', jI_lN]; exact en_mk hk rfl
theorem lm_upu (f : Nat → Int32) (k : Nat) (x : Int32) : upd f k x = lm_up f k x := rfl
theorem kb_m2 : (Int8.ofInt (-2)).toInt32 = (-2) := by decide +kernel
