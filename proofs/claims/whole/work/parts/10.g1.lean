set_option maxHeartbeats 4000000 in
set_option maxRecDepth 100000 in
theorem zs_content (l : Launch) (K : lm_G) (k : Nat) (b : Int) (hk : k < 4) : lm_C l K mX3_content (rk 0) [.int (nI k), .long (jI b)] [] (fun v9 w9 => v9 = some (.long (en (k, b))) ∧ w9 = []) := by
  refine lx_met RX3 pn_X3 rfl (Nat.le_of_ble_eq_true rfl) (fun E hE hnm F hR => ?_)
  have F : lx_F K 3 E cX3_content RX3 (some .long) (rk 0) := F
  show lx_W K 3 E 0 0 0 [(0, .int (nI k)), (1, .long (jI b))] [] []
  refine lx_lload_n F dX3_content_0 1 rfl ?_
  refine lx_iconst F dX3_content_1 kc_2 ?_
  refine lx_lshl F dX3_content_2 rfl ?_
  refine lx_iload_n F dX3_content_3 0 rfl ?_
  refine lx_i2l F dX3_content_4 (jI_i2l (by omega)) ?_
  refine lx_lor F dX3_content_5 (en_mk2 hk) ?_
  exact lx_lret F hR dX3_content_6 ⟨rfl, rfl⟩

set_option maxHeartbeats 4000000 in
set_option maxRecDepth 100000 in
theorem zs_kindOf (l : Launch) (K : lm_G) (v : lm_V) (hv : v.1 < 4) : lm_C l K mX3_kindOf (rk 0) [.long (en v)] [] (fun v9 w9 => v9 = some (.int (nI v.1)) ∧ w9 = []) := by
  refine lx_met RX3 pn_X3 rfl (Nat.le_of_ble_eq_true rfl) (fun E hE hnm F hR => ?_)
  have F : lx_F K 2 E cX3_kindOf RX3 (some .int) (rk 0) := F
  show lx_W K 2 E 0 0 0 [(0, .long (en v))] [] []
  refine lx_lload_n F dX3_kindOf_0 0 rfl ?_
  refine lx_ldc2 F dX3_kindOf_1 kj_X3_156 ?_
  refine lx_land F dX3_kindOf_4 rfl ?_
  refine lx_l2i F dX3_kindOf_5 (en_kind2 hv) ?_
  exact lx_iret F hR dX3_kindOf_6 ⟨rfl, rfl⟩

set_option maxHeartbeats 4000000 in
set_option maxRecDepth 100000 in
theorem zs_bodyOf (l : Launch) (K : lm_G) (v : lm_V) (hv : en_in v) : lm_C l K mX3_bodyOf (rk 0) [.long (en v)] [] (fun v9 w9 => v9 = some (.long (jI v.2)) ∧ w9 = []) := by
  refine lx_met RX3 pn_X3 rfl (Nat.le_of_ble_eq_true rfl) (fun E hE hnm F hR => ?_)
  have F : lx_F K 2 E cX3_bodyOf RX3 (some .long) (rk 0) := F
  show lx_W K 2 E 0 0 0 [(0, .long (en v))] [] []
  refine lx_lload_n F dX3_bodyOf_0 0 rfl ?_
  refine lx_iconst F dX3_bodyOf_1 kc_2 ?_
  refine lx_lshr F dX3_bodyOf_2 (en_body2 hv) ?_
  exact lx_lret F hR dX3_bodyOf_3 ⟨rfl, rfl⟩

set_option maxHeartbeats 4000000 in
set_option maxRecDepth 100000 in
theorem zs_placeOf (l : Launch) (K : lm_G) (v : lm_V) (q : Nat) (hv : en_in v) (hq : v.2 = (q : Int)) (hq2 : q < 120) : lm_C l K mX3_placeOf (rk 0) [.long (en v)] [] (fun v9 w9 => v9 = some (.int (nI q)) ∧ w9 = []) := by
  refine lx_met RX3 pn_X3 rfl (Nat.le_of_ble_eq_true rfl) (fun E hE hnm F hR => ?_)
  have F : lx_F K 4 E cX3_placeOf RX3 (some .int) (rk 0) := F
  show lx_W K 4 E 0 0 0 [(0, .long (en v))] [] []
  refine lx_lload_n F dX3_placeOf_0 0 rfl ?_
  refine lx_iconst F dX3_placeOf_1 kc_2 ?_
  refine lx_lshr F dX3_placeOf_2 (by rw [en_body2 hv, hq]) ?_
  refine lx_lstore_n F [(0, .long (en v)), (2, .long (jI (q : Nat)))] [1, 0] dX3_placeOf_3 rfl (by decide) ?_
  refine lx_lload_n F dX3_placeOf_4 1 rfl ?_
  refine lx_lconst F dX3_placeOf_5 kl_0 ?_
  refine lx_lcmp_iflt F 23 dX3_placeOf_6 dX3_placeOf_7 rfl (fun h => absurd ((jI_lt (by omega) (by omega)).mp h) (by omega)) (fun _ => ?_)
  refine lx_lload_n F dX3_placeOf_10 1 rfl ?_
  refine lx_ldc2 F dX3_placeOf_11 kj_X3_158 ?_
  refine lx_lcmp_ifge F 23 dX3_placeOf_14 dX3_placeOf_15 rfl (fun h => absurd ((jI_lt (by omega) (by omega)).mpr (by omega)) h) (fun _ => ?_)
  refine lx_lload_n F dX3_placeOf_18 1 rfl ?_
  refine lx_l2i F dX3_placeOf_19 (jI_l2i q) ?_
  refine lx_goto F 24 dX3_placeOf_20 rfl ?_
  exact lx_iret F hR dX3_placeOf_24 ⟨rfl, rfl⟩

set_option maxHeartbeats 4000000 in
set_option maxRecDepth 100000 in
theorem zh_init (l : Launch) (K : lm_G) (h : Nat) : lm_C l K mX1_init ({ frames := 1, cells := 2, slots := 240, locals := 36 }) [.ref h] [(h, .inr (1, [.null, .null, .int (nI 0)]))] (fun v9 w9 => v9 = none ∧ ∃ ca co : Nat, w9 = [(h, .inr (1, [.ref ca, .ref co, .int (nI 0)])), (ca, aI K 120 (fun _ => 0)), (co, aJ K 120 (fun _ => 0))]) := by
  refine lx_met RX1 pn_X1 rfl (Nat.le_of_ble_eq_true rfl) (fun E hE hnm F hR => ?_)
  have F : lx_F K 1 E cX1_init RX1 none ({ frames := 1, cells := 2, slots := 240, locals := 36 }) := F
  show lx_W K 1 E 0 0 0 [(0, .ref h)] [] [(h, .inr (1, [.null, .null, .int (nI 0)]))]
  refine lx_aload_n F dX1_init_0 0 rfl ?_
  refine lx_obj F to_X1_3 to_i to_c (by decide) (by decide) dX1_init_1 ?_
  refine lx_aload_n F dX1_init_4 0 rfl ?_
  refine lx_bipush F dX1_init_5 kb_120 ?_
  refine lx_newI F 120 dX1_init_7 ta_I (by decide) (by decide) (by decide) (fun q7 => ?_)
  refine lx_perm [0, 1] [(h, .inr (1, [.null, .null, .int (nI 0)])), (q7, aI K 120 (fun _ => 0))] (by decide) rfl ?_
  refine lx_wide (a' := 1) (b' := 120) (by decide) (by decide) ?_
  refine pf_X1_9 F hnm 0 [(h, .inr (1, [.ref q7, .null, .int (nI 0)])), (q7, aI K 120 (fun _ => 0))] rfl rfl dX1_init_9 rfl ?_
  refine lx_aload_n F dX1_init_12 0 rfl ?_
  refine lx_bipush F dX1_init_13 kb_120 ?_
  refine lx_newJ F 120 dX1_init_15 ta_J (by decide) (by decide) (by decide) (fun q15 => ?_)
  refine lx_perm [0, 1, 2] [(h, .inr (1, [.ref q7, .null, .int (nI 0)])), (q7, aI K 120 (fun _ => 0)), (q15, aJ K 120 (fun _ => 0))] (by decide) rfl ?_
  refine lx_wide (a' := 2) (b' := 240) (by decide) (by decide) ?_
  refine pf_X1_15 F hnm 0 [(h, .inr (1, [.ref q7, .ref q15, .int (nI 0)])), (q7, aI K 120 (fun _ => 0)), (q15, aJ K 120 (fun _ => 0))] rfl rfl dX1_init_17 rfl ?_
  refine lx_aload_n F dX1_init_20 0 rfl ?_
  refine lx_iconst F dX1_init_21 kc_0 ?_
  refine pf_X1_19 F 0 [(h, .inr (1, [.ref q7, .ref q15, .int (nI 0)])), (q7, aI K 120 (fun _ => 0)), (q15, aJ K 120 (fun _ => 0))] rfl rfl dX1_init_22 rfl ?_
  exact lx_vret F hR dX1_init_25 ⟨rfl, _, _, rfl⟩

set_option maxHeartbeats 4000000 in
set_option maxRecDepth 100000 in
theorem zh_clear (l : Launch) (K : lm_G) (h ca co : Nat) (f : Nat → Int32) (g : Nat → Int64) (t : Int32) : lm_C l K mX1_clear (rk 0) [.ref h] [(h, .inr (1, [.ref ca, .ref co, .int t])), (ca, aI K 120 f), (co, aJ K 120 g)] (fun v9 w9 => v9 = none ∧ w9 = [(h, .inr (1, [.ref ca, .ref co, .int (nI 0)])), (ca, aI K 120 f), (co, aJ K 120 g)]) := by
  refine lx_met RX1 pn_X1 rfl (Nat.le_of_ble_eq_true rfl) (fun E hE hnm F hR => ?_)
  have F : lx_F K 1 E cX1_clear RX1 none (rk 0) := F
  show lx_W K 1 E 0 0 0 [(0, .ref h)] [] [(h, .inr (1, [.ref ca, .ref co, .int t])), (ca, aI K 120 f), (co, aJ K 120 g)]
  refine lx_aload_n F dX1_clear_0 0 rfl ?_
  refine lx_iconst F dX1_clear_1 kc_0 ?_
  refine pf_X1_19 F 0 [(h, .inr (1, [.ref ca, .ref co, .int (nI 0)])), (ca, aI K 120 f), (co, aJ K 120 g)] rfl rfl dX1_clear_2 rfl ?_
  exact lx_vret F hR dX1_clear_5 ⟨rfl, rfl⟩

set_option maxHeartbeats 4000000 in
set_option maxRecDepth 100000 in
theorem zh_wordsLeft (l : Launch) (K : lm_G) (h ca co : Nat) (f : Nat → Int32) (g : Nat → Int64) (u : Nat) (hu : u ≤ 120) : lm_C l K mX1_wordsLeft (rk 0) [.ref h] [(h, .inr (1, [.ref ca, .ref co, .int (nI u)])), (ca, aI K 120 f), (co, aJ K 120 g)] (fun v9 w9 => v9 = some (.int (nI (120 - u))) ∧ w9 = [(h, .inr (1, [.ref ca, .ref co, .int (nI u)])), (ca, aI K 120 f), (co, aJ K 120 g)]) := by
  refine lx_met RX1 pn_X1 rfl (Nat.le_of_ble_eq_true rfl) (fun E hE hnm F hR => ?_)
  have F : lx_F K 1 E cX1_wordsLeft RX1 (some .int) (rk 0) := F
  show lx_W K 1 E 0 0 0 [(0, .ref h)] [] [(h, .inr (1, [.ref ca, .ref co, .int (nI u)])), (ca, aI K 120 f), (co, aJ K 120 g)]
  refine lx_bipush F dX1_wordsLeft_0 kb_120 ?_
  refine lx_aload_n F dX1_wordsLeft_2 0 rfl ?_
  refine gf_X1_19 F 0 rfl rfl dX1_wordsLeft_3 ?_
  refine lx_isub F dX1_wordsLeft_6 (pk_sub (by omega)) ?_
  exact lx_iret F hR dX1_wordsLeft_7 ⟨rfl, rfl⟩

set_option maxHeartbeats 4000000 in
set_option maxRecDepth 100000 in
theorem zh_isUsed (l : Launch) (K : lm_G) (h ca co : Nat) (f : Nat → Int32) (g : Nat → Int64) (u : Nat) (hu : u ≤ 120) (p : Int32) : lm_C l K mX1_isUsed (rk 0) [.ref h, .int p] [(h, .inr (1, [.ref ca, .ref co, .int (nI u)])), (ca, aI K 120 f), (co, aJ K 120 g)] (fun v9 w9 => v9 = some (.int (bI (decide (0 ≤ p.toInt ∧ p.toInt < (u : Int))))) ∧ w9 = [(h, .inr (1, [.ref ca, .ref co, .int (nI u)])), (ca, aI K 120 f), (co, aJ K 120 g)]) := by
  refine lx_met RX1 pn_X1 rfl (Nat.le_of_ble_eq_true rfl) (fun E hE hnm F hR => ?_)
  have F : lx_F K 2 E cX1_isUsed RX1 (some .boolean) (rk 0) := F
  show lx_W K 2 E 0 0 0 [(0, .ref h), (1, .int p)] [] [(h, .inr (1, [.ref ca, .ref co, .int (nI u)])), (ca, aI K 120 f), (co, aJ K 120 g)]
  refine lx_iload_n F dX1_isUsed_0 1 rfl ?_
  refine lx_if_lt F 16 dX1_isUsed_1 rfl (fun hp => ?_) (fun hp => ?_)
  · skip
    have hz : decide (0 ≤ p.toInt ∧ p.toInt < (u : Int)) = false := lm_us1 hp
    refine lx_iconst F dX1_isUsed_16 kc_0 ?_
    exact lx_zret F hR (by first | rfl | decide) dX1_isUsed_17 ⟨by rw [hz]; rfl, rfl⟩
  · skip
    refine lx_iload_n F dX1_isUsed_4 1 rfl ?_
    refine lx_aload_n F dX1_isUsed_5 0 rfl ?_
    refine gf_X1_19 F 0 rfl rfl dX1_isUsed_6 ?_
    refine lx_icmp_ge F 16 dX1_isUsed_9 rfl (fun hq => ?_) (fun hq => ?_)
    · skip
      have hz : decide (0 ≤ p.toInt ∧ p.toInt < (u : Int)) = false := lm_us2 (by omega) hq
      refine lx_iconst F dX1_isUsed_16 kc_0 ?_
      exact lx_zret F hR (by first | rfl | decide) dX1_isUsed_17 ⟨by rw [hz]; rfl, rfl⟩
    · skip
      have hz : decide (0 ≤ p.toInt ∧ p.toInt < (u : Int)) = true := lm_us3 (by omega) hp hq
      refine lx_iconst F dX1_isUsed_12 kc_1 ?_
      refine lx_goto F 17 dX1_isUsed_13 rfl ?_
      exact lx_zret F hR (by first | rfl | decide) dX1_isUsed_17 ⟨by rw [hz]; rfl, rfl⟩

set_option maxHeartbeats 4000000 in
set_option maxRecDepth 100000 in
theorem zh_codeAt (l : Launch) (K : lm_G) (h ca co : Nat) (f : Nat → Int32) (g : Nat → Int64) (t : Int32) (p : Nat) (hp : p < 120) (x : Int32) (hx : f p = x) : lm_C l K mX1_codeAt (rk 0) [.ref h, .int (nI p)] [(h, .inr (1, [.ref ca, .ref co, .int t])), (ca, aI K 120 f), (co, aJ K 120 g)] (fun v9 w9 => v9 = some (.int x) ∧ w9 = [(h, .inr (1, [.ref ca, .ref co, .int t])), (ca, aI K 120 f), (co, aJ K 120 g)]) := by
  refine lx_met RX1 pn_X1 rfl (Nat.le_of_ble_eq_true rfl) (fun E hE hnm F hR => ?_)
  have F : lx_F K 2 E cX1_codeAt RX1 (some .int) (rk 0) := F
  show lx_W K 2 E 0 0 0 [(0, .ref h), (1, .int (nI p))] [] [(h, .inr (1, [.ref ca, .ref co, .int t])), (ca, aI K 120 f), (co, aJ K 120 g)]
  refine lx_iload_n F dX1_codeAt_0 1 rfl ?_
  refine lx_ifN_lt F 19 (by omega) dX1_codeAt_1 rfl (fun h => absurd h (by omega)) (fun _ => ?_)
  refine lx_iload_n F dX1_codeAt_4 1 rfl ?_
  refine lx_bipush F dX1_codeAt_5 kb_120 ?_
  refine lx_icmpN_ge F 19 (by omega) (by omega) dX1_codeAt_7 rfl (fun h => absurd h (by omega)) (fun _ => ?_)
  refine lx_aload_n F dX1_codeAt_10 0 rfl ?_
  refine gf_X1_9 F 0 rfl rfl dX1_codeAt_11 ?_
  refine lx_iload_n F dX1_codeAt_14 1 rfl ?_
  refine lx_iald F 1 p dX1_codeAt_15 rfl (by omega) (by decide) ?_
  rw [hx]
  refine lx_goto F 20 dX1_codeAt_16 rfl ?_
  exact lx_iret F hR dX1_codeAt_20 ⟨rfl, rfl⟩

set_option maxHeartbeats 4000000 in
set_option maxRecDepth 100000 in
theorem zh_contentAt (l : Launch) (K : lm_G) (h ca co : Nat) (f : Nat → Int32) (g : Nat → Int64) (t : Int32) (p : Nat) (hp : p < 120) (x : Int64) (hx : g p = x) : lm_C l K mX1_contentAt (rk 0) [.ref h, .int (nI p)] [(h, .inr (1, [.ref ca, .ref co, .int t])), (ca, aI K 120 f), (co, aJ K 120 g)] (fun v9 w9 => v9 = some (.long x) ∧ w9 = [(h, .inr (1, [.ref ca, .ref co, .int t])), (ca, aI K 120 f), (co, aJ K 120 g)]) := by
  refine lx_met RX1 pn_X1 rfl (Nat.le_of_ble_eq_true rfl) (fun E hE hnm F hR => ?_)
  have F : lx_F K 2 E cX1_contentAt RX1 (some .long) (rk 0) := F
  show lx_W K 2 E 0 0 0 [(0, .ref h), (1, .int (nI p))] [] [(h, .inr (1, [.ref ca, .ref co, .int t])), (ca, aI K 120 f), (co, aJ K 120 g)]
  refine lx_iload_n F dX1_contentAt_0 1 rfl ?_
  refine lx_ifN_lt F 19 (by omega) dX1_contentAt_1 rfl (fun h => absurd h (by omega)) (fun _ => ?_)
  refine lx_iload_n F dX1_contentAt_4 1 rfl ?_
  refine lx_bipush F dX1_contentAt_5 kb_120 ?_
  refine lx_icmpN_ge F 19 (by omega) (by omega) dX1_contentAt_7 rfl (fun h => absurd h (by omega)) (fun _ => ?_)
  refine lx_aload_n F dX1_contentAt_10 0 rfl ?_
  refine gf_X1_15 F 0 rfl rfl dX1_contentAt_11 ?_
  refine lx_iload_n F dX1_contentAt_14 1 rfl ?_
  refine lx_lald F 2 p dX1_contentAt_15 rfl (by omega) (by decide) ?_
  rw [hx]
  refine lx_goto F 20 dX1_contentAt_16 rfl ?_
  exact lx_lret F hR dX1_contentAt_20 ⟨rfl, rfl⟩

set_option maxHeartbeats 4000000 in
set_option maxRecDepth 100000 in
theorem zh_setContent (l : Launch) (K : lm_G) (h ca co : Nat) (f : Nat → Int32) (g : Nat → Int64) (t : Int32) (p : Nat) (hp : p < 120) (x : Int64) : lm_C l K mX1_setContent (rk 0) [.ref h, .int (nI p), .long x] [(h, .inr (1, [.ref ca, .ref co, .int t])), (ca, aI K 120 f), (co, aJ K 120 g)] (fun v9 w9 => v9 = none ∧ w9 = [(h, .inr (1, [.ref ca, .ref co, .int t])), (ca, aI K 120 f), (co, aJ K 120 (lm_up g p x))]) := by
  refine lx_met RX1 pn_X1 rfl (Nat.le_of_ble_eq_true rfl) (fun E hE hnm F hR => ?_)
  have F : lx_F K 4 E cX1_setContent RX1 none (rk 0) := F
  show lx_W K 4 E 0 0 0 [(0, .ref h), (1, .int (nI p)), (2, .long x)] [] [(h, .inr (1, [.ref ca, .ref co, .int t])), (ca, aI K 120 f), (co, aJ K 120 g)]
  refine lx_iload_n F dX1_setContent_0 1 rfl ?_
  refine lx_ifN_lt F 17 (by omega) dX1_setContent_1 rfl (fun h => absurd h (by omega)) (fun _ => ?_)
  refine lx_iload_n F dX1_setContent_4 1 rfl ?_
  refine lx_bipush F dX1_setContent_5 kb_120 ?_
  refine lx_icmpN_ge F 17 (by omega) (by omega) dX1_setContent_7 rfl (fun h => absurd h (by omega)) (fun _ => ?_)
  refine lx_aload_n F dX1_setContent_10 0 rfl ?_
  refine gf_X1_15 F 0 rfl rfl dX1_setContent_11 ?_
  refine lx_iload_n F dX1_setContent_14 1 rfl ?_
  refine lx_lload_n F dX1_setContent_15 2 rfl ?_
  refine lx_last F 2 p [(h, .inr (1, [.ref ca, .ref co, .int t])), (ca, aI K 120 f), (co, aJ K 120 (lm_up g p x))] dX1_setContent_16 rfl (by omega) (by decide) rfl ?_
  exact lx_vret F hR dX1_setContent_17 ⟨rfl, rfl⟩

set_option maxHeartbeats 4000000 in
set_option maxRecDepth 100000 in
theorem zh_take (l : Launch) (K : lm_G) (h ca co : Nat) (f : Nat → Int32) (g : Nat → Int64) (u : Nat) (hu : u < 120) (cd : Int32) (x : Int64) : lm_C l K mX1_take (rk 0) [.ref h, .int cd, .long x] [(h, .inr (1, [.ref ca, .ref co, .int (nI u)])), (ca, aI K 120 f), (co, aJ K 120 g)] (fun v9 w9 => v9 = some (.int (nI u)) ∧ w9 = [(h, .inr (1, [.ref ca, .ref co, .int (nI (u + 1))])), (ca, aI K 120 (lm_up f u cd)), (co, aJ K 120 (lm_up g u x))]) := by
  refine lx_met RX1 pn_X1 rfl (Nat.le_of_ble_eq_true rfl) (fun E hE hnm F hR => ?_)
  have F : lx_F K 5 E cX1_take RX1 (some .int) (rk 0) := F
  show lx_W K 5 E 0 0 0 [(0, .ref h), (1, .int cd), (2, .long x)] [] [(h, .inr (1, [.ref ca, .ref co, .int (nI u)])), (ca, aI K 120 f), (co, aJ K 120 g)]
  refine lx_aload_n F dX1_take_0 0 rfl ?_
  refine gf_X1_19 F 0 rfl rfl dX1_take_1 ?_
  refine lx_istore F [(0, .ref h), (1, .int cd), (2, .long x), (4, .int (nI u))] [1, 2, 3, 0] dX1_take_4 rfl (by decide) ?_
  refine lx_iload F dX1_take_6 3 rfl ?_
  refine lx_ifN_lt F 42 (by omega) dX1_take_8 rfl (fun h => absurd h (by omega)) (fun _ => ?_)
  refine lx_iload F dX1_take_11 3 rfl ?_
  refine lx_bipush F dX1_take_13 kb_120 ?_
  refine lx_icmpN_ge F 42 (by omega) (by omega) dX1_take_15 rfl (fun h => absurd h (by omega)) (fun _ => ?_)
  refine lx_aload_n F dX1_take_18 0 rfl ?_
  refine gf_X1_9 F 0 rfl rfl dX1_take_19 ?_
  refine lx_iload F dX1_take_22 3 rfl ?_
  refine lx_iload_n F dX1_take_24 1 rfl ?_
  refine lx_iast F 1 u [(h, .inr (1, [.ref ca, .ref co, .int (nI u)])), (ca, aI K 120 (lm_up f u cd)), (co, aJ K 120 g)] dX1_take_25 rfl (by omega) (by decide) rfl ?_
  refine lx_aload_n F dX1_take_26 0 rfl ?_
  refine gf_X1_15 F 0 rfl rfl dX1_take_27 ?_
  refine lx_iload F dX1_take_30 3 rfl ?_
  refine lx_lload_n F dX1_take_32 2 rfl ?_
  refine lx_last F 2 u [(h, .inr (1, [.ref ca, .ref co, .int (nI u)])), (ca, aI K 120 (lm_up f u cd)), (co, aJ K 120 (lm_up g u x))] dX1_take_33 rfl (by omega) (by decide) rfl ?_
  refine lx_aload_n F dX1_take_34 0 rfl ?_
  refine lx_iload F dX1_take_35 3 rfl ?_
  refine lx_iconst F dX1_take_37 kc_1 ?_
  refine lx_iadd F dX1_take_38 (nI_add _ _) ?_
  refine pf_X1_19 F 0 [(h, .inr (1, [.ref ca, .ref co, .int (nI (u + 1))])), (ca, aI K 120 (lm_up f u cd)), (co, aJ K 120 (lm_up g u x))] rfl rfl dX1_take_39 rfl ?_
  refine lx_iload F dX1_take_42 3 rfl ?_
  exact lx_iret F hR dX1_take_44 ⟨rfl, rfl⟩

set_option maxHeartbeats 4000000 in
set_option maxRecDepth 100000 in
theorem zh_takeTwo (l : Launch) (K : lm_G) (h ca co : Nat) (f : Nat → Int32) (g : Nat → Int64) (u : Nat) (hu : u + 2 ≤ 120) (x y : Int64) : lm_C l K mX1_takeTwo (rk 1) [.ref h, .long x, .long y] [(h, .inr (1, [.ref ca, .ref co, .int (nI u)])), (ca, aI K 120 f), (co, aJ K 120 g)] (fun v9 w9 => v9 = some (.int (nI u)) ∧ w9 = [(h, .inr (1, [.ref ca, .ref co, .int (nI (u + 1 + 1))])), (ca, aI K 120 (lm_up (lm_up f u (nI 2)) (u + 1) (nI 3))), (co, aJ K 120 (lm_up (lm_up g u x) (u + 1) y))]) := by
  refine lx_met RX1 pn_X1 rfl (Nat.le_of_ble_eq_true rfl) (fun E hE hnm F hR => ?_)
  have F : lx_F K 6 E cX1_takeTwo RX1 (some .int) (rk 1) := F
  show lx_W K 6 E 0 0 0 [(0, .ref h), (1, .long x), (3, .long y)] [] [(h, .inr (1, [.ref ca, .ref co, .int (nI u)])), (ca, aI K 120 f), (co, aJ K 120 g)]
  refine lx_aload_n F dX1_takeTwo_0 0 rfl ?_
  refine lx_iconst F dX1_takeTwo_1 kc_2 ?_
  refine lx_lload_n F dX1_takeTwo_2 1 rfl ?_
  refine lx_cv F (zh_take (xl E) K h ca co f g u (by omega) (nI 2) x) cv_X1_23 0 rfl rfl [0, 1, 2] [] [] rfl rfl (by decide) rfl (st := []) rfl (Nat.le_of_ble_eq_true rfl) (by decide) ⟨by decide, by decide⟩ dX1_takeTwo_3 (fun v9 w9 h9 => ?_)
  obtain ⟨rfl, rfl⟩ := h9
  refine lx_perm [0, 1, 2] [(h, .inr (1, [.ref ca, .ref co, .int (nI (u + 1))])), (ca, aI K 120 (lm_up f u (nI 2))), (co, aJ K 120 (lm_up g u x))] (by decide) rfl ?_
  refine lx_st (a' := 0) (b' := 0) [.int (nI u)] rfl rfl rfl ?_
  refine lx_istore F [(0, .ref h), (1, .long x), (3, .long y), (5, .int (nI u))] [1, 2, 3, 0] dX1_takeTwo_6 rfl (by decide) ?_
  refine lx_aload_n F dX1_takeTwo_8 0 rfl ?_
  refine lx_iconst F dX1_takeTwo_9 kc_3 ?_
  refine lx_lload_n F dX1_takeTwo_10 2 rfl ?_
  refine lx_cv F (zh_take (xl E) K h ca co (lm_up f u (nI 2)) (lm_up g u x) (u + 1) (by omega) (nI 3) y) cv_X1_23 0 rfl rfl [0, 1, 2] [] [] rfl rfl (by decide) rfl (st := []) rfl (Nat.le_of_ble_eq_true rfl) (by decide) ⟨by decide, by decide⟩ dX1_takeTwo_11 (fun v9 w9 h9 => ?_)
  obtain ⟨rfl, rfl⟩ := h9
  refine lx_perm [0, 1, 2] [(h, .inr (1, [.ref ca, .ref co, .int (nI (u + 1 + 1))])), (ca, aI K 120 (lm_up (lm_up f u (nI 2)) (u + 1) (nI 3))), (co, aJ K 120 (lm_up (lm_up g u x) (u + 1) y))] (by decide) rfl ?_
  refine lx_st (a' := 0) (b' := 0) [.int (nI (u + 1))] rfl rfl rfl ?_
  refine lx_pop F dX1_takeTwo_14 rfl ?_
  refine lx_iload F dX1_takeTwo_15 3 rfl ?_
  exact lx_iret F hR dX1_takeTwo_17 ⟨rfl, rfl⟩

set_option maxHeartbeats 4000000 in
set_option maxRecDepth 100000 in
theorem zh_cellOf (l : Launch) (K : lm_G) (h ca co : Nat) (f : Nat → Int32) (g : Nat → Int64) (t : Int32) (c : Nat → Nat) (w : Nat → lm_V) (u : Nat) (hw : lm_wf c w u) (hh : lm_hf f g c w u) (v : lm_V) (hv : lm_ok c u v) (hk : v.1 = 2) : lm_C l K mX1_cellOf (rk 1) [.ref h, .long (en v)] [(h, .inr (1, [.ref ca, .ref co, .int t])), (ca, aI K 120 f), (co, aJ K 120 g)] (fun v9 w9 => v9 = some (.int (nI (lm_to w v))) ∧ w9 = [(h, .inr (1, [.ref ca, .ref co, .int t])), (ca, aI K 120 f), (co, aJ K 120 g)]) := by
  refine lx_met RX1 pn_X1 rfl (Nat.le_of_ble_eq_true rfl) (fun E hE hnm F hR => ?_)
  have F : lx_F K 6 E cX1_cellOf RX1 (some .int) (rk 1) := F
  show lx_W K 6 E 0 0 0 [(0, .ref h), (1, .long (en v))] [] [(h, .inr (1, [.ref ca, .ref co, .int t])), (ca, aI K 120 f), (co, aJ K 120 g)]
  obtain ⟨q, hq, hqu, hk4, hiv, hiq, hm, hn⟩ := lm_cellOf_facts hw hv hk
  have hu := hw.1
  refine lx_lload_n F dX1_cellOf_0 1 rfl ?_
  refine lx_csn F (zs_placeOf (xl E) K v q hiv hq (by omega)) cs_X1_27 [] [0, 1, 2] [(h, .inr (1, [.ref ca, .ref co, .int t])), (ca, aI K 120 f), (co, aJ K 120 g)] rfl rfl (by decide) rfl (st := []) rfl (Nat.le_of_ble_eq_true rfl) (by decide) ⟨by decide, by decide⟩ dX1_cellOf_1 (fun v9 w9 h9 => ?_)
  obtain ⟨rfl, rfl⟩ := h9
  refine lx_perm [0, 1, 2] [(h, .inr (1, [.ref ca, .ref co, .int t])), (ca, aI K 120 f), (co, aJ K 120 g)] (by decide) rfl ?_
  refine lx_st (a' := 0) (b' := 0) [.int (nI q)] rfl rfl rfl ?_
  refine lx_istore_n F [(0, .ref h), (1, .long (en v)), (3, .int (nI q))] [1, 2, 0] dX1_cellOf_4 rfl (by decide) ?_
  refine lx_aload_n F dX1_cellOf_5 0 rfl ?_
  refine lx_iload_n F dX1_cellOf_6 2 rfl ?_
  refine lx_cv F (zh_contentAt (xl E) K h ca co f g t q (by omega) (en (w q)) (hh q hqu).2) cv_X1_31 0 rfl rfl [0, 1, 2] [] [] rfl rfl (by decide) rfl (st := []) rfl (Nat.le_of_ble_eq_true rfl) (by decide) ⟨by decide, by decide⟩ dX1_cellOf_7 (fun v9 w9 h9 => ?_)
  obtain ⟨rfl, rfl⟩ := h9
  refine lx_perm [0, 1, 2] [(h, .inr (1, [.ref ca, .ref co, .int t])), (ca, aI K 120 f), (co, aJ K 120 g)] (by decide) rfl ?_
  refine lx_st (a' := 0) (b' := 0) [.long (en (w q))] rfl rfl rfl ?_
  refine lx_lstore F [(0, .ref h), (1, .long (en v)), (3, .int (nI q)), (4, .long (en (w q)))] [1, 2, 3, 0] dX1_cellOf_10 rfl (by decide) ?_
  refine lx_lload F dX1_cellOf_12 3 rfl ?_
  refine lx_csn F (zs_kindOf (xl E) K (w q) hk4) cs_X1_35 [] [0, 1, 2] [(h, .inr (1, [.ref ca, .ref co, .int t])), (ca, aI K 120 f), (co, aJ K 120 g)] rfl rfl (by decide) rfl (st := []) rfl (Nat.le_of_ble_eq_true rfl) (by decide) ⟨by decide, by decide⟩ dX1_cellOf_14 (fun v9 w9 h9 => ?_)
  obtain ⟨rfl, rfl⟩ := h9
  refine lx_perm [0, 1, 2] [(h, .inr (1, [.ref ca, .ref co, .int t])), (ca, aI K 120 f), (co, aJ K 120 g)] (by decide) rfl ?_
  refine lx_st (a' := 0) (b' := 0) [.int (nI ((w q).1))] rfl rfl rfl ?_
  refine lx_iconst F dX1_cellOf_17 kc_3 ?_
  refine lx_icmpN_ne F 29 (by omega) (by omega) dX1_cellOf_18 rfl (fun h3 => ?_) (fun h3 => ?_)
  · skip
    refine lx_iload_n F dX1_cellOf_29 2 rfl ?_
    exact lx_iret F hR dX1_cellOf_30 ⟨by rw [hn h3], rfl⟩
  · skip
    obtain ⟨r, hr, hr2, hr3⟩ := hm h3
    refine lx_lload F dX1_cellOf_21 3 rfl ?_
    refine lx_csn F (zs_placeOf (xl E) K (w q) r hiq hr hr2) cs_X1_27 [] [0, 1, 2] [(h, .inr (1, [.ref ca, .ref co, .int t])), (ca, aI K 120 f), (co, aJ K 120 g)] rfl rfl (by decide) rfl (st := []) rfl (Nat.le_of_ble_eq_true rfl) (by decide) ⟨by decide, by decide⟩ dX1_cellOf_23 (fun v9 w9 h9 => ?_)
    obtain ⟨rfl, rfl⟩ := h9
    refine lx_perm [0, 1, 2] [(h, .inr (1, [.ref ca, .ref co, .int t])), (ca, aI K 120 f), (co, aJ K 120 g)] (by decide) rfl ?_
    refine lx_st (a' := 0) (b' := 0) [.int (nI r)] rfl rfl rfl ?_
    refine lx_goto F 30 dX1_cellOf_26 rfl ?_
    exact lx_iret F hR dX1_cellOf_30 ⟨by rw [hr3], rfl⟩

set_option maxHeartbeats 4000000 in
set_option maxRecDepth 100000 in
theorem zh_restOf (l : Launch) (K : lm_G) (h ca co : Nat) (f : Nat → Int32) (g : Nat → Int64) (t : Int32) (c : Nat → Nat) (w : Nat → lm_V) (u : Nat) (hw : lm_wf c w u) (hh : lm_hf f g c w u) (p : Nat) (hp : lm_cl c w u p) : lm_C l K mX1_restOf (rk 1) [.ref h, .int (nI p)] [(h, .inr (1, [.ref ca, .ref co, .int t])), (ca, aI K 120 f), (co, aJ K 120 g)] (fun v9 w9 => v9 = some (.long (en (lm_rest c w p))) ∧ w9 = [(h, .inr (1, [.ref ca, .ref co, .int t])), (ca, aI K 120 f), (co, aJ K 120 g)]) := by
  refine lx_met RX1 pn_X1 rfl (Nat.le_of_ble_eq_true rfl) (fun E hE hnm F hR => ?_)
  have F : lx_F K 2 E cX1_restOf RX1 (some .long) (rk 1) := F
  show lx_W K 2 E 0 0 0 [(0, .ref h), (1, .int (nI p))] [] [(h, .inr (1, [.ref ca, .ref co, .int t])), (ca, aI K 120 f), (co, aJ K 120 g)]
  have hu := hw.1
  have hc3 := hw.2.1 p hp.1
  refine lx_aload_n F dX1_restOf_0 0 rfl ?_
  refine lx_iload_n F dX1_restOf_1 1 rfl ?_
  refine lx_cv F (zh_codeAt (xl E) K h ca co f g t p (by have := hp.1; omega) (nI (c p)) (hh p hp.1).1) cv_X1_38 0 rfl rfl [0, 1, 2] [] [] rfl rfl (by decide) rfl (st := []) rfl (Nat.le_of_ble_eq_true rfl) (by decide) ⟨by decide, by decide⟩ dX1_restOf_2 (fun v9 w9 h9 => ?_)
  obtain ⟨rfl, rfl⟩ := h9
  refine lx_perm [0, 1, 2] [(h, .inr (1, [.ref ca, .ref co, .int t])), (ca, aI K 120 f), (co, aJ K 120 g)] (by decide) rfl ?_
  refine lx_st (a' := 0) (b' := 0) [.int (nI (c p))] rfl rfl rfl ?_
  rcases (show c p = 0 ∨ c p = 2 ∨ (c p ≠ 0 ∧ c p ≠ 2) by omega) with h0 | h0 | h0
  · skip
    refine lx_lookup F 32 dX1_restOf_5 (by decide) (by rw [h0]) rfl ?_
    refine lx_iconst F dX1_restOf_32 kc_2 ?_
    refine lx_iload_n F dX1_restOf_33 1 rfl ?_
    refine lx_iconst F dX1_restOf_34 kc_1 ?_
    refine lx_iadd F dX1_restOf_35 (nI_add _ _) ?_
    refine lx_i2l F dX1_restOf_36 (jI_i2l (by have := hp.1; omega)) ?_
    refine lx_csn F (zs_content (xl E) K 2 ((p + 1 : Nat) : Int) (by decide)) cs_X1_42 [] [0, 1, 2] [(h, .inr (1, [.ref ca, .ref co, .int t])), (ca, aI K 120 f), (co, aJ K 120 g)] rfl rfl (by decide) rfl (st := []) rfl (Nat.le_of_ble_eq_true rfl) (by decide) ⟨by decide, by decide⟩ dX1_restOf_37 (fun v9 w9 h9 => ?_)
    obtain ⟨rfl, rfl⟩ := h9
    refine lx_perm [0, 1, 2] [(h, .inr (1, [.ref ca, .ref co, .int t])), (ca, aI K 120 f), (co, aJ K 120 g)] (by decide) rfl ?_
    refine lx_st (a' := 0) (b' := 0) [.long (en (2, ((p + 1 : Nat) : Int)))] rfl rfl rfl ?_
    exact lx_lret F hR dX1_restOf_40 ⟨by rw [show lm_rest c w p = (2, ((p + 1 : Nat) : Int)) from if_pos h0], rfl⟩
  · skip
    refine lx_lookup F 41 dX1_restOf_5 (by decide) (by rw [h0]) rfl ?_
    have hp2 := hw.2.2.2.1 p hp.1 h0
    refine lx_aload_n F dX1_restOf_41 0 rfl ?_
    refine lx_iload_n F dX1_restOf_42 1 rfl ?_
    refine lx_iconst F dX1_restOf_43 kc_1 ?_
    refine lx_iadd F dX1_restOf_44 (nI_add _ _) ?_
    refine lx_cv F (zh_contentAt (xl E) K h ca co f g t (p + 1) (by omega) (en (w (p + 1))) (hh (p + 1) hp2.1).2) cv_X1_31 0 rfl rfl [0, 1, 2] [] [] rfl rfl (by decide) rfl (st := []) rfl (Nat.le_of_ble_eq_true rfl) (by decide) ⟨by decide, by decide⟩ dX1_restOf_45 (fun v9 w9 h9 => ?_)
    obtain ⟨rfl, rfl⟩ := h9
    refine lx_perm [0, 1, 2] [(h, .inr (1, [.ref ca, .ref co, .int t])), (ca, aI K 120 f), (co, aJ K 120 g)] (by decide) rfl ?_
    refine lx_st (a' := 0) (b' := 0) [.long (en (w (p + 1)))] rfl rfl rfl ?_
    exact lx_lret F hR dX1_restOf_48 ⟨by rw [lm_rest_2 h0], rfl⟩
  · skip
    refine lx_lookup F 49 dX1_restOf_5 (by decide) ((lv_osw (k := nI 0) (fun z => h0.1 ((nI_eq (by omega) (by omega)).mp z)) (by decide)).trans (lv_osw (k := nI 2) (fun z => h0.2 ((nI_eq (by omega) (by omega)).mp z)) (by decide))) rfl ?_
    refine lx_lconst F dX1_restOf_49 kl_0 ?_
    exact lx_lret F hR dX1_restOf_50 ⟨by rw [lm_rest_0 h0.1 h0.2, en_0j], rfl⟩

set_option maxHeartbeats 4000000 in
set_option maxRecDepth 100000 in
theorem zh_countMoved (l : Launch) (K : lm_G) (h ca co : Nat) (f : Nat → Int32) (g : Nat → Int64) (c : Nat → Nat) (w : Nat → lm_V) (u : Nat) (hw : lm_wf c w u) (hh : lm_hf f g c w u) : lm_C l K mX1_countMoved (rk 1) [.ref h] [(h, .inr (1, [.ref ca, .ref co, .int (nI u)])), (ca, aI K 120 f), (co, aJ K 120 g)] (fun v9 w9 => v9 = some (.int (nI (lm_cnt w u))) ∧ w9 = [(h, .inr (1, [.ref ca, .ref co, .int (nI u)])), (ca, aI K 120 f), (co, aJ K 120 g)]) := by
  refine lx_met RX1 pn_X1 rfl (Nat.le_of_ble_eq_true rfl) (fun E hE hnm F hR => ?_)
  have F : lx_F K 3 E cX1_countMoved RX1 (some .int) (rk 1) := F
  show lx_W K 3 E 0 0 0 [(0, .ref h)] [] [(h, .inr (1, [.ref ca, .ref co, .int (nI u)])), (ca, aI K 120 f), (co, aJ K 120 g)]
  have hu := hw.1
  refine lx_iconst F dX1_countMoved_0 kc_0 ?_
  refine lx_istore_n F [(0, .ref h), (1, .int (nI 0))] [1, 0] dX1_countMoved_1 rfl (by decide) ?_
  refine lx_iconst F dX1_countMoved_2 kc_0 ?_
  refine lx_istore_n F [(0, .ref h), (1, .int (nI 0)), (2, .int (nI 0))] [1, 2, 0] dX1_countMoved_3 rfl (by decide) ?_
  have loop : ∀ (n9 : Nat) (i m : Nat), i + n9 = u → m = lm_cnt w i → lx_W K 3 E 0 0 4 [(0, .ref h), (1, .int (nI m)), (2, .int (nI i))] [] [(h, .inr (1, [.ref ca, .ref co, .int (nI u)])), (ca, aI K 120 f), (co, aJ K 120 g)] := by
    intro n9
    induction n9 with
    | zero =>
      intro i m hi hm
      have hle : m ≤ i := by rw [hm]; exact lm_cnt_le w i
      refine lx_iload_n F dX1_countMoved_4 2 rfl ?_
      refine lx_aload_n F dX1_countMoved_5 0 rfl ?_
      refine gf_X1_19 F 0 rfl rfl dX1_countMoved_6 ?_
      refine lx_icmpN_ge F 33 (by omega) (by omega) dX1_countMoved_9 rfl (fun _ => ?_) (fun h => absurd h (by omega))
      refine lx_iload_n F dX1_countMoved_33 1 rfl ?_
      exact lx_iret F hR dX1_countMoved_34 ⟨by rw [hm, show i = u by omega], rfl⟩
    | succ n9 ih =>
      intro i m hi hm
      have hle : m ≤ i := by rw [hm]; exact lm_cnt_le w i
      refine lx_iload_n F dX1_countMoved_4 2 rfl ?_
      refine lx_aload_n F dX1_countMoved_5 0 rfl ?_
      refine gf_X1_19 F 0 rfl rfl dX1_countMoved_6 ?_
      refine lx_icmpN_ge F 33 (by omega) (by omega) dX1_countMoved_9 rfl (fun h => absurd h (by omega)) (fun _ => ?_)
      refine lx_aload_n F dX1_countMoved_12 0 rfl ?_
      refine lx_iload_n F dX1_countMoved_13 2 rfl ?_
      refine lx_cv F (zh_contentAt (xl E) K h ca co f g (nI u) i (by omega) (en (w i)) (hh i (by omega)).2) cv_X1_31 0 rfl rfl [0, 1, 2] [] [] rfl rfl (by decide) rfl (st := []) rfl (Nat.le_of_ble_eq_true rfl) (by decide) ⟨by decide, by decide⟩ dX1_countMoved_14 (fun v9 w9 h9 => ?_)
      obtain ⟨rfl, rfl⟩ := h9
      refine lx_perm [0, 1, 2] [(h, .inr (1, [.ref ca, .ref co, .int (nI u)])), (ca, aI K 120 f), (co, aJ K 120 g)] (by decide) rfl ?_
      refine lx_st (a' := 0) (b' := 0) [.long (en (w i))] rfl rfl rfl ?_
      have hk4 := lm_k4 hw (show i < u by omega)
      refine lx_csn F (zs_kindOf (xl E) K (w i) hk4) cs_X1_35 [] [0, 1, 2] [(h, .inr (1, [.ref ca, .ref co, .int (nI u)])), (ca, aI K 120 f), (co, aJ K 120 g)] rfl rfl (by decide) rfl (st := []) rfl (Nat.le_of_ble_eq_true rfl) (by decide) ⟨by decide, by decide⟩ dX1_countMoved_17 (fun v9 w9 h9 => ?_)
      obtain ⟨rfl, rfl⟩ := h9
      refine lx_perm [0, 1, 2] [(h, .inr (1, [.ref ca, .ref co, .int (nI u)])), (ca, aI K 120 f), (co, aJ K 120 g)] (by decide) rfl ?_
      refine lx_st (a' := 0) (b' := 0) [.int (nI ((w i).1))] rfl rfl rfl ?_
      refine lx_iconst F dX1_countMoved_20 kc_3 ?_
      refine lx_icmpN_ne F 27 (by omega) (by omega) dX1_countMoved_21 rfl (fun h3 => ?_) (fun h3 => ?_)
      · skip
        refine lx_iinc F [(0, .ref h), (1, .int (nI m)), (2, .int (nI (i + 1)))] 2 [1, 2, 0] dX1_countMoved_27 rfl (k_inc _) rfl (by decide) ?_
        refine lx_goto F 4 dX1_countMoved_30 rfl ?_
        exact ih (i + 1) m (by omega) (by rw [hm]; simp [lm_cnt, h3])
      · skip
        refine lx_iinc F [(0, .ref h), (1, .int (nI (m + 1))), (2, .int (nI i))] 1 [1, 0, 2] dX1_countMoved_24 rfl (k_inc _) rfl (by decide) ?_
        refine lx_iinc F [(0, .ref h), (1, .int (nI (m + 1))), (2, .int (nI (i + 1)))] 2 [1, 2, 0] dX1_countMoved_27 rfl (k_inc _) rfl (by decide) ?_
        refine lx_goto F 4 dX1_countMoved_30 rfl ?_
        exact ih (i + 1) (m + 1) (by omega) (by rw [hm]; simp [lm_cnt, h3])
  exact loop u 0 0 (by omega) rfl
