set_option maxHeartbeats 4000000 in
set_option maxRecDepth 100000 in
theorem zj_fill (l : Launch) (K : lm_G) (q : Nat) (f : Nat → Int32) (x : Int32) : lm_C l K mJ_fill (rk 0) [.ref q, .int x] [(q, aI K 120 f)] (fun v9 w9 => v9 = none ∧ ∃ f1 : Nat → Int32, (∀ j, j < 120 → f1 j = x) ∧ w9 = [(q, aI K 120 f1)]) := by
  refine lx_met RJ pn_J rfl (Nat.le_of_ble_eq_true rfl) (fun E hE hnm F hR => ?_)
  have F : lx_F K 4 E cJ_fill RJ none (rk 0) := F
  show lx_W K 4 E 0 0 0 [(0, .ref q), (1, .int x)] [] [(q, aI K 120 f)]
  refine lx_iconst F dJ_fill_0 kc_0 ?_
  refine lx_istore_n F [(0, .ref q), (1, .int x), (2, .int (nI 0))] [1, 2, 0] dJ_fill_1 rfl (by decide) ?_
  refine lx_aload_n F dJ_fill_2 0 rfl ?_
  refine lx_alenI F 0 dJ_fill_3 rfl ?_
  refine lx_istore_n F [(0, .ref q), (1, .int x), (2, .int (nI 0)), (3, .int (nI 120))] [1, 2, 3, 0] dJ_fill_4 rfl (by decide) ?_
  have loop : ∀ (n9 : Nat) (i : Nat) (f1 : Nat → Int32), i + n9 = 120 → (∀ j, j < i → f1 j = x) → lx_W K 4 E 0 0 5 [(0, .ref q), (1, .int x), (2, .int (nI i)), (3, .int (nI 120))] [] [(q, aI K 120 f1)] := by
    intro n9
    induction n9 with
    | zero =>
      intro i f1 hi hf
      refine lx_iload_n F dJ_fill_5 2 rfl ?_
      refine lx_iload_n F dJ_fill_6 3 rfl ?_
      refine lx_icmpN_ge F 20 (by omega) (by omega) dJ_fill_7 rfl (fun _ => ?_) (fun h => absurd h (by omega))
      exact lx_vret F hR dJ_fill_20 ⟨rfl, f1, fun j hj => hf j (by omega), rfl⟩
    | succ n9 ih =>
      intro i f1 hi hf
      refine lx_iload_n F dJ_fill_5 2 rfl ?_
      refine lx_iload_n F dJ_fill_6 3 rfl ?_
      refine lx_icmpN_ge F 20 (by omega) (by omega) dJ_fill_7 rfl (fun h => absurd h (by omega)) (fun _ => ?_)
      refine lx_aload_n F dJ_fill_10 0 rfl ?_
      refine lx_iload_n F dJ_fill_11 2 rfl ?_
      refine lx_iload_n F dJ_fill_12 1 rfl ?_
      refine lx_iast F 0 i [(q, aI K 120 (lm_up f1 i x))] dJ_fill_13 rfl (by omega) (by decide) rfl ?_
      refine lx_iinc F [(0, .ref q), (1, .int x), (2, .int (nI (i + 1))), (3, .int (nI 120))] 2 [1, 2, 0, 3] dJ_fill_14 rfl (k_inc _) rfl (by decide) ?_
      refine lx_goto F 5 dJ_fill_17 rfl ?_
      exact ih (i + 1) _ (by omega) (lm_up_fill hf)
  exact loop 120 0 f (by omega) (fun j hj => absurd hj (by omega))

set_option maxHeartbeats 4000000 in
set_option maxRecDepth 100000 in
theorem zk_init (l : Launch) (K : lm_G) (k : Nat) : lm_C l K mX0_init ({ frames := 1, cells := 4, slots := 480, locals := 36 }) [.ref k] [(k, .inr (0, [.null, .null, .null, .null, .int (nI 0)]))] (fun v9 w9 => v9 = none ∧ ∃ l0 il ir np : Nat, w9 = [(k, .inr (0, [.ref l0, .ref il, .ref ir, .ref np, .int (nI 0)])), (l0, aI K 120 (fun _ => 0)), (il, aI K 120 (fun _ => 0)), (ir, aI K 120 (fun _ => 0)), (np, aI K 120 (fun _ => 0))]) := by
  refine lx_met RX0 pn_X0 rfl (Nat.le_of_ble_eq_true rfl) (fun E hE hnm F hR => ?_)
  have F : lx_F K 1 E cX0_init RX0 none ({ frames := 1, cells := 4, slots := 480, locals := 36 }) := F
  show lx_W K 1 E 0 0 0 [(0, .ref k)] [] [(k, .inr (0, [.null, .null, .null, .null, .int (nI 0)]))]
  refine lx_aload_n F dX0_init_0 0 rfl ?_
  refine lx_obj F to_X0_3 to_i to_c (by decide) (by decide) dX0_init_1 ?_
  refine lx_aload_n F dX0_init_4 0 rfl ?_
  refine lx_bipush F dX0_init_5 kb_120 ?_
  refine lx_newI F 120 dX0_init_7 ta_I (by decide) (by decide) (by decide) (fun q7 => ?_)
  refine lx_perm [0, 1] [(k, .inr (0, [.null, .null, .null, .null, .int (nI 0)])), (q7, aI K 120 (fun _ => 0))] (by decide) rfl ?_
  refine lx_wide (a' := 1) (b' := 120) (by decide) (by decide) ?_
  refine pf_X0_9 F hnm 0 [(k, .inr (0, [.ref q7, .null, .null, .null, .int (nI 0)])), (q7, aI K 120 (fun _ => 0))] rfl rfl dX0_init_9 rfl ?_
  refine lx_aload_n F dX0_init_12 0 rfl ?_
  refine lx_bipush F dX0_init_13 kb_120 ?_
  refine lx_newI F 120 dX0_init_15 ta_I (by decide) (by decide) (by decide) (fun q15 => ?_)
  refine lx_perm [0, 1, 2] [(k, .inr (0, [.ref q7, .null, .null, .null, .int (nI 0)])), (q7, aI K 120 (fun _ => 0)), (q15, aI K 120 (fun _ => 0))] (by decide) rfl ?_
  refine lx_wide (a' := 2) (b' := 240) (by decide) (by decide) ?_
  refine pf_X0_15 F hnm 0 [(k, .inr (0, [.ref q7, .ref q15, .null, .null, .int (nI 0)])), (q7, aI K 120 (fun _ => 0)), (q15, aI K 120 (fun _ => 0))] rfl rfl dX0_init_17 rfl ?_
  refine lx_aload_n F dX0_init_20 0 rfl ?_
  refine lx_bipush F dX0_init_21 kb_120 ?_
  refine lx_newI F 120 dX0_init_23 ta_I (by decide) (by decide) (by decide) (fun q23 => ?_)
  refine lx_perm [0, 1, 2, 3] [(k, .inr (0, [.ref q7, .ref q15, .null, .null, .int (nI 0)])), (q7, aI K 120 (fun _ => 0)), (q15, aI K 120 (fun _ => 0)), (q23, aI K 120 (fun _ => 0))] (by decide) rfl ?_
  refine lx_wide (a' := 3) (b' := 360) (by decide) (by decide) ?_
  refine pf_X0_18 F hnm 0 [(k, .inr (0, [.ref q7, .ref q15, .ref q23, .null, .int (nI 0)])), (q7, aI K 120 (fun _ => 0)), (q15, aI K 120 (fun _ => 0)), (q23, aI K 120 (fun _ => 0))] rfl rfl dX0_init_25 rfl ?_
  refine lx_aload_n F dX0_init_28 0 rfl ?_
  refine lx_bipush F dX0_init_29 kb_120 ?_
  refine lx_newI F 120 dX0_init_31 ta_I (by decide) (by decide) (by decide) (fun q31 => ?_)
  refine lx_perm [0, 1, 2, 3, 4] [(k, .inr (0, [.ref q7, .ref q15, .ref q23, .null, .int (nI 0)])), (q7, aI K 120 (fun _ => 0)), (q15, aI K 120 (fun _ => 0)), (q23, aI K 120 (fun _ => 0)), (q31, aI K 120 (fun _ => 0))] (by decide) rfl ?_
  refine lx_wide (a' := 4) (b' := 480) (by decide) (by decide) ?_
  refine pf_X0_21 F hnm 0 [(k, .inr (0, [.ref q7, .ref q15, .ref q23, .ref q31, .int (nI 0)])), (q7, aI K 120 (fun _ => 0)), (q15, aI K 120 (fun _ => 0)), (q23, aI K 120 (fun _ => 0)), (q31, aI K 120 (fun _ => 0))] rfl rfl dX0_init_33 rfl ?_
  refine lx_aload_n F dX0_init_36 0 rfl ?_
  refine lx_iconst F dX0_init_37 kc_0 ?_
  refine pf_X0_24 F 0 [(k, .inr (0, [.ref q7, .ref q15, .ref q23, .ref q31, .int (nI 0)])), (q7, aI K 120 (fun _ => 0)), (q15, aI K 120 (fun _ => 0)), (q23, aI K 120 (fun _ => 0)), (q31, aI K 120 (fun _ => 0))] rfl rfl dX0_init_38 rfl ?_
  exact lx_vret F hR dX0_init_41 ⟨rfl, _, _, _, _, rfl⟩

set_option maxHeartbeats 4000000 in
set_option maxRecDepth 100000 in
theorem zk_listPair (l : Launch) (K : lm_G) (k l0 il ir np : Nat) (fl fi : Nat → Int32) (h ca co : Nat) (f : Nat → Int32) (g : Nat → Int64) (t : Int32) (c : Nat → Nat) (w : Nat → lm_V) (u : Nat) (hw : lm_wf c w u) (hh : lm_hf f g c w u) (L : List Nat) (hL : lm_gd c w u L) (hls : lm_ls fl fi L) (v : lm_V) (hv : lm_ok c u v) : lm_C l K mX0_listPair (rk 2) [.ref k, .ref h, .long (en v)] [(k, .inr (0, [.ref l0, .ref il, .ref ir, .ref np, .int (nI L.length)])), (l0, aI K 120 fl), (il, aI K 120 fi), (h, .inr (1, [.ref ca, .ref co, .int t])), (ca, aI K 120 f), (co, aJ K 120 g)] (fun v9 w9 => v9 = none ∧ ∃ fl1 fi1 : Nat → Int32, lm_ls fl1 fi1 (lm_enl w L v) ∧ w9 = [(k, .inr (0, [.ref l0, .ref il, .ref ir, .ref np, .int (nI ((lm_enl w L v).length))])), (l0, aI K 120 fl1), (il, aI K 120 fi1), (h, .inr (1, [.ref ca, .ref co, .int t])), (ca, aI K 120 f), (co, aJ K 120 g)]) := by
  refine lx_met RX0 pn_X0 rfl (Nat.le_of_ble_eq_true rfl) (fun E hE hnm F hR => ?_)
  have F : lx_F K 5 E cX0_listPair RX0 none (rk 2) := F
  show lx_W K 5 E 0 0 0 [(0, .ref k), (1, .ref h), (2, .long (en v))] [] [(k, .inr (0, [.ref l0, .ref il, .ref ir, .ref np, .int (nI L.length)])), (l0, aI K 120 fl), (il, aI K 120 fi), (h, .inr (1, [.ref ca, .ref co, .int t])), (ca, aI K 120 f), (co, aJ K 120 g)]
  have hu := hw.1
  have hv3 := lm_ok_kind hv
  refine lx_lload_n F dX0_listPair_0 2 rfl ?_
  refine lx_csn F (zs_kindOf (xl E) K v (by omega)) cs_X0_47 [] [0, 1, 2, 3, 4, 5] [(k, .inr (0, [.ref l0, .ref il, .ref ir, .ref np, .int (nI L.length)])), (l0, aI K 120 fl), (il, aI K 120 fi), (h, .inr (1, [.ref ca, .ref co, .int t])), (ca, aI K 120 f), (co, aJ K 120 g)] rfl rfl (by decide) rfl (st := []) rfl (Nat.le_of_ble_eq_true rfl) (by decide) ⟨by decide, by decide⟩ dX0_listPair_1 (fun v9 w9 h9 => ?_)
  obtain ⟨rfl, rfl⟩ := h9
  refine lx_perm [0, 1, 2, 3, 4, 5] [(k, .inr (0, [.ref l0, .ref il, .ref ir, .ref np, .int (nI L.length)])), (l0, aI K 120 fl), (il, aI K 120 fi), (h, .inr (1, [.ref ca, .ref co, .int t])), (ca, aI K 120 f), (co, aJ K 120 g)] (by decide) rfl ?_
  refine lx_st (a' := 0) (b' := 0) [.int (nI v.1)] rfl rfl rfl ?_
  refine lx_iconst F dX0_listPair_4 kc_2 ?_
  refine lx_icmpN_eq F 9 (by omega) (by omega) dX0_listPair_5 rfl (fun h2 => ?_) (fun h2 => ?_)
  · skip
    have hx : lm_to w v < 120 := Nat.lt_of_lt_of_le (lm_to_cl hw hv h2).1 hu
    refine lx_aload_n F dX0_listPair_9 1 rfl ?_
    refine lx_lload_n F dX0_listPair_10 2 rfl ?_
    refine lx_cv F (zh_cellOf (xl E) K h ca co f g t c w u hw hh v hv h2) cv_X0_51 3 rfl rfl [3, 4, 5] [0, 1, 2] [(k, .inr (0, [.ref l0, .ref il, .ref ir, .ref np, .int (nI L.length)])), (l0, aI K 120 fl), (il, aI K 120 fi)] rfl rfl (by decide) rfl (st := []) rfl (Nat.le_of_ble_eq_true rfl) (by decide) ⟨by decide, by decide⟩ dX0_listPair_11 (fun v9 w9 h9 => ?_)
    obtain ⟨rfl, rfl⟩ := h9
    refine lx_perm [0, 1, 2, 3, 4, 5] [(k, .inr (0, [.ref l0, .ref il, .ref ir, .ref np, .int (nI L.length)])), (l0, aI K 120 fl), (il, aI K 120 fi), (h, .inr (1, [.ref ca, .ref co, .int t])), (ca, aI K 120 f), (co, aJ K 120 g)] (by decide) rfl ?_
    refine lx_st (a' := 0) (b' := 0) [.int (nI (lm_to w v))] rfl rfl rfl ?_
    refine lx_istore F [(0, .ref k), (1, .ref h), (2, .long (en v)), (4, .int (nI (lm_to w v)))] [1, 2, 3, 0] dX0_listPair_14 rfl (by decide) ?_
    by_cases hm : lm_to w v ∈ L
    · skip
      refine lx_aload_n F dX0_listPair_16 0 rfl ?_
      refine gf_X0_15 F 0 rfl rfl dX0_listPair_17 ?_
      refine lx_iload F dX0_listPair_20 3 rfl ?_
      refine lx_iald F 2 (lm_to w v) dX0_listPair_22 rfl hx (by decide) ?_
      rw [show fi (lm_to w v) = nI 1 by rw [hls.2 _ hx, if_pos hm]]
      refine lx_ifN_ne F 64 (by omega) dX0_listPair_23 rfl (fun _ => ?_) (fun h => absurd h (by omega))
      exact lx_vret F hR dX0_listPair_64 ⟨rfl, fl, fi, by rw [lm_enl_old hm]; exact hls, by rw [lm_enl_old hm]⟩
    · skip
      have hlen := lm_enl_lt hw hL hv h2 hm
      refine lx_aload_n F dX0_listPair_16 0 rfl ?_
      refine gf_X0_15 F 0 rfl rfl dX0_listPair_17 ?_
      refine lx_iload F dX0_listPair_20 3 rfl ?_
      refine lx_iald F 2 (lm_to w v) dX0_listPair_22 rfl hx (by decide) ?_
      rw [show fi (lm_to w v) = nI 0 by rw [hls.2 _ hx, if_neg hm]]
      refine lx_ifN_ne F 64 (by omega) dX0_listPair_23 rfl (fun h => absurd h (by omega)) (fun _ => ?_)
      refine lx_aload_n F dX0_listPair_26 0 rfl ?_
      refine gf_X0_24 F 0 rfl rfl dX0_listPair_27 ?_
      refine lx_bipush F dX0_listPair_30 kb_120 ?_
      refine lx_icmpN_ge F 64 (by omega) (by omega) dX0_listPair_32 rfl (fun h => absurd h (by omega)) (fun _ => ?_)
      refine lx_aload_n F dX0_listPair_35 0 rfl ?_
      refine gf_X0_15 F 0 rfl rfl dX0_listPair_36 ?_
      refine lx_iload F dX0_listPair_39 3 rfl ?_
      refine lx_iconst F dX0_listPair_41 kc_1 ?_
      refine lx_iast F 2 (lm_to w v) [(k, .inr (0, [.ref l0, .ref il, .ref ir, .ref np, .int (nI L.length)])), (l0, aI K 120 fl), (il, aI K 120 (lm_up fi (lm_to w v) (nI 1))), (h, .inr (1, [.ref ca, .ref co, .int t])), (ca, aI K 120 f), (co, aJ K 120 g)] dX0_listPair_42 rfl hx (by decide) rfl ?_
      refine lx_aload_n F dX0_listPair_43 0 rfl ?_
      refine gf_X0_9 F 0 rfl rfl dX0_listPair_44 ?_
      refine lx_aload_n F dX0_listPair_47 0 rfl ?_
      refine gf_X0_24 F 0 rfl rfl dX0_listPair_48 ?_
      refine lx_iload F dX0_listPair_51 3 rfl ?_
      refine lx_iast F 1 L.length [(k, .inr (0, [.ref l0, .ref il, .ref ir, .ref np, .int (nI L.length)])), (l0, aI K 120 (lm_up fl L.length (nI (lm_to w v)))), (il, aI K 120 (lm_up fi (lm_to w v) (nI 1))), (h, .inr (1, [.ref ca, .ref co, .int t])), (ca, aI K 120 f), (co, aJ K 120 g)] dX0_listPair_53 rfl (by omega) (by decide) rfl ?_
      refine lx_aload_n F dX0_listPair_54 0 rfl ?_
      refine lx_dup F dX0_listPair_55 rfl ?_
      refine gf_X0_24 F 0 rfl rfl dX0_listPair_56 ?_
      refine lx_iconst F dX0_listPair_59 kc_1 ?_
      refine lx_iadd F dX0_listPair_60 (nI_add _ _) ?_
      refine pf_X0_24 F 0 [(k, .inr (0, [.ref l0, .ref il, .ref ir, .ref np, .int (nI (L.length + 1))])), (l0, aI K 120 (lm_up fl L.length (nI (lm_to w v)))), (il, aI K 120 (lm_up fi (lm_to w v) (nI 1))), (h, .inr (1, [.ref ca, .ref co, .int t])), (ca, aI K 120 f), (co, aJ K 120 g)] rfl rfl dX0_listPair_61 rfl ?_
      exact lx_vret F hR dX0_listPair_64 ⟨rfl, _, _, by rw [lm_enl_new h2 hm]; exact lm_ls_new hls hm hx, by rw [lm_enl_new h2 hm, List.length_append]; rfl⟩
  · skip
    exact lx_vret F hR dX0_listPair_8 ⟨rfl, fl, fi, by rw [lm_enl_no h2]; exact hls, by rw [lm_enl_no h2]⟩

set_option maxHeartbeats 4000000 in
set_option maxRecDepth 100000 in
theorem zk_listReached (l : Launch) (K : lm_G) (k l0 il ir np : Nat) (ro : Nat) (fl fi fr fn : Nat → Int32) (gr : Nat → Int64) (mn : Int32) (h ca co : Nat) (f : Nat → Int32) (g : Nat → Int64) (t : Int32) (c : Nat → Nat) (w : Nat → lm_V) (u : Nat) (hw : lm_wf c w u) (hh : lm_hf f g c w u) (rt : Nat → lm_V) (hr : ∀ r, r < 10 → lm_ok c u (rt r)) (hro : ∀ r, r < 10 → gr r = en (rt r)) : lm_C l K mX0_listReached (rk 3) [.ref k, .ref h, .ref ro] [(k, .inr (0, [.ref l0, .ref il, .ref ir, .ref np, .int mn])), (l0, aI K 120 fl), (il, aI K 120 fi), (ir, aI K 120 fr), (np, aI K 120 fn), (h, .inr (1, [.ref ca, .ref co, .int t])), (ca, aI K 120 f), (co, aJ K 120 g), (ro, aJ K 10 gr)] (fun v9 w9 => v9 = none ∧ ∃ fl1 fi1 fr1 fn1 : Nat → Int32, lm_ls fl1 fi1 (lm_list c w rt) ∧ (∀ p, p < 120 → fr1 p = nI (if lm_isRb c w (lm_list c w rt) p = true then 1 else 0)) ∧ (∀ p, p < 120 → fn1 p = -1) ∧ w9 = [(k, .inr (0, [.ref l0, .ref il, .ref ir, .ref np, .int (nI ((lm_list c w rt).length))])), (l0, aI K 120 fl1), (il, aI K 120 fi1), (ir, aI K 120 fr1), (np, aI K 120 fn1), (h, .inr (1, [.ref ca, .ref co, .int t])), (ca, aI K 120 f), (co, aJ K 120 g), (ro, aJ K 10 gr)]) := by
  refine lx_met RX0 pn_X0 rfl (Nat.le_of_ble_eq_true rfl) (fun E hE hnm F hR => ?_)
  have F : lx_F K 7 E cX0_listReached RX0 none (rk 3) := F
  show lx_W K 7 E 0 0 0 [(0, .ref k), (1, .ref h), (2, .ref ro)] [] [(k, .inr (0, [.ref l0, .ref il, .ref ir, .ref np, .int mn])), (l0, aI K 120 fl), (il, aI K 120 fi), (ir, aI K 120 fr), (np, aI K 120 fn), (h, .inr (1, [.ref ca, .ref co, .int t])), (ca, aI K 120 f), (co, aJ K 120 g), (ro, aJ K 10 gr)]
  have hu := hw.1
  refine lx_aload_n F dX0_listReached_0 0 rfl ?_
  refine lx_iconst F dX0_listReached_1 kc_0 ?_
  refine pf_X0_24 F 0 [(k, .inr (0, [.ref l0, .ref il, .ref ir, .ref np, .int (nI 0)])), (l0, aI K 120 fl), (il, aI K 120 fi), (ir, aI K 120 fr), (np, aI K 120 fn), (h, .inr (1, [.ref ca, .ref co, .int t])), (ca, aI K 120 f), (co, aJ K 120 g), (ro, aJ K 10 gr)] rfl rfl dX0_listReached_2 rfl ?_
  refine lx_aload_n F dX0_listReached_5 0 rfl ?_
  refine gf_X0_15 F 0 rfl rfl dX0_listReached_6 ?_
  refine lx_iconst F dX0_listReached_9 kc_0 ?_
  refine lx_cs F (zj_fill (xl E) K il fi (nI 0)) cs_X0_28 [2] [0, 1, 3, 4, 5, 6, 7, 8] [(k, .inr (0, [.ref l0, .ref il, .ref ir, .ref np, .int (nI 0)])), (l0, aI K 120 fl), (ir, aI K 120 fr), (np, aI K 120 fn), (h, .inr (1, [.ref ca, .ref co, .int t])), (ca, aI K 120 f), (co, aJ K 120 g), (ro, aJ K 10 gr)] rfl rfl (by decide) rfl (st := []) rfl (Nat.le_of_ble_eq_true rfl) (by decide) ⟨by decide, by decide⟩ dX0_listReached_10 (fun v9 w9 h9 => ?_)
  obtain ⟨rfl, fi0, hfi0, rfl⟩ := h9
  refine lx_perm [0, 1, 8, 2, 3, 4, 5, 6, 7] [(k, .inr (0, [.ref l0, .ref il, .ref ir, .ref np, .int (nI 0)])), (l0, aI K 120 fl), (il, aI K 120 fi0), (ir, aI K 120 fr), (np, aI K 120 fn), (h, .inr (1, [.ref ca, .ref co, .int t])), (ca, aI K 120 f), (co, aJ K 120 g), (ro, aJ K 10 gr)] (by decide) rfl ?_
  refine lx_st (a' := 0) (b' := 0) [] rfl rfl rfl ?_
  refine lx_aload_n F dX0_listReached_13 0 rfl ?_
  refine gf_X0_18 F 0 rfl rfl dX0_listReached_14 ?_
  refine lx_iconst F dX0_listReached_17 kc_0 ?_
  refine lx_cs F (zj_fill (xl E) K ir fr (nI 0)) cs_X0_28 [3] [0, 1, 2, 4, 5, 6, 7, 8] [(k, .inr (0, [.ref l0, .ref il, .ref ir, .ref np, .int (nI 0)])), (l0, aI K 120 fl), (il, aI K 120 fi0), (np, aI K 120 fn), (h, .inr (1, [.ref ca, .ref co, .int t])), (ca, aI K 120 f), (co, aJ K 120 g), (ro, aJ K 10 gr)] rfl rfl (by decide) rfl (st := []) rfl (Nat.le_of_ble_eq_true rfl) (by decide) ⟨by decide, by decide⟩ dX0_listReached_18 (fun v9 w9 h9 => ?_)
  obtain ⟨rfl, fr0, hfr0, rfl⟩ := h9
  refine lx_perm [0, 1, 2, 8, 3, 4, 5, 6, 7] [(k, .inr (0, [.ref l0, .ref il, .ref ir, .ref np, .int (nI 0)])), (l0, aI K 120 fl), (il, aI K 120 fi0), (ir, aI K 120 fr0), (np, aI K 120 fn), (h, .inr (1, [.ref ca, .ref co, .int t])), (ca, aI K 120 f), (co, aJ K 120 g), (ro, aJ K 10 gr)] (by decide) rfl ?_
  refine lx_st (a' := 0) (b' := 0) [] rfl rfl rfl ?_
  refine lx_aload_n F dX0_listReached_21 0 rfl ?_
  refine gf_X0_21 F 0 rfl rfl dX0_listReached_22 ?_
  refine lx_iconst F dX0_listReached_25 kc_m1 ?_
  refine lx_cs F (zj_fill (xl E) K np fn (-1)) cs_X0_28 [4] [0, 1, 2, 3, 5, 6, 7, 8] [(k, .inr (0, [.ref l0, .ref il, .ref ir, .ref np, .int (nI 0)])), (l0, aI K 120 fl), (il, aI K 120 fi0), (ir, aI K 120 fr0), (h, .inr (1, [.ref ca, .ref co, .int t])), (ca, aI K 120 f), (co, aJ K 120 g), (ro, aJ K 10 gr)] rfl rfl (by decide) rfl (st := []) rfl (Nat.le_of_ble_eq_true rfl) (by decide) ⟨by decide, by decide⟩ dX0_listReached_26 (fun v9 w9 h9 => ?_)
  obtain ⟨rfl, fn0, hfn0, rfl⟩ := h9
  refine lx_perm [0, 1, 2, 3, 8, 4, 5, 6, 7] [(k, .inr (0, [.ref l0, .ref il, .ref ir, .ref np, .int (nI 0)])), (l0, aI K 120 fl), (il, aI K 120 fi0), (ir, aI K 120 fr0), (np, aI K 120 fn0), (h, .inr (1, [.ref ca, .ref co, .int t])), (ca, aI K 120 f), (co, aJ K 120 g), (ro, aJ K 10 gr)] (by decide) rfl ?_
  refine lx_st (a' := 0) (b' := 0) [] rfl rfl rfl ?_
  have loop2 : ∀ (n9 : Nat) (i : Nat) (L : List Nat) (fl1 fi1 fr1 : Nat → Int32), i + n9 = 120 → lm_gd c w u L → lm_ls fl1 fi1 L → lm_bfs c w n9 i L = lm_list c w rt → (∀ p, p < 120 → fr1 p = nI (if lm_isRb c w (L.take i) p = true then 1 else 0)) → lx_W K 7 E 0 0 53 [(0, .ref k), (1, .ref h), (2, .ref ro), (3, .int (nI i))] [] [(k, .inr (0, [.ref l0, .ref il, .ref ir, .ref np, .int (nI L.length)])), (l0, aI K 120 fl1), (il, aI K 120 fi1), (ir, aI K 120 fr1), (np, aI K 120 fn0), (h, .inr (1, [.ref ca, .ref co, .int t])), (ca, aI K 120 f), (co, aJ K 120 g), (ro, aJ K 10 gr)] := by
    intro n9
    induction n9 with
    | zero =>
      intro i L fl1 fi1 fr1 hi hL hls hb hfr
      have hLn : L.length ≤ u := lm_gd_len hL
      have hi3 : L.length ≤ i := by omega
      have hLL : lm_list c w rt = L := hb.symm
      have hfrL : ∀ p, p < 120 → fr1 p = nI (if lm_isRb c w L p = true then 1 else 0) := by rw [List.take_of_length_le hi3] at hfr; exact hfr
      refine lx_iload_n F dX0_listReached_53 3 rfl ?_
      refine lx_aload_n F dX0_listReached_54 0 rfl ?_
      refine gf_X0_24 F 0 rfl rfl dX0_listReached_55 ?_
      refine lx_icmpN_ge F 128 (by omega) (by omega) dX0_listReached_58 rfl (fun _ => ?_) (fun h => absurd h (by omega))
      exact lx_vret F hR dX0_listReached_128 ⟨rfl, fl1, fi1, fr1, fn0, by rw [hLL]; exact hls, by rw [hLL]; exact hfrL, hfn0, by rw [hLL]⟩
    | succ n9 ih =>
      intro i L fl1 fi1 fr1 hi hL hls hb hfr
      have hLn : L.length ≤ u := lm_gd_len hL
      refine lx_iload_n F dX0_listReached_53 3 rfl ?_
      refine lx_aload_n F dX0_listReached_54 0 rfl ?_
      refine gf_X0_24 F 0 rfl rfl dX0_listReached_55 ?_
      refine lx_icmpN_ge F 128 (by omega) (by omega) dX0_listReached_58 rfl (fun hi2 => ?_) (fun hi2 => ?_)
      · skip
        have hLL : lm_list c w rt = L := by rw [← hb]; exact lm_bfs_end hi2
        have hfrL : ∀ p, p < 120 → fr1 p = nI (if lm_isRb c w L p = true then 1 else 0) := by rw [List.take_of_length_le hi2] at hfr; exact hfr
        exact lx_vret F hR dX0_listReached_128 ⟨rfl, fl1, fi1, fr1, fn0, by rw [hLL]; exact hls, by rw [hLL]; exact hfrL, hfn0, by rw [hLL]⟩
      · skip
        refine lx_iload_n F dX0_listReached_61 3 rfl ?_
        refine lx_bipush F dX0_listReached_62 kb_120 ?_
        refine lx_icmpN_ge F 128 (by omega) (by omega) dX0_listReached_64 rfl (fun h => absurd h (by omega)) (fun _ => ?_)
        refine lx_aload_n F dX0_listReached_67 0 rfl ?_
        refine gf_X0_9 F 0 rfl rfl dX0_listReached_68 ?_
        refine lx_iload_n F dX0_listReached_71 3 rfl ?_
        obtain ⟨p, hpe⟩ : ∃ p, p = L.getD i 0 := ⟨_, rfl⟩
        have hcl : lm_cl c w u p := by rw [hpe]; exact hL.2 _ (lm_getD_in hi2)
        have hp1 := hcl.1
        have hok1 := lm_first_ok hw hcl
        have hok2 := lm_rest_ok hw hcl
        have hk3 := lm_ok_kind hok2
        refine lx_iald F 1 i dX0_listReached_72 rfl (by omega) (by decide) ?_
        rw [show fl1 i = nI p by rw [hls.1 i hi2, hpe]]
        refine lx_istore F [(0, .ref k), (1, .ref h), (2, .ref ro), (3, .int (nI i)), (4, .int (nI p))] [1, 2, 3, 4, 0] dX0_listReached_73 rfl (by decide) ?_
        refine lx_aload_n F dX0_listReached_75 1 rfl ?_
        refine lx_iload F dX0_listReached_76 4 rfl ?_
        refine lx_cv F (zh_restOf (xl E) K h ca co f g t c w u hw hh p hcl) cv_X0_38 5 rfl rfl [5, 6, 7] [0, 1, 2, 3, 4, 8] [(k, .inr (0, [.ref l0, .ref il, .ref ir, .ref np, .int (nI L.length)])), (l0, aI K 120 fl1), (il, aI K 120 fi1), (ir, aI K 120 fr1), (np, aI K 120 fn0), (ro, aJ K 10 gr)] rfl rfl (by decide) rfl (st := []) rfl (Nat.le_of_ble_eq_true rfl) (by decide) ⟨by decide, by decide⟩ dX0_listReached_78 (fun v9 w9 h9 => ?_)
        obtain ⟨rfl, rfl⟩ := h9
        refine lx_perm [0, 1, 2, 3, 4, 6, 7, 8, 5] [(k, .inr (0, [.ref l0, .ref il, .ref ir, .ref np, .int (nI L.length)])), (l0, aI K 120 fl1), (il, aI K 120 fi1), (ir, aI K 120 fr1), (np, aI K 120 fn0), (h, .inr (1, [.ref ca, .ref co, .int t])), (ca, aI K 120 f), (co, aJ K 120 g), (ro, aJ K 10 gr)] (by decide) rfl ?_
        refine lx_st (a' := 0) (b' := 0) [.long (en (lm_rest c w p))] rfl rfl rfl ?_
        refine lx_lstore F [(0, .ref k), (1, .ref h), (2, .ref ro), (3, .int (nI i)), (4, .int (nI p)), (5, .long (en (lm_rest c w p)))] [1, 2, 3, 4, 5, 0] dX0_listReached_81 rfl (by decide) ?_
        refine lx_aload_n F dX0_listReached_83 0 rfl ?_
        refine lx_aload_n F dX0_listReached_84 1 rfl ?_
        refine lx_aload_n F dX0_listReached_85 1 rfl ?_
        refine lx_iload F dX0_listReached_86 4 rfl ?_
        refine lx_cv F (zh_contentAt (xl E) K h ca co f g t p (by omega) (en (w p)) (hh p hp1).2) cv_X0_44 5 rfl rfl [5, 6, 7] [0, 1, 2, 3, 4, 8] [(k, .inr (0, [.ref l0, .ref il, .ref ir, .ref np, .int (nI L.length)])), (l0, aI K 120 fl1), (il, aI K 120 fi1), (ir, aI K 120 fr1), (np, aI K 120 fn0), (ro, aJ K 10 gr)] rfl rfl (by decide) rfl (st := [.ref h, .ref k]) rfl (Nat.le_of_ble_eq_true rfl) (by decide) ⟨by decide, by decide⟩ dX0_listReached_88 (fun v9 w9 h9 => ?_)
        obtain ⟨rfl, rfl⟩ := h9
        refine lx_perm [0, 1, 2, 3, 4, 6, 7, 8, 5] [(k, .inr (0, [.ref l0, .ref il, .ref ir, .ref np, .int (nI L.length)])), (l0, aI K 120 fl1), (il, aI K 120 fi1), (ir, aI K 120 fr1), (np, aI K 120 fn0), (h, .inr (1, [.ref ca, .ref co, .int t])), (ca, aI K 120 f), (co, aJ K 120 g), (ro, aJ K 10 gr)] (by decide) rfl ?_
        refine lx_st (a' := 0) (b' := 0) [.long (en (w p)), .ref h, .ref k] rfl rfl rfl ?_
        refine lx_cv F (zk_listPair (xl E) K k l0 il ir np fl1 fi1 h ca co f g t c w u hw hh L hL hls (w p) hok1) cv_X0_34 0 rfl rfl [0, 1, 2, 5, 6, 7] [3, 4, 8] [(ir, aI K 120 fr1), (np, aI K 120 fn0), (ro, aJ K 10 gr)] rfl rfl (by decide) rfl (st := []) rfl (Nat.le_of_ble_eq_true rfl) (by decide) ⟨by decide, by decide⟩ dX0_listReached_91 (fun v9 w9 h9 => ?_)
        obtain ⟨rfl, fl2, fi2, hlsfl2, rfl⟩ := h9
        refine lx_perm [3, 4, 5, 0, 1, 6, 7, 8, 2] [(k, .inr (0, [.ref l0, .ref il, .ref ir, .ref np, .int (nI ((lm_enl w L (w p)).length))])), (l0, aI K 120 fl2), (il, aI K 120 fi2), (ir, aI K 120 fr1), (np, aI K 120 fn0), (h, .inr (1, [.ref ca, .ref co, .int t])), (ca, aI K 120 f), (co, aJ K 120 g), (ro, aJ K 10 gr)] (by decide) rfl ?_
        refine lx_st (a' := 0) (b' := 0) [] rfl rfl rfl ?_
        refine lx_aload_n F dX0_listReached_94 0 rfl ?_
        refine lx_aload_n F dX0_listReached_95 1 rfl ?_
        refine lx_lload F dX0_listReached_96 5 rfl ?_
        refine lx_cv F (zk_listPair (xl E) K k l0 il ir np fl2 fi2 h ca co f g t c w u hw hh (lm_enl w L (w p)) (lm_enl_gd hw hL hok1) hlsfl2 (lm_rest c w p) hok2) cv_X0_34 0 rfl rfl [0, 1, 2, 5, 6, 7] [3, 4, 8] [(ir, aI K 120 fr1), (np, aI K 120 fn0), (ro, aJ K 10 gr)] rfl rfl (by decide) rfl (st := []) rfl (Nat.le_of_ble_eq_true rfl) (by decide) ⟨by decide, by decide⟩ dX0_listReached_98 (fun v9 w9 h9 => ?_)
        obtain ⟨rfl, fl3, fi3, hlsfl3, rfl⟩ := h9
        refine lx_perm [3, 4, 5, 0, 1, 6, 7, 8, 2] [(k, .inr (0, [.ref l0, .ref il, .ref ir, .ref np, .int (nI ((lm_enl w (lm_enl w L (w p)) (lm_rest c w p)).length))])), (l0, aI K 120 fl3), (il, aI K 120 fi3), (ir, aI K 120 fr1), (np, aI K 120 fn0), (h, .inr (1, [.ref ca, .ref co, .int t])), (ca, aI K 120 f), (co, aJ K 120 g), (ro, aJ K 10 gr)] (by decide) rfl ?_
        refine lx_st (a' := 0) (b' := 0) [] rfl rfl rfl ?_
        refine lx_lload F dX0_listReached_101 5 rfl ?_
        refine lx_csn F (zs_kindOf (xl E) K (lm_rest c w p) (by omega)) cs_X0_47 [] [0, 1, 2, 3, 4, 5, 6, 7, 8] [(k, .inr (0, [.ref l0, .ref il, .ref ir, .ref np, .int (nI ((lm_enl w (lm_enl w L (w p)) (lm_rest c w p)).length))])), (l0, aI K 120 fl3), (il, aI K 120 fi3), (ir, aI K 120 fr1), (np, aI K 120 fn0), (h, .inr (1, [.ref ca, .ref co, .int t])), (ca, aI K 120 f), (co, aJ K 120 g), (ro, aJ K 10 gr)] rfl rfl (by decide) rfl (st := []) rfl (Nat.le_of_ble_eq_true rfl) (by decide) ⟨by decide, by decide⟩ dX0_listReached_103 (fun v9 w9 h9 => ?_)
        obtain ⟨rfl, rfl⟩ := h9
        refine lx_perm [0, 1, 2, 3, 4, 5, 6, 7, 8] [(k, .inr (0, [.ref l0, .ref il, .ref ir, .ref np, .int (nI ((lm_enl w (lm_enl w L (w p)) (lm_rest c w p)).length))])), (l0, aI K 120 fl3), (il, aI K 120 fi3), (ir, aI K 120 fr1), (np, aI K 120 fn0), (h, .inr (1, [.ref ca, .ref co, .int t])), (ca, aI K 120 f), (co, aJ K 120 g), (ro, aJ K 10 gr)] (by decide) rfl ?_
        refine lx_st (a' := 0) (b' := 0) [.int (nI ((lm_rest c w p).1))] rfl rfl rfl ?_
        refine lx_iconst F dX0_listReached_106 kc_2 ?_
        refine lx_icmpN_ne F 122 (by omega) (by omega) dX0_listReached_107 rfl (fun h2 => ?_) (fun h2 => ?_)
        · skip
          refine lx_iinc F [(0, .ref k), (1, .ref h), (2, .ref ro), (3, .int (nI (i + 1))), (4, .int (nI p)), (5, .long (en (lm_rest c w p)))] 3 [1, 2, 3, 0, 4, 5] dX0_listReached_122 rfl (k_inc _) rfl (by decide) ?_
          refine lx_goto F 53 dX0_listReached_125 rfl ?_
          refine lx_lv [0, 1, 2, 3] [(0, .ref k), (1, .ref h), (2, .ref ro), (3, .int (nI (i + 1)))] rfl ?_
          exact ih (i + 1) _ fl3 fi3 fr1 (by omega) (lm_enl_gd hw (lm_enl_gd hw hL hok1) hok2) hlsfl3 (by rw [← hb, hpe]; exact (lm_bfs_step hi2).symm) (by rw [lm_enl_take hi2, ← hpe]; exact lm_isR_no hfr h2)
        · skip
          have hx : lm_to w (lm_rest c w p) < 120 := Nat.lt_of_lt_of_le (lm_to_cl hw hok2 h2).1 hu
          refine lx_aload_n F dX0_listReached_110 0 rfl ?_
          refine gf_X0_18 F 0 rfl rfl dX0_listReached_111 ?_
          refine lx_aload_n F dX0_listReached_114 1 rfl ?_
          refine lx_lload F dX0_listReached_115 5 rfl ?_
          refine lx_cv F (zh_cellOf (xl E) K h ca co f g t c w u hw hh (lm_rest c w p) hok2 h2) cv_X0_51 5 rfl rfl [5, 6, 7] [0, 1, 2, 3, 4, 8] [(k, .inr (0, [.ref l0, .ref il, .ref ir, .ref np, .int (nI ((lm_enl w (lm_enl w L (w p)) (lm_rest c w p)).length))])), (l0, aI K 120 fl3), (il, aI K 120 fi3), (ir, aI K 120 fr1), (np, aI K 120 fn0), (ro, aJ K 10 gr)] rfl rfl (by decide) rfl (st := [.ref ir]) rfl (Nat.le_of_ble_eq_true rfl) (by decide) ⟨by decide, by decide⟩ dX0_listReached_117 (fun v9 w9 h9 => ?_)
          obtain ⟨rfl, rfl⟩ := h9
          refine lx_perm [0, 1, 2, 3, 4, 6, 7, 8, 5] [(k, .inr (0, [.ref l0, .ref il, .ref ir, .ref np, .int (nI ((lm_enl w (lm_enl w L (w p)) (lm_rest c w p)).length))])), (l0, aI K 120 fl3), (il, aI K 120 fi3), (ir, aI K 120 fr1), (np, aI K 120 fn0), (h, .inr (1, [.ref ca, .ref co, .int t])), (ca, aI K 120 f), (co, aJ K 120 g), (ro, aJ K 10 gr)] (by decide) rfl ?_
          refine lx_st (a' := 0) (b' := 0) [.int (nI (lm_to w (lm_rest c w p))), .ref ir] rfl rfl rfl ?_
          refine lx_iconst F dX0_listReached_120 kc_1 ?_
          refine lx_iast F 3 (lm_to w (lm_rest c w p)) [(k, .inr (0, [.ref l0, .ref il, .ref ir, .ref np, .int (nI ((lm_enl w (lm_enl w L (w p)) (lm_rest c w p)).length))])), (l0, aI K 120 fl3), (il, aI K 120 fi3), (ir, aI K 120 (lm_up fr1 (lm_to w (lm_rest c w p)) (nI 1))), (np, aI K 120 fn0), (h, .inr (1, [.ref ca, .ref co, .int t])), (ca, aI K 120 f), (co, aJ K 120 g), (ro, aJ K 10 gr)] dX0_listReached_121 rfl hx (by decide) rfl ?_
          refine lx_iinc F [(0, .ref k), (1, .ref h), (2, .ref ro), (3, .int (nI (i + 1))), (4, .int (nI p)), (5, .long (en (lm_rest c w p)))] 3 [1, 2, 3, 0, 4, 5] dX0_listReached_122 rfl (k_inc _) rfl (by decide) ?_
          refine lx_goto F 53 dX0_listReached_125 rfl ?_
          refine lx_lv [0, 1, 2, 3] [(0, .ref k), (1, .ref h), (2, .ref ro), (3, .int (nI (i + 1)))] rfl ?_
          exact ih (i + 1) _ fl3 fi3 _ (by omega) (lm_enl_gd hw (lm_enl_gd hw hL hok1) hok2) hlsfl3 (by rw [← hb, hpe]; exact (lm_bfs_step hi2).symm) (by rw [lm_enl_take hi2, ← hpe]; exact lm_isR_yes hfr h2)
  have loop1 : ∀ (n9 : Nat) (i : Nat) (fl1 fi1 : Nat → Int32), i + n9 = 10 → lm_ls fl1 fi1 (lm_list0 w rt i) → lx_W K 7 E 0 0 31 [(0, .ref k), (1, .ref h), (2, .ref ro), (3, .int (nI i))] [] [(k, .inr (0, [.ref l0, .ref il, .ref ir, .ref np, .int (nI ((lm_list0 w rt i).length))])), (l0, aI K 120 fl1), (il, aI K 120 fi1), (ir, aI K 120 fr0), (np, aI K 120 fn0), (h, .inr (1, [.ref ca, .ref co, .int t])), (ca, aI K 120 f), (co, aJ K 120 g), (ro, aJ K 10 gr)] := by
    intro n9
    induction n9 with
    | zero =>
      intro i fl1 fi1 hi hls
      refine lx_iload_n F dX0_listReached_31 3 rfl ?_
      refine lx_aload_n F dX0_listReached_32 2 rfl ?_
      refine lx_alenJ F 8 dX0_listReached_33 rfl ?_
      refine lx_icmpN_ge F 51 (by omega) (by omega) dX0_listReached_34 rfl (fun _ => ?_) (fun h => absurd h (by omega))
      refine lx_iconst F dX0_listReached_51 kc_0 ?_
      refine lx_istore_n F [(0, .ref k), (1, .ref h), (2, .ref ro), (3, .int (nI 0))] [1, 2, 3, 0] dX0_listReached_52 rfl (by decide) ?_
      have hi10 : i = 10 := by omega
      subst hi10
      have hg0 := lm_list0_spec (rt := rt) hw 10 hr
      exact loop2 120 0 _ fl1 fi1 fr0 (by omega) hg0.1 hls rfl (fun p hp => by rw [hfr0 p hp]; rfl)
    | succ n9 ih =>
      intro i fl1 fi1 hi hls
      refine lx_iload_n F dX0_listReached_31 3 rfl ?_
      refine lx_aload_n F dX0_listReached_32 2 rfl ?_
      refine lx_alenJ F 8 dX0_listReached_33 rfl ?_
      refine lx_icmpN_ge F 51 (by omega) (by omega) dX0_listReached_34 rfl (fun h => absurd h (by omega)) (fun _ => ?_)
      refine lx_aload_n F dX0_listReached_37 0 rfl ?_
      refine lx_aload_n F dX0_listReached_38 1 rfl ?_
      refine lx_aload_n F dX0_listReached_39 2 rfl ?_
      refine lx_iload_n F dX0_listReached_40 3 rfl ?_
      refine lx_lald F 8 i dX0_listReached_41 rfl (by omega) (by decide) ?_
      rw [hro i (by omega)]
      refine lx_cv F (zk_listPair (xl E) K k l0 il ir np fl1 fi1 h ca co f g t c w u hw hh (lm_list0 w rt i) (lm_list0_spec (rt := rt) hw i (fun r hr1 => hr r (by omega))).1 hls (rt i) (hr i (by omega))) cv_X0_34 0 rfl rfl [0, 1, 2, 5, 6, 7] [3, 4, 8] [(ir, aI K 120 fr0), (np, aI K 120 fn0), (ro, aJ K 10 gr)] rfl rfl (by decide) rfl (st := []) rfl (Nat.le_of_ble_eq_true rfl) (by decide) ⟨by decide, by decide⟩ dX0_listReached_42 (fun v9 w9 h9 => ?_)
      obtain ⟨rfl, fl2, fi2, hlsfl2, rfl⟩ := h9
      refine lx_perm [3, 4, 5, 0, 1, 6, 7, 8, 2] [(k, .inr (0, [.ref l0, .ref il, .ref ir, .ref np, .int (nI ((lm_enl w (lm_list0 w rt i) (rt i)).length))])), (l0, aI K 120 fl2), (il, aI K 120 fi2), (ir, aI K 120 fr0), (np, aI K 120 fn0), (h, .inr (1, [.ref ca, .ref co, .int t])), (ca, aI K 120 f), (co, aJ K 120 g), (ro, aJ K 10 gr)] (by decide) rfl ?_
      refine lx_st (a' := 0) (b' := 0) [] rfl rfl rfl ?_
      refine lx_iinc F [(0, .ref k), (1, .ref h), (2, .ref ro), (3, .int (nI (i + 1)))] 3 [1, 2, 3, 0] dX0_listReached_45 rfl (k_inc _) rfl (by decide) ?_
      refine lx_goto F 31 dX0_listReached_48 rfl ?_
      exact ih (i + 1) fl2 fi2 (by omega) hlsfl2
  refine lx_iconst F dX0_listReached_29 kc_0 ?_
  refine lx_istore_n F [(0, .ref k), (1, .ref h), (2, .ref ro), (3, .int (nI 0))] [1, 2, 3, 0] dX0_listReached_30 rfl (by decide) ?_
  exact loop1 10 0 fl fi0 (by omega) (lm_ls_0 hfi0)
