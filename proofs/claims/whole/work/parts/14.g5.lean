set_option maxHeartbeats 4000000 in
set_option maxRecDepth 100000 in
theorem zl_isSame (l : Launch) (K : lm_G) (x ro k mt cn h2 : Nat) (z : Int32) (h ca co : Nat) (f : Nat → Int32) (g : Nat → Int64) (t : Int32) (c : Nat → Nat) (w : Nat → lm_V) (u : Nat) (hw : lm_wf c w u) (hh : lm_hf f g c w u) (a b : lm_V) (ha : lm_ok c u a) (hb : lm_ok c u b) : lm_C l K mX3_isSame (rk 2) [.ref x, .long (en a), .long (en b)] [(x, .inr (3, [.ref ro, .ref k, .ref mt, .ref cn, .ref h, .ref h2, .int z])), (h, .inr (1, [.ref ca, .ref co, .int t])), (ca, aI K 120 f), (co, aJ K 120 g)] (fun v9 w9 => v9 = some (.int (bI (lm_same w a b))) ∧ w9 = [(x, .inr (3, [.ref ro, .ref k, .ref mt, .ref cn, .ref h, .ref h2, .int z])), (h, .inr (1, [.ref ca, .ref co, .int t])), (ca, aI K 120 f), (co, aJ K 120 g)]) := by
  refine lx_met RX3 pn_X3 rfl (Nat.le_of_ble_eq_true rfl) (fun E hE hnm F hR => ?_)
  have F : lx_F K 5 E cX3_isSame RX3 (some .boolean) (rk 2) := F
  show lx_W K 5 E 0 0 0 [(0, .ref x), (1, .long (en a)), (3, .long (en b))] [] [(x, .inr (3, [.ref ro, .ref k, .ref mt, .ref cn, .ref h, .ref h2, .int z])), (h, .inr (1, [.ref ca, .ref co, .int t])), (ca, aI K 120 f), (co, aJ K 120 g)]
  have hu := hw.1
  have ha3 := lm_ok_kind ha
  have hb3 := lm_ok_kind hb
  refine lx_lload_n F dX3_isSame_0 1 rfl ?_
  refine lx_cs F (zs_kindOf (xl E) K a (by omega)) cs_X3_118 [] [0, 1, 2, 3] [(x, .inr (3, [.ref ro, .ref k, .ref mt, .ref cn, .ref h, .ref h2, .int z])), (h, .inr (1, [.ref ca, .ref co, .int t])), (ca, aI K 120 f), (co, aJ K 120 g)] rfl rfl (by decide) rfl (st := []) rfl (Nat.le_of_ble_eq_true rfl) (by decide) ⟨by decide, by decide⟩ dX3_isSame_1 (fun v9 w9 h9 => ?_)
  obtain ⟨rfl, rfl⟩ := h9
  refine lx_perm [0, 1, 2, 3] [(x, .inr (3, [.ref ro, .ref k, .ref mt, .ref cn, .ref h, .ref h2, .int z])), (h, .inr (1, [.ref ca, .ref co, .int t])), (ca, aI K 120 f), (co, aJ K 120 g)] (by decide) rfl ?_
  refine lx_st (a' := 0) (b' := 0) [.int (nI a.1)] rfl rfl rfl ?_
  refine lx_iconst F dX3_isSame_4 kc_2 ?_
  refine lx_icmpN_ne F 41 (by omega) (by omega) dX3_isSame_5 rfl (fun h1 => ?_) (fun h1 => ?_)
  · skip
    have hnp : ¬ (a.1 = 2 ∧ b.1 = 2) := fun q => h1 q.1
    refine lx_lload_n F dX3_isSame_41 1 rfl ?_
    refine lx_lload_n F dX3_isSame_42 2 rfl ?_
    refine lx_lcmp_ifne F 51 dX3_isSame_43 dX3_isSame_44 rfl (fun he => ?_) (fun he => ?_)
    · skip
      refine lx_iconst F dX3_isSame_51 kc_0 ?_
      exact lx_zret F hR (by first | rfl | decide) dX3_isSame_52 ⟨by rw [lm_same_np hnp, decide_eq_false (fun q => he ((en_inj (en_of hu ha) (en_of hu hb)).mpr q))]; rfl, rfl⟩
    · skip
      refine lx_iconst F dX3_isSame_47 kc_1 ?_
      refine lx_goto F 52 dX3_isSame_48 rfl ?_
      exact lx_zret F hR (by first | rfl | decide) dX3_isSame_52 ⟨by rw [lm_same_np hnp, decide_eq_true ((en_inj (en_of hu ha) (en_of hu hb)).mp he)]; rfl, rfl⟩
  · skip
    refine lx_lload_n F dX3_isSame_8 2 rfl ?_
    refine lx_cs F (zs_kindOf (xl E) K b (by omega)) cs_X3_118 [] [0, 1, 2, 3] [(x, .inr (3, [.ref ro, .ref k, .ref mt, .ref cn, .ref h, .ref h2, .int z])), (h, .inr (1, [.ref ca, .ref co, .int t])), (ca, aI K 120 f), (co, aJ K 120 g)] rfl rfl (by decide) rfl (st := []) rfl (Nat.le_of_ble_eq_true rfl) (by decide) ⟨by decide, by decide⟩ dX3_isSame_9 (fun v9 w9 h9 => ?_)
    obtain ⟨rfl, rfl⟩ := h9
    refine lx_perm [0, 1, 2, 3] [(x, .inr (3, [.ref ro, .ref k, .ref mt, .ref cn, .ref h, .ref h2, .int z])), (h, .inr (1, [.ref ca, .ref co, .int t])), (ca, aI K 120 f), (co, aJ K 120 g)] (by decide) rfl ?_
    refine lx_st (a' := 0) (b' := 0) [.int (nI b.1)] rfl rfl rfl ?_
    refine lx_iconst F dX3_isSame_12 kc_2 ?_
    refine lx_icmpN_ne F 41 (by omega) (by omega) dX3_isSame_13 rfl (fun h2e => ?_) (fun h2e => ?_)
    · skip
      have hnp : ¬ (a.1 = 2 ∧ b.1 = 2) := fun q => h2e q.2
      refine lx_lload_n F dX3_isSame_41 1 rfl ?_
      refine lx_lload_n F dX3_isSame_42 2 rfl ?_
      refine lx_lcmp_ifne F 51 dX3_isSame_43 dX3_isSame_44 rfl (fun he => ?_) (fun he => ?_)
      · skip
        refine lx_iconst F dX3_isSame_51 kc_0 ?_
        exact lx_zret F hR (by first | rfl | decide) dX3_isSame_52 ⟨by rw [lm_same_np hnp, decide_eq_false (fun q => he ((en_inj (en_of hu ha) (en_of hu hb)).mpr q))]; rfl, rfl⟩
      · skip
        refine lx_iconst F dX3_isSame_47 kc_1 ?_
        refine lx_goto F 52 dX3_isSame_48 rfl ?_
        exact lx_zret F hR (by first | rfl | decide) dX3_isSame_52 ⟨by rw [lm_same_np hnp, decide_eq_true ((en_inj (en_of hu ha) (en_of hu hb)).mp he)]; rfl, rfl⟩
    · skip
      have hca := lm_to_cl hw ha h1
      have hcb := lm_to_cl hw hb h2e
      have hx1 := hca.1
      have hx2 := hcb.1
      refine lx_aload_n F dX3_isSame_16 0 rfl ?_
      refine gf_X3_34 F 0 rfl rfl dX3_isSame_17 ?_
      refine lx_lload_n F dX3_isSame_20 1 rfl ?_
      refine lx_cv F (zh_cellOf (xl E) K h ca co f g t c w u hw hh a ha h1) cv_X3_87 1 rfl rfl [1, 2, 3] [0] [(x, .inr (3, [.ref ro, .ref k, .ref mt, .ref cn, .ref h, .ref h2, .int z]))] rfl rfl (by decide) rfl (st := []) rfl (Nat.le_of_ble_eq_true rfl) (by decide) ⟨by decide, by decide⟩ dX3_isSame_21 (fun v9 w9 h9 => ?_)
      obtain ⟨rfl, rfl⟩ := h9
      refine lx_perm [0, 1, 2, 3] [(x, .inr (3, [.ref ro, .ref k, .ref mt, .ref cn, .ref h, .ref h2, .int z])), (h, .inr (1, [.ref ca, .ref co, .int t])), (ca, aI K 120 f), (co, aJ K 120 g)] (by decide) rfl ?_
      refine lx_st (a' := 0) (b' := 0) [.int (nI (lm_to w a))] rfl rfl rfl ?_
      refine lx_aload_n F dX3_isSame_24 0 rfl ?_
      refine gf_X3_34 F 0 rfl rfl dX3_isSame_25 ?_
      refine lx_lload_n F dX3_isSame_28 2 rfl ?_
      refine lx_cv F (zh_cellOf (xl E) K h ca co f g t c w u hw hh b hb h2e) cv_X3_87 1 rfl rfl [1, 2, 3] [0] [(x, .inr (3, [.ref ro, .ref k, .ref mt, .ref cn, .ref h, .ref h2, .int z]))] rfl rfl (by decide) rfl (st := [.int (nI (lm_to w a))]) rfl (Nat.le_of_ble_eq_true rfl) (by decide) ⟨by decide, by decide⟩ dX3_isSame_29 (fun v9 w9 h9 => ?_)
      obtain ⟨rfl, rfl⟩ := h9
      refine lx_perm [0, 1, 2, 3] [(x, .inr (3, [.ref ro, .ref k, .ref mt, .ref cn, .ref h, .ref h2, .int z])), (h, .inr (1, [.ref ca, .ref co, .int t])), (ca, aI K 120 f), (co, aJ K 120 g)] (by decide) rfl ?_
      refine lx_st (a' := 0) (b' := 0) [.int (nI (lm_to w b)), .int (nI (lm_to w a))] rfl rfl rfl ?_
      refine lx_icmpN_ne F 39 (by omega) (by omega) dX3_isSame_32 rfl (fun he => ?_) (fun he => ?_)
      · skip
        refine lx_iconst F dX3_isSame_39 kc_0 ?_
        exact lx_zret F hR (by first | rfl | decide) dX3_isSame_40 ⟨by rw [lm_same_p h1 h2e, decide_eq_false he]; rfl, rfl⟩
      · skip
        refine lx_iconst F dX3_isSame_35 kc_1 ?_
        refine lx_goto F 40 dX3_isSame_36 rfl ?_
        exact lx_zret F hR (by first | rfl | decide) dX3_isSame_40 ⟨by rw [lm_same_p h1 h2e, decide_eq_true he]; rfl, rfl⟩

set_option maxHeartbeats 4000000 in
set_option maxRecDepth 100000 in
theorem zl_countPairs (l : Launch) (K : lm_G) (x ro k mt cn h2 : Nat) (z : Int32) (h ca co : Nat) (f : Nat → Int32) (g : Nat → Int64) (t : Int32) (c : Nat → Nat) (w : Nat → lm_V) (u : Nat) (hw : lm_wf c w u) (hh : lm_hf f g c w u) (v0 : lm_V) (hv0 : lm_ok c u v0) : lm_C l K mX3_countPairs (rk 2) [.ref x, .long (en v0)] [(x, .inr (3, [.ref ro, .ref k, .ref mt, .ref cn, .ref h, .ref h2, .int z])), (h, .inr (1, [.ref ca, .ref co, .int t])), (ca, aI K 120 f), (co, aJ K 120 g)] (fun v9 w9 => v9 = some (.int (Int32.ofInt (lm_len c w 121 0 v0))) ∧ w9 = [(x, .inr (3, [.ref ro, .ref k, .ref mt, .ref cn, .ref h, .ref h2, .int z])), (h, .inr (1, [.ref ca, .ref co, .int t])), (ca, aI K 120 f), (co, aJ K 120 g)]) := by
  refine lx_met RX3 pn_X3 rfl (Nat.le_of_ble_eq_true rfl) (fun E hE hnm F hR => ?_)
  have F : lx_F K 6 E cX3_countPairs RX3 (some .int) (rk 2) := F
  show lx_W K 6 E 0 0 0 [(0, .ref x), (1, .long (en v0))] [] [(x, .inr (3, [.ref ro, .ref k, .ref mt, .ref cn, .ref h, .ref h2, .int z])), (h, .inr (1, [.ref ca, .ref co, .int t])), (ca, aI K 120 f), (co, aJ K 120 g)]
  have hu := hw.1
  refine lx_lload_n F dX3_countPairs_0 1 rfl ?_
  refine lx_lstore_n F [(0, .ref x), (1, .long (en v0)), (3, .long (en v0))] [1, 2, 0] dX3_countPairs_1 rfl (by decide) ?_
  refine lx_iconst F dX3_countPairs_2 kc_0 ?_
  refine lx_istore F [(0, .ref x), (1, .long (en v0)), (3, .long (en v0)), (5, .int (nI 0))] [1, 2, 3, 0] dX3_countPairs_3 rfl (by decide) ?_
  have loop : ∀ (n9 : Nat) (m : Nat) (v : lm_V), m + n9 = 121 → lm_ok c u v → lm_len c w n9 m v = lm_len c w 121 0 v0 → lx_W K 6 E 0 0 5 [(0, .ref x), (1, .long (en v0)), (3, .long (en v)), (5, .int (nI m))] [] [(x, .inr (3, [.ref ro, .ref k, .ref mt, .ref cn, .ref h, .ref h2, .int z])), (h, .inr (1, [.ref ca, .ref co, .int t])), (ca, aI K 120 f), (co, aJ K 120 g)] := by
    intro n9
    induction n9 with
    | zero =>
      intro m v hm hv hl
      refine lx_iload F dX3_countPairs_5 3 rfl ?_
      refine lx_bipush F dX3_countPairs_7 kb_120 ?_
      refine lx_icmpN_gt F 42 (by omega) (by omega) dX3_countPairs_9 rfl (fun _ => ?_) (fun h => absurd h (by omega))
      refine lx_iload F dX3_countPairs_42 3 rfl ?_
      refine lx_bipush F dX3_countPairs_44 kb_120 ?_
      refine lx_icmpN_le F 52 (by omega) (by omega) dX3_countPairs_46 rfl (fun h => absurd h (by omega)) (fun _ => ?_)
      refine lx_bipush F dX3_countPairs_49 kb_m2 ?_
      exact lx_iret F hR dX3_countPairs_51 ⟨by rw [← hl]; rfl, rfl⟩
    | succ n9 ih =>
      intro m v hm hv hl
      have hv3 := lm_ok_kind hv
      refine lx_iload F dX3_countPairs_5 3 rfl ?_
      refine lx_bipush F dX3_countPairs_7 kb_120 ?_
      refine lx_icmpN_gt F 42 (by omega) (by omega) dX3_countPairs_9 rfl (fun h => absurd h (by omega)) (fun _ => ?_)
      refine lx_lload_n F dX3_countPairs_12 2 rfl ?_
      refine lx_cs F (zs_kindOf (xl E) K v (by omega)) cs_X3_118 [] [0, 1, 2, 3] [(x, .inr (3, [.ref ro, .ref k, .ref mt, .ref cn, .ref h, .ref h2, .int z])), (h, .inr (1, [.ref ca, .ref co, .int t])), (ca, aI K 120 f), (co, aJ K 120 g)] rfl rfl (by decide) rfl (st := []) rfl (Nat.le_of_ble_eq_true rfl) (by decide) ⟨by decide, by decide⟩ dX3_countPairs_13 (fun v9 w9 h9 => ?_)
      obtain ⟨rfl, rfl⟩ := h9
      refine lx_perm [0, 1, 2, 3] [(x, .inr (3, [.ref ro, .ref k, .ref mt, .ref cn, .ref h, .ref h2, .int z])), (h, .inr (1, [.ref ca, .ref co, .int t])), (ca, aI K 120 f), (co, aJ K 120 g)] (by decide) rfl ?_
      refine lx_st (a' := 0) (b' := 0) [.int (nI v.1)] rfl rfl rfl ?_
      refine lx_iconst F dX3_countPairs_16 kc_2 ?_
      refine lx_icmpN_ne F 42 (by omega) (by omega) dX3_countPairs_17 rfl (fun h2e => ?_) (fun h2e => ?_)
      · skip
        refine lx_iload F dX3_countPairs_42 3 rfl ?_
        refine lx_bipush F dX3_countPairs_44 kb_120 ?_
        refine lx_icmpN_le F 52 (by omega) (by omega) dX3_countPairs_46 rfl (fun _ => ?_) (fun h => absurd h (by omega))
        refine lx_lload_n F dX3_countPairs_52 2 rfl ?_
        refine lx_cs F (zs_kindOf (xl E) K v (by omega)) cs_X3_118 [] [0, 1, 2, 3] [(x, .inr (3, [.ref ro, .ref k, .ref mt, .ref cn, .ref h, .ref h2, .int z])), (h, .inr (1, [.ref ca, .ref co, .int t])), (ca, aI K 120 f), (co, aJ K 120 g)] rfl rfl (by decide) rfl (st := []) rfl (Nat.le_of_ble_eq_true rfl) (by decide) ⟨by decide, by decide⟩ dX3_countPairs_53 (fun v9 w9 h9 => ?_)
        obtain ⟨rfl, rfl⟩ := h9
        refine lx_perm [0, 1, 2, 3] [(x, .inr (3, [.ref ro, .ref k, .ref mt, .ref cn, .ref h, .ref h2, .int z])), (h, .inr (1, [.ref ca, .ref co, .int t])), (ca, aI K 120 f), (co, aJ K 120 g)] (by decide) rfl ?_
        refine lx_st (a' := 0) (b' := 0) [.int (nI v.1)] rfl rfl rfl ?_
        refine lx_ifN_ne F 64 (by omega) dX3_countPairs_56 rfl (fun h0 => ?_) (fun h0 => ?_)
        · skip
          refine lx_iconst F dX3_countPairs_64 kc_m1 ?_
          exact lx_iret F hR dX3_countPairs_65 ⟨by rw [← hl, lm_len_1 h2e h0]; rfl, rfl⟩
        · skip
          refine lx_iload F dX3_countPairs_59 3 rfl ?_
          refine lx_goto F 65 dX3_countPairs_61 rfl ?_
          exact lx_iret F hR dX3_countPairs_65 ⟨by rw [← hl, lm_len_0 h0]; rfl, rfl⟩
      · skip
        have hcv := lm_to_cl hw hv h2e
        refine lx_iinc F [(0, .ref x), (1, .long (en v0)), (3, .long (en v)), (5, .int (nI (m + 1)))] 3 [1, 2, 3, 0] dX3_countPairs_20 rfl (k_inc _) rfl (by decide) ?_
        refine lx_aload_n F dX3_countPairs_23 0 rfl ?_
        refine gf_X3_34 F 0 rfl rfl dX3_countPairs_24 ?_
        refine lx_aload_n F dX3_countPairs_27 0 rfl ?_
        refine gf_X3_34 F 0 rfl rfl dX3_countPairs_28 ?_
        refine lx_lload_n F dX3_countPairs_31 2 rfl ?_
        refine lx_cv F (zh_cellOf (xl E) K h ca co f g t c w u hw hh v hv h2e) cv_X3_87 1 rfl rfl [1, 2, 3] [0] [(x, .inr (3, [.ref ro, .ref k, .ref mt, .ref cn, .ref h, .ref h2, .int z]))] rfl rfl (by decide) rfl (st := [.ref h]) rfl (Nat.le_of_ble_eq_true rfl) (by decide) ⟨by decide, by decide⟩ dX3_countPairs_32 (fun v9 w9 h9 => ?_)
        obtain ⟨rfl, rfl⟩ := h9
        refine lx_perm [0, 1, 2, 3] [(x, .inr (3, [.ref ro, .ref k, .ref mt, .ref cn, .ref h, .ref h2, .int z])), (h, .inr (1, [.ref ca, .ref co, .int t])), (ca, aI K 120 f), (co, aJ K 120 g)] (by decide) rfl ?_
        refine lx_st (a' := 0) (b' := 0) [.int (nI (lm_to w v)), .ref h] rfl rfl rfl ?_
        refine lx_cv F (zh_restOf (xl E) K h ca co f g t c w u hw hh (lm_to w v) hcv) cv_X3_95 1 rfl rfl [1, 2, 3] [0] [(x, .inr (3, [.ref ro, .ref k, .ref mt, .ref cn, .ref h, .ref h2, .int z]))] rfl rfl (by decide) rfl (st := []) rfl (Nat.le_of_ble_eq_true rfl) (by decide) ⟨by decide, by decide⟩ dX3_countPairs_35 (fun v9 w9 h9 => ?_)
        obtain ⟨rfl, rfl⟩ := h9
        refine lx_perm [0, 1, 2, 3] [(x, .inr (3, [.ref ro, .ref k, .ref mt, .ref cn, .ref h, .ref h2, .int z])), (h, .inr (1, [.ref ca, .ref co, .int t])), (ca, aI K 120 f), (co, aJ K 120 g)] (by decide) rfl ?_
        refine lx_st (a' := 0) (b' := 0) [.long (en (lm_rest c w (lm_to w v)))] rfl rfl rfl ?_
        refine lx_lstore_n F [(0, .ref x), (1, .long (en v0)), (3, .long (en (lm_rest c w (lm_to w v)))), (5, .int (nI (m + 1)))] [1, 2, 0, 3] dX3_countPairs_38 rfl (by decide) ?_
        refine lx_goto F 5 dX3_countPairs_39 rfl ?_
        exact ih (m + 1) _ (by omega) (lm_rest_ok hw hcv) (by rw [← hl, lm_len_2 h2e])
  exact loop 121 0 v0 (by omega) hv0 rfl

set_option maxHeartbeats 4000000 in
set_option maxRecDepth 100000 in
theorem zl_countWords (l : Launch) (K : lm_G) (x ro k mt cn h2 : Nat) (z : Int32) (fc : Nat → Int32) (h ca co : Nat) (f : Nat → Int32) (g : Nat → Int64) (t : Int32) (c : Nat → Nat) (w : Nat → lm_V) (u : Nat) (hw : lm_wf c w u) (hh : lm_hf f g c w u) (v0 : lm_V) (hv0 : lm_ok c u v0) : lm_C l K mX3_countWords (rk 2) [.ref x, .long (en v0)] [(x, .inr (3, [.ref ro, .ref k, .ref mt, .ref cn, .ref h, .ref h2, .int z])), (cn, aI K 120 fc), (h, .inr (1, [.ref ca, .ref co, .int t])), (ca, aI K 120 f), (co, aJ K 120 g)] (fun v9 w9 => v9 = some (.int (nI (lm_wds c w 120 [] v0 0))) ∧ ∃ fc1 : Nat → Int32, w9 = [(x, .inr (3, [.ref ro, .ref k, .ref mt, .ref cn, .ref h, .ref h2, .int z])), (cn, aI K 120 fc1), (h, .inr (1, [.ref ca, .ref co, .int t])), (ca, aI K 120 f), (co, aJ K 120 g)]) := by
  refine lx_met RX3 pn_X3 rfl (Nat.le_of_ble_eq_true rfl) (fun E hE hnm F hR => ?_)
  have F : lx_F K 8 E cX3_countWords RX3 (some .int) (rk 2) := F
  show lx_W K 8 E 0 0 0 [(0, .ref x), (1, .long (en v0))] [] [(x, .inr (3, [.ref ro, .ref k, .ref mt, .ref cn, .ref h, .ref h2, .int z])), (cn, aI K 120 fc), (h, .inr (1, [.ref ca, .ref co, .int t])), (ca, aI K 120 f), (co, aJ K 120 g)]
  have hu := hw.1
  refine lx_aload_n F dX3_countWords_0 0 rfl ?_
  refine gf_X3_27 F 0 rfl rfl dX3_countWords_1 ?_
  refine lx_iconst F dX3_countWords_4 kc_0 ?_
  refine lx_cs F (zj_fill (xl E) K cn fc (nI 0)) cs_X3_190 [1] [0, 2, 3, 4] [(x, .inr (3, [.ref ro, .ref k, .ref mt, .ref cn, .ref h, .ref h2, .int z])), (h, .inr (1, [.ref ca, .ref co, .int t])), (ca, aI K 120 f), (co, aJ K 120 g)] rfl rfl (by decide) rfl (st := []) rfl (Nat.le_of_ble_eq_true rfl) (by decide) ⟨by decide, by decide⟩ dX3_countWords_5 (fun v9 w9 h9 => ?_)
  obtain ⟨rfl, fc0, hfc0, rfl⟩ := h9
  refine lx_perm [0, 4, 1, 2, 3] [(x, .inr (3, [.ref ro, .ref k, .ref mt, .ref cn, .ref h, .ref h2, .int z])), (cn, aI K 120 fc0), (h, .inr (1, [.ref ca, .ref co, .int t])), (ca, aI K 120 f), (co, aJ K 120 g)] (by decide) rfl ?_
  refine lx_st (a' := 0) (b' := 0) [] rfl rfl rfl ?_
  refine lx_lload_n F dX3_countWords_8 1 rfl ?_
  refine lx_lstore_n F [(0, .ref x), (1, .long (en v0)), (3, .long (en v0))] [1, 2, 0] dX3_countWords_9 rfl (by decide) ?_
  refine lx_iconst F dX3_countWords_10 kc_0 ?_
  refine lx_istore F [(0, .ref x), (1, .long (en v0)), (3, .long (en v0)), (5, .int (nI 0))] [1, 2, 3, 0] dX3_countWords_11 rfl (by decide) ?_
  refine lx_iconst F dX3_countWords_13 kc_0 ?_
  refine lx_istore F [(0, .ref x), (1, .long (en v0)), (3, .long (en v0)), (5, .int (nI 0)), (6, .int (nI 0))] [1, 2, 3, 4, 0] dX3_countWords_14 rfl (by decide) ?_
  have loop : ∀ (n9 : Nat) (i : Nat) (v : lm_V) (m : Nat) (S9 : List Nat) (fc1 : Nat → Int32), i + n9 = 120 → lm_ok c u v → (∀ p, p < 120 → fc1 p = nI (if p ∈ S9 then 1 else 0)) → lm_wds c w n9 S9 v m = lm_wds c w 120 [] v0 0 → m ≤ 3 * i → lx_W K 8 E 0 0 16 [(0, .ref x), (1, .long (en v0)), (3, .long (en v)), (5, .int (nI m)), (6, .int (nI i))] [] [(x, .inr (3, [.ref ro, .ref k, .ref mt, .ref cn, .ref h, .ref h2, .int z])), (cn, aI K 120 fc1), (h, .inr (1, [.ref ca, .ref co, .int t])), (ca, aI K 120 f), (co, aJ K 120 g)] := by
    intro n9
    induction n9 with
    | zero =>
      intro i v m S9 fc1 hi hv hfc hl hm3
      refine lx_iload F dX3_countWords_16 4 rfl ?_
      refine lx_bipush F dX3_countWords_18 kb_120 ?_
      refine lx_icmpN_ge F 114 (by omega) (by omega) dX3_countWords_20 rfl (fun _ => ?_) (fun h => absurd h (by omega))
      refine lx_iload F dX3_countWords_114 3 rfl ?_
      exact lx_iret F hR dX3_countWords_116 ⟨by rw [← hl]; rfl, _, rfl⟩
    | succ n9 ih =>
      intro i v m S9 fc1 hi hv hfc hl hm3
      have hv3 := lm_ok_kind hv
      refine lx_iload F dX3_countWords_16 4 rfl ?_
      refine lx_bipush F dX3_countWords_18 kb_120 ?_
      refine lx_icmpN_ge F 114 (by omega) (by omega) dX3_countWords_20 rfl (fun h => absurd h (by omega)) (fun _ => ?_)
      refine lx_lload_n F dX3_countWords_23 2 rfl ?_
      refine lx_cs F (zs_kindOf (xl E) K v (by omega)) cs_X3_118 [] [0, 1, 2, 3, 4] [(x, .inr (3, [.ref ro, .ref k, .ref mt, .ref cn, .ref h, .ref h2, .int z])), (cn, aI K 120 fc1), (h, .inr (1, [.ref ca, .ref co, .int t])), (ca, aI K 120 f), (co, aJ K 120 g)] rfl rfl (by decide) rfl (st := []) rfl (Nat.le_of_ble_eq_true rfl) (by decide) ⟨by decide, by decide⟩ dX3_countWords_24 (fun v9 w9 h9 => ?_)
      obtain ⟨rfl, rfl⟩ := h9
      refine lx_perm [0, 1, 2, 3, 4] [(x, .inr (3, [.ref ro, .ref k, .ref mt, .ref cn, .ref h, .ref h2, .int z])), (cn, aI K 120 fc1), (h, .inr (1, [.ref ca, .ref co, .int t])), (ca, aI K 120 f), (co, aJ K 120 g)] (by decide) rfl ?_
      refine lx_st (a' := 0) (b' := 0) [.int (nI v.1)] rfl rfl rfl ?_
      refine lx_iconst F dX3_countWords_27 kc_2 ?_
      refine lx_icmpN_ne F 114 (by omega) (by omega) dX3_countWords_28 rfl (fun h2e => ?_) (fun h2e => ?_)
      · skip
        refine lx_iload F dX3_countWords_114 3 rfl ?_
        exact lx_iret F hR dX3_countWords_116 ⟨by rw [← hl, lm_wds_no h2e], _, rfl⟩
      · skip
        have hcv := lm_to_cl hw hv h2e
        have hx : lm_to w v < 120 := Nat.lt_of_lt_of_le hcv.1 hu
        obtain ⟨q, hq, hqu, hk4, hiv, -⟩ := lm_cellOf_facts hw hv h2e
        refine lx_aload_n F dX3_countWords_31 0 rfl ?_
        refine gf_X3_34 F 0 rfl rfl dX3_countWords_32 ?_
        refine lx_lload_n F dX3_countWords_35 2 rfl ?_
        refine lx_cv F (zh_cellOf (xl E) K h ca co f g t c w u hw hh v hv h2e) cv_X3_87 2 rfl rfl [2, 3, 4] [0, 1] [(x, .inr (3, [.ref ro, .ref k, .ref mt, .ref cn, .ref h, .ref h2, .int z])), (cn, aI K 120 fc1)] rfl rfl (by decide) rfl (st := []) rfl (Nat.le_of_ble_eq_true rfl) (by decide) ⟨by decide, by decide⟩ dX3_countWords_36 (fun v9 w9 h9 => ?_)
        obtain ⟨rfl, rfl⟩ := h9
        refine lx_perm [0, 1, 2, 3, 4] [(x, .inr (3, [.ref ro, .ref k, .ref mt, .ref cn, .ref h, .ref h2, .int z])), (cn, aI K 120 fc1), (h, .inr (1, [.ref ca, .ref co, .int t])), (ca, aI K 120 f), (co, aJ K 120 g)] (by decide) rfl ?_
        refine lx_st (a' := 0) (b' := 0) [.int (nI (lm_to w v))] rfl rfl rfl ?_
        refine lx_istore F [(0, .ref x), (1, .long (en v0)), (3, .long (en v)), (5, .int (nI m)), (6, .int (nI i)), (7, .int (nI (lm_to w v)))] [1, 2, 3, 4, 5, 0] dX3_countWords_39 rfl (by decide) ?_
        by_cases hs : lm_to w v ∈ S9
        · skip
          refine lx_aload_n F dX3_countWords_41 0 rfl ?_
          refine gf_X3_27 F 0 rfl rfl dX3_countWords_42 ?_
          refine lx_iload F dX3_countWords_45 5 rfl ?_
          refine lx_iald F 1 (lm_to w v) dX3_countWords_47 rfl hx (by decide) ?_
          rw [show fc1 (lm_to w v) = nI 1 by rw [hfc _ hx, if_pos hs]]
          refine lx_iconst F dX3_countWords_48 kc_1 ?_
          refine lx_icmpN_ne F 55 (by omega) (by omega) dX3_countWords_49 rfl (fun h => absurd h (by omega)) (fun _ => ?_)
          refine lx_iload F dX3_countWords_52 3 rfl ?_
          exact lx_iret F hR dX3_countWords_54 ⟨by rw [← hl, lm_wds_old h2e hs], _, rfl⟩
        · skip
          refine lx_aload_n F dX3_countWords_41 0 rfl ?_
          refine gf_X3_27 F 0 rfl rfl dX3_countWords_42 ?_
          refine lx_iload F dX3_countWords_45 5 rfl ?_
          refine lx_iald F 1 (lm_to w v) dX3_countWords_47 rfl hx (by decide) ?_
          rw [show fc1 (lm_to w v) = nI 0 by rw [hfc _ hx, if_neg hs]]
          refine lx_iconst F dX3_countWords_48 kc_1 ?_
          refine lx_icmpN_ne F 55 (by omega) (by omega) dX3_countWords_49 rfl (fun _ => ?_) (fun h => absurd h (by omega))
          refine lx_aload_n F dX3_countWords_55 0 rfl ?_
          refine gf_X3_27 F 0 rfl rfl dX3_countWords_56 ?_
          refine lx_iload F dX3_countWords_59 5 rfl ?_
          refine lx_iconst F dX3_countWords_61 kc_1 ?_
          refine lx_iast F 1 (lm_to w v) [(x, .inr (3, [.ref ro, .ref k, .ref mt, .ref cn, .ref h, .ref h2, .int z])), (cn, aI K 120 (lm_up fc1 (lm_to w v) (nI 1))), (h, .inr (1, [.ref ca, .ref co, .int t])), (ca, aI K 120 f), (co, aJ K 120 g)] dX3_countWords_62 rfl hx (by decide) rfl ?_
          refine lx_iload F dX3_countWords_63 3 rfl ?_
          refine lx_aload_n F dX3_countWords_65 0 rfl ?_
          refine gf_X3_34 F 0 rfl rfl dX3_countWords_66 ?_
          refine lx_iload F dX3_countWords_69 5 rfl ?_
          have hc3 := hw.2.1 (lm_to w v) hcv.1
          refine lx_cv F (zh_codeAt (xl E) K h ca co f g t (lm_to w v) hx (nI (c (lm_to w v))) (hh _ hcv.1).1) cv_X3_106 2 rfl rfl [2, 3, 4] [0, 1] [(x, .inr (3, [.ref ro, .ref k, .ref mt, .ref cn, .ref h, .ref h2, .int z])), (cn, aI K 120 (lm_up fc1 (lm_to w v) (nI 1)))] rfl rfl (by decide) rfl (st := [.int (nI m)]) rfl (Nat.le_of_ble_eq_true rfl) (by decide) ⟨by decide, by decide⟩ dX3_countWords_71 (fun v9 w9 h9 => ?_)
          obtain ⟨rfl, rfl⟩ := h9
          refine lx_perm [0, 1, 2, 3, 4] [(x, .inr (3, [.ref ro, .ref k, .ref mt, .ref cn, .ref h, .ref h2, .int z])), (cn, aI K 120 (lm_up fc1 (lm_to w v) (nI 1))), (h, .inr (1, [.ref ca, .ref co, .int t])), (ca, aI K 120 f), (co, aJ K 120 g)] (by decide) rfl ?_
          refine lx_st (a' := 0) (b' := 0) [.int (nI (c (lm_to w v))), .int (nI m)] rfl rfl rfl ?_
          refine lx_iconst F dX3_countWords_74 kc_2 ?_
          refine lx_icmpN_ne F 82 (by omega) (by omega) dX3_countWords_75 rfl (fun h5 => ?_) (fun h5 => ?_)
          · skip
            refine lx_iconst F dX3_countWords_82 kc_1 ?_
            refine lx_iadd F dX3_countWords_83 (nI_add _ _) ?_
            refine lx_istore F [(0, .ref x), (1, .long (en v0)), (3, .long (en v)), (5, .int (nI (m + 1))), (6, .int (nI i)), (7, .int (nI (lm_to w v)))] [1, 2, 3, 0, 4, 5] dX3_countWords_84 rfl (by decide) ?_
            refine lx_iload F dX3_countWords_86 5 rfl ?_
            refine lx_lload_n F dX3_countWords_88 2 rfl ?_
            refine lx_cs F (zs_placeOf (xl E) K v q hiv hq (by omega)) cs_X3_196 [] [0, 1, 2, 3, 4] [(x, .inr (3, [.ref ro, .ref k, .ref mt, .ref cn, .ref h, .ref h2, .int z])), (cn, aI K 120 (lm_up fc1 (lm_to w v) (nI 1))), (h, .inr (1, [.ref ca, .ref co, .int t])), (ca, aI K 120 f), (co, aJ K 120 g)] rfl rfl (by decide) rfl (st := [.int (nI (lm_to w v))]) rfl (Nat.le_of_ble_eq_true rfl) (by decide) ⟨by decide, by decide⟩ dX3_countWords_89 (fun v9 w9 h9 => ?_)
            obtain ⟨rfl, rfl⟩ := h9
            refine lx_perm [0, 1, 2, 3, 4] [(x, .inr (3, [.ref ro, .ref k, .ref mt, .ref cn, .ref h, .ref h2, .int z])), (cn, aI K 120 (lm_up fc1 (lm_to w v) (nI 1))), (h, .inr (1, [.ref ca, .ref co, .int t])), (ca, aI K 120 f), (co, aJ K 120 g)] (by decide) rfl ?_
            refine lx_st (a' := 0) (b' := 0) [.int (nI q), .int (nI (lm_to w v))] rfl rfl rfl ?_
            refine lx_icmpN_eq F 98 (by omega) (by omega) dX3_countWords_92 rfl (fun h6 => ?_) (fun h6 => ?_)
            · skip
              refine lx_aload_n F dX3_countWords_98 0 rfl ?_
              refine gf_X3_34 F 0 rfl rfl dX3_countWords_99 ?_
              refine lx_iload F dX3_countWords_102 5 rfl ?_
              refine lx_cv F (zh_restOf (xl E) K h ca co f g t c w u hw hh (lm_to w v) hcv) cv_X3_95 2 rfl rfl [2, 3, 4] [0, 1] [(x, .inr (3, [.ref ro, .ref k, .ref mt, .ref cn, .ref h, .ref h2, .int z])), (cn, aI K 120 (lm_up fc1 (lm_to w v) (nI 1)))] rfl rfl (by decide) rfl (st := []) rfl (Nat.le_of_ble_eq_true rfl) (by decide) ⟨by decide, by decide⟩ dX3_countWords_104 (fun v9 w9 h9 => ?_)
              obtain ⟨rfl, rfl⟩ := h9
              refine lx_perm [0, 1, 2, 3, 4] [(x, .inr (3, [.ref ro, .ref k, .ref mt, .ref cn, .ref h, .ref h2, .int z])), (cn, aI K 120 (lm_up fc1 (lm_to w v) (nI 1))), (h, .inr (1, [.ref ca, .ref co, .int t])), (ca, aI K 120 f), (co, aJ K 120 g)] (by decide) rfl ?_
              refine lx_st (a' := 0) (b' := 0) [.long (en (lm_rest c w (lm_to w v)))] rfl rfl rfl ?_
              refine lx_lstore_n F [(0, .ref x), (1, .long (en v0)), (3, .long (en (lm_rest c w (lm_to w v)))), (5, .int (nI (m + 1))), (6, .int (nI i)), (7, .int (nI (lm_to w v)))] [1, 2, 0, 3, 4, 5] dX3_countWords_107 rfl (by decide) ?_
              refine lx_iinc F [(0, .ref x), (1, .long (en v0)), (3, .long (en (lm_rest c w (lm_to w v)))), (5, .int (nI (m + 1))), (6, .int (nI (i + 1))), (7, .int (nI (lm_to w v)))] 4 [1, 2, 3, 4, 0, 5] dX3_countWords_108 rfl (k_inc _) rfl (by decide) ?_
              refine lx_goto F 16 dX3_countWords_111 rfl ?_
              refine lx_lv [0, 1, 2, 3, 4] [(0, .ref x), (1, .long (en v0)), (3, .long (en (lm_rest c w (lm_to w v)))), (5, .int (nI (m + 1))), (6, .int (nI (i + 1)))] rfl ?_
              exact ih (i + 1) (lm_rest c w (lm_to w v)) _ (lm_to w v :: S9) _ (by omega) (lm_rest_ok hw hcv) (lm_up_mem hfc) (by rw [← hl, lm_wds_new h2e hs, if_neg h5, if_pos (show lm_to w v = v.2.toNat by omega)]) (by omega)
            · skip
              refine lx_iinc F [(0, .ref x), (1, .long (en v0)), (3, .long (en v)), (5, .int (nI (m + 1 + 1))), (6, .int (nI i)), (7, .int (nI (lm_to w v)))] 3 [1, 2, 3, 0, 4, 5] dX3_countWords_95 rfl (k_inc _) rfl (by decide) ?_
              refine lx_aload_n F dX3_countWords_98 0 rfl ?_
              refine gf_X3_34 F 0 rfl rfl dX3_countWords_99 ?_
              refine lx_iload F dX3_countWords_102 5 rfl ?_
              refine lx_cv F (zh_restOf (xl E) K h ca co f g t c w u hw hh (lm_to w v) hcv) cv_X3_95 2 rfl rfl [2, 3, 4] [0, 1] [(x, .inr (3, [.ref ro, .ref k, .ref mt, .ref cn, .ref h, .ref h2, .int z])), (cn, aI K 120 (lm_up fc1 (lm_to w v) (nI 1)))] rfl rfl (by decide) rfl (st := []) rfl (Nat.le_of_ble_eq_true rfl) (by decide) ⟨by decide, by decide⟩ dX3_countWords_104 (fun v9 w9 h9 => ?_)
              obtain ⟨rfl, rfl⟩ := h9
              refine lx_perm [0, 1, 2, 3, 4] [(x, .inr (3, [.ref ro, .ref k, .ref mt, .ref cn, .ref h, .ref h2, .int z])), (cn, aI K 120 (lm_up fc1 (lm_to w v) (nI 1))), (h, .inr (1, [.ref ca, .ref co, .int t])), (ca, aI K 120 f), (co, aJ K 120 g)] (by decide) rfl ?_
              refine lx_st (a' := 0) (b' := 0) [.long (en (lm_rest c w (lm_to w v)))] rfl rfl rfl ?_
              refine lx_lstore_n F [(0, .ref x), (1, .long (en v0)), (3, .long (en (lm_rest c w (lm_to w v)))), (5, .int (nI (m + 1 + 1))), (6, .int (nI i)), (7, .int (nI (lm_to w v)))] [1, 2, 0, 3, 4, 5] dX3_countWords_107 rfl (by decide) ?_
              refine lx_iinc F [(0, .ref x), (1, .long (en v0)), (3, .long (en (lm_rest c w (lm_to w v)))), (5, .int (nI (m + 1 + 1))), (6, .int (nI (i + 1))), (7, .int (nI (lm_to w v)))] 4 [1, 2, 3, 4, 0, 5] dX3_countWords_108 rfl (k_inc _) rfl (by decide) ?_
              refine lx_goto F 16 dX3_countWords_111 rfl ?_
              refine lx_lv [0, 1, 2, 3, 4] [(0, .ref x), (1, .long (en v0)), (3, .long (en (lm_rest c w (lm_to w v)))), (5, .int (nI (m + 1 + 1))), (6, .int (nI (i + 1)))] rfl ?_
              exact ih (i + 1) (lm_rest c w (lm_to w v)) _ (lm_to w v :: S9) _ (by omega) (lm_rest_ok hw hcv) (lm_up_mem hfc) (by rw [← hl, lm_wds_new h2e hs, if_neg h5, if_neg (show ¬ lm_to w v = v.2.toNat by omega)]) (by omega)
          · skip
            refine lx_iconst F dX3_countWords_78 kc_2 ?_
            refine lx_goto F 83 dX3_countWords_79 rfl ?_
            refine lx_iadd F dX3_countWords_83 (nI_add _ _) ?_
            refine lx_istore F [(0, .ref x), (1, .long (en v0)), (3, .long (en v)), (5, .int (nI (m + 2))), (6, .int (nI i)), (7, .int (nI (lm_to w v)))] [1, 2, 3, 0, 4, 5] dX3_countWords_84 rfl (by decide) ?_
            refine lx_iload F dX3_countWords_86 5 rfl ?_
            refine lx_lload_n F dX3_countWords_88 2 rfl ?_
            refine lx_cs F (zs_placeOf (xl E) K v q hiv hq (by omega)) cs_X3_196 [] [0, 1, 2, 3, 4] [(x, .inr (3, [.ref ro, .ref k, .ref mt, .ref cn, .ref h, .ref h2, .int z])), (cn, aI K 120 (lm_up fc1 (lm_to w v) (nI 1))), (h, .inr (1, [.ref ca, .ref co, .int t])), (ca, aI K 120 f), (co, aJ K 120 g)] rfl rfl (by decide) rfl (st := [.int (nI (lm_to w v))]) rfl (Nat.le_of_ble_eq_true rfl) (by decide) ⟨by decide, by decide⟩ dX3_countWords_89 (fun v9 w9 h9 => ?_)
            obtain ⟨rfl, rfl⟩ := h9
            refine lx_perm [0, 1, 2, 3, 4] [(x, .inr (3, [.ref ro, .ref k, .ref mt, .ref cn, .ref h, .ref h2, .int z])), (cn, aI K 120 (lm_up fc1 (lm_to w v) (nI 1))), (h, .inr (1, [.ref ca, .ref co, .int t])), (ca, aI K 120 f), (co, aJ K 120 g)] (by decide) rfl ?_
            refine lx_st (a' := 0) (b' := 0) [.int (nI q), .int (nI (lm_to w v))] rfl rfl rfl ?_
            refine lx_icmpN_eq F 98 (by omega) (by omega) dX3_countWords_92 rfl (fun h6 => ?_) (fun h6 => ?_)
            · skip
              refine lx_aload_n F dX3_countWords_98 0 rfl ?_
              refine gf_X3_34 F 0 rfl rfl dX3_countWords_99 ?_
              refine lx_iload F dX3_countWords_102 5 rfl ?_
              refine lx_cv F (zh_restOf (xl E) K h ca co f g t c w u hw hh (lm_to w v) hcv) cv_X3_95 2 rfl rfl [2, 3, 4] [0, 1] [(x, .inr (3, [.ref ro, .ref k, .ref mt, .ref cn, .ref h, .ref h2, .int z])), (cn, aI K 120 (lm_up fc1 (lm_to w v) (nI 1)))] rfl rfl (by decide) rfl (st := []) rfl (Nat.le_of_ble_eq_true rfl) (by decide) ⟨by decide, by decide⟩ dX3_countWords_104 (fun v9 w9 h9 => ?_)
              obtain ⟨rfl, rfl⟩ := h9
              refine lx_perm [0, 1, 2, 3, 4] [(x, .inr (3, [.ref ro, .ref k, .ref mt, .ref cn, .ref h, .ref h2, .int z])), (cn, aI K 120 (lm_up fc1 (lm_to w v) (nI 1))), (h, .inr (1, [.ref ca, .ref co, .int t])), (ca, aI K 120 f), (co, aJ K 120 g)] (by decide) rfl ?_
              refine lx_st (a' := 0) (b' := 0) [.long (en (lm_rest c w (lm_to w v)))] rfl rfl rfl ?_
              refine lx_lstore_n F [(0, .ref x), (1, .long (en v0)), (3, .long (en (lm_rest c w (lm_to w v)))), (5, .int (nI (m + 2))), (6, .int (nI i)), (7, .int (nI (lm_to w v)))] [1, 2, 0, 3, 4, 5] dX3_countWords_107 rfl (by decide) ?_
              refine lx_iinc F [(0, .ref x), (1, .long (en v0)), (3, .long (en (lm_rest c w (lm_to w v)))), (5, .int (nI (m + 2))), (6, .int (nI (i + 1))), (7, .int (nI (lm_to w v)))] 4 [1, 2, 3, 4, 0, 5] dX3_countWords_108 rfl (k_inc _) rfl (by decide) ?_
              refine lx_goto F 16 dX3_countWords_111 rfl ?_
              refine lx_lv [0, 1, 2, 3, 4] [(0, .ref x), (1, .long (en v0)), (3, .long (en (lm_rest c w (lm_to w v)))), (5, .int (nI (m + 2))), (6, .int (nI (i + 1)))] rfl ?_
              exact ih (i + 1) (lm_rest c w (lm_to w v)) _ (lm_to w v :: S9) _ (by omega) (lm_rest_ok hw hcv) (lm_up_mem hfc) (by rw [← hl, lm_wds_new h2e hs, if_pos h5, if_pos (show lm_to w v = v.2.toNat by omega)]) (by omega)
            · skip
              refine lx_iinc F [(0, .ref x), (1, .long (en v0)), (3, .long (en v)), (5, .int (nI (m + 2 + 1))), (6, .int (nI i)), (7, .int (nI (lm_to w v)))] 3 [1, 2, 3, 0, 4, 5] dX3_countWords_95 rfl (k_inc _) rfl (by decide) ?_
              refine lx_aload_n F dX3_countWords_98 0 rfl ?_
              refine gf_X3_34 F 0 rfl rfl dX3_countWords_99 ?_
              refine lx_iload F dX3_countWords_102 5 rfl ?_
              refine lx_cv F (zh_restOf (xl E) K h ca co f g t c w u hw hh (lm_to w v) hcv) cv_X3_95 2 rfl rfl [2, 3, 4] [0, 1] [(x, .inr (3, [.ref ro, .ref k, .ref mt, .ref cn, .ref h, .ref h2, .int z])), (cn, aI K 120 (lm_up fc1 (lm_to w v) (nI 1)))] rfl rfl (by decide) rfl (st := []) rfl (Nat.le_of_ble_eq_true rfl) (by decide) ⟨by decide, by decide⟩ dX3_countWords_104 (fun v9 w9 h9 => ?_)
              obtain ⟨rfl, rfl⟩ := h9
              refine lx_perm [0, 1, 2, 3, 4] [(x, .inr (3, [.ref ro, .ref k, .ref mt, .ref cn, .ref h, .ref h2, .int z])), (cn, aI K 120 (lm_up fc1 (lm_to w v) (nI 1))), (h, .inr (1, [.ref ca, .ref co, .int t])), (ca, aI K 120 f), (co, aJ K 120 g)] (by decide) rfl ?_
              refine lx_st (a' := 0) (b' := 0) [.long (en (lm_rest c w (lm_to w v)))] rfl rfl rfl ?_
              refine lx_lstore_n F [(0, .ref x), (1, .long (en v0)), (3, .long (en (lm_rest c w (lm_to w v)))), (5, .int (nI (m + 2 + 1))), (6, .int (nI i)), (7, .int (nI (lm_to w v)))] [1, 2, 0, 3, 4, 5] dX3_countWords_107 rfl (by decide) ?_
              refine lx_iinc F [(0, .ref x), (1, .long (en v0)), (3, .long (en (lm_rest c w (lm_to w v)))), (5, .int (nI (m + 2 + 1))), (6, .int (nI (i + 1))), (7, .int (nI (lm_to w v)))] 4 [1, 2, 3, 4, 0, 5] dX3_countWords_108 rfl (k_inc _) rfl (by decide) ?_
              refine lx_goto F 16 dX3_countWords_111 rfl ?_
              refine lx_lv [0, 1, 2, 3, 4] [(0, .ref x), (1, .long (en v0)), (3, .long (en (lm_rest c w (lm_to w v)))), (5, .int (nI (m + 2 + 1))), (6, .int (nI (i + 1)))] rfl ?_
              exact ih (i + 1) (lm_rest c w (lm_to w v)) _ (lm_to w v :: S9) _ (by omega) (lm_rest_ok hw hcv) (lm_up_mem hfc) (by rw [← hl, lm_wds_new h2e hs, if_pos h5, if_neg (show ¬ lm_to w v = v.2.toNat by omega)]) (by omega)
  exact loop 120 0 v0 0 [] fc0 (by omega) hv0 (fun p hp => by rw [hfc0 p hp]; rfl) rfl (by omega)

set_option maxHeartbeats 4000000 in
set_option maxRecDepth 100000 in
theorem zl_about (l : Launch) (K : lm_G) (x ro k mt cn h2 : Nat) (z : Int32) (h ca co : Nat) (f : Nat → Int32) (g : Nat → Int64) (c : Nat → Nat) (w : Nat → lm_V) (u : Nat) (hw : lm_wf c w u) (hh : lm_hf f g c w u) (what : Int32) : lm_C l K mX3_about (rk 2) [.ref x, .int what] [(x, .inr (3, [.ref ro, .ref k, .ref mt, .ref cn, .ref h, .ref h2, .int z])), (h, .inr (1, [.ref ca, .ref co, .int (nI u)])), (ca, aI K 120 f), (co, aJ K 120 g)] (fun v9 w9 => v9 = some (.int (lm_ab w u z what)) ∧ w9 = [(x, .inr (3, [.ref ro, .ref k, .ref mt, .ref cn, .ref h, .ref h2, .int z])), (h, .inr (1, [.ref ca, .ref co, .int (nI u)])), (ca, aI K 120 f), (co, aJ K 120 g)]) := by
  refine lx_met RX3 pn_X3 rfl (Nat.le_of_ble_eq_true rfl) (fun E hE hnm F hR => ?_)
  have F : lx_F K 2 E cX3_about RX3 (some .int) (rk 2) := F
  show lx_W K 2 E 0 0 0 [(0, .ref x), (1, .int what)] [] [(x, .inr (3, [.ref ro, .ref k, .ref mt, .ref cn, .ref h, .ref h2, .int z])), (h, .inr (1, [.ref ca, .ref co, .int (nI u)])), (ca, aI K 120 f), (co, aJ K 120 g)]
  refine lx_iload_n F dX3_about_0 1 rfl ?_
  by_cases hb : what.toInt < 0 ∨ 2 < what.toInt
  · skip
    refine lx_tableOut F 49 dX3_about_1 hb rfl ?_
    refine lx_iconst F dX3_about_49 kc_m1 ?_
    exact lx_iret F hR dX3_about_50 ⟨by rw [lm_ab_o hb], rfl⟩
  · skip
    rcases (show what.toInt = 0 ∨ what.toInt = 1 ∨ what.toInt = 2 by omega) with h0 | h0 | h0
    · skip
      refine lx_tableIn F 28 dX3_about_1 (by omega) (by omega) (by rw [h0]; rfl) rfl ?_
      refine lx_aload_n F dX3_about_28 0 rfl ?_
      refine gf_X3_34 F 0 rfl rfl dX3_about_29 ?_
      refine gf_X3_77 F 1 rfl rfl dX3_about_32 ?_
      exact lx_iret F hR dX3_about_35 ⟨by rw [lm_ab_0 h0], rfl⟩
    · skip
      refine lx_tableIn F 36 dX3_about_1 (by omega) (by omega) (by rw [h0]; rfl) rfl ?_
      refine lx_aload_n F dX3_about_36 0 rfl ?_
      refine gf_X3_34 F 0 rfl rfl dX3_about_37 ?_
      refine lx_cv F (zh_countMoved (xl E) K h ca co f g c w u hw hh) cv_X3_141 1 rfl rfl [1, 2, 3] [0] [(x, .inr (3, [.ref ro, .ref k, .ref mt, .ref cn, .ref h, .ref h2, .int z]))] rfl rfl (by decide) rfl (st := []) rfl (Nat.le_of_ble_eq_true rfl) (by decide) ⟨by decide, by decide⟩ dX3_about_40 (fun v9 w9 h9 => ?_)
      obtain ⟨rfl, rfl⟩ := h9
      refine lx_perm [0, 1, 2, 3] [(x, .inr (3, [.ref ro, .ref k, .ref mt, .ref cn, .ref h, .ref h2, .int z])), (h, .inr (1, [.ref ca, .ref co, .int (nI u)])), (ca, aI K 120 f), (co, aJ K 120 g)] (by decide) rfl ?_
      refine lx_st (a' := 0) (b' := 0) [.int (nI (lm_cnt w u))] rfl rfl rfl ?_
      exact lx_iret F hR dX3_about_43 ⟨by rw [lm_ab_1 h0], rfl⟩
    · skip
      refine lx_tableIn F 44 dX3_about_1 (by omega) (by omega) (by rw [h0]; rfl) rfl ?_
      refine lx_aload_n F dX3_about_44 0 rfl ?_
      refine gf_X3_41 F 0 rfl rfl dX3_about_45 ?_
      exact lx_iret F hR dX3_about_48 ⟨by rw [lm_ab_2 h0], rfl⟩

set_option maxHeartbeats 4000000 in
set_option maxRecDepth 100000 in
theorem zl_makeCollection (l : Launch) (K : lm_G) (x ro k mt cn : Nat) (z : Int32) (l0 il ir np : Nat) (fl fi fr fn : Nat → Int32) (gr : Nat → Int64) (mn : Int32) (h ca co : Nat) (f : Nat → Int32) (g : Nat → Int64) (t : Int32) (h2 ca2 co2 : Nat) (f2 : Nat → Int32) (g2 : Nat → Int64) (t2 : Int32) (c : Nat → Nat) (w : Nat → lm_V) (u : Nat) (rt : Nat → lm_V) (hst : lm_st c w u rt) (hh : lm_hf f g c w u) (hro : ∀ r, r < 10 → gr r = en (rt r)) : lm_C l K mX3_makeCollection (rk 4) [.ref x] [(x, .inr (3, [.ref ro, .ref k, .ref mt, .ref cn, .ref h, .ref h2, .int z])), (ro, aJ K 10 gr), (k, .inr (0, [.ref l0, .ref il, .ref ir, .ref np, .int mn])), (l0, aI K 120 fl), (il, aI K 120 fi), (ir, aI K 120 fr), (np, aI K 120 fn), (h, .inr (1, [.ref ca, .ref co, .int t])), (ca, aI K 120 f), (co, aJ K 120 g), (h2, .inr (1, [.ref ca2, .ref co2, .int t2])), (ca2, aI K 120 f2), (co2, aJ K 120 g2)] (fun v9 w9 => v9 = none ∧ ∃ (gr1 : Nat → Int64) (fl1 fi1 fr1 fn1 : Nat → Int32) (mn1 : Int32) (f3 : Nat → Int32) (g3 : Nat → Int64), lm_hf f3 g3 (lm_gc c w rt) (lm_gw c w rt) (lm_gu c w rt) ∧ (∀ r, r < 10 → gr1 r = en (lm_gr c w rt r)) ∧ w9 = [(x, .inr (3, [.ref ro, .ref k, .ref mt, .ref cn, .ref h2, .ref h, .int (z + nI 1)])), (ro, aJ K 10 gr1), (k, .inr (0, [.ref l0, .ref il, .ref ir, .ref np, .int mn1])), (l0, aI K 120 fl1), (il, aI K 120 fi1), (ir, aI K 120 fr1), (np, aI K 120 fn1), (h2, .inr (1, [.ref ca2, .ref co2, .int (nI (lm_gu c w rt))])), (ca2, aI K 120 f3), (co2, aJ K 120 g3), (h, .inr (1, [.ref ca, .ref co, .int t])), (ca, aI K 120 f), (co, aJ K 120 g)]) := by
  refine lx_met RX3 pn_X3 rfl (Nat.le_of_ble_eq_true rfl) (fun E hE hnm F hR => ?_)
  have F : lx_F K 2 E cX3_makeCollection RX3 none (rk 4) := F
  show lx_W K 2 E 0 0 0 [(0, .ref x)] [] [(x, .inr (3, [.ref ro, .ref k, .ref mt, .ref cn, .ref h, .ref h2, .int z])), (ro, aJ K 10 gr), (k, .inr (0, [.ref l0, .ref il, .ref ir, .ref np, .int mn])), (l0, aI K 120 fl), (il, aI K 120 fi), (ir, aI K 120 fr), (np, aI K 120 fn), (h, .inr (1, [.ref ca, .ref co, .int t])), (ca, aI K 120 f), (co, aJ K 120 g), (h2, .inr (1, [.ref ca2, .ref co2, .int t2])), (ca2, aI K 120 f2), (co2, aJ K 120 g2)]
  have hw := hst.1
  have hr := hst.2
  have hu := hw.1
  obtain ⟨hL, hroot, hcl⟩ := lm_list_spec hw hr
  obtain ⟨l1, l2, l6, l7⟩ := lm_laid_spec hw hL hcl
  have hlen2 : (lm_laid c w (lm_list c w rt)).2.length ≤ 120 := Nat.le_trans l7 hu
  have hlen1 : (lm_phase c w (lm_list c w rt) true (fun _ => none, []) (lm_list c w rt).length).2.length ≤ 120 := Nat.le_trans (lm_phase_len (c := c) (w := w) (L := (lm_list c w rt)) (hd := false) (s := lm_phase c w (lm_list c w rt) true (fun _ => none, []) (lm_list c w rt).length) (lm_list c w rt).length 0 (by omega)) hlen2
  have hsb0 : lm_sb (fun _ => none, []) := fun q n hq => by cases hq
  have hsb1 := lm_phase_b (c := c) (w := w) (L := (lm_list c w rt)) (hd := true) hsb0 (lm_list c w rt).length hlen1
  refine lx_aload_n F dX3_makeCollection_0 0 rfl ?_
  refine gf_X3_38 F 0 rfl rfl dX3_makeCollection_1 ?_
  refine lx_cv F (zh_clear (xl E) K h2 ca2 co2 f2 g2 t2) cv_X3_175 10 rfl rfl [10, 11, 12] [0, 1, 2, 3, 4, 5, 6, 7, 8, 9] [(x, .inr (3, [.ref ro, .ref k, .ref mt, .ref cn, .ref h, .ref h2, .int z])), (ro, aJ K 10 gr), (k, .inr (0, [.ref l0, .ref il, .ref ir, .ref np, .int mn])), (l0, aI K 120 fl), (il, aI K 120 fi), (ir, aI K 120 fr), (np, aI K 120 fn), (h, .inr (1, [.ref ca, .ref co, .int t])), (ca, aI K 120 f), (co, aJ K 120 g)] rfl rfl (by decide) rfl (st := []) rfl (Nat.le_of_ble_eq_true rfl) (by decide) ⟨by decide, by decide⟩ dX3_makeCollection_4 (fun v9 w9 h9 => ?_)
  obtain ⟨rfl, rfl⟩ := h9
  refine lx_perm [0, 1, 2, 3, 4, 5, 6, 7, 8, 9, 10, 11, 12] [(x, .inr (3, [.ref ro, .ref k, .ref mt, .ref cn, .ref h, .ref h2, .int z])), (ro, aJ K 10 gr), (k, .inr (0, [.ref l0, .ref il, .ref ir, .ref np, .int mn])), (l0, aI K 120 fl), (il, aI K 120 fi), (ir, aI K 120 fr), (np, aI K 120 fn), (h, .inr (1, [.ref ca, .ref co, .int t])), (ca, aI K 120 f), (co, aJ K 120 g), (h2, .inr (1, [.ref ca2, .ref co2, .int (nI 0)])), (ca2, aI K 120 f2), (co2, aJ K 120 g2)] (by decide) rfl ?_
  refine lx_st (a' := 0) (b' := 0) [] rfl rfl rfl ?_
  refine lx_aload_n F dX3_makeCollection_7 0 rfl ?_
  refine gf_X3_16 F 0 rfl rfl dX3_makeCollection_8 ?_
  refine lx_aload_n F dX3_makeCollection_11 0 rfl ?_
  refine gf_X3_34 F 0 rfl rfl dX3_makeCollection_12 ?_
  refine lx_aload_n F dX3_makeCollection_15 0 rfl ?_
  refine gf_X3_9 F 0 rfl rfl dX3_makeCollection_16 ?_
  refine lx_cv F (zk_listReached (xl E) K k l0 il ir np ro fl fi fr fn gr mn h ca co f g t c w u hw hh rt hr hro) cv_X3_178 2 rfl rfl [2, 3, 4, 5, 6, 7, 8, 9, 1] [0, 10, 11, 12] [(x, .inr (3, [.ref ro, .ref k, .ref mt, .ref cn, .ref h, .ref h2, .int z])), (h2, .inr (1, [.ref ca2, .ref co2, .int (nI 0)])), (ca2, aI K 120 f2), (co2, aJ K 120 g2)] rfl rfl (by decide) rfl (st := []) rfl (Nat.le_of_ble_eq_true rfl) (by decide) ⟨by decide, by decide⟩ dX3_makeCollection_19 (fun v9 w9 h9 => ?_)
  obtain ⟨rfl, fl1, fi1, fr1, fn1, hls, hfr1, hfn1, rfl⟩ := h9
  refine lx_perm [0, 12, 4, 5, 6, 7, 8, 9, 10, 11, 1, 2, 3] [(x, .inr (3, [.ref ro, .ref k, .ref mt, .ref cn, .ref h, .ref h2, .int z])), (ro, aJ K 10 gr), (k, .inr (0, [.ref l0, .ref il, .ref ir, .ref np, .int (nI ((lm_list c w rt).length))])), (l0, aI K 120 fl1), (il, aI K 120 fi1), (ir, aI K 120 fr1), (np, aI K 120 fn1), (h, .inr (1, [.ref ca, .ref co, .int t])), (ca, aI K 120 f), (co, aJ K 120 g), (h2, .inr (1, [.ref ca2, .ref co2, .int (nI 0)])), (ca2, aI K 120 f2), (co2, aJ K 120 g2)] (by decide) rfl ?_
  refine lx_st (a' := 0) (b' := 0) [] rfl rfl rfl ?_
  refine lx_aload_n F dX3_makeCollection_22 0 rfl ?_
  refine gf_X3_16 F 0 rfl rfl dX3_makeCollection_23 ?_
  refine lx_aload_n F dX3_makeCollection_26 0 rfl ?_
  refine gf_X3_34 F 0 rfl rfl dX3_makeCollection_27 ?_
  refine lx_aload_n F dX3_makeCollection_30 0 rfl ?_
  refine gf_X3_38 F 0 rfl rfl dX3_makeCollection_31 ?_
  refine lx_iconst F dX3_makeCollection_34 kc_1 ?_
  have hos0 : lm_os fn1 f2 g2 (fun _ => none, []) := ⟨hfn1, fun j hj => by simp at hj⟩
  refine lx_cv F (zk_layListed (xl E) K k l0 il ir np fl1 fr1 fn1 h ca co f g t h2 ca2 co2 f2 g2 c w u hw hh (lm_list c w rt) hL hls.1 hfr1 true (fun _ => none, []) hsb0 hos0 hlen1) cv_X3_182 2 rfl rfl [2, 3, 5, 6, 7, 8, 9, 10, 11, 12] [0, 1, 4] [(x, .inr (3, [.ref ro, .ref k, .ref mt, .ref cn, .ref h, .ref h2, .int z])), (ro, aJ K 10 gr), (il, aI K 120 fi1)] rfl rfl (by decide) rfl (st := []) rfl (Nat.le_of_ble_eq_true rfl) (by decide) ⟨by decide, by decide⟩ dX3_makeCollection_35 (fun v9 w9 h9 => ?_)
  obtain ⟨rfl, fn2, f3, g3, hos1, rfl⟩ := h9
  refine lx_perm [0, 1, 3, 4, 2, 5, 6, 7, 8, 9, 10, 11, 12] [(x, .inr (3, [.ref ro, .ref k, .ref mt, .ref cn, .ref h, .ref h2, .int z])), (ro, aJ K 10 gr), (k, .inr (0, [.ref l0, .ref il, .ref ir, .ref np, .int (nI ((lm_list c w rt).length))])), (l0, aI K 120 fl1), (il, aI K 120 fi1), (ir, aI K 120 fr1), (np, aI K 120 fn2), (h, .inr (1, [.ref ca, .ref co, .int t])), (ca, aI K 120 f), (co, aJ K 120 g), (h2, .inr (1, [.ref ca2, .ref co2, .int (nI ((lm_phase c w (lm_list c w rt) true (fun _ => none, []) (lm_list c w rt).length).2.length))])), (ca2, aI K 120 f3), (co2, aJ K 120 g3)] (by decide) rfl ?_
  refine lx_st (a' := 0) (b' := 0) [] rfl rfl rfl ?_
  refine lx_aload_n F dX3_makeCollection_38 0 rfl ?_
  refine gf_X3_16 F 0 rfl rfl dX3_makeCollection_39 ?_
  refine lx_aload_n F dX3_makeCollection_42 0 rfl ?_
  refine gf_X3_34 F 0 rfl rfl dX3_makeCollection_43 ?_
  refine lx_aload_n F dX3_makeCollection_46 0 rfl ?_
  refine gf_X3_38 F 0 rfl rfl dX3_makeCollection_47 ?_
  refine lx_iconst F dX3_makeCollection_50 kc_0 ?_
  refine lx_cv F (zk_layListed (xl E) K k l0 il ir np fl1 fr1 fn2 h ca co f g t h2 ca2 co2 f3 g3 c w u hw hh (lm_list c w rt) hL hls.1 hfr1 false (lm_phase c w (lm_list c w rt) true (fun _ => none, []) (lm_list c w rt).length) hsb1 hos1 hlen2) cv_X3_182 2 rfl rfl [2, 3, 5, 6, 7, 8, 9, 10, 11, 12] [0, 1, 4] [(x, .inr (3, [.ref ro, .ref k, .ref mt, .ref cn, .ref h, .ref h2, .int z])), (ro, aJ K 10 gr), (il, aI K 120 fi1)] rfl rfl (by decide) rfl (st := []) rfl (Nat.le_of_ble_eq_true rfl) (by decide) ⟨by decide, by decide⟩ dX3_makeCollection_51 (fun v9 w9 h9 => ?_)
  obtain ⟨rfl, fn3, f4, g4, hos2, rfl⟩ := h9
  refine lx_perm [0, 1, 3, 4, 2, 5, 6, 7, 8, 9, 10, 11, 12] [(x, .inr (3, [.ref ro, .ref k, .ref mt, .ref cn, .ref h, .ref h2, .int z])), (ro, aJ K 10 gr), (k, .inr (0, [.ref l0, .ref il, .ref ir, .ref np, .int (nI ((lm_list c w rt).length))])), (l0, aI K 120 fl1), (il, aI K 120 fi1), (ir, aI K 120 fr1), (np, aI K 120 fn3), (h, .inr (1, [.ref ca, .ref co, .int t])), (ca, aI K 120 f), (co, aJ K 120 g), (h2, .inr (1, [.ref ca2, .ref co2, .int (nI ((lm_laid c w (lm_list c w rt)).2.length))])), (ca2, aI K 120 f4), (co2, aJ K 120 g4)] (by decide) rfl ?_
  refine lx_st (a' := 0) (b' := 0) [] rfl rfl rfl ?_
  refine lx_aload_n F dX3_makeCollection_54 0 rfl ?_
  refine gf_X3_16 F 0 rfl rfl dX3_makeCollection_55 ?_
  refine lx_aload_n F dX3_makeCollection_58 0 rfl ?_
  refine gf_X3_34 F 0 rfl rfl dX3_makeCollection_59 ?_
  refine lx_aload_n F dX3_makeCollection_62 0 rfl ?_
  refine gf_X3_38 F 0 rfl rfl dX3_makeCollection_63 ?_
  refine lx_aload_n F dX3_makeCollection_66 0 rfl ?_
  refine gf_X3_9 F 0 rfl rfl dX3_makeCollection_67 ?_
  have hvl : ∀ v : lm_V, lm_to w v ∈ (lm_list c w rt) → ∃ n, (lm_laid c w (lm_list c w rt)).1 (lm_to w v) = some n ∧ n < 2 ^ 31 := fun v hv => by
    obtain ⟨n, a1, a2, -⟩ := l1 _ hv
    exact ⟨n, a1, by omega⟩
  refine lx_cv F (zk_tell (xl E) K k l0 il ir np ro (nI (lm_list c w rt).length) fn3 gr h ca co f g t h2 ca2 co2 f4 g4 c w u hw hh (lm_laid c w (lm_list c w rt)).1 hos2.1 (lm_laid c w (lm_list c w rt)).2 hlen2 (fun j hj => (hos2.2 j hj).2) (fun j hj => (l6 _ (lm_getD_mem hj)).1) (fun j hj h9 => hvl _ ((l6 _ (lm_getD_mem hj)).2 h9)) rt hr hro (fun r hr9 h9 => hvl _ (hroot r hr9 h9))) cv_X3_186 2 rfl rfl [2, 6, 7, 8, 9, 10, 11, 12, 1] [0, 3, 4, 5] [(x, .inr (3, [.ref ro, .ref k, .ref mt, .ref cn, .ref h, .ref h2, .int z])), (l0, aI K 120 fl1), (il, aI K 120 fi1), (ir, aI K 120 fr1)] rfl rfl (by decide) rfl (st := []) rfl (Nat.le_of_ble_eq_true rfl) (by decide) ⟨by decide, by decide⟩ dX3_makeCollection_70 (fun v9 w9 h9 => ?_)
  obtain ⟨rfl, g5, gr1, hg5, hgr1, rfl⟩ := h9
  refine lx_perm [0, 12, 4, 1, 2, 3, 5, 6, 7, 8, 9, 10, 11] [(x, .inr (3, [.ref ro, .ref k, .ref mt, .ref cn, .ref h, .ref h2, .int z])), (ro, aJ K 10 gr1), (k, .inr (0, [.ref l0, .ref il, .ref ir, .ref np, .int (nI ((lm_list c w rt).length))])), (l0, aI K 120 fl1), (il, aI K 120 fi1), (ir, aI K 120 fr1), (np, aI K 120 fn3), (h, .inr (1, [.ref ca, .ref co, .int t])), (ca, aI K 120 f), (co, aJ K 120 g), (h2, .inr (1, [.ref ca2, .ref co2, .int (nI ((lm_laid c w (lm_list c w rt)).2.length))])), (ca2, aI K 120 f4), (co2, aJ K 120 g5)] (by decide) rfl ?_
  refine lx_st (a' := 0) (b' := 0) [] rfl rfl rfl ?_
  refine lx_aload_n F dX3_makeCollection_73 0 rfl ?_
  refine gf_X3_34 F 0 rfl rfl dX3_makeCollection_74 ?_
  refine lx_astore_n F [(0, .ref x), (1, .ref h)] [1, 0] dX3_makeCollection_77 rfl (by decide) ?_
  refine lx_aload_n F dX3_makeCollection_78 0 rfl ?_
  refine lx_aload_n F dX3_makeCollection_79 0 rfl ?_
  refine gf_X3_38 F 0 rfl rfl dX3_makeCollection_80 ?_
  refine pf_X3_34 F 0 [(x, .inr (3, [.ref ro, .ref k, .ref mt, .ref cn, .ref h2, .ref h2, .int z])), (ro, aJ K 10 gr1), (k, .inr (0, [.ref l0, .ref il, .ref ir, .ref np, .int (nI ((lm_list c w rt).length))])), (l0, aI K 120 fl1), (il, aI K 120 fi1), (ir, aI K 120 fr1), (np, aI K 120 fn3), (h, .inr (1, [.ref ca, .ref co, .int t])), (ca, aI K 120 f), (co, aJ K 120 g), (h2, .inr (1, [.ref ca2, .ref co2, .int (nI ((lm_laid c w (lm_list c w rt)).2.length))])), (ca2, aI K 120 f4), (co2, aJ K 120 g5)] rfl rfl dX3_makeCollection_83 rfl ?_
  refine lx_aload_n F dX3_makeCollection_86 0 rfl ?_
  refine lx_aload_n F dX3_makeCollection_87 1 rfl ?_
  refine pf_X3_38 F 0 [(x, .inr (3, [.ref ro, .ref k, .ref mt, .ref cn, .ref h2, .ref h, .int z])), (ro, aJ K 10 gr1), (k, .inr (0, [.ref l0, .ref il, .ref ir, .ref np, .int (nI ((lm_list c w rt).length))])), (l0, aI K 120 fl1), (il, aI K 120 fi1), (ir, aI K 120 fr1), (np, aI K 120 fn3), (h, .inr (1, [.ref ca, .ref co, .int t])), (ca, aI K 120 f), (co, aJ K 120 g), (h2, .inr (1, [.ref ca2, .ref co2, .int (nI ((lm_laid c w (lm_list c w rt)).2.length))])), (ca2, aI K 120 f4), (co2, aJ K 120 g5)] rfl rfl dX3_makeCollection_88 rfl ?_
  refine lx_aload_n F dX3_makeCollection_91 0 rfl ?_
  refine lx_dup F dX3_makeCollection_92 rfl ?_
  refine gf_X3_41 F 0 rfl rfl dX3_makeCollection_93 ?_
  refine lx_iconst F dX3_makeCollection_96 kc_1 ?_
  refine lx_iadd F dX3_makeCollection_97 rfl ?_
  refine pf_X3_41 F 0 [(x, .inr (3, [.ref ro, .ref k, .ref mt, .ref cn, .ref h2, .ref h, .int (z + (nI 1))])), (ro, aJ K 10 gr1), (k, .inr (0, [.ref l0, .ref il, .ref ir, .ref np, .int (nI ((lm_list c w rt).length))])), (l0, aI K 120 fl1), (il, aI K 120 fi1), (ir, aI K 120 fr1), (np, aI K 120 fn3), (h, .inr (1, [.ref ca, .ref co, .int t])), (ca, aI K 120 f), (co, aJ K 120 g), (h2, .inr (1, [.ref ca2, .ref co2, .int (nI ((lm_laid c w (lm_list c w rt)).2.length))])), (ca2, aI K 120 f4), (co2, aJ K 120 g5)] rfl rfl dX3_makeCollection_98 rfl ?_
  refine lx_perm [0, 1, 2, 3, 4, 5, 6, 10, 11, 12, 7, 8, 9] [(x, .inr (3, [.ref ro, .ref k, .ref mt, .ref cn, .ref h2, .ref h, .int (z + nI 1)])), (ro, aJ K 10 gr1), (k, .inr (0, [.ref l0, .ref il, .ref ir, .ref np, .int (nI ((lm_list c w rt).length))])), (l0, aI K 120 fl1), (il, aI K 120 fi1), (ir, aI K 120 fr1), (np, aI K 120 fn3), (h2, .inr (1, [.ref ca2, .ref co2, .int (nI (lm_gu c w rt))])), (ca2, aI K 120 f4), (co2, aJ K 120 g5), (h, .inr (1, [.ref ca, .ref co, .int t])), (ca, aI K 120 f), (co, aJ K 120 g)] (by decide) rfl ?_
  exact lx_vret F hR dX3_makeCollection_101 ⟨rfl, _, _, _, _, _, _, _, _, (fun j hj => ⟨(hos2.2 j hj).1, hg5 j hj⟩), hgr1, rfl⟩
