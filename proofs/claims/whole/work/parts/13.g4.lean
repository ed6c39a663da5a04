set_option maxHeartbeats 4000000 in
set_option maxRecDepth 100000 in
theorem zm_init (l : Launch) (K : lm_G) (mt : Nat) : lm_C l K mX2_init ({ frames := 1, cells := 3, slots := 360, locals := 36 }) [.ref mt] [(mt, .inr (2, [.null, .null, .null, .int (nI 0)]))] (fun v9 w9 => v9 = none ∧ ∃ fo ba wa : Nat, w9 = [(mt, .inr (2, [.ref fo, .ref ba, .ref wa, .int (nI 0)])), (fo, aI K 120 (fun _ => 0)), (ba, aI K 120 (fun _ => 0)), (wa, aI K 120 (fun _ => 0))]) := by
  refine lx_met RX2 pn_X2 rfl (Nat.le_of_ble_eq_true rfl) (fun E hE hnm F hR => ?_)
  have F : lx_F K 1 E cX2_init RX2 none ({ frames := 1, cells := 3, slots := 360, locals := 36 }) := F
  show lx_W K 1 E 0 0 0 [(0, .ref mt)] [] [(mt, .inr (2, [.null, .null, .null, .int (nI 0)]))]
  refine lx_aload_n F dX2_init_0 0 rfl ?_
  refine lx_obj F to_X2_3 to_i to_c (by decide) (by decide) dX2_init_1 ?_
  refine lx_aload_n F dX2_init_4 0 rfl ?_
  refine lx_bipush F dX2_init_5 kb_120 ?_
  refine lx_newI F 120 dX2_init_7 ta_I (by decide) (by decide) (by decide) (fun q7 => ?_)
  refine lx_perm [0, 1] [(mt, .inr (2, [.null, .null, .null, .int (nI 0)])), (q7, aI K 120 (fun _ => 0))] (by decide) rfl ?_
  refine lx_wide (a' := 1) (b' := 120) (by decide) (by decide) ?_
  refine pf_X2_9 F hnm 0 [(mt, .inr (2, [.ref q7, .null, .null, .int (nI 0)])), (q7, aI K 120 (fun _ => 0))] rfl rfl dX2_init_9 rfl ?_
  refine lx_aload_n F dX2_init_12 0 rfl ?_
  refine lx_bipush F dX2_init_13 kb_120 ?_
  refine lx_newI F 120 dX2_init_15 ta_I (by decide) (by decide) (by decide) (fun q15 => ?_)
  refine lx_perm [0, 1, 2] [(mt, .inr (2, [.ref q7, .null, .null, .int (nI 0)])), (q7, aI K 120 (fun _ => 0)), (q15, aI K 120 (fun _ => 0))] (by decide) rfl ?_
  refine lx_wide (a' := 2) (b' := 240) (by decide) (by decide) ?_
  refine pf_X2_15 F hnm 0 [(mt, .inr (2, [.ref q7, .ref q15, .null, .int (nI 0)])), (q7, aI K 120 (fun _ => 0)), (q15, aI K 120 (fun _ => 0))] rfl rfl dX2_init_17 rfl ?_
  refine lx_aload_n F dX2_init_20 0 rfl ?_
  refine lx_bipush F dX2_init_21 kb_120 ?_
  refine lx_newI F 120 dX2_init_23 ta_I (by decide) (by decide) (by decide) (fun q23 => ?_)
  refine lx_perm [0, 1, 2, 3] [(mt, .inr (2, [.ref q7, .ref q15, .null, .int (nI 0)])), (q7, aI K 120 (fun _ => 0)), (q15, aI K 120 (fun _ => 0)), (q23, aI K 120 (fun _ => 0))] (by decide) rfl ?_
  refine lx_wide (a' := 3) (b' := 360) (by decide) (by decide) ?_
  refine pf_X2_18 F hnm 0 [(mt, .inr (2, [.ref q7, .ref q15, .ref q23, .int (nI 0)])), (q7, aI K 120 (fun _ => 0)), (q15, aI K 120 (fun _ => 0)), (q23, aI K 120 (fun _ => 0))] rfl rfl dX2_init_25 rfl ?_
  refine lx_aload_n F dX2_init_28 0 rfl ?_
  refine lx_iconst F dX2_init_29 kc_0 ?_
  refine pf_X2_21 F 0 [(mt, .inr (2, [.ref q7, .ref q15, .ref q23, .int (nI 0)])), (q7, aI K 120 (fun _ => 0)), (q15, aI K 120 (fun _ => 0)), (q23, aI K 120 (fun _ => 0))] rfl rfl dX2_init_30 rfl ?_
  exact lx_vret F hR dX2_init_33 ⟨rfl, _, _, _, rfl⟩

set_option maxHeartbeats 4000000 in
set_option maxRecDepth 100000 in
theorem zm_fit (l : Launch) (K : lm_G) (mt fo ba wa : Nat) (ffo fba fwa : Nat → Int32) (h ca co : Nat) (f : Nat → Int32) (g : Nat → Int64) (t : Int32) (c : Nat → Nat) (w : Nat → lm_V) (u : Nat) (hw : lm_wf c w u) (hh : lm_hf f g c w u) (m : lm_M) (hm : lm_mok c w u m) (hms : lm_ms ffo fba fwa m) (a b : lm_V) (ha : lm_ok c u a) (hb : lm_ok c u b) : lm_C l K mX2_fit (rk 2) [.ref mt, .ref h, .long (en a), .long (en b)] [(mt, .inr (2, [.ref fo, .ref ba, .ref wa, .int (nI m.2.2.length)])), (fo, aI K 120 ffo), (ba, aI K 120 fba), (wa, aI K 120 fwa), (h, .inr (1, [.ref ca, .ref co, .int t])), (ca, aI K 120 f), (co, aJ K 120 g)] (fun v9 w9 => v9 = some (.int (bI (lm_fit w m a b).2)) ∧ ∃ f5 f6 f7 : Nat → Int32, lm_ms f5 f6 f7 (lm_fit w m a b).1 ∧ w9 = [(mt, .inr (2, [.ref fo, .ref ba, .ref wa, .int (nI ((lm_fit w m a b).1.2.2.length))])), (fo, aI K 120 f5), (ba, aI K 120 f6), (wa, aI K 120 f7), (h, .inr (1, [.ref ca, .ref co, .int t])), (ca, aI K 120 f), (co, aJ K 120 g)]) := by
  refine lx_met RX2 pn_X2 rfl (Nat.le_of_ble_eq_true rfl) (fun E hE hnm F hR => ?_)
  have F : lx_F K 8 E cX2_fit RX2 (some .boolean) (rk 2) := F
  show lx_W K 8 E 0 0 0 [(0, .ref mt), (1, .ref h), (2, .long (en a)), (4, .long (en b))] [] [(mt, .inr (2, [.ref fo, .ref ba, .ref wa, .int (nI m.2.2.length)])), (fo, aI K 120 ffo), (ba, aI K 120 fba), (wa, aI K 120 fwa), (h, .inr (1, [.ref ca, .ref co, .int t])), (ca, aI K 120 f), (co, aJ K 120 g)]
  have hu := hw.1
  have ha3 := lm_ok_kind ha
  have hb3 := lm_ok_kind hb
  have hfk := lm_fit_ok hw hm ha hb
  have hwl : m.2.2.length ≤ u := lm_gd_len hm.1
  refine lx_lload_n F dX2_fit_0 2 rfl ?_
  refine lx_csn F (zs_kindOf (xl E) K a (by omega)) cs_X2_44 [] [0, 1, 2, 3, 4, 5, 6] [(mt, .inr (2, [.ref fo, .ref ba, .ref wa, .int (nI m.2.2.length)])), (fo, aI K 120 ffo), (ba, aI K 120 fba), (wa, aI K 120 fwa), (h, .inr (1, [.ref ca, .ref co, .int t])), (ca, aI K 120 f), (co, aJ K 120 g)] rfl rfl (by decide) rfl (st := []) rfl (Nat.le_of_ble_eq_true rfl) (by decide) ⟨by decide, by decide⟩ dX2_fit_1 (fun v9 w9 h9 => ?_)
  obtain ⟨rfl, rfl⟩ := h9
  refine lx_perm [0, 1, 2, 3, 4, 5, 6] [(mt, .inr (2, [.ref fo, .ref ba, .ref wa, .int (nI m.2.2.length)])), (fo, aI K 120 ffo), (ba, aI K 120 fba), (wa, aI K 120 fwa), (h, .inr (1, [.ref ca, .ref co, .int t])), (ca, aI K 120 f), (co, aJ K 120 g)] (by decide) rfl ?_
  refine lx_st (a' := 0) (b' := 0) [.int (nI a.1)] rfl rfl rfl ?_
  refine lx_iconst F dX2_fit_4 kc_2 ?_
  refine lx_icmpN_ne F 17 (by omega) (by omega) dX2_fit_5 rfl (fun h1 => ?_) (fun h1 => ?_)
  · skip
    have hnp : ¬ (a.1 = 2 ∧ b.1 = 2) := fun z => h1 z.1
    have hfit : lm_fit w m a b = (m, decide (a = b)) := lm_fit_np hnp
    refine lx_lload_n F dX2_fit_17 2 rfl ?_
    refine lx_lload F dX2_fit_18 3 rfl ?_
    refine lx_lcmp_ifne F 28 dX2_fit_20 dX2_fit_21 rfl (fun he => ?_) (fun he => ?_)
    · skip
      refine lx_iconst F dX2_fit_28 kc_0 ?_
      exact lx_zret F hR (by first | rfl | decide) dX2_fit_29 ⟨by rw [hfit, decide_eq_false (fun z => he ((en_inj (en_of hu ha) (en_of hu hb)).mpr z))]; rfl, ffo, fba, fwa, by rw [hfit]; exact hms, by rw [hfit]⟩
    · skip
      refine lx_iconst F dX2_fit_24 kc_1 ?_
      refine lx_goto F 29 dX2_fit_25 rfl ?_
      exact lx_zret F hR (by first | rfl | decide) dX2_fit_29 ⟨by rw [hfit, decide_eq_true ((en_inj (en_of hu ha) (en_of hu hb)).mp he)]; rfl, ffo, fba, fwa, by rw [hfit]; exact hms, by rw [hfit]⟩
  · skip
    refine lx_lload F dX2_fit_8 3 rfl ?_
    refine lx_csn F (zs_kindOf (xl E) K b (by omega)) cs_X2_44 [] [0, 1, 2, 3, 4, 5, 6] [(mt, .inr (2, [.ref fo, .ref ba, .ref wa, .int (nI m.2.2.length)])), (fo, aI K 120 ffo), (ba, aI K 120 fba), (wa, aI K 120 fwa), (h, .inr (1, [.ref ca, .ref co, .int t])), (ca, aI K 120 f), (co, aJ K 120 g)] rfl rfl (by decide) rfl (st := []) rfl (Nat.le_of_ble_eq_true rfl) (by decide) ⟨by decide, by decide⟩ dX2_fit_10 (fun v9 w9 h9 => ?_)
    obtain ⟨rfl, rfl⟩ := h9
    refine lx_perm [0, 1, 2, 3, 4, 5, 6] [(mt, .inr (2, [.ref fo, .ref ba, .ref wa, .int (nI m.2.2.length)])), (fo, aI K 120 ffo), (ba, aI K 120 fba), (wa, aI K 120 fwa), (h, .inr (1, [.ref ca, .ref co, .int t])), (ca, aI K 120 f), (co, aJ K 120 g)] (by decide) rfl ?_
    refine lx_st (a' := 0) (b' := 0) [.int (nI b.1)] rfl rfl rfl ?_
    refine lx_iconst F dX2_fit_13 kc_2 ?_
    refine lx_icmpN_eq F 30 (by omega) (by omega) dX2_fit_14 rfl (fun h2 => ?_) (fun h2 => ?_)
    · skip
      have hca := lm_to_cl hw ha h1
      have hcb := lm_to_cl hw hb h2
      have hx : lm_to w a < 120 := Nat.lt_of_lt_of_le hca.1 hu
      have hy : lm_to w b < 120 := Nat.lt_of_lt_of_le hcb.1 hu
      refine lx_aload_n F dX2_fit_30 1 rfl ?_
      refine lx_lload_n F dX2_fit_31 2 rfl ?_
      refine lx_cv F (zh_cellOf (xl E) K h ca co f g t c w u hw hh a ha h1) cv_X2_48 4 rfl rfl [4, 5, 6] [0, 1, 2, 3] [(mt, .inr (2, [.ref fo, .ref ba, .ref wa, .int (nI m.2.2.length)])), (fo, aI K 120 ffo), (ba, aI K 120 fba), (wa, aI K 120 fwa)] rfl rfl (by decide) rfl (st := []) rfl (Nat.le_of_ble_eq_true rfl) (by decide) ⟨by decide, by decide⟩ dX2_fit_32 (fun v9 w9 h9 => ?_)
      obtain ⟨rfl, rfl⟩ := h9
      refine lx_perm [0, 1, 2, 3, 4, 5, 6] [(mt, .inr (2, [.ref fo, .ref ba, .ref wa, .int (nI m.2.2.length)])), (fo, aI K 120 ffo), (ba, aI K 120 fba), (wa, aI K 120 fwa), (h, .inr (1, [.ref ca, .ref co, .int t])), (ca, aI K 120 f), (co, aJ K 120 g)] (by decide) rfl ?_
      refine lx_st (a' := 0) (b' := 0) [.int (nI (lm_to w a))] rfl rfl rfl ?_
      refine lx_istore F [(0, .ref mt), (1, .ref h), (2, .long (en a)), (4, .long (en b)), (6, .int (nI (lm_to w a)))] [1, 2, 3, 4, 0] dX2_fit_35 rfl (by decide) ?_
      refine lx_aload_n F dX2_fit_37 1 rfl ?_
      refine lx_lload F dX2_fit_38 3 rfl ?_
      refine lx_cv F (zh_cellOf (xl E) K h ca co f g t c w u hw hh b hb h2) cv_X2_48 4 rfl rfl [4, 5, 6] [0, 1, 2, 3] [(mt, .inr (2, [.ref fo, .ref ba, .ref wa, .int (nI m.2.2.length)])), (fo, aI K 120 ffo), (ba, aI K 120 fba), (wa, aI K 120 fwa)] rfl rfl (by decide) rfl (st := []) rfl (Nat.le_of_ble_eq_true rfl) (by decide) ⟨by decide, by decide⟩ dX2_fit_40 (fun v9 w9 h9 => ?_)
      obtain ⟨rfl, rfl⟩ := h9
      refine lx_perm [0, 1, 2, 3, 4, 5, 6] [(mt, .inr (2, [.ref fo, .ref ba, .ref wa, .int (nI m.2.2.length)])), (fo, aI K 120 ffo), (ba, aI K 120 fba), (wa, aI K 120 fwa), (h, .inr (1, [.ref ca, .ref co, .int t])), (ca, aI K 120 f), (co, aJ K 120 g)] (by decide) rfl ?_
      refine lx_st (a' := 0) (b' := 0) [.int (nI (lm_to w b))] rfl rfl rfl ?_
      refine lx_istore F [(0, .ref mt), (1, .ref h), (2, .long (en a)), (4, .long (en b)), (6, .int (nI (lm_to w a))), (7, .int (nI (lm_to w b)))] [1, 2, 3, 4, 5, 0] dX2_fit_43 rfl (by decide) ?_
      refine lx_aload_n F dX2_fit_45 0 rfl ?_
      refine gf_X2_9 F 0 rfl rfl dX2_fit_46 ?_
      refine lx_iload F dX2_fit_49 4 rfl ?_
      refine lx_iald F 1 (lm_to w a) dX2_fit_51 rfl hx (by decide) ?_
      rw [hms.1 _ hx]
      refine lx_iconst F dX2_fit_52 kc_m1 ?_
      refine lx_icmp_ne F 117 dX2_fit_53 rfl (fun h5 => ?_) (fun h5 => ?_)
      · skip
        have hfit := lm_fit_old (w := w) (m := m) h1 h2 (fun z => h5 (by rw [z.1]; rfl))
        refine lx_aload_n F dX2_fit_117 0 rfl ?_
        refine gf_X2_9 F 0 rfl rfl dX2_fit_118 ?_
        refine lx_iload F dX2_fit_121 4 rfl ?_
        refine lx_iald F 1 (lm_to w a) dX2_fit_123 rfl hx (by decide) ?_
        rw [hms.1 _ hx]
        refine lx_iload F dX2_fit_124 5 rfl ?_
        refine lx_icmp_ne F 133 dX2_fit_126 rfl (fun he => ?_) (fun he => ?_)
        · skip
          refine lx_iconst F dX2_fit_133 kc_0 ?_
          exact lx_zret F hR (by first | rfl | decide) dX2_fit_134 ⟨by rw [hfit, decide_eq_false (fun z => he ((oI_some (by omega) (lm_mok_b hm hw _)).mpr z))]; rfl, ffo, fba, fwa, by rw [hfit]; exact hms, by rw [hfit]⟩
        · skip
          refine lx_iconst F dX2_fit_129 kc_1 ?_
          refine lx_goto F 134 dX2_fit_130 rfl ?_
          exact lx_zret F hR (by first | rfl | decide) dX2_fit_134 ⟨by rw [hfit, decide_eq_true ((oI_some (by omega) (lm_mok_b hm hw _)).mp he)]; rfl, ffo, fba, fwa, by rw [hfit]; exact hms, by rw [hfit]⟩
      · skip
        refine lx_aload_n F dX2_fit_56 0 rfl ?_
        refine gf_X2_15 F 0 rfl rfl dX2_fit_57 ?_
        refine lx_iload F dX2_fit_60 5 rfl ?_
        refine lx_iald F 2 (lm_to w b) dX2_fit_62 rfl hy (by decide) ?_
        rw [hms.2.1 _ hy]
        refine lx_iconst F dX2_fit_63 kc_m1 ?_
        refine lx_icmp_ne F 117 dX2_fit_64 rfl (fun h6 => ?_) (fun h6 => ?_)
        · skip
          have hfit := lm_fit_old (w := w) (m := m) h1 h2 (fun z => h6 (by rw [z.2]; rfl))
          refine lx_aload_n F dX2_fit_117 0 rfl ?_
          refine gf_X2_9 F 0 rfl rfl dX2_fit_118 ?_
          refine lx_iload F dX2_fit_121 4 rfl ?_
          refine lx_iald F 1 (lm_to w a) dX2_fit_123 rfl hx (by decide) ?_
          rw [hms.1 _ hx]
          refine lx_iload F dX2_fit_124 5 rfl ?_
          refine lx_icmp_ne F 133 dX2_fit_126 rfl (fun he => ?_) (fun he => ?_)
          · skip
            refine lx_iconst F dX2_fit_133 kc_0 ?_
            exact lx_zret F hR (by first | rfl | decide) dX2_fit_134 ⟨by rw [hfit, decide_eq_false (fun z => he ((oI_some (by omega) (lm_mok_b hm hw _)).mpr z))]; rfl, ffo, fba, fwa, by rw [hfit]; exact hms, by rw [hfit]⟩
          · skip
            refine lx_iconst F dX2_fit_129 kc_1 ?_
            refine lx_goto F 134 dX2_fit_130 rfl ?_
            exact lx_zret F hR (by first | rfl | decide) dX2_fit_134 ⟨by rw [hfit, decide_eq_true ((oI_some (by omega) (lm_mok_b hm hw _)).mp he)]; rfl, ffo, fba, fwa, by rw [hfit]; exact hms, by rw [hfit]⟩
        · skip
          have h5n := (oI_none (lm_mok_b hm hw _)).mp h5
          have h6n := (oI_none (lm_mok_b2 hm hw _)).mp h6
          have hfit := lm_fit_new (w := w) (m := m) h1 h2 h5n h6n
          have hlt : m.2.2.length < 120 := by
            have h9 := lm_gd_len hfk.1.1
            rw [hfit] at h9
            simp at h9
            omega
          refine lx_aload_n F dX2_fit_67 0 rfl ?_
          refine gf_X2_21 F 0 rfl rfl dX2_fit_68 ?_
          refine lx_bipush F dX2_fit_71 kb_120 ?_
          refine lx_icmpN_ge F 117 (by omega) (by omega) dX2_fit_73 rfl (fun h => absurd h (by omega)) (fun _ => ?_)
          refine lx_aload_n F dX2_fit_76 0 rfl ?_
          refine gf_X2_9 F 0 rfl rfl dX2_fit_77 ?_
          refine lx_iload F dX2_fit_80 4 rfl ?_
          refine lx_iload F dX2_fit_82 5 rfl ?_
          refine lx_iast F 1 (lm_to w a) [(mt, .inr (2, [.ref fo, .ref ba, .ref wa, .int (nI m.2.2.length)])), (fo, aI K 120 (lm_up ffo (lm_to w a) (nI (lm_to w b)))), (ba, aI K 120 fba), (wa, aI K 120 fwa), (h, .inr (1, [.ref ca, .ref co, .int t])), (ca, aI K 120 f), (co, aJ K 120 g)] dX2_fit_84 rfl hx (by decide) rfl ?_
          refine lx_aload_n F dX2_fit_85 0 rfl ?_
          refine gf_X2_15 F 0 rfl rfl dX2_fit_86 ?_
          refine lx_iload F dX2_fit_89 5 rfl ?_
          refine lx_iload F dX2_fit_91 4 rfl ?_
          refine lx_iast F 2 (lm_to w b) [(mt, .inr (2, [.ref fo, .ref ba, .ref wa, .int (nI m.2.2.length)])), (fo, aI K 120 (lm_up ffo (lm_to w a) (nI (lm_to w b)))), (ba, aI K 120 (lm_up fba (lm_to w b) (nI (lm_to w a)))), (wa, aI K 120 fwa), (h, .inr (1, [.ref ca, .ref co, .int t])), (ca, aI K 120 f), (co, aJ K 120 g)] dX2_fit_93 rfl hy (by decide) rfl ?_
          refine lx_aload_n F dX2_fit_94 0 rfl ?_
          refine gf_X2_18 F 0 rfl rfl dX2_fit_95 ?_
          refine lx_aload_n F dX2_fit_98 0 rfl ?_
          refine gf_X2_21 F 0 rfl rfl dX2_fit_99 ?_
          refine lx_iload F dX2_fit_102 4 rfl ?_
          refine lx_iast F 3 m.2.2.length [(mt, .inr (2, [.ref fo, .ref ba, .ref wa, .int (nI m.2.2.length)])), (fo, aI K 120 (lm_up ffo (lm_to w a) (nI (lm_to w b)))), (ba, aI K 120 (lm_up fba (lm_to w b) (nI (lm_to w a)))), (wa, aI K 120 (lm_up fwa m.2.2.length (nI (lm_to w a)))), (h, .inr (1, [.ref ca, .ref co, .int t])), (ca, aI K 120 f), (co, aJ K 120 g)] dX2_fit_104 rfl (by omega) (by decide) rfl ?_
          refine lx_aload_n F dX2_fit_105 0 rfl ?_
          refine lx_dup F dX2_fit_106 rfl ?_
          refine gf_X2_21 F 0 rfl rfl dX2_fit_107 ?_
          refine lx_iconst F dX2_fit_110 kc_1 ?_
          refine lx_iadd F dX2_fit_111 (nI_add _ _) ?_
          refine pf_X2_21 F 0 [(mt, .inr (2, [.ref fo, .ref ba, .ref wa, .int (nI (m.2.2.length + 1))])), (fo, aI K 120 (lm_up ffo (lm_to w a) (nI (lm_to w b)))), (ba, aI K 120 (lm_up fba (lm_to w b) (nI (lm_to w a)))), (wa, aI K 120 (lm_up fwa m.2.2.length (nI (lm_to w a)))), (h, .inr (1, [.ref ca, .ref co, .int t])), (ca, aI K 120 f), (co, aJ K 120 g)] rfl rfl dX2_fit_112 rfl ?_
          refine lx_iconst F dX2_fit_115 kc_1 ?_
          exact lx_zret F hR (by first | rfl | decide) dX2_fit_116 ⟨by rw [hfit]; rfl, _, _, _, by rw [hfit]; exact lm_ms_new hms, by rw [hfit, List.length_append]; rfl⟩
    · skip
      have hnp : ¬ (a.1 = 2 ∧ b.1 = 2) := fun z => h2 z.2
      have hfit : lm_fit w m a b = (m, decide (a = b)) := lm_fit_np hnp
      refine lx_lload_n F dX2_fit_17 2 rfl ?_
      refine lx_lload F dX2_fit_18 3 rfl ?_
      refine lx_lcmp_ifne F 28 dX2_fit_20 dX2_fit_21 rfl (fun he => ?_) (fun he => ?_)
      · skip
        refine lx_iconst F dX2_fit_28 kc_0 ?_
        exact lx_zret F hR (by first | rfl | decide) dX2_fit_29 ⟨by rw [hfit, decide_eq_false (fun z => he ((en_inj (en_of hu ha) (en_of hu hb)).mpr z))]; rfl, ffo, fba, fwa, by rw [hfit]; exact hms, by rw [hfit]⟩
      · skip
        refine lx_iconst F dX2_fit_24 kc_1 ?_
        refine lx_goto F 29 dX2_fit_25 rfl ?_
        exact lx_zret F hR (by first | rfl | decide) dX2_fit_29 ⟨by rw [hfit, decide_eq_true ((en_inj (en_of hu ha) (en_of hu hb)).mp he)]; rfl, ffo, fba, fwa, by rw [hfit]; exact hms, by rw [hfit]⟩

set_option maxHeartbeats 4000000 in
set_option maxRecDepth 100000 in
theorem zm_can (l : Launch) (K : lm_G) (mt fo ba wa : Nat) (ffo fba fwa : Nat → Int32) (mm : Int32) (h ca co : Nat) (f : Nat → Int32) (g : Nat → Int64) (t : Int32) (c : Nat → Nat) (w : Nat → lm_V) (u : Nat) (hw : lm_wf c w u) (hh : lm_hf f g c w u) (a b : lm_V) (ha : lm_ok c u a) (hb : lm_ok c u b) : lm_C l K mX2_canBeMade (rk 3) [.ref mt, .ref h, .long (en a), .long (en b)] [(mt, .inr (2, [.ref fo, .ref ba, .ref wa, .int mm])), (fo, aI K 120 ffo), (ba, aI K 120 fba), (wa, aI K 120 fwa), (h, .inr (1, [.ref ca, .ref co, .int t])), (ca, aI K 120 f), (co, aJ K 120 g)] (fun v9 w9 => v9 = some (.int (bI (lm_alike c w a b))) ∧ ∃ (f5 f6 f7 : Nat → Int32) (mm1 : Int32), w9 = [(mt, .inr (2, [.ref fo, .ref ba, .ref wa, .int mm1])), (fo, aI K 120 f5), (ba, aI K 120 f6), (wa, aI K 120 f7), (h, .inr (1, [.ref ca, .ref co, .int t])), (ca, aI K 120 f), (co, aJ K 120 g)]) := by
  refine lx_met RX2 pn_X2 rfl (Nat.le_of_ble_eq_true rfl) (fun E hE hnm F hR => ?_)
  have F : lx_F K 9 E cX2_canBeMade RX2 (some .boolean) (rk 3) := F
  show lx_W K 9 E 0 0 0 [(0, .ref mt), (1, .ref h), (2, .long (en a)), (4, .long (en b))] [] [(mt, .inr (2, [.ref fo, .ref ba, .ref wa, .int mm])), (fo, aI K 120 ffo), (ba, aI K 120 fba), (wa, aI K 120 fwa), (h, .inr (1, [.ref ca, .ref co, .int t])), (ca, aI K 120 f), (co, aJ K 120 g)]
  have hu := hw.1
  have hm0 : lm_mok c w u (fun _ => none, fun _ => none, []) := lm_mok_0
  refine lx_aload_n F dX2_canBeMade_0 0 rfl ?_
  refine lx_iconst F dX2_canBeMade_1 kc_0 ?_
  refine pf_X2_21 F 0 [(mt, .inr (2, [.ref fo, .ref ba, .ref wa, .int (nI 0)])), (fo, aI K 120 ffo), (ba, aI K 120 fba), (wa, aI K 120 fwa), (h, .inr (1, [.ref ca, .ref co, .int t])), (ca, aI K 120 f), (co, aJ K 120 g)] rfl rfl dX2_canBeMade_2 rfl ?_
  refine lx_aload_n F dX2_canBeMade_5 0 rfl ?_
  refine gf_X2_9 F 0 rfl rfl dX2_canBeMade_6 ?_
  refine lx_iconst F dX2_canBeMade_9 kc_m1 ?_
  refine lx_cs F (zj_fill (xl E) K fo ffo (-1)) cs_X2_25 [1] [0, 2, 3, 4, 5, 6] [(mt, .inr (2, [.ref fo, .ref ba, .ref wa, .int (nI 0)])), (ba, aI K 120 fba), (wa, aI K 120 fwa), (h, .inr (1, [.ref ca, .ref co, .int t])), (ca, aI K 120 f), (co, aJ K 120 g)] rfl rfl (by decide) rfl (st := []) rfl (Nat.le_of_ble_eq_true rfl) (by decide) ⟨by decide, by decide⟩ dX2_canBeMade_10 (fun v9 w9 h9 => ?_)
  obtain ⟨rfl, f5, hf5, rfl⟩ := h9
  refine lx_perm [0, 6, 1, 2, 3, 4, 5] [(mt, .inr (2, [.ref fo, .ref ba, .ref wa, .int (nI 0)])), (fo, aI K 120 f5), (ba, aI K 120 fba), (wa, aI K 120 fwa), (h, .inr (1, [.ref ca, .ref co, .int t])), (ca, aI K 120 f), (co, aJ K 120 g)] (by decide) rfl ?_
  refine lx_st (a' := 0) (b' := 0) [] rfl rfl rfl ?_
  refine lx_aload_n F dX2_canBeMade_13 0 rfl ?_
  refine gf_X2_15 F 0 rfl rfl dX2_canBeMade_14 ?_
  refine lx_iconst F dX2_canBeMade_17 kc_m1 ?_
  refine lx_cs F (zj_fill (xl E) K ba fba (-1)) cs_X2_25 [2] [0, 1, 3, 4, 5, 6] [(mt, .inr (2, [.ref fo, .ref ba, .ref wa, .int (nI 0)])), (fo, aI K 120 f5), (wa, aI K 120 fwa), (h, .inr (1, [.ref ca, .ref co, .int t])), (ca, aI K 120 f), (co, aJ K 120 g)] rfl rfl (by decide) rfl (st := []) rfl (Nat.le_of_ble_eq_true rfl) (by decide) ⟨by decide, by decide⟩ dX2_canBeMade_18 (fun v9 w9 h9 => ?_)
  obtain ⟨rfl, f6, hf6, rfl⟩ := h9
  refine lx_perm [0, 1, 6, 2, 3, 4, 5] [(mt, .inr (2, [.ref fo, .ref ba, .ref wa, .int (nI 0)])), (fo, aI K 120 f5), (ba, aI K 120 f6), (wa, aI K 120 fwa), (h, .inr (1, [.ref ca, .ref co, .int t])), (ca, aI K 120 f), (co, aJ K 120 g)] (by decide) rfl ?_
  refine lx_st (a' := 0) (b' := 0) [] rfl rfl rfl ?_
  have hms0 : lm_ms f5 f6 fwa (fun _ => none, fun _ => none, []) := lm_ms_0 hf5 hf6
  have hfk0 := lm_fit_ok hw hm0 ha hb
  refine lx_perm [0, 1, 2, 3, 4, 5, 6] [(mt, .inr (2, [.ref fo, .ref ba, .ref wa, .int (nI (((fun _ => none, fun _ => none, []) : lm_M).2.2.length))])), (fo, aI K 120 f5), (ba, aI K 120 f6), (wa, aI K 120 fwa), (h, .inr (1, [.ref ca, .ref co, .int t])), (ca, aI K 120 f), (co, aJ K 120 g)] (by decide) rfl ?_
  refine lx_aload_n F dX2_canBeMade_21 0 rfl ?_
  refine lx_aload_n F dX2_canBeMade_22 1 rfl ?_
  refine lx_lload_n F dX2_canBeMade_23 2 rfl ?_
  refine lx_lload F dX2_canBeMade_24 3 rfl ?_
  refine lx_cv F (zm_fit (xl E) K mt fo ba wa f5 f6 fwa h ca co f g t c w u hw hh ((fun _ => none, fun _ => none, []) : lm_M) hm0 hms0 a b ha hb) cv_X2_31 0 rfl rfl [0, 1, 2, 3, 4, 5, 6] [] [] rfl rfl (by decide) rfl (st := []) rfl (Nat.le_of_ble_eq_true rfl) (by decide) ⟨by decide, by decide⟩ dX2_canBeMade_26 (fun v9 w9 h9 => ?_)
  obtain ⟨rfl, u5, u6, u7, hmsu, rfl⟩ := h9
  refine lx_perm [0, 1, 2, 3, 4, 5, 6] [(mt, .inr (2, [.ref fo, .ref ba, .ref wa, .int (nI ((lm_fit w ((fun _ => none, fun _ => none, []) : lm_M) a b).1.2.2.length))])), (fo, aI K 120 u5), (ba, aI K 120 u6), (wa, aI K 120 u7), (h, .inr (1, [.ref ca, .ref co, .int t])), (ca, aI K 120 f), (co, aJ K 120 g)] (by decide) rfl ?_
  refine lx_st (a' := 0) (b' := 0) [.int (bI (lm_fit w ((fun _ => none, fun _ => none, []) : lm_M) a b).2)] rfl rfl rfl ?_
  refine lx_if_ne F 34 dX2_canBeMade_29 rfl (fun h0 => ?_) (fun h0 => ?_)
  · skip
    have h0t := lm_bI_t h0
    have loop : ∀ (n9 : Nat) (i : Nat) (m : lm_M) (f5 f6 f7 : Nat → Int32), i + n9 = 120 → lm_mok c w u m → lm_ms f5 f6 f7 m → lm_alk c w n9 i m = lm_alike c w a b → lx_W K 9 E 0 0 37 [(0, .ref mt), (1, .ref h), (2, .long (en a)), (4, .long (en b)), (6, .int (nI i))] [] [(mt, .inr (2, [.ref fo, .ref ba, .ref wa, .int (nI m.2.2.length)])), (fo, aI K 120 f5), (ba, aI K 120 f6), (wa, aI K 120 f7), (h, .inr (1, [.ref ca, .ref co, .int t])), (ca, aI K 120 f), (co, aJ K 120 g)] := by
      intro n9
      induction n9 with
      | zero =>
        intro i m f5 f6 f7 hi hm hms hal0
        have hwl : m.2.2.length ≤ u := lm_gd_len hm.1
        have hal : true = lm_alike c w a b := hal0
        refine lx_iload F dX2_canBeMade_37 4 rfl ?_
        refine lx_aload_n F dX2_canBeMade_39 0 rfl ?_
        refine gf_X2_21 F 0 rfl rfl dX2_canBeMade_40 ?_
        refine lx_icmpN_ge F 119 (by omega) (by omega) dX2_canBeMade_43 rfl (fun _ => ?_) (fun h => absurd h (by omega))
        refine lx_iconst F dX2_canBeMade_119 kc_1 ?_
        exact lx_zret F hR (by first | rfl | decide) dX2_canBeMade_120 ⟨by rw [← hal]; rfl, _, _, _, _, rfl⟩
      | succ n9 ih =>
        intro i m f5 f6 f7 hi hm hms hal0
        have hwl : m.2.2.length ≤ u := lm_gd_len hm.1
        refine lx_iload F dX2_canBeMade_37 4 rfl ?_
        refine lx_aload_n F dX2_canBeMade_39 0 rfl ?_
        refine gf_X2_21 F 0 rfl rfl dX2_canBeMade_40 ?_
        refine lx_icmpN_ge F 119 (by omega) (by omega) dX2_canBeMade_43 rfl (fun hi2 => ?_) (fun hi2 => ?_)
        · skip
          have hal : true = lm_alike c w a b := by rw [← hal0]; exact (lm_alk_end hi2).symm
          refine lx_iconst F dX2_canBeMade_119 kc_1 ?_
          exact lx_zret F hR (by first | rfl | decide) dX2_canBeMade_120 ⟨by rw [← hal]; rfl, _, _, _, _, rfl⟩
        · skip
          refine lx_iload F dX2_canBeMade_46 4 rfl ?_
          refine lx_bipush F dX2_canBeMade_48 kb_120 ?_
          refine lx_icmpN_ge F 119 (by omega) (by omega) dX2_canBeMade_50 rfl (fun h => absurd h (by omega)) (fun _ => ?_)
          refine lx_aload_n F dX2_canBeMade_53 0 rfl ?_
          refine gf_X2_18 F 0 rfl rfl dX2_canBeMade_54 ?_
          refine lx_iload F dX2_canBeMade_57 4 rfl ?_
          obtain ⟨p, hpe⟩ : ∃ p, p = m.2.2.getD i 0 := ⟨_, rfl⟩
          have hpin : p ∈ m.2.2 := by rw [hpe]; exact lm_getD_in hi2
          obtain ⟨q, hq⟩ := lm_mok_in hm hpin
          have hcp := hm.1.2 p hpin
          have hcq := hm.2.2.2 p q hq
          have hp1 := hcp.1
          have hq1 := hcq.1
          have hstep := lm_alk_step (c := c) (w := w) (n := n9) hi2 hpe hq
          have hfk := lm_fit_ok hw hm (lm_first_ok hw hcp) (lm_first_ok hw hcq)
          refine lx_iald F 3 i dX2_canBeMade_59 rfl (by omega) (by decide) ?_
          rw [show f7 i = nI p by rw [hms.2.2 i hi2, hpe]]
          refine lx_istore F [(0, .ref mt), (1, .ref h), (2, .long (en a)), (4, .long (en b)), (6, .int (nI i)), (7, .int (nI p))] [1, 2, 3, 4, 5, 0] dX2_canBeMade_60 rfl (by decide) ?_
          refine lx_aload_n F dX2_canBeMade_62 0 rfl ?_
          refine gf_X2_9 F 0 rfl rfl dX2_canBeMade_63 ?_
          refine lx_iload F dX2_canBeMade_66 5 rfl ?_
          refine lx_iald F 1 p dX2_canBeMade_68 rfl (by omega) (by decide) ?_
          rw [show f5 p = nI q by rw [hms.1 p (by omega), hq]; rfl]
          refine lx_istore F [(0, .ref mt), (1, .ref h), (2, .long (en a)), (4, .long (en b)), (6, .int (nI i)), (7, .int (nI p)), (8, .int (nI q))] [1, 2, 3, 4, 5, 6, 0] dX2_canBeMade_69 rfl (by decide) ?_
          refine lx_aload_n F dX2_canBeMade_71 0 rfl ?_
          refine lx_aload_n F dX2_canBeMade_72 1 rfl ?_
          refine lx_aload_n F dX2_canBeMade_73 1 rfl ?_
          refine lx_iload F dX2_canBeMade_74 5 rfl ?_
          refine lx_cv F (zh_contentAt (xl E) K h ca co f g t p (by omega) (en (w p)) (hh p hp1).2) cv_X2_35 4 rfl rfl [4, 5, 6] [0, 1, 2, 3] [(mt, .inr (2, [.ref fo, .ref ba, .ref wa, .int (nI m.2.2.length)])), (fo, aI K 120 f5), (ba, aI K 120 f6), (wa, aI K 120 f7)] rfl rfl (by decide) rfl (st := [.ref h, .ref mt]) rfl (Nat.le_of_ble_eq_true rfl) (by decide) ⟨by decide, by decide⟩ dX2_canBeMade_76 (fun v9 w9 h9 => ?_)
          obtain ⟨rfl, rfl⟩ := h9
          refine lx_perm [0, 1, 2, 3, 4, 5, 6] [(mt, .inr (2, [.ref fo, .ref ba, .ref wa, .int (nI m.2.2.length)])), (fo, aI K 120 f5), (ba, aI K 120 f6), (wa, aI K 120 f7), (h, .inr (1, [.ref ca, .ref co, .int t])), (ca, aI K 120 f), (co, aJ K 120 g)] (by decide) rfl ?_
          refine lx_st (a' := 0) (b' := 0) [.long (en (w p)), .ref h, .ref mt] rfl rfl rfl ?_
          refine lx_aload_n F dX2_canBeMade_79 1 rfl ?_
          refine lx_iload F dX2_canBeMade_80 6 rfl ?_
          refine lx_cv F (zh_contentAt (xl E) K h ca co f g t q (by omega) (en (w q)) (hh q hq1).2) cv_X2_35 4 rfl rfl [4, 5, 6] [0, 1, 2, 3] [(mt, .inr (2, [.ref fo, .ref ba, .ref wa, .int (nI m.2.2.length)])), (fo, aI K 120 f5), (ba, aI K 120 f6), (wa, aI K 120 f7)] rfl rfl (by decide) rfl (st := [.long (en (w p)), .ref h, .ref mt]) rfl (Nat.le_of_ble_eq_true rfl) (by decide) ⟨by decide, by decide⟩ dX2_canBeMade_82 (fun v9 w9 h9 => ?_)
          obtain ⟨rfl, rfl⟩ := h9
          refine lx_perm [0, 1, 2, 3, 4, 5, 6] [(mt, .inr (2, [.ref fo, .ref ba, .ref wa, .int (nI m.2.2.length)])), (fo, aI K 120 f5), (ba, aI K 120 f6), (wa, aI K 120 f7), (h, .inr (1, [.ref ca, .ref co, .int t])), (ca, aI K 120 f), (co, aJ K 120 g)] (by decide) rfl ?_
          refine lx_st (a' := 0) (b' := 0) [.long (en (w q)), .long (en (w p)), .ref h, .ref mt] rfl rfl rfl ?_
          refine lx_cv F (zm_fit (xl E) K mt fo ba wa f5 f6 f7 h ca co f g t c w u hw hh m hm hms (w p) (w q) (lm_first_ok hw hcp) (lm_first_ok hw hcq)) cv_X2_31 0 rfl rfl [0, 1, 2, 3, 4, 5, 6] [] [] rfl rfl (by decide) rfl (st := []) rfl (Nat.le_of_ble_eq_true rfl) (by decide) ⟨by decide, by decide⟩ dX2_canBeMade_85 (fun v9 w9 h9 => ?_)
          obtain ⟨rfl, u5, u6, u7, hmsu, rfl⟩ := h9
          refine lx_perm [0, 1, 2, 3, 4, 5, 6] [(mt, .inr (2, [.ref fo, .ref ba, .ref wa, .int (nI ((lm_fit w m (w p) (w q)).1.2.2.length))])), (fo, aI K 120 u5), (ba, aI K 120 u6), (wa, aI K 120 u7), (h, .inr (1, [.ref ca, .ref co, .int t])), (ca, aI K 120 f), (co, aJ K 120 g)] (by decide) rfl ?_
          refine lx_st (a' := 0) (b' := 0) [.int (bI (lm_fit w m (w p) (w q)).2)] rfl rfl rfl ?_
          refine lx_if_eq F 111 dX2_canBeMade_88 rfl (fun h1 => ?_) (fun h1 => ?_)
          · skip
            have h1f := lm_bI_f h1
            refine lx_iconst F dX2_canBeMade_111 kc_0 ?_
            exact lx_zret F hR (by first | rfl | decide) dX2_canBeMade_112 ⟨by rw [← hal0, hstep, lm_pair_f1 h1f]; rfl, _, _, _, _, rfl⟩
          · skip
            have h1t := lm_bI_t h1
            refine lx_aload_n F dX2_canBeMade_91 0 rfl ?_
            refine lx_aload_n F dX2_canBeMade_92 1 rfl ?_
            refine lx_aload_n F dX2_canBeMade_93 1 rfl ?_
            refine lx_iload F dX2_canBeMade_94 5 rfl ?_
            refine lx_cv F (zh_restOf (xl E) K h ca co f g t c w u hw hh p hcp) cv_X2_41 4 rfl rfl [4, 5, 6] [0, 1, 2, 3] [(mt, .inr (2, [.ref fo, .ref ba, .ref wa, .int (nI ((lm_fit w m (w p) (w q)).1.2.2.length))])), (fo, aI K 120 u5), (ba, aI K 120 u6), (wa, aI K 120 u7)] rfl rfl (by decide) rfl (st := [.ref h, .ref mt]) rfl (Nat.le_of_ble_eq_true rfl) (by decide) ⟨by decide, by decide⟩ dX2_canBeMade_96 (fun v9 w9 h9 => ?_)
            obtain ⟨rfl, rfl⟩ := h9
            refine lx_perm [0, 1, 2, 3, 4, 5, 6] [(mt, .inr (2, [.ref fo, .ref ba, .ref wa, .int (nI ((lm_fit w m (w p) (w q)).1.2.2.length))])), (fo, aI K 120 u5), (ba, aI K 120 u6), (wa, aI K 120 u7), (h, .inr (1, [.ref ca, .ref co, .int t])), (ca, aI K 120 f), (co, aJ K 120 g)] (by decide) rfl ?_
            refine lx_st (a' := 0) (b' := 0) [.long (en (lm_rest c w p)), .ref h, .ref mt] rfl rfl rfl ?_
            refine lx_aload_n F dX2_canBeMade_99 1 rfl ?_
            refine lx_iload F dX2_canBeMade_100 6 rfl ?_
            refine lx_cv F (zh_restOf (xl E) K h ca co f g t c w u hw hh q hcq) cv_X2_41 4 rfl rfl [4, 5, 6] [0, 1, 2, 3] [(mt, .inr (2, [.ref fo, .ref ba, .ref wa, .int (nI ((lm_fit w m (w p) (w q)).1.2.2.length))])), (fo, aI K 120 u5), (ba, aI K 120 u6), (wa, aI K 120 u7)] rfl rfl (by decide) rfl (st := [.long (en (lm_rest c w p)), .ref h, .ref mt]) rfl (Nat.le_of_ble_eq_true rfl) (by decide) ⟨by decide, by decide⟩ dX2_canBeMade_102 (fun v9 w9 h9 => ?_)
            obtain ⟨rfl, rfl⟩ := h9
            refine lx_perm [0, 1, 2, 3, 4, 5, 6] [(mt, .inr (2, [.ref fo, .ref ba, .ref wa, .int (nI ((lm_fit w m (w p) (w q)).1.2.2.length))])), (fo, aI K 120 u5), (ba, aI K 120 u6), (wa, aI K 120 u7), (h, .inr (1, [.ref ca, .ref co, .int t])), (ca, aI K 120 f), (co, aJ K 120 g)] (by decide) rfl ?_
            refine lx_st (a' := 0) (b' := 0) [.long (en (lm_rest c w q)), .long (en (lm_rest c w p)), .ref h, .ref mt] rfl rfl rfl ?_
            refine lx_cv F (zm_fit (xl E) K mt fo ba wa u5 u6 u7 h ca co f g t c w u hw hh (lm_fit w m (w p) (w q)).1 hfk.1 hmsu (lm_rest c w p) (lm_rest c w q) (lm_rest_ok hw hcp) (lm_rest_ok hw hcq)) cv_X2_31 0 rfl rfl [0, 1, 2, 3, 4, 5, 6] [] [] rfl rfl (by decide) rfl (st := []) rfl (Nat.le_of_ble_eq_true rfl) (by decide) ⟨by decide, by decide⟩ dX2_canBeMade_105 (fun v9 w9 h9 => ?_)
            obtain ⟨rfl, z5, z6, z7, hmsz, rfl⟩ := h9
            refine lx_perm [0, 1, 2, 3, 4, 5, 6] [(mt, .inr (2, [.ref fo, .ref ba, .ref wa, .int (nI ((lm_fit w (lm_fit w m (w p) (w q)).1 (lm_rest c w p) (lm_rest c w q)).1.2.2.length))])), (fo, aI K 120 z5), (ba, aI K 120 z6), (wa, aI K 120 z7), (h, .inr (1, [.ref ca, .ref co, .int t])), (ca, aI K 120 f), (co, aJ K 120 g)] (by decide) rfl ?_
            refine lx_st (a' := 0) (b' := 0) [.int (bI (lm_fit w (lm_fit w m (w p) (w q)).1 (lm_rest c w p) (lm_rest c w q)).2)] rfl rfl rfl ?_
            refine lx_if_ne F 113 dX2_canBeMade_108 rfl (fun h2 => ?_) (fun h2 => ?_)
            · skip
              have h2t := lm_bI_t h2
              have hfk2 := lm_fit_ok hw hfk.1 (lm_rest_ok hw hcp) (lm_rest_ok hw hcq)
              refine lx_iinc F [(0, .ref mt), (1, .ref h), (2, .long (en a)), (4, .long (en b)), (6, .int (nI (i + 1))), (7, .int (nI p)), (8, .int (nI q))] 4 [1, 2, 3, 4, 0, 5, 6] dX2_canBeMade_113 rfl (k_inc _) rfl (by decide) ?_
              refine lx_goto F 37 dX2_canBeMade_116 rfl ?_
              refine lx_lv [0, 1, 2, 3, 4] [(0, .ref mt), (1, .ref h), (2, .long (en a)), (4, .long (en b)), (6, .int (nI (i + 1)))] rfl ?_
              exact ih (i + 1) _ z5 z6 z7 (by omega) hfk2.1 hmsz (by rw [← hal0, hstep, lm_pair_t h1t h2t])
            · skip
              have h2f := lm_bI_f h2
              refine lx_iconst F dX2_canBeMade_111 kc_0 ?_
              exact lx_zret F hR (by first | rfl | decide) dX2_canBeMade_112 ⟨by rw [← hal0, hstep, lm_pair_f2 h1t h2f]; rfl, _, _, _, _, rfl⟩
    refine lx_iconst F dX2_canBeMade_34 kc_0 ?_
    refine lx_istore F [(0, .ref mt), (1, .ref h), (2, .long (en a)), (4, .long (en b)), (6, .int (nI 0))] [1, 2, 3, 4, 0] dX2_canBeMade_35 rfl (by decide) ?_
    exact loop 120 0 _ u5 u6 u7 (by omega) hfk0.1 hmsu (lm_alike_t h0t)
  · skip
    have h0f := lm_bI_f h0
    refine lx_iconst F dX2_canBeMade_32 kc_0 ?_
    exact lx_zret F hR (by first | rfl | decide) dX2_canBeMade_33 ⟨by rw [lm_alike_f h0f]; rfl, _, _, _, _, rfl⟩
