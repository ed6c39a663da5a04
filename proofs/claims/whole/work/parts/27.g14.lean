set_option maxHeartbeats 4000000 in
set_option maxRecDepth 100000 in
theorem zR_words (l : Launch) (K : lm_G) (y : Nat) (c : Nat → Nat) (w : Nat → lm_V) (u : Nat) (rt : Nat → lm_V) (z : Int32) (hst : lm_st c w u rt) (th : Int32) (W : va_W) (hW : lm_mod K y (c, w, u, rt, z) th W) (r : Int32) : lm_C l K mX4_words (rk 2) [.ref y, .int r] W (fun v9 w9 => v9 = some (.int (if lm_none r = true then nI 0 else nI (lm_wds c w 120 [] (rt (lm_ix r)) 0))) ∧ lm_mod K y (lm_q1 r (c, w, u, rt, z)).2 (nI (lm_q1 r (c, w, u, rt, z)).1) w9) := by
  obtain ⟨acd, akd, act, ark, arr, ali, ala, anc, ank, ant, aag, abk, atd, ase, kk, kc, mn, nx, cd, kd, ct, rk1, rr1, fl, fla, nc, nk, nt, fag, fbk, ftd, fse, hh, hro, rfl⟩ := hW
  have hh : lm_mf cd kd ct c w u := hh
  have hro : ∀ r, r < 10 → rk1 r = nI (rt r).1 ∧ rr1 r = jI (rt r).2 := hro
  have hw := hst.1
  have hr9 := hst.2
  have hu := hw.1
  refine lx_met RX4 pn_X4 rfl (Nat.le_of_ble_eq_true rfl) (fun E hE hnm F hR => ?_)
  have F : lx_F K 5 E cX4_words RX4 (some .int) (rk 2) := F
  show lx_W K 5 E 0 0 0 [(0, .ref y), (1, .int r)] [] [(y, .inr (4, [.int th, .ref acd, .ref akd, .ref act, .int (nI u), .ref ark, .ref arr, .int z, .int kk, .long kc, .ref ali, .int mn, .ref ala, .ref anc, .ref ank, .ref ant, .int nx, .ref aag, .ref abk, .ref atd, .ref ase])), (acd, aI K 120 cd), (akd, aI K 120 kd), (act, aJ K 120 ct), (ark, aI K 10 rk1), (arr, aJ K 10 rr1), (ali, aI K 120 fl), (ala, aI K 120 fla), (anc, aI K 120 nc), (ank, aI K 120 nk), (ant, aJ K 120 nt), (aag, aI K 120 fag), (abk, aI K 120 fbk), (atd, aI K 120 ftd), (ase, aZ K 120 fse)]
  cases hnr : lm_none r
  · skip
    obtain ⟨k, hk, rfl⟩ := lm_none_f hnr
    have loop : ∀ (n9 : Nat) (v : lm_V) (m : Nat) (S9 : List Nat) (fs1 : Nat → Int32), S9.length + n9 = 120 → lm_gd c w u S9 → lm_ok c u v → (∀ p, p < 120 → fs1 p = nI (if p ∈ S9 then 1 else 0)) → lm_wds c w n9 S9 v m = lm_wds c w 120 [] (rt k) 0 → m ≤ 3 * S9.length → lx_W K 5 E 0 0 53 [(0, .ref y), (1, .int (nI k)), (2, .int (nI m))] [] [(y, .inr (4, [.int (nI (lm_rf false false)), .ref acd, .ref akd, .ref act, .int (nI u), .ref ark, .ref arr, .int z, .int (nI v.1), .long (jI v.2), .ref ali, .int mn, .ref ala, .ref anc, .ref ank, .ref ant, .int nx, .ref aag, .ref abk, .ref atd, .ref ase])), (acd, aI K 120 cd), (akd, aI K 120 kd), (act, aJ K 120 ct), (ark, aI K 10 rk1), (arr, aJ K 10 rr1), (ali, aI K 120 fl), (ala, aI K 120 fla), (anc, aI K 120 nc), (ank, aI K 120 nk), (ant, aJ K 120 nt), (aag, aI K 120 fag), (abk, aI K 120 fbk), (atd, aI K 120 ftd), (ase, aZ K 120 fs1)] := by
      intro n9
      induction n9 with
      | zero =>
        intro v m S9 fs1 hS9 hS hv hfs hl hm3
        have hv3 := lm_ok_kind hv
        have hSl := lm_gd_len hS
        refine lx_aload_n F dX4_words_53 0 rfl ?_
        refine gf_X4_58 F 0 rfl rfl dX4_words_54 ?_
        refine lx_iconst F dX4_words_57 kc_2 ?_
        refine lx_icmpN_ne F 157 (by omega) (by omega) dX4_words_58 rfl (fun h2 => ?_) (fun h2 => ?_)
        · skip
          refine lx_iload_n F dX4_words_157 2 rfl ?_
          exact lx_iret F hR dX4_words_158 ⟨by rw [lm_none_n hk, if_neg (by decide), lm_ix_n hk, ← hl]; rfl, by rw [show lm_q1 (nI k) (c, w, u, rt, z) = (0, (c, w, u, rt, z)) by unfold lm_q1; rw [lm_none_n hk]; rfl]; exact ⟨_, _, _, _, _, _, _, _, _, _, _, _, _, _, _, _, _, _, _, _, _, _, _, _, _, _, _, _, _, _, _, _, hh, hro, rfl⟩⟩
        · skip
          obtain ⟨qa, ea, la, na⟩ := lm_ok_p hv h2
          have ta : lm_to w v = lm_cell w qa := lm_to_q ea
          have hcv : lm_cl c w u (lm_cell w qa) := lm_cell_cl hw la na
          have hx : lm_cell w qa < 120 := Nat.lt_of_lt_of_le hcv.1 hu
          have hk4 := lm_k4 hw la
          refine lx_iconst F dX4_words_61 kc_0 ?_
          refine lx_istore_n F [(0, .ref y), (1, .int (nI k)), (2, .int (nI m)), (3, .int (nI 0))] [1, 2, 3, 0] dX4_words_62 rfl (by decide) ?_
          refine lx_aload_n F dX4_words_63 0 rfl ?_
          refine gf_X4_61 F 0 rfl rfl dX4_words_64 ?_
          refine lx_st (a' := 0) (b' := 0) [.long (jI ((qa : Nat) : Int))] rfl rfl (by rw [ea]) ?_
          refine lx_l2i F dX4_words_67 (jI_l2i qa) ?_
          refine lx_istore F [(0, .ref y), (1, .int (nI k)), (2, .int (nI m)), (3, .int (nI 0)), (4, .int (nI qa))] [1, 2, 3, 4, 0] dX4_words_68 rfl (by decide) ?_
          refine lx_aload_n F dX4_words_70 0 rfl ?_
          refine gf_X4_13 F 0 rfl rfl dX4_words_71 ?_
          refine lx_iload F dX4_words_74 4 rfl ?_
          refine lx_iald F 2 qa dX4_words_76 rfl (by omega) (by decide) ?_
          rw [(hh qa la).2.1]
          refine lx_iconst F dX4_words_77 kc_3 ?_
          refine lx_icmpN_ne F 97 (by omega) (by omega) dX4_words_78 rfl (fun h3 => ?_) (fun h3 => ?_)
          · skip
            have hmv : lm_cell w qa = v.2.toNat := by rw [lm_cell_n h3, ea]; simp
            refine lx_aload_n F dX4_words_97 0 rfl ?_
            refine lx_aload_n F dX4_words_98 0 rfl ?_
            refine gf_X4_61 F 0 rfl rfl dX4_words_99 ?_
            refine lx_st (a' := 0) (b' := 0) [.long (jI ((qa : Nat) : Int)), .ref y] rfl rfl (by rw [ea]) ?_
            refine lx_cv F (zr_cell (xl E) K y acd akd act ark arr ali ala anc ank ant aag abk atd ase (nI (lm_rf false false)) z (nI v.1) (jI v.2) mn nx cd kd ct c w u hw hh qa la na) cv_X4_65 0 rfl rfl [0, 2, 3] [1, 4, 5, 6, 7, 8, 9, 10, 11, 12, 13, 14] [(acd, aI K 120 cd), (ark, aI K 10 rk1), (arr, aJ K 10 rr1), (ali, aI K 120 fl), (ala, aI K 120 fla), (anc, aI K 120 nc), (ank, aI K 120 nk), (ant, aJ K 120 nt), (aag, aI K 120 fag), (abk, aI K 120 fbk), (atd, aI K 120 ftd), (ase, aZ K 120 fs1)] rfl rfl (by decide) rfl (st := []) rfl (Nat.le_of_ble_eq_true rfl) (by decide) ⟨by decide, by decide⟩ dX4_words_102 (fun v9 w9 h9 => ?_)
            obtain ⟨rfl, rfl⟩ := h9
            refine lx_perm [12, 0, 13, 14, 1, 2, 3, 4, 5, 6, 7, 8, 9, 10, 11] [(y, .inr (4, [.int (nI (lm_rf false false)), .ref acd, .ref akd, .ref act, .int (nI u), .ref ark, .ref arr, .int z, .int (nI v.1), .long (jI v.2), .ref ali, .int mn, .ref ala, .ref anc, .ref ank, .ref ant, .int nx, .ref aag, .ref abk, .ref atd, .ref ase])), (acd, aI K 120 cd), (akd, aI K 120 kd), (act, aJ K 120 ct), (ark, aI K 10 rk1), (arr, aJ K 10 rr1), (ali, aI K 120 fl), (ala, aI K 120 fla), (anc, aI K 120 nc), (ank, aI K 120 nk), (ant, aJ K 120 nt), (aag, aI K 120 fag), (abk, aI K 120 fbk), (atd, aI K 120 ftd), (ase, aZ K 120 fs1)] (by decide) rfl ?_
            refine lx_st (a' := 0) (b' := 0) [.int (nI (lm_cell w qa))] rfl rfl rfl ?_
            refine lx_istore F [(0, .ref y), (1, .int (nI k)), (2, .int (nI m)), (3, .int (nI 0)), (4, .int (nI (lm_cell w qa)))] [1, 2, 3, 4, 0] dX4_words_105 rfl (by decide) ?_
            by_cases hs : lm_cell w qa ∈ S9
            · skip
              refine lx_aload_n F dX4_words_107 0 rfl ?_
              refine gf_X4_50 F 0 rfl rfl dX4_words_108 ?_
              refine lx_iload F dX4_words_111 4 rfl ?_
              refine lx_zald F 14 (lm_cell w qa) dX4_words_113 rfl hx (by decide) ?_
              rw [show fs1 (lm_cell w qa) = nI 1 by rw [hfs _ hx, if_pos hs]]
              refine lx_ifN_eq F 119 (by omega) dX4_words_114 rfl (fun h => absurd h (by omega)) (fun _ => ?_)
              refine lx_iload_n F dX4_words_117 2 rfl ?_
              exact lx_iret F hR dX4_words_118 ⟨by rw [lm_none_n hk, if_neg (by decide), lm_ix_n hk, ← hl]; rfl, by rw [show lm_q1 (nI k) (c, w, u, rt, z) = (0, (c, w, u, rt, z)) by unfold lm_q1; rw [lm_none_n hk]; rfl]; exact ⟨_, _, _, _, _, _, _, _, _, _, _, _, _, _, _, _, _, _, _, _, _, _, _, _, _, _, _, _, _, _, _, _, hh, hro, rfl⟩⟩
            · skip
              exfalso
              have h9 := lm_gd_len (lm_gd_cons hS hcv hs)
              simp at h9
              omega
          · skip
            obtain ⟨r9, hr, hr2⟩ := lm_cell_m hw la h3
            have hru : r9 < u := by rw [← hr2]; exact hcv.1
            have hk5 : (w r9).1 ≠ 3 := by rw [← hr2]; exact hcv.2.2
            have hk6 := lm_k4 hw hru
            have hmv : ¬ lm_cell w qa = v.2.toNat := by rw [ea]; simp; exact lm_cell_ne hw la h3
            refine lx_iinc F [(0, .ref y), (1, .int (nI k)), (2, .int (nI m)), (3, .int (nI (0 + 1))), (4, .int (nI qa))] 3 [1, 2, 3, 0, 4] dX4_words_81 rfl (k_inc _) rfl (by decide) ?_
            refine lx_aload_n F dX4_words_84 0 rfl ?_
            refine gf_X4_16 F 0 rfl rfl dX4_words_85 ?_
            refine lx_iload F dX4_words_88 4 rfl ?_
            refine lx_lald F 3 qa dX4_words_90 rfl (by omega) (by decide) ?_
            rw [show ct qa = jI ((r9 : Nat) : Int) by rw [(hh qa la).2.2, hr]]
            refine lx_l2i F dX4_words_91 (jI_l2i r9) ?_
            refine lx_istore F [(0, .ref y), (1, .int (nI k)), (2, .int (nI m)), (3, .int (nI (0 + 1))), (4, .int (nI r9))] [1, 2, 3, 4, 0] dX4_words_92 rfl (by decide) ?_
            refine lx_goto F 70 dX4_words_94 rfl ?_
            refine lx_aload_n F dX4_words_70 0 rfl ?_
            refine gf_X4_13 F 0 rfl rfl dX4_words_71 ?_
            refine lx_iload F dX4_words_74 4 rfl ?_
            refine lx_iald F 2 r9 dX4_words_76 rfl (by omega) (by decide) ?_
            rw [(hh r9 hru).2.1]
            refine lx_iconst F dX4_words_77 kc_3 ?_
            refine lx_icmpN_ne F 97 (by omega) (by omega) dX4_words_78 rfl (fun _ => ?_) (fun h => absurd h (by omega))
            refine lx_aload_n F dX4_words_97 0 rfl ?_
            refine lx_aload_n F dX4_words_98 0 rfl ?_
            refine gf_X4_61 F 0 rfl rfl dX4_words_99 ?_
            refine lx_st (a' := 0) (b' := 0) [.long (jI ((qa : Nat) : Int)), .ref y] rfl rfl (by rw [ea]) ?_
            refine lx_cv F (zr_cell (xl E) K y acd akd act ark arr ali ala anc ank ant aag abk atd ase (nI (lm_rf false false)) z (nI v.1) (jI v.2) mn nx cd kd ct c w u hw hh qa la na) cv_X4_65 0 rfl rfl [0, 2, 3] [1, 4, 5, 6, 7, 8, 9, 10, 11, 12, 13, 14] [(acd, aI K 120 cd), (ark, aI K 10 rk1), (arr, aJ K 10 rr1), (ali, aI K 120 fl), (ala, aI K 120 fla), (anc, aI K 120 nc), (ank, aI K 120 nk), (ant, aJ K 120 nt), (aag, aI K 120 fag), (abk, aI K 120 fbk), (atd, aI K 120 ftd), (ase, aZ K 120 fs1)] rfl rfl (by decide) rfl (st := []) rfl (Nat.le_of_ble_eq_true rfl) (by decide) ⟨by decide, by decide⟩ dX4_words_102 (fun v9 w9 h9 => ?_)
            obtain ⟨rfl, rfl⟩ := h9
            refine lx_perm [12, 0, 13, 14, 1, 2, 3, 4, 5, 6, 7, 8, 9, 10, 11] [(y, .inr (4, [.int (nI (lm_rf false false)), .ref acd, .ref akd, .ref act, .int (nI u), .ref ark, .ref arr, .int z, .int (nI v.1), .long (jI v.2), .ref ali, .int mn, .ref ala, .ref anc, .ref ank, .ref ant, .int nx, .ref aag, .ref abk, .ref atd, .ref ase])), (acd, aI K 120 cd), (akd, aI K 120 kd), (act, aJ K 120 ct), (ark, aI K 10 rk1), (arr, aJ K 10 rr1), (ali, aI K 120 fl), (ala, aI K 120 fla), (anc, aI K 120 nc), (ank, aI K 120 nk), (ant, aJ K 120 nt), (aag, aI K 120 fag), (abk, aI K 120 fbk), (atd, aI K 120 ftd), (ase, aZ K 120 fs1)] (by decide) rfl ?_
            refine lx_st (a' := 0) (b' := 0) [.int (nI (lm_cell w qa))] rfl rfl rfl ?_
            refine lx_istore F [(0, .ref y), (1, .int (nI k)), (2, .int (nI m)), (3, .int (nI (0 + 1))), (4, .int (nI (lm_cell w qa)))] [1, 2, 3, 4, 0] dX4_words_105 rfl (by decide) ?_
            by_cases hs : lm_cell w qa ∈ S9
            · skip
              refine lx_aload_n F dX4_words_107 0 rfl ?_
              refine gf_X4_50 F 0 rfl rfl dX4_words_108 ?_
              refine lx_iload F dX4_words_111 4 rfl ?_
              refine lx_zald F 14 (lm_cell w qa) dX4_words_113 rfl hx (by decide) ?_
              rw [show fs1 (lm_cell w qa) = nI 1 by rw [hfs _ hx, if_pos hs]]
              refine lx_ifN_eq F 119 (by omega) dX4_words_114 rfl (fun h => absurd h (by omega)) (fun _ => ?_)
              refine lx_iload_n F dX4_words_117 2 rfl ?_
              exact lx_iret F hR dX4_words_118 ⟨by rw [lm_none_n hk, if_neg (by decide), lm_ix_n hk, ← hl]; rfl, by rw [show lm_q1 (nI k) (c, w, u, rt, z) = (0, (c, w, u, rt, z)) by unfold lm_q1; rw [lm_none_n hk]; rfl]; exact ⟨_, _, _, _, _, _, _, _, _, _, _, _, _, _, _, _, _, _, _, _, _, _, _, _, _, _, _, _, _, _, _, _, hh, hro, rfl⟩⟩
            · skip
              exfalso
              have h9 := lm_gd_len (lm_gd_cons hS hcv hs)
              simp at h9
              omega
      | succ n9 ih =>
        intro v m S9 fs1 hS9 hS hv hfs hl hm3
        have hv3 := lm_ok_kind hv
        have hSl := lm_gd_len hS
        refine lx_aload_n F dX4_words_53 0 rfl ?_
        refine gf_X4_58 F 0 rfl rfl dX4_words_54 ?_
        refine lx_iconst F dX4_words_57 kc_2 ?_
        refine lx_icmpN_ne F 157 (by omega) (by omega) dX4_words_58 rfl (fun h2 => ?_) (fun h2 => ?_)
        · skip
          refine lx_iload_n F dX4_words_157 2 rfl ?_
          exact lx_iret F hR dX4_words_158 ⟨by rw [lm_none_n hk, if_neg (by decide), lm_ix_n hk, ← hl, lm_wds_no h2], by rw [show lm_q1 (nI k) (c, w, u, rt, z) = (0, (c, w, u, rt, z)) by unfold lm_q1; rw [lm_none_n hk]; rfl]; exact ⟨_, _, _, _, _, _, _, _, _, _, _, _, _, _, _, _, _, _, _, _, _, _, _, _, _, _, _, _, _, _, _, _, hh, hro, rfl⟩⟩
        · skip
          obtain ⟨qa, ea, la, na⟩ := lm_ok_p hv h2
          have ta : lm_to w v = lm_cell w qa := lm_to_q ea
          have hcv : lm_cl c w u (lm_cell w qa) := lm_cell_cl hw la na
          have hx : lm_cell w qa < 120 := Nat.lt_of_lt_of_le hcv.1 hu
          have hk4 := lm_k4 hw la
          refine lx_iconst F dX4_words_61 kc_0 ?_
          refine lx_istore_n F [(0, .ref y), (1, .int (nI k)), (2, .int (nI m)), (3, .int (nI 0))] [1, 2, 3, 0] dX4_words_62 rfl (by decide) ?_
          refine lx_aload_n F dX4_words_63 0 rfl ?_
          refine gf_X4_61 F 0 rfl rfl dX4_words_64 ?_
          refine lx_st (a' := 0) (b' := 0) [.long (jI ((qa : Nat) : Int))] rfl rfl (by rw [ea]) ?_
          refine lx_l2i F dX4_words_67 (jI_l2i qa) ?_
          refine lx_istore F [(0, .ref y), (1, .int (nI k)), (2, .int (nI m)), (3, .int (nI 0)), (4, .int (nI qa))] [1, 2, 3, 4, 0] dX4_words_68 rfl (by decide) ?_
          refine lx_aload_n F dX4_words_70 0 rfl ?_
          refine gf_X4_13 F 0 rfl rfl dX4_words_71 ?_
          refine lx_iload F dX4_words_74 4 rfl ?_
          refine lx_iald F 2 qa dX4_words_76 rfl (by omega) (by decide) ?_
          rw [(hh qa la).2.1]
          refine lx_iconst F dX4_words_77 kc_3 ?_
          refine lx_icmpN_ne F 97 (by omega) (by omega) dX4_words_78 rfl (fun h3 => ?_) (fun h3 => ?_)
          · skip
            have hmv : lm_cell w qa = v.2.toNat := by rw [lm_cell_n h3, ea]; simp
            refine lx_aload_n F dX4_words_97 0 rfl ?_
            refine lx_aload_n F dX4_words_98 0 rfl ?_
            refine gf_X4_61 F 0 rfl rfl dX4_words_99 ?_
            refine lx_st (a' := 0) (b' := 0) [.long (jI ((qa : Nat) : Int)), .ref y] rfl rfl (by rw [ea]) ?_
            refine lx_cv F (zr_cell (xl E) K y acd akd act ark arr ali ala anc ank ant aag abk atd ase (nI (lm_rf false false)) z (nI v.1) (jI v.2) mn nx cd kd ct c w u hw hh qa la na) cv_X4_65 0 rfl rfl [0, 2, 3] [1, 4, 5, 6, 7, 8, 9, 10, 11, 12, 13, 14] [(acd, aI K 120 cd), (ark, aI K 10 rk1), (arr, aJ K 10 rr1), (ali, aI K 120 fl), (ala, aI K 120 fla), (anc, aI K 120 nc), (ank, aI K 120 nk), (ant, aJ K 120 nt), (aag, aI K 120 fag), (abk, aI K 120 fbk), (atd, aI K 120 ftd), (ase, aZ K 120 fs1)] rfl rfl (by decide) rfl (st := []) rfl (Nat.le_of_ble_eq_true rfl) (by decide) ⟨by decide, by decide⟩ dX4_words_102 (fun v9 w9 h9 => ?_)
            obtain ⟨rfl, rfl⟩ := h9
            refine lx_perm [12, 0, 13, 14, 1, 2, 3, 4, 5, 6, 7, 8, 9, 10, 11] [(y, .inr (4, [.int (nI (lm_rf false false)), .ref acd, .ref akd, .ref act, .int (nI u), .ref ark, .ref arr, .int z, .int (nI v.1), .long (jI v.2), .ref ali, .int mn, .ref ala, .ref anc, .ref ank, .ref ant, .int nx, .ref aag, .ref abk, .ref atd, .ref ase])), (acd, aI K 120 cd), (akd, aI K 120 kd), (act, aJ K 120 ct), (ark, aI K 10 rk1), (arr, aJ K 10 rr1), (ali, aI K 120 fl), (ala, aI K 120 fla), (anc, aI K 120 nc), (ank, aI K 120 nk), (ant, aJ K 120 nt), (aag, aI K 120 fag), (abk, aI K 120 fbk), (atd, aI K 120 ftd), (ase, aZ K 120 fs1)] (by decide) rfl ?_
            refine lx_st (a' := 0) (b' := 0) [.int (nI (lm_cell w qa))] rfl rfl rfl ?_
            refine lx_istore F [(0, .ref y), (1, .int (nI k)), (2, .int (nI m)), (3, .int (nI 0)), (4, .int (nI (lm_cell w qa)))] [1, 2, 3, 4, 0] dX4_words_105 rfl (by decide) ?_
            by_cases hs : lm_cell w qa ∈ S9
            · skip
              refine lx_aload_n F dX4_words_107 0 rfl ?_
              refine gf_X4_50 F 0 rfl rfl dX4_words_108 ?_
              refine lx_iload F dX4_words_111 4 rfl ?_
              refine lx_zald F 14 (lm_cell w qa) dX4_words_113 rfl hx (by decide) ?_
              rw [show fs1 (lm_cell w qa) = nI 1 by rw [hfs _ hx, if_pos hs]]
              refine lx_ifN_eq F 119 (by omega) dX4_words_114 rfl (fun h => absurd h (by omega)) (fun _ => ?_)
              refine lx_iload_n F dX4_words_117 2 rfl ?_
              exact lx_iret F hR dX4_words_118 ⟨by rw [lm_none_n hk, if_neg (by decide), lm_ix_n hk, ← hl, lm_wds_old h2 (by rw [ta]; exact hs)], by rw [show lm_q1 (nI k) (c, w, u, rt, z) = (0, (c, w, u, rt, z)) by unfold lm_q1; rw [lm_none_n hk]; rfl]; exact ⟨_, _, _, _, _, _, _, _, _, _, _, _, _, _, _, _, _, _, _, _, _, _, _, _, _, _, _, _, _, _, _, _, hh, hro, rfl⟩⟩
            · skip
              refine lx_aload_n F dX4_words_107 0 rfl ?_
              refine gf_X4_50 F 0 rfl rfl dX4_words_108 ?_
              refine lx_iload F dX4_words_111 4 rfl ?_
              refine lx_zald F 14 (lm_cell w qa) dX4_words_113 rfl hx (by decide) ?_
              rw [show fs1 (lm_cell w qa) = nI 0 by rw [hfs _ hx, if_neg hs]]
              refine lx_ifN_eq F 119 (by omega) dX4_words_114 rfl (fun _ => ?_) (fun h => absurd h (by omega))
              refine lx_aload_n F dX4_words_119 0 rfl ?_
              refine gf_X4_50 F 0 rfl rfl dX4_words_120 ?_
              refine lx_iload F dX4_words_123 4 rfl ?_
              refine lx_iconst F dX4_words_125 kc_1 ?_
              refine lx_zast F 14 (lm_cell w qa) [(y, .inr (4, [.int (nI (lm_rf false false)), .ref acd, .ref akd, .ref act, .int (nI u), .ref ark, .ref arr, .int z, .int (nI v.1), .long (jI v.2), .ref ali, .int mn, .ref ala, .ref anc, .ref ank, .ref ant, .int nx, .ref aag, .ref abk, .ref atd, .ref ase])), (acd, aI K 120 cd), (akd, aI K 120 kd), (act, aJ K 120 ct), (ark, aI K 10 rk1), (arr, aJ K 10 rr1), (ali, aI K 120 fl), (ala, aI K 120 fla), (anc, aI K 120 nc), (ank, aI K 120 nk), (ant, aJ K 120 nt), (aag, aI K 120 fag), (abk, aI K 120 fbk), (atd, aI K 120 ftd), (ase, aZ K 120 (lm_up fs1 (lm_cell w qa) (nI 1)))] dX4_words_126 rfl hx (by decide) (by first | rfl | decide) rfl ?_
              refine lx_iload_n F dX4_words_127 2 rfl ?_
              refine lx_iload_n F dX4_words_128 3 rfl ?_
              refine lx_aload_n F dX4_words_129 0 rfl ?_
              refine gf_X4_7 F 0 rfl rfl dX4_words_130 ?_
              refine lx_iload F dX4_words_133 4 rfl ?_
              have hc3 := hw.2.1 _ hcv.1
              refine lx_iald F 1 (lm_cell w qa) dX4_words_135 rfl hx (by decide) ?_
              rw [(hh _ hcv.1).1]
              refine lx_iconst F dX4_words_136 kc_2 ?_
              refine lx_icmpN_ne F 144 (by omega) (by omega) dX4_words_137 rfl (fun h5 => ?_) (fun h5 => ?_)
              · skip
                refine lx_iconst F dX4_words_144 kc_1 ?_
                refine lx_iadd F dX4_words_145 (nI_add _ _) ?_
                refine lx_iadd F dX4_words_146 (nI_add _ _) ?_
                refine lx_istore_n F [(0, .ref y), (1, .int (nI k)), (2, .int (nI (m + (0 + 1)))), (3, .int (nI 0)), (4, .int (nI (lm_cell w qa)))] [1, 2, 0, 3, 4] dX4_words_147 rfl (by decide) ?_
                refine lx_aload_n F dX4_words_148 0 rfl ?_
                refine lx_iload F dX4_words_149 4 rfl ?_
                refine lx_cv F (zr_lookRest (xl E) K y acd akd act ark arr ali ala anc ank ant aag abk atd ase (nI (lm_rf false false)) z (nI v.1) (jI v.2) mn nx cd kd ct c w u hw hh (lm_cell w qa) hcv) cv_X4_85 0 rfl rfl [0, 1, 2, 3] [4, 5, 6, 7, 8, 9, 10, 11, 12, 13, 14] [(ark, aI K 10 rk1), (arr, aJ K 10 rr1), (ali, aI K 120 fl), (ala, aI K 120 fla), (anc, aI K 120 nc), (ank, aI K 120 nk), (ant, aJ K 120 nt), (aag, aI K 120 fag), (abk, aI K 120 fbk), (atd, aI K 120 ftd), (ase, aZ K 120 (lm_up fs1 (lm_cell w qa) (nI 1)))] rfl rfl (by decide) rfl (st := []) rfl (Nat.le_of_ble_eq_true rfl) (by decide) ⟨by decide, by decide⟩ dX4_words_151 (fun v9 w9 h9 => ?_)
                obtain ⟨rfl, rfl⟩ := h9
                refine lx_perm [11, 12, 13, 14, 0, 1, 2, 3, 4, 5, 6, 7, 8, 9, 10] [(y, .inr (4, [.int (nI (lm_rf false false)), .ref acd, .ref akd, .ref act, .int (nI u), .ref ark, .ref arr, .int z, .int (nI ((lm_rest c w (lm_cell w qa)).1)), .long (jI ((lm_rest c w (lm_cell w qa)).2)), .ref ali, .int mn, .ref ala, .ref anc, .ref ank, .ref ant, .int nx, .ref aag, .ref abk, .ref atd, .ref ase])), (acd, aI K 120 cd), (akd, aI K 120 kd), (act, aJ K 120 ct), (ark, aI K 10 rk1), (arr, aJ K 10 rr1), (ali, aI K 120 fl), (ala, aI K 120 fla), (anc, aI K 120 nc), (ank, aI K 120 nk), (ant, aJ K 120 nt), (aag, aI K 120 fag), (abk, aI K 120 fbk), (atd, aI K 120 ftd), (ase, aZ K 120 (lm_up fs1 (lm_cell w qa) (nI 1)))] (by decide) rfl ?_
                refine lx_st (a' := 0) (b' := 0) [] rfl rfl rfl ?_
                refine lx_goto F 53 dX4_words_154 rfl ?_
                refine lx_lv [0, 1, 2] [(0, .ref y), (1, .int (nI k)), (2, .int (nI (m + (0 + 1))))] rfl ?_
                exact ih _ _ (lm_cell w qa :: S9) _ (by simp; omega) (lm_gd_cons hS hcv hs) (lm_rest_ok hw hcv) (lm_up_mem hfs) (by rw [← hl, lm_wds_new h2 (by rw [ta]; exact hs), ta, if_neg h5, if_pos hmv] <;> (congr 1; omega)) (by simp; omega)
              · skip
                refine lx_iconst F dX4_words_140 kc_2 ?_
                refine lx_goto F 145 dX4_words_141 rfl ?_
                refine lx_iadd F dX4_words_145 (nI_add _ _) ?_
                refine lx_iadd F dX4_words_146 (nI_add _ _) ?_
                refine lx_istore_n F [(0, .ref y), (1, .int (nI k)), (2, .int (nI (m + (0 + 2)))), (3, .int (nI 0)), (4, .int (nI (lm_cell w qa)))] [1, 2, 0, 3, 4] dX4_words_147 rfl (by decide) ?_
                refine lx_aload_n F dX4_words_148 0 rfl ?_
                refine lx_iload F dX4_words_149 4 rfl ?_
                refine lx_cv F (zr_lookRest (xl E) K y acd akd act ark arr ali ala anc ank ant aag abk atd ase (nI (lm_rf false false)) z (nI v.1) (jI v.2) mn nx cd kd ct c w u hw hh (lm_cell w qa) hcv) cv_X4_85 0 rfl rfl [0, 1, 2, 3] [4, 5, 6, 7, 8, 9, 10, 11, 12, 13, 14] [(ark, aI K 10 rk1), (arr, aJ K 10 rr1), (ali, aI K 120 fl), (ala, aI K 120 fla), (anc, aI K 120 nc), (ank, aI K 120 nk), (ant, aJ K 120 nt), (aag, aI K 120 fag), (abk, aI K 120 fbk), (atd, aI K 120 ftd), (ase, aZ K 120 (lm_up fs1 (lm_cell w qa) (nI 1)))] rfl rfl (by decide) rfl (st := []) rfl (Nat.le_of_ble_eq_true rfl) (by decide) ⟨by decide, by decide⟩ dX4_words_151 (fun v9 w9 h9 => ?_)
                obtain ⟨rfl, rfl⟩ := h9
                refine lx_perm [11, 12, 13, 14, 0, 1, 2, 3, 4, 5, 6, 7, 8, 9, 10] [(y, .inr (4, [.int (nI (lm_rf false false)), .ref acd, .ref akd, .ref act, .int (nI u), .ref ark, .ref arr, .int z, .int (nI ((lm_rest c w (lm_cell w qa)).1)), .long (jI ((lm_rest c w (lm_cell w qa)).2)), .ref ali, .int mn, .ref ala, .ref anc, .ref ank, .ref ant, .int nx, .ref aag, .ref abk, .ref atd, .ref ase])), (acd, aI K 120 cd), (akd, aI K 120 kd), (act, aJ K 120 ct), (ark, aI K 10 rk1), (arr, aJ K 10 rr1), (ali, aI K 120 fl), (ala, aI K 120 fla), (anc, aI K 120 nc), (ank, aI K 120 nk), (ant, aJ K 120 nt), (aag, aI K 120 fag), (abk, aI K 120 fbk), (atd, aI K 120 ftd), (ase, aZ K 120 (lm_up fs1 (lm_cell w qa) (nI 1)))] (by decide) rfl ?_
                refine lx_st (a' := 0) (b' := 0) [] rfl rfl rfl ?_
                refine lx_goto F 53 dX4_words_154 rfl ?_
                refine lx_lv [0, 1, 2] [(0, .ref y), (1, .int (nI k)), (2, .int (nI (m + (0 + 2))))] rfl ?_
                exact ih _ _ (lm_cell w qa :: S9) _ (by simp; omega) (lm_gd_cons hS hcv hs) (lm_rest_ok hw hcv) (lm_up_mem hfs) (by rw [← hl, lm_wds_new h2 (by rw [ta]; exact hs), ta, if_pos h5, if_pos hmv] <;> (congr 1; omega)) (by simp; omega)
          · skip
            obtain ⟨r9, hr, hr2⟩ := lm_cell_m hw la h3
            have hru : r9 < u := by rw [← hr2]; exact hcv.1
            have hk5 : (w r9).1 ≠ 3 := by rw [← hr2]; exact hcv.2.2
            have hk6 := lm_k4 hw hru
            have hmv : ¬ lm_cell w qa = v.2.toNat := by rw [ea]; simp; exact lm_cell_ne hw la h3
            refine lx_iinc F [(0, .ref y), (1, .int (nI k)), (2, .int (nI m)), (3, .int (nI (0 + 1))), (4, .int (nI qa))] 3 [1, 2, 3, 0, 4] dX4_words_81 rfl (k_inc _) rfl (by decide) ?_
            refine lx_aload_n F dX4_words_84 0 rfl ?_
            refine gf_X4_16 F 0 rfl rfl dX4_words_85 ?_
            refine lx_iload F dX4_words_88 4 rfl ?_
            refine lx_lald F 3 qa dX4_words_90 rfl (by omega) (by decide) ?_
            rw [show ct qa = jI ((r9 : Nat) : Int) by rw [(hh qa la).2.2, hr]]
            refine lx_l2i F dX4_words_91 (jI_l2i r9) ?_
            refine lx_istore F [(0, .ref y), (1, .int (nI k)), (2, .int (nI m)), (3, .int (nI (0 + 1))), (4, .int (nI r9))] [1, 2, 3, 4, 0] dX4_words_92 rfl (by decide) ?_
            refine lx_goto F 70 dX4_words_94 rfl ?_
            refine lx_aload_n F dX4_words_70 0 rfl ?_
            refine gf_X4_13 F 0 rfl rfl dX4_words_71 ?_
            refine lx_iload F dX4_words_74 4 rfl ?_
            refine lx_iald F 2 r9 dX4_words_76 rfl (by omega) (by decide) ?_
            rw [(hh r9 hru).2.1]
            refine lx_iconst F dX4_words_77 kc_3 ?_
            refine lx_icmpN_ne F 97 (by omega) (by omega) dX4_words_78 rfl (fun _ => ?_) (fun h => absurd h (by omega))
            refine lx_aload_n F dX4_words_97 0 rfl ?_
            refine lx_aload_n F dX4_words_98 0 rfl ?_
            refine gf_X4_61 F 0 rfl rfl dX4_words_99 ?_
            refine lx_st (a' := 0) (b' := 0) [.long (jI ((qa : Nat) : Int)), .ref y] rfl rfl (by rw [ea]) ?_
            refine lx_cv F (zr_cell (xl E) K y acd akd act ark arr ali ala anc ank ant aag abk atd ase (nI (lm_rf false false)) z (nI v.1) (jI v.2) mn nx cd kd ct c w u hw hh qa la na) cv_X4_65 0 rfl rfl [0, 2, 3] [1, 4, 5, 6, 7, 8, 9, 10, 11, 12, 13, 14] [(acd, aI K 120 cd), (ark, aI K 10 rk1), (arr, aJ K 10 rr1), (ali, aI K 120 fl), (ala, aI K 120 fla), (anc, aI K 120 nc), (ank, aI K 120 nk), (ant, aJ K 120 nt), (aag, aI K 120 fag), (abk, aI K 120 fbk), (atd, aI K 120 ftd), (ase, aZ K 120 fs1)] rfl rfl (by decide) rfl (st := []) rfl (Nat.le_of_ble_eq_true rfl) (by decide) ⟨by decide, by decide⟩ dX4_words_102 (fun v9 w9 h9 => ?_)
            obtain ⟨rfl, rfl⟩ := h9
            refine lx_perm [12, 0, 13, 14, 1, 2, 3, 4, 5, 6, 7, 8, 9, 10, 11] [(y, .inr (4, [.int (nI (lm_rf false false)), .ref acd, .ref akd, .ref act, .int (nI u), .ref ark, .ref arr, .int z, .int (nI v.1), .long (jI v.2), .ref ali, .int mn, .ref ala, .ref anc, .ref ank, .ref ant, .int nx, .ref aag, .ref abk, .ref atd, .ref ase])), (acd, aI K 120 cd), (akd, aI K 120 kd), (act, aJ K 120 ct), (ark, aI K 10 rk1), (arr, aJ K 10 rr1), (ali, aI K 120 fl), (ala, aI K 120 fla), (anc, aI K 120 nc), (ank, aI K 120 nk), (ant, aJ K 120 nt), (aag, aI K 120 fag), (abk, aI K 120 fbk), (atd, aI K 120 ftd), (ase, aZ K 120 fs1)] (by decide) rfl ?_
            refine lx_st (a' := 0) (b' := 0) [.int (nI (lm_cell w qa))] rfl rfl rfl ?_
            refine lx_istore F [(0, .ref y), (1, .int (nI k)), (2, .int (nI m)), (3, .int (nI (0 + 1))), (4, .int (nI (lm_cell w qa)))] [1, 2, 3, 4, 0] dX4_words_105 rfl (by decide) ?_
            by_cases hs : lm_cell w qa ∈ S9
            · skip
              refine lx_aload_n F dX4_words_107 0 rfl ?_
              refine gf_X4_50 F 0 rfl rfl dX4_words_108 ?_
              refine lx_iload F dX4_words_111 4 rfl ?_
              refine lx_zald F 14 (lm_cell w qa) dX4_words_113 rfl hx (by decide) ?_
              rw [show fs1 (lm_cell w qa) = nI 1 by rw [hfs _ hx, if_pos hs]]
              refine lx_ifN_eq F 119 (by omega) dX4_words_114 rfl (fun h => absurd h (by omega)) (fun _ => ?_)
              refine lx_iload_n F dX4_words_117 2 rfl ?_
              exact lx_iret F hR dX4_words_118 ⟨by rw [lm_none_n hk, if_neg (by decide), lm_ix_n hk, ← hl, lm_wds_old h2 (by rw [ta]; exact hs)], by rw [show lm_q1 (nI k) (c, w, u, rt, z) = (0, (c, w, u, rt, z)) by unfold lm_q1; rw [lm_none_n hk]; rfl]; exact ⟨_, _, _, _, _, _, _, _, _, _, _, _, _, _, _, _, _, _, _, _, _, _, _, _, _, _, _, _, _, _, _, _, hh, hro, rfl⟩⟩
            · skip
              refine lx_aload_n F dX4_words_107 0 rfl ?_
              refine gf_X4_50 F 0 rfl rfl dX4_words_108 ?_
              refine lx_iload F dX4_words_111 4 rfl ?_
              refine lx_zald F 14 (lm_cell w qa) dX4_words_113 rfl hx (by decide) ?_
              rw [show fs1 (lm_cell w qa) = nI 0 by rw [hfs _ hx, if_neg hs]]
              refine lx_ifN_eq F 119 (by omega) dX4_words_114 rfl (fun _ => ?_) (fun h => absurd h (by omega))
              refine lx_aload_n F dX4_words_119 0 rfl ?_
              refine gf_X4_50 F 0 rfl rfl dX4_words_120 ?_
              refine lx_iload F dX4_words_123 4 rfl ?_
              refine lx_iconst F dX4_words_125 kc_1 ?_
              refine lx_zast F 14 (lm_cell w qa) [(y, .inr (4, [.int (nI (lm_rf false false)), .ref acd, .ref akd, .ref act, .int (nI u), .ref ark, .ref arr, .int z, .int (nI v.1), .long (jI v.2), .ref ali, .int mn, .ref ala, .ref anc, .ref ank, .ref ant, .int nx, .ref aag, .ref abk, .ref atd, .ref ase])), (acd, aI K 120 cd), (akd, aI K 120 kd), (act, aJ K 120 ct), (ark, aI K 10 rk1), (arr, aJ K 10 rr1), (ali, aI K 120 fl), (ala, aI K 120 fla), (anc, aI K 120 nc), (ank, aI K 120 nk), (ant, aJ K 120 nt), (aag, aI K 120 fag), (abk, aI K 120 fbk), (atd, aI K 120 ftd), (ase, aZ K 120 (lm_up fs1 (lm_cell w qa) (nI 1)))] dX4_words_126 rfl hx (by decide) (by first | rfl | decide) rfl ?_
              refine lx_iload_n F dX4_words_127 2 rfl ?_
              refine lx_iload_n F dX4_words_128 3 rfl ?_
              refine lx_aload_n F dX4_words_129 0 rfl ?_
              refine gf_X4_7 F 0 rfl rfl dX4_words_130 ?_
              refine lx_iload F dX4_words_133 4 rfl ?_
              have hc3 := hw.2.1 _ hcv.1
              refine lx_iald F 1 (lm_cell w qa) dX4_words_135 rfl hx (by decide) ?_
              rw [(hh _ hcv.1).1]
              refine lx_iconst F dX4_words_136 kc_2 ?_
              refine lx_icmpN_ne F 144 (by omega) (by omega) dX4_words_137 rfl (fun h5 => ?_) (fun h5 => ?_)
              · skip
                refine lx_iconst F dX4_words_144 kc_1 ?_
                refine lx_iadd F dX4_words_145 (nI_add _ _) ?_
                refine lx_iadd F dX4_words_146 (nI_add _ _) ?_
                refine lx_istore_n F [(0, .ref y), (1, .int (nI k)), (2, .int (nI (m + ((0 + 1) + 1)))), (3, .int (nI (0 + 1))), (4, .int (nI (lm_cell w qa)))] [1, 2, 0, 3, 4] dX4_words_147 rfl (by decide) ?_
                refine lx_aload_n F dX4_words_148 0 rfl ?_
                refine lx_iload F dX4_words_149 4 rfl ?_
                refine lx_cv F (zr_lookRest (xl E) K y acd akd act ark arr ali ala anc ank ant aag abk atd ase (nI (lm_rf false false)) z (nI v.1) (jI v.2) mn nx cd kd ct c w u hw hh (lm_cell w qa) hcv) cv_X4_85 0 rfl rfl [0, 1, 2, 3] [4, 5, 6, 7, 8, 9, 10, 11, 12, 13, 14] [(ark, aI K 10 rk1), (arr, aJ K 10 rr1), (ali, aI K 120 fl), (ala, aI K 120 fla), (anc, aI K 120 nc), (ank, aI K 120 nk), (ant, aJ K 120 nt), (aag, aI K 120 fag), (abk, aI K 120 fbk), (atd, aI K 120 ftd), (ase, aZ K 120 (lm_up fs1 (lm_cell w qa) (nI 1)))] rfl rfl (by decide) rfl (st := []) rfl (Nat.le_of_ble_eq_true rfl) (by decide) ⟨by decide, by decide⟩ dX4_words_151 (fun v9 w9 h9 => ?_)
                obtain ⟨rfl, rfl⟩ := h9
                refine lx_perm [11, 12, 13, 14, 0, 1, 2, 3, 4, 5, 6, 7, 8, 9, 10] [(y, .inr (4, [.int (nI (lm_rf false false)), .ref acd, .ref akd, .ref act, .int (nI u), .ref ark, .ref arr, .int z, .int (nI ((lm_rest c w (lm_cell w qa)).1)), .long (jI ((lm_rest c w (lm_cell w qa)).2)), .ref ali, .int mn, .ref ala, .ref anc, .ref ank, .ref ant, .int nx, .ref aag, .ref abk, .ref atd, .ref ase])), (acd, aI K 120 cd), (akd, aI K 120 kd), (act, aJ K 120 ct), (ark, aI K 10 rk1), (arr, aJ K 10 rr1), (ali, aI K 120 fl), (ala, aI K 120 fla), (anc, aI K 120 nc), (ank, aI K 120 nk), (ant, aJ K 120 nt), (aag, aI K 120 fag), (abk, aI K 120 fbk), (atd, aI K 120 ftd), (ase, aZ K 120 (lm_up fs1 (lm_cell w qa) (nI 1)))] (by decide) rfl ?_
                refine lx_st (a' := 0) (b' := 0) [] rfl rfl rfl ?_
                refine lx_goto F 53 dX4_words_154 rfl ?_
                refine lx_lv [0, 1, 2] [(0, .ref y), (1, .int (nI k)), (2, .int (nI (m + ((0 + 1) + 1))))] rfl ?_
                exact ih _ _ (lm_cell w qa :: S9) _ (by simp; omega) (lm_gd_cons hS hcv hs) (lm_rest_ok hw hcv) (lm_up_mem hfs) (by rw [← hl, lm_wds_new h2 (by rw [ta]; exact hs), ta, if_neg h5, if_neg hmv] <;> (congr 1; omega)) (by simp; omega)
              · skip
                refine lx_iconst F dX4_words_140 kc_2 ?_
                refine lx_goto F 145 dX4_words_141 rfl ?_
                refine lx_iadd F dX4_words_145 (nI_add _ _) ?_
                refine lx_iadd F dX4_words_146 (nI_add _ _) ?_
                refine lx_istore_n F [(0, .ref y), (1, .int (nI k)), (2, .int (nI (m + ((0 + 1) + 2)))), (3, .int (nI (0 + 1))), (4, .int (nI (lm_cell w qa)))] [1, 2, 0, 3, 4] dX4_words_147 rfl (by decide) ?_
                refine lx_aload_n F dX4_words_148 0 rfl ?_
                refine lx_iload F dX4_words_149 4 rfl ?_
                refine lx_cv F (zr_lookRest (xl E) K y acd akd act ark arr ali ala anc ank ant aag abk atd ase (nI (lm_rf false false)) z (nI v.1) (jI v.2) mn nx cd kd ct c w u hw hh (lm_cell w qa) hcv) cv_X4_85 0 rfl rfl [0, 1, 2, 3] [4, 5, 6, 7, 8, 9, 10, 11, 12, 13, 14] [(ark, aI K 10 rk1), (arr, aJ K 10 rr1), (ali, aI K 120 fl), (ala, aI K 120 fla), (anc, aI K 120 nc), (ank, aI K 120 nk), (ant, aJ K 120 nt), (aag, aI K 120 fag), (abk, aI K 120 fbk), (atd, aI K 120 ftd), (ase, aZ K 120 (lm_up fs1 (lm_cell w qa) (nI 1)))] rfl rfl (by decide) rfl (st := []) rfl (Nat.le_of_ble_eq_true rfl) (by decide) ⟨by decide, by decide⟩ dX4_words_151 (fun v9 w9 h9 => ?_)
                obtain ⟨rfl, rfl⟩ := h9
                refine lx_perm [11, 12, 13, 14, 0, 1, 2, 3, 4, 5, 6, 7, 8, 9, 10] [(y, .inr (4, [.int (nI (lm_rf false false)), .ref acd, .ref akd, .ref act, .int (nI u), .ref ark, .ref arr, .int z, .int (nI ((lm_rest c w (lm_cell w qa)).1)), .long (jI ((lm_rest c w (lm_cell w qa)).2)), .ref ali, .int mn, .ref ala, .ref anc, .ref ank, .ref ant, .int nx, .ref aag, .ref abk, .ref atd, .ref ase])), (acd, aI K 120 cd), (akd, aI K 120 kd), (act, aJ K 120 ct), (ark, aI K 10 rk1), (arr, aJ K 10 rr1), (ali, aI K 120 fl), (ala, aI K 120 fla), (anc, aI K 120 nc), (ank, aI K 120 nk), (ant, aJ K 120 nt), (aag, aI K 120 fag), (abk, aI K 120 fbk), (atd, aI K 120 ftd), (ase, aZ K 120 (lm_up fs1 (lm_cell w qa) (nI 1)))] (by decide) rfl ?_
                refine lx_st (a' := 0) (b' := 0) [] rfl rfl rfl ?_
                refine lx_goto F 53 dX4_words_154 rfl ?_
                refine lx_lv [0, 1, 2] [(0, .ref y), (1, .int (nI k)), (2, .int (nI (m + ((0 + 1) + 2))))] rfl ?_
                exact ih _ _ (lm_cell w qa :: S9) _ (by simp; omega) (lm_gd_cons hS hcv hs) (lm_rest_ok hw hcv) (lm_up_mem hfs) (by rw [← hl, lm_wds_new h2 (by rw [ta]; exact hs), ta, if_pos h5, if_neg hmv] <;> (congr 1; omega)) (by simp; omega)
    have loop1 : ∀ (n9 : Nat) (i : Nat) (fs1 : Nat → Int32), i + n9 = 120 → (∀ j, j < i → fs1 j = nI 0) → lx_W K 5 E 0 0 16 [(0, .ref y), (1, .int (nI k)), (2, .int (nI i))] [] [(y, .inr (4, [.int (nI (lm_rf false false)), .ref acd, .ref akd, .ref act, .int (nI u), .ref ark, .ref arr, .int z, .int kk, .long kc, .ref ali, .int mn, .ref ala, .ref anc, .ref ank, .ref ant, .int nx, .ref aag, .ref abk, .ref atd, .ref ase])), (acd, aI K 120 cd), (akd, aI K 120 kd), (act, aJ K 120 ct), (ark, aI K 10 rk1), (arr, aJ K 10 rr1), (ali, aI K 120 fl), (ala, aI K 120 fla), (anc, aI K 120 nc), (ank, aI K 120 nk), (ant, aJ K 120 nt), (aag, aI K 120 fag), (abk, aI K 120 fbk), (atd, aI K 120 ftd), (ase, aZ K 120 fs1)] := by
      intro n9
      induction n9 with
      | zero =>
        intro i fs1 hi ha
        refine lx_iload_n F dX4_words_16 2 rfl ?_
        refine lx_bipush F dX4_words_17 kb_120 ?_
        refine lx_icmpN_ge F 35 (by omega) (by omega) dX4_words_19 rfl (fun _ => ?_) (fun h => absurd h (by omega))
        refine lx_iconst F dX4_words_35 kc_0 ?_
        refine lx_istore_n F [(0, .ref y), (1, .int (nI k)), (2, .int (nI 0))] [1, 2, 0] dX4_words_36 rfl (by decide) ?_
        refine lx_aload_n F dX4_words_37 0 rfl ?_
        refine lx_aload_n F dX4_words_38 0 rfl ?_
        refine gf_X4_20 F 0 rfl rfl dX4_words_39 ?_
        refine lx_iload_n F dX4_words_42 1 rfl ?_
        refine lx_iald F 4 k dX4_words_43 rfl (by omega) (by decide) ?_
        rw [(hro k hk).1]
        refine lx_aload_n F dX4_words_44 0 rfl ?_
        refine gf_X4_23 F 0 rfl rfl dX4_words_45 ?_
        refine lx_iload_n F dX4_words_48 1 rfl ?_
        refine lx_lald F 5 k dX4_words_49 rfl (by omega) (by decide) ?_
        rw [(hro k hk).2]
        refine lx_cv F (zr_look (xl E) K y acd akd act ark arr ali ala anc ank ant aag abk atd ase (nI (lm_rf false false)) z kk kc mn nx (nI u) (nI (rt k).1) (jI (rt k).2)) cv_X4_69 0 rfl rfl [0] [1, 2, 3, 4, 5, 6, 7, 8, 9, 10, 11, 12, 13, 14] [(acd, aI K 120 cd), (akd, aI K 120 kd), (act, aJ K 120 ct), (ark, aI K 10 rk1), (arr, aJ K 10 rr1), (ali, aI K 120 fl), (ala, aI K 120 fla), (anc, aI K 120 nc), (ank, aI K 120 nk), (ant, aJ K 120 nt), (aag, aI K 120 fag), (abk, aI K 120 fbk), (atd, aI K 120 ftd), (ase, aZ K 120 fs1)] rfl rfl (by decide) rfl (st := []) rfl (Nat.le_of_ble_eq_true rfl) (by decide) ⟨by decide, by decide⟩ dX4_words_50 (fun v9 w9 h9 => ?_)
        obtain ⟨rfl, rfl⟩ := h9
        refine lx_perm [14, 0, 1, 2, 3, 4, 5, 6, 7, 8, 9, 10, 11, 12, 13] [(y, .inr (4, [.int (nI (lm_rf false false)), .ref acd, .ref akd, .ref act, .int (nI u), .ref ark, .ref arr, .int z, .int (nI ((rt k).1)), .long (jI ((rt k).2)), .ref ali, .int mn, .ref ala, .ref anc, .ref ank, .ref ant, .int nx, .ref aag, .ref abk, .ref atd, .ref ase])), (acd, aI K 120 cd), (akd, aI K 120 kd), (act, aJ K 120 ct), (ark, aI K 10 rk1), (arr, aJ K 10 rr1), (ali, aI K 120 fl), (ala, aI K 120 fla), (anc, aI K 120 nc), (ank, aI K 120 nk), (ant, aJ K 120 nt), (aag, aI K 120 fag), (abk, aI K 120 fbk), (atd, aI K 120 ftd), (ase, aZ K 120 fs1)] (by decide) rfl ?_
        refine lx_st (a' := 0) (b' := 0) [] rfl rfl rfl ?_
        exact loop 120 (rt k) 0 [] fs1 (by simp) ⟨List.nodup_nil, fun p hp => absurd hp List.not_mem_nil⟩ (hr9 k hk) (fun p hp => by rw [ha p (by omega)]; rfl) rfl (by omega)
      | succ n9 ih =>
        intro i fs1 hi ha
        refine lx_iload_n F dX4_words_16 2 rfl ?_
        refine lx_bipush F dX4_words_17 kb_120 ?_
        refine lx_icmpN_ge F 35 (by omega) (by omega) dX4_words_19 rfl (fun h => absurd h (by omega)) (fun _ => ?_)
        refine lx_aload_n F dX4_words_22 0 rfl ?_
        refine gf_X4_50 F 0 rfl rfl dX4_words_23 ?_
        refine lx_iload_n F dX4_words_26 2 rfl ?_
        refine lx_iconst F dX4_words_27 kc_0 ?_
        refine lx_zast F 14 i [(y, .inr (4, [.int (nI (lm_rf false false)), .ref acd, .ref akd, .ref act, .int (nI u), .ref ark, .ref arr, .int z, .int kk, .long kc, .ref ali, .int mn, .ref ala, .ref anc, .ref ank, .ref ant, .int nx, .ref aag, .ref abk, .ref atd, .ref ase])), (acd, aI K 120 cd), (akd, aI K 120 kd), (act, aJ K 120 ct), (ark, aI K 10 rk1), (arr, aJ K 10 rr1), (ali, aI K 120 fl), (ala, aI K 120 fla), (anc, aI K 120 nc), (ank, aI K 120 nk), (ant, aJ K 120 nt), (aag, aI K 120 fag), (abk, aI K 120 fbk), (atd, aI K 120 ftd), (ase, aZ K 120 (lm_up fs1 i (nI 0)))] dX4_words_28 rfl (by omega) (by decide) (by first | rfl | decide) rfl ?_
        refine lx_iinc F [(0, .ref y), (1, .int (nI k)), (2, .int (nI (i + 1)))] 2 [1, 2, 0] dX4_words_29 rfl (k_inc _) rfl (by decide) ?_
        refine lx_goto F 16 dX4_words_32 rfl ?_
        exact ih (i + 1) _ (by omega) (lm_up_fill ha)
    refine lx_aload_n F dX4_words_0 0 rfl ?_
    refine lx_iload_n F dX4_words_1 1 rfl ?_
    refine lx_cs F (zr_none2 (xl E) K (nI k) false (lm_none_n hk)) cs_X4_102 [] [0, 1, 2, 3, 4, 5, 6, 7, 8, 9, 10, 11, 12, 13, 14] [(y, .inr (4, [.int th, .ref acd, .ref akd, .ref act, .int (nI u), .ref ark, .ref arr, .int z, .int kk, .long kc, .ref ali, .int mn, .ref ala, .ref anc, .ref ank, .ref ant, .int nx, .ref aag, .ref abk, .ref atd, .ref ase])), (acd, aI K 120 cd), (akd, aI K 120 kd), (act, aJ K 120 ct), (ark, aI K 10 rk1), (arr, aJ K 10 rr1), (ali, aI K 120 fl), (ala, aI K 120 fla), (anc, aI K 120 nc), (ank, aI K 120 nk), (ant, aJ K 120 nt), (aag, aI K 120 fag), (abk, aI K 120 fbk), (atd, aI K 120 ftd), (ase, aZ K 120 fse)] rfl rfl (by decide) rfl (st := [.ref y]) rfl (Nat.le_of_ble_eq_true rfl) (by decide) ⟨by decide, by decide⟩ dX4_words_2 (fun v9 w9 h9 => ?_)
    obtain ⟨rfl, rfl⟩ := h9
    refine lx_perm [0, 1, 2, 3, 4, 5, 6, 7, 8, 9, 10, 11, 12, 13, 14] [(y, .inr (4, [.int th, .ref acd, .ref akd, .ref act, .int (nI u), .ref ark, .ref arr, .int z, .int kk, .long kc, .ref ali, .int mn, .ref ala, .ref anc, .ref ank, .ref ant, .int nx, .ref aag, .ref abk, .ref atd, .ref ase])), (acd, aI K 120 cd), (akd, aI K 120 kd), (act, aJ K 120 ct), (ark, aI K 10 rk1), (arr, aJ K 10 rr1), (ali, aI K 120 fl), (ala, aI K 120 fla), (anc, aI K 120 nc), (ank, aI K 120 nk), (ant, aJ K 120 nt), (aag, aI K 120 fag), (abk, aI K 120 fbk), (atd, aI K 120 ftd), (ase, aZ K 120 fse)] (by decide) rfl ?_
    refine lx_st (a' := 0) (b' := 0) [.int (bI false), .ref y] rfl rfl rfl ?_
    refine lx_iconst F dX4_words_5 kc_0 ?_
    refine lx_cv F (zr_refuse (xl E) K y acd akd act ark arr ali ala anc ank ant aag abk atd ase th z kk kc mn nx (nI u) false false) cv_X4_110 0 rfl rfl [0] [1, 2, 3, 4, 5, 6, 7, 8, 9, 10, 11, 12, 13, 14] [(acd, aI K 120 cd), (akd, aI K 120 kd), (act, aJ K 120 ct), (ark, aI K 10 rk1), (arr, aJ K 10 rr1), (ali, aI K 120 fl), (ala, aI K 120 fla), (anc, aI K 120 nc), (ank, aI K 120 nk), (ant, aJ K 120 nt), (aag, aI K 120 fag), (abk, aI K 120 fbk), (atd, aI K 120 ftd), (ase, aZ K 120 fse)] rfl rfl (by decide) rfl (st := []) rfl (Nat.le_of_ble_eq_true rfl) (by decide) ⟨by decide, by decide⟩ dX4_words_6 (fun v9 w9 h9 => ?_)
    obtain ⟨rfl, rfl⟩ := h9
    refine lx_perm [14, 0, 1, 2, 3, 4, 5, 6, 7, 8, 9, 10, 11, 12, 13] [(y, .inr (4, [.int (nI (lm_rf false false)), .ref acd, .ref akd, .ref act, .int (nI u), .ref ark, .ref arr, .int z, .int kk, .long kc, .ref ali, .int mn, .ref ala, .ref anc, .ref ank, .ref ant, .int nx, .ref aag, .ref abk, .ref atd, .ref ase])), (acd, aI K 120 cd), (akd, aI K 120 kd), (act, aJ K 120 ct), (ark, aI K 10 rk1), (arr, aJ K 10 rr1), (ali, aI K 120 fl), (ala, aI K 120 fla), (anc, aI K 120 nc), (ank, aI K 120 nk), (ant, aJ K 120 nt), (aag, aI K 120 fag), (abk, aI K 120 fbk), (atd, aI K 120 ftd), (ase, aZ K 120 fse)] (by decide) rfl ?_
    refine lx_st (a' := 0) (b' := 0) [.int (bI false)] rfl rfl rfl ?_
    refine lx_if_eq F 14 dX4_words_9 rfl (fun _ => ?_) (fun h => absurd (by decide) h)
    refine lx_iconst F dX4_words_14 kc_0 ?_
    refine lx_istore_n F [(0, .ref y), (1, .int (nI k)), (2, .int (nI 0))] [1, 2, 0] dX4_words_15 rfl (by decide) ?_
    exact loop1 120 0 fse (by omega) (fun j hj => absurd hj (by omega))
  · skip
    refine lx_aload_n F dX4_words_0 0 rfl ?_
    refine lx_iload_n F dX4_words_1 1 rfl ?_
    refine lx_cs F (zr_none2 (xl E) K r true hnr) cs_X4_102 [] [0, 1, 2, 3, 4, 5, 6, 7, 8, 9, 10, 11, 12, 13, 14] [(y, .inr (4, [.int th, .ref acd, .ref akd, .ref act, .int (nI u), .ref ark, .ref arr, .int z, .int kk, .long kc, .ref ali, .int mn, .ref ala, .ref anc, .ref ank, .ref ant, .int nx, .ref aag, .ref abk, .ref atd, .ref ase])), (acd, aI K 120 cd), (akd, aI K 120 kd), (act, aJ K 120 ct), (ark, aI K 10 rk1), (arr, aJ K 10 rr1), (ali, aI K 120 fl), (ala, aI K 120 fla), (anc, aI K 120 nc), (ank, aI K 120 nk), (ant, aJ K 120 nt), (aag, aI K 120 fag), (abk, aI K 120 fbk), (atd, aI K 120 ftd), (ase, aZ K 120 fse)] rfl rfl (by decide) rfl (st := [.ref y]) rfl (Nat.le_of_ble_eq_true rfl) (by decide) ⟨by decide, by decide⟩ dX4_words_2 (fun v9 w9 h9 => ?_)
    obtain ⟨rfl, rfl⟩ := h9
    refine lx_perm [0, 1, 2, 3, 4, 5, 6, 7, 8, 9, 10, 11, 12, 13, 14] [(y, .inr (4, [.int th, .ref acd, .ref akd, .ref act, .int (nI u), .ref ark, .ref arr, .int z, .int kk, .long kc, .ref ali, .int mn, .ref ala, .ref anc, .ref ank, .ref ant, .int nx, .ref aag, .ref abk, .ref atd, .ref ase])), (acd, aI K 120 cd), (akd, aI K 120 kd), (act, aJ K 120 ct), (ark, aI K 10 rk1), (arr, aJ K 10 rr1), (ali, aI K 120 fl), (ala, aI K 120 fla), (anc, aI K 120 nc), (ank, aI K 120 nk), (ant, aJ K 120 nt), (aag, aI K 120 fag), (abk, aI K 120 fbk), (atd, aI K 120 ftd), (ase, aZ K 120 fse)] (by decide) rfl ?_
    refine lx_st (a' := 0) (b' := 0) [.int (bI true), .ref y] rfl rfl rfl ?_
    refine lx_iconst F dX4_words_5 kc_0 ?_
    refine lx_cv F (zr_refuse (xl E) K y acd akd act ark arr ali ala anc ank ant aag abk atd ase th z kk kc mn nx (nI u) true false) cv_X4_110 0 rfl rfl [0] [1, 2, 3, 4, 5, 6, 7, 8, 9, 10, 11, 12, 13, 14] [(acd, aI K 120 cd), (akd, aI K 120 kd), (act, aJ K 120 ct), (ark, aI K 10 rk1), (arr, aJ K 10 rr1), (ali, aI K 120 fl), (ala, aI K 120 fla), (anc, aI K 120 nc), (ank, aI K 120 nk), (ant, aJ K 120 nt), (aag, aI K 120 fag), (abk, aI K 120 fbk), (atd, aI K 120 ftd), (ase, aZ K 120 fse)] rfl rfl (by decide) rfl (st := []) rfl (Nat.le_of_ble_eq_true rfl) (by decide) ⟨by decide, by decide⟩ dX4_words_6 (fun v9 w9 h9 => ?_)
    obtain ⟨rfl, rfl⟩ := h9
    refine lx_perm [14, 0, 1, 2, 3, 4, 5, 6, 7, 8, 9, 10, 11, 12, 13] [(y, .inr (4, [.int (nI (lm_rf true false)), .ref acd, .ref akd, .ref act, .int (nI u), .ref ark, .ref arr, .int z, .int kk, .long kc, .ref ali, .int mn, .ref ala, .ref anc, .ref ank, .ref ant, .int nx, .ref aag, .ref abk, .ref atd, .ref ase])), (acd, aI K 120 cd), (akd, aI K 120 kd), (act, aJ K 120 ct), (ark, aI K 10 rk1), (arr, aJ K 10 rr1), (ali, aI K 120 fl), (ala, aI K 120 fla), (anc, aI K 120 nc), (ank, aI K 120 nk), (ant, aJ K 120 nt), (aag, aI K 120 fag), (abk, aI K 120 fbk), (atd, aI K 120 ftd), (ase, aZ K 120 fse)] (by decide) rfl ?_
    refine lx_st (a' := 0) (b' := 0) [.int (bI true)] rfl rfl rfl ?_
    refine lx_if_eq F 14 dX4_words_9 rfl (fun h => absurd h (by decide)) (fun _ => ?_)
    refine lx_iconst F dX4_words_12 kc_0 ?_
    exact lx_iret F hR dX4_words_13 ⟨by rw [if_pos hnr], by rw [show lm_q1 r (c, w, u, rt, z) = (1, (c, w, u, rt, z)) by unfold lm_q1; rw [if_pos hnr]]; exact ⟨_, _, _, _, _, _, _, _, _, _, _, _, _, _, _, _, _, _, _, _, _, _, _, _, _, _, _, _, _, _, _, _, hh, hro, rfl⟩⟩

set_option maxHeartbeats 4000000 in
set_option maxRecDepth 100000 in
theorem zr_meet (l : Launch) (K : lm_G) (y acd akd act ark arr ali ala anc ank ant aag abk atd ase : Nat) (th z kk : Int32) (kc : Int64) (mn nx : Int32) (cd kd : Nat → Int32) (ct : Nat → Int64) (fag fbk ftd : Nat → Int32) (c : Nat → Nat) (w : Nat → lm_V) (u : Nat) (hw : lm_wf c w u) (hh : lm_mf cd kd ct c w u) (m : lm_M) (hm : lm_mok c w u m) (hms : lm_ms fag fbk ftd m) (a b : lm_V) (ha : lm_ok c u a) (hb : lm_ok c u b) : lm_C l K mX4_meet (rk 1) [.ref y, .int (nI a.1), .long (jI a.2), .int (nI b.1), .long (jI b.2)] [(y, .inr (4, [.int th, .ref acd, .ref akd, .ref act, .int (nI u), .ref ark, .ref arr, .int z, .int kk, .long kc, .ref ali, .int (nI m.2.2.length), .ref ala, .ref anc, .ref ank, .ref ant, .int nx, .ref aag, .ref abk, .ref atd, .ref ase])), (akd, aI K 120 kd), (act, aJ K 120 ct), (aag, aI K 120 fag), (abk, aI K 120 fbk), (atd, aI K 120 ftd)] (fun v9 w9 => v9 = some (.int (bI (lm_fit w m a b).2)) ∧ ∃ f5 f6 f7 : Nat → Int32, lm_ms f5 f6 f7 (lm_fit w m a b).1 ∧ w9 = [(y, .inr (4, [.int th, .ref acd, .ref akd, .ref act, .int (nI u), .ref ark, .ref arr, .int z, .int kk, .long kc, .ref ali, .int (nI ((lm_fit w m a b).1.2.2.length)), .ref ala, .ref anc, .ref ank, .ref ant, .int nx, .ref aag, .ref abk, .ref atd, .ref ase])), (akd, aI K 120 kd), (act, aJ K 120 ct), (aag, aI K 120 f5), (abk, aI K 120 f6), (atd, aI K 120 f7)]) := by
  refine lx_met RX4 pn_X4 rfl (Nat.le_of_ble_eq_true rfl) (fun E hE hnm F hR => ?_)
  have F : lx_F K 9 E cX4_meet RX4 (some .boolean) (rk 1) := F
  show lx_W K 9 E 0 0 0 [(0, .ref y), (1, .int (nI a.1)), (2, .long (jI a.2)), (4, .int (nI b.1)), (5, .long (jI b.2))] [] [(y, .inr (4, [.int th, .ref acd, .ref akd, .ref act, .int (nI u), .ref ark, .ref arr, .int z, .int kk, .long kc, .ref ali, .int (nI m.2.2.length), .ref ala, .ref anc, .ref ank, .ref ant, .int nx, .ref aag, .ref abk, .ref atd, .ref ase])), (akd, aI K 120 kd), (act, aJ K 120 ct), (aag, aI K 120 fag), (abk, aI K 120 fbk), (atd, aI K 120 ftd)]
  have hu := hw.1
  have ha3 := lm_ok_kind ha
  have hb3 := lm_ok_kind hb
  have hfk := lm_fit_ok hw hm ha hb
  have hwl : m.2.2.length ≤ u := lm_gd_len hm.1
  refine lx_iload_n F dX4_meet_0 1 rfl ?_
  refine lx_iconst F dX4_meet_1 kc_2 ?_
  refine lx_icmpN_ne F 11 (by omega) (by omega) dX4_meet_2 rfl (fun h1 => ?_) (fun h1 => ?_)
  · skip
    have hnp : ¬ (a.1 = 2 ∧ b.1 = 2) := fun z9 => h1 z9.1
    refine lx_iload_n F dX4_meet_11 1 rfl ?_
    refine lx_iload F dX4_meet_12 3 rfl ?_
    refine lx_icmpN_ne F 32 (by omega) (by omega) dX4_meet_14 rfl (fun h5 => ?_) (fun h5 => ?_)
    · skip
      have hfit := lm_fit_npn (w := w) (m := m) hnp (fun z9 => h5 (by rw [z9]))
      refine lx_iconst F dX4_meet_32 kc_0 ?_
      exact lx_zret F hR (by first | rfl | decide) dX4_meet_33 ⟨by rw [hfit]; rfl, fag, fbk, ftd, by rw [hfit]; exact hms, by rw [hfit]⟩
    · skip
      refine lx_iload_n F dX4_meet_17 1 rfl ?_
      refine lx_ifN_eq F 28 (by omega) dX4_meet_18 rfl (fun h6 => ?_) (fun h6 => ?_)
      · skip
        have hfit := lm_fit_npz (w := w) (m := m) ha hb hnp h5 h6
        refine lx_iconst F dX4_meet_28 kc_1 ?_
        refine lx_goto F 33 dX4_meet_29 rfl ?_
        exact lx_zret F hR (by first | rfl | decide) dX4_meet_33 ⟨by rw [hfit]; rfl, fag, fbk, ftd, by rw [hfit]; exact hms, by rw [hfit]⟩
      · skip
        refine lx_lload_n F dX4_meet_21 2 rfl ?_
        refine lx_lload F dX4_meet_22 4 rfl ?_
        refine lx_lcmp_ifne F 32 dX4_meet_24 dX4_meet_25 rfl (fun h7 => ?_) (fun h7 => ?_)
        · skip
          have hfit := lm_fit_npn (w := w) (m := m) hnp (fun z9 => h7 (by rw [z9]))
          refine lx_iconst F dX4_meet_32 kc_0 ?_
          exact lx_zret F hR (by first | rfl | decide) dX4_meet_33 ⟨by rw [hfit]; rfl, fag, fbk, ftd, by rw [hfit]; exact hms, by rw [hfit]⟩
        · skip
          have hfit := lm_fit_npe (w := w) (m := m) hnp h5 ((lm_ok_eq hu ha hb).mp h7)
          refine lx_iconst F dX4_meet_28 kc_1 ?_
          refine lx_goto F 33 dX4_meet_29 rfl ?_
          exact lx_zret F hR (by first | rfl | decide) dX4_meet_33 ⟨by rw [hfit]; rfl, fag, fbk, ftd, by rw [hfit]; exact hms, by rw [hfit]⟩
  · skip
    refine lx_iload F dX4_meet_5 3 rfl ?_
    refine lx_iconst F dX4_meet_7 kc_2 ?_
    refine lx_icmpN_eq F 34 (by omega) (by omega) dX4_meet_8 rfl (fun h2 => ?_) (fun h2 => ?_)
    · skip
      obtain ⟨qa, ea, la, na⟩ := lm_ok_p ha h1
      obtain ⟨qb, eb, lb, nb⟩ := lm_ok_p hb h2
      have ta : lm_to w a = lm_cell w qa := lm_to_q ea
      have tb : lm_to w b = lm_cell w qb := lm_to_q eb
      have hca := (lm_cell_cl hw la na).1
      have hcb := (lm_cell_cl hw lb nb).1
      have hx : lm_cell w qa < 120 := by omega
      have hy : lm_cell w qb < 120 := by omega
      rw [ea, eb]
      refine lx_aload_n F dX4_meet_34 0 rfl ?_
      refine lx_lload_n F dX4_meet_35 2 rfl ?_
      refine lx_cv F (zr_cell (xl E) K y acd akd act ark arr ali ala anc ank ant aag abk atd ase th z kk kc (nI m.2.2.length) nx cd kd ct c w u hw hh qa la na) cv_X4_65 0 rfl rfl [0, 1, 2] [3, 4, 5] [(aag, aI K 120 fag), (abk, aI K 120 fbk), (atd, aI K 120 ftd)] rfl rfl (by decide) rfl (st := []) rfl (Nat.le_of_ble_eq_true rfl) (by decide) ⟨by decide, by decide⟩ dX4_meet_36 (fun v9 w9 h9 => ?_)
      obtain ⟨rfl, rfl⟩ := h9
      refine lx_perm [3, 4, 5, 0, 1, 2] [(y, .inr (4, [.int th, .ref acd, .ref akd, .ref act, .int (nI u), .ref ark, .ref arr, .int z, .int kk, .long kc, .ref ali, .int (nI m.2.2.length), .ref ala, .ref anc, .ref ank, .ref ant, .int nx, .ref aag, .ref abk, .ref atd, .ref ase])), (akd, aI K 120 kd), (act, aJ K 120 ct), (aag, aI K 120 fag), (abk, aI K 120 fbk), (atd, aI K 120 ftd)] (by decide) rfl ?_
      refine lx_st (a' := 0) (b' := 0) [.int (nI (lm_cell w qa))] rfl rfl rfl ?_
      refine lx_istore F [(0, .ref y), (1, .int (nI a.1)), (2, .long (jI ((qa : Nat) : Int))), (4, .int (nI b.1)), (5, .long (jI ((qb : Nat) : Int))), (7, .int (nI (lm_cell w qa)))] [1, 2, 3, 4, 5, 0] dX4_meet_39 rfl (by decide) ?_
      refine lx_aload_n F dX4_meet_41 0 rfl ?_
      refine lx_lload F dX4_meet_42 4 rfl ?_
      refine lx_cv F (zr_cell (xl E) K y acd akd act ark arr ali ala anc ank ant aag abk atd ase th z kk kc (nI m.2.2.length) nx cd kd ct c w u hw hh qb lb nb) cv_X4_65 0 rfl rfl [0, 1, 2] [3, 4, 5] [(aag, aI K 120 fag), (abk, aI K 120 fbk), (atd, aI K 120 ftd)] rfl rfl (by decide) rfl (st := []) rfl (Nat.le_of_ble_eq_true rfl) (by decide) ⟨by decide, by decide⟩ dX4_meet_44 (fun v9 w9 h9 => ?_)
      obtain ⟨rfl, rfl⟩ := h9
      refine lx_perm [3, 4, 5, 0, 1, 2] [(y, .inr (4, [.int th, .ref acd, .ref akd, .ref act, .int (nI u), .ref ark, .ref arr, .int z, .int kk, .long kc, .ref ali, .int (nI m.2.2.length), .ref ala, .ref anc, .ref ank, .ref ant, .int nx, .ref aag, .ref abk, .ref atd, .ref ase])), (akd, aI K 120 kd), (act, aJ K 120 ct), (aag, aI K 120 fag), (abk, aI K 120 fbk), (atd, aI K 120 ftd)] (by decide) rfl ?_
      refine lx_st (a' := 0) (b' := 0) [.int (nI (lm_cell w qb))] rfl rfl rfl ?_
      refine lx_istore F [(0, .ref y), (1, .int (nI a.1)), (2, .long (jI ((qa : Nat) : Int))), (4, .int (nI b.1)), (5, .long (jI ((qb : Nat) : Int))), (7, .int (nI (lm_cell w qa))), (8, .int (nI (lm_cell w qb)))] [1, 2, 3, 4, 5, 6, 0] dX4_meet_47 rfl (by decide) ?_
      refine lx_aload_n F dX4_meet_49 0 rfl ?_
      refine gf_X4_41 F 0 rfl rfl dX4_meet_50 ?_
      refine lx_iload F dX4_meet_53 5 rfl ?_
      refine lx_iald F 3 (lm_cell w qa) dX4_meet_55 rfl hx (by decide) ?_
      rw [hms.1 _ hx]
      refine lx_iconst F dX4_meet_56 kc_m1 ?_
      refine lx_icmp_ne F 110 dX4_meet_57 rfl (fun h5 => ?_) (fun h5 => ?_)
      · skip
        have hfit := lm_fit_old (w := w) (m := m) h1 h2 (fun z9 => h5 (by rw [← ta, z9.1]; rfl))
        refine lx_aload_n F dX4_meet_110 0 rfl ?_
        refine gf_X4_41 F 0 rfl rfl dX4_meet_111 ?_
        refine lx_iload F dX4_meet_114 5 rfl ?_
        refine lx_iald F 3 (lm_cell w qa) dX4_meet_116 rfl hx (by decide) ?_
        rw [hms.1 _ hx]
        refine lx_iload F dX4_meet_117 6 rfl ?_
        refine lx_icmp_ne F 126 dX4_meet_119 rfl (fun he => ?_) (fun he => ?_)
        · skip
          refine lx_iconst F dX4_meet_126 kc_0 ?_
          exact lx_zret F hR (by first | rfl | decide) dX4_meet_127 ⟨by rw [hfit, ta, tb, decide_eq_false (fun z9 => he ((oI_some (by omega) (lm_mok_b hm hw _)).mpr z9))]; rfl, fag, fbk, ftd, by rw [hfit]; exact hms, by rw [hfit]⟩
        · skip
          refine lx_iconst F dX4_meet_122 kc_1 ?_
          refine lx_goto F 127 dX4_meet_123 rfl ?_
          exact lx_zret F hR (by first | rfl | decide) dX4_meet_127 ⟨by rw [hfit, ta, tb, decide_eq_true ((oI_some (by omega) (lm_mok_b hm hw _)).mp he)]; rfl, fag, fbk, ftd, by rw [hfit]; exact hms, by rw [hfit]⟩
      · skip
        refine lx_aload_n F dX4_meet_60 0 rfl ?_
        refine gf_X4_44 F 0 rfl rfl dX4_meet_61 ?_
        refine lx_iload F dX4_meet_64 6 rfl ?_
        refine lx_iald F 4 (lm_cell w qb) dX4_meet_66 rfl hy (by decide) ?_
        rw [hms.2.1 _ hy]
        refine lx_iconst F dX4_meet_67 kc_m1 ?_
        refine lx_icmp_ne F 110 dX4_meet_68 rfl (fun h6 => ?_) (fun h6 => ?_)
        · skip
          have hfit := lm_fit_old (w := w) (m := m) h1 h2 (fun z9 => h6 (by rw [← tb, z9.2]; rfl))
          refine lx_aload_n F dX4_meet_110 0 rfl ?_
          refine gf_X4_41 F 0 rfl rfl dX4_meet_111 ?_
          refine lx_iload F dX4_meet_114 5 rfl ?_
          refine lx_iald F 3 (lm_cell w qa) dX4_meet_116 rfl hx (by decide) ?_
          rw [hms.1 _ hx]
          refine lx_iload F dX4_meet_117 6 rfl ?_
          refine lx_icmp_ne F 126 dX4_meet_119 rfl (fun he => ?_) (fun he => ?_)
          · skip
            refine lx_iconst F dX4_meet_126 kc_0 ?_
            exact lx_zret F hR (by first | rfl | decide) dX4_meet_127 ⟨by rw [hfit, ta, tb, decide_eq_false (fun z9 => he ((oI_some (by omega) (lm_mok_b hm hw _)).mpr z9))]; rfl, fag, fbk, ftd, by rw [hfit]; exact hms, by rw [hfit]⟩
          · skip
            refine lx_iconst F dX4_meet_122 kc_1 ?_
            refine lx_goto F 127 dX4_meet_123 rfl ?_
            exact lx_zret F hR (by first | rfl | decide) dX4_meet_127 ⟨by rw [hfit, ta, tb, decide_eq_true ((oI_some (by omega) (lm_mok_b hm hw _)).mp he)]; rfl, fag, fbk, ftd, by rw [hfit]; exact hms, by rw [hfit]⟩
        · skip
          have h5n := (oI_none (lm_mok_b hm hw _)).mp h5
          have h6n := (oI_none (lm_mok_b2 hm hw _)).mp h6
          rw [← ta] at h5n
          rw [← tb] at h6n
          have hfit := lm_fit_new (w := w) (m := m) h1 h2 h5n h6n
          have hlt : m.2.2.length < 120 := by
            have h9 := lm_gd_len hfk.1.1
            rw [hfit] at h9
            simp at h9
            omega
          rw [ta, tb] at hfit
          refine lx_aload_n F dX4_meet_71 0 rfl ?_
          refine gf_X4_41 F 0 rfl rfl dX4_meet_72 ?_
          refine lx_iload F dX4_meet_75 5 rfl ?_
          refine lx_iload F dX4_meet_77 6 rfl ?_
          refine lx_iast F 3 (lm_cell w qa) [(y, .inr (4, [.int th, .ref acd, .ref akd, .ref act, .int (nI u), .ref ark, .ref arr, .int z, .int kk, .long kc, .ref ali, .int (nI m.2.2.length), .ref ala, .ref anc, .ref ank, .ref ant, .int nx, .ref aag, .ref abk, .ref atd, .ref ase])), (akd, aI K 120 kd), (act, aJ K 120 ct), (aag, aI K 120 (lm_up fag (lm_cell w qa) (nI (lm_cell w qb)))), (abk, aI K 120 fbk), (atd, aI K 120 ftd)] dX4_meet_79 rfl hx (by decide) rfl ?_
          refine lx_aload_n F dX4_meet_80 0 rfl ?_
          refine gf_X4_44 F 0 rfl rfl dX4_meet_81 ?_
          refine lx_iload F dX4_meet_84 6 rfl ?_
          refine lx_iload F dX4_meet_86 5 rfl ?_
          refine lx_iast F 4 (lm_cell w qb) [(y, .inr (4, [.int th, .ref acd, .ref akd, .ref act, .int (nI u), .ref ark, .ref arr, .int z, .int kk, .long kc, .ref ali, .int (nI m.2.2.length), .ref ala, .ref anc, .ref ank, .ref ant, .int nx, .ref aag, .ref abk, .ref atd, .ref ase])), (akd, aI K 120 kd), (act, aJ K 120 ct), (aag, aI K 120 (lm_up fag (lm_cell w qa) (nI (lm_cell w qb)))), (abk, aI K 120 (lm_up fbk (lm_cell w qb) (nI (lm_cell w qa)))), (atd, aI K 120 ftd)] dX4_meet_88 rfl hy (by decide) rfl ?_
          refine lx_aload_n F dX4_meet_89 0 rfl ?_
          refine gf_X4_47 F 0 rfl rfl dX4_meet_90 ?_
          refine lx_aload_n F dX4_meet_93 0 rfl ?_
          refine gf_X4_79 F 0 rfl rfl dX4_meet_94 ?_
          refine lx_iload F dX4_meet_97 5 rfl ?_
          refine lx_iast F 5 m.2.2.length [(y, .inr (4, [.int th, .ref acd, .ref akd, .ref act, .int (nI u), .ref ark, .ref arr, .int z, .int kk, .long kc, .ref ali, .int (nI m.2.2.length), .ref ala, .ref anc, .ref ank, .ref ant, .int nx, .ref aag, .ref abk, .ref atd, .ref ase])), (akd, aI K 120 kd), (act, aJ K 120 ct), (aag, aI K 120 (lm_up fag (lm_cell w qa) (nI (lm_cell w qb)))), (abk, aI K 120 (lm_up fbk (lm_cell w qb) (nI (lm_cell w qa)))), (atd, aI K 120 (lm_up ftd m.2.2.length (nI (lm_cell w qa))))] dX4_meet_99 rfl hlt (by decide) rfl ?_
          refine lx_aload_n F dX4_meet_100 0 rfl ?_
          refine lx_dup F dX4_meet_101 rfl ?_
          refine gf_X4_79 F 0 rfl rfl dX4_meet_102 ?_
          refine lx_iconst F dX4_meet_105 kc_1 ?_
          refine lx_iadd F dX4_meet_106 (nI_add _ _) ?_
          refine pf_X4_79 F 0 [(y, .inr (4, [.int th, .ref acd, .ref akd, .ref act, .int (nI u), .ref ark, .ref arr, .int z, .int kk, .long kc, .ref ali, .int (nI (m.2.2.length + 1)), .ref ala, .ref anc, .ref ank, .ref ant, .int nx, .ref aag, .ref abk, .ref atd, .ref ase])), (akd, aI K 120 kd), (act, aJ K 120 ct), (aag, aI K 120 (lm_up fag (lm_cell w qa) (nI (lm_cell w qb)))), (abk, aI K 120 (lm_up fbk (lm_cell w qb) (nI (lm_cell w qa)))), (atd, aI K 120 (lm_up ftd m.2.2.length (nI (lm_cell w qa))))] rfl rfl dX4_meet_107 rfl ?_
          refine lx_aload_n F dX4_meet_110 0 rfl ?_
          refine gf_X4_41 F 0 rfl rfl dX4_meet_111 ?_
          refine lx_iload F dX4_meet_114 5 rfl ?_
          refine lx_iald F 3 (lm_cell w qa) dX4_meet_116 rfl hx (by decide) ?_
          rw [lm_up_eq]
          refine lx_iload F dX4_meet_117 6 rfl ?_
          refine lx_icmpN_ne F 126 (by omega) (by omega) dX4_meet_119 rfl (fun h => absurd h (by omega)) (fun _ => ?_)
          refine lx_iconst F dX4_meet_122 kc_1 ?_
          refine lx_goto F 127 dX4_meet_123 rfl ?_
          exact lx_zret F hR (by first | rfl | decide) dX4_meet_127 ⟨by rw [hfit]; rfl, _, _, _, by rw [hfit]; exact lm_ms_new hms, by rw [hfit, List.length_append]; rfl⟩
    · skip
      have hnp : ¬ (a.1 = 2 ∧ b.1 = 2) := fun z9 => h2 z9.2
      refine lx_iload_n F dX4_meet_11 1 rfl ?_
      refine lx_iload F dX4_meet_12 3 rfl ?_
      refine lx_icmpN_ne F 32 (by omega) (by omega) dX4_meet_14 rfl (fun h5 => ?_) (fun h5 => ?_)
      · skip
        have hfit := lm_fit_npn (w := w) (m := m) hnp (fun z9 => h5 (by rw [z9]))
        refine lx_iconst F dX4_meet_32 kc_0 ?_
        exact lx_zret F hR (by first | rfl | decide) dX4_meet_33 ⟨by rw [hfit]; rfl, fag, fbk, ftd, by rw [hfit]; exact hms, by rw [hfit]⟩
      · skip
        refine lx_iload_n F dX4_meet_17 1 rfl ?_
        refine lx_ifN_eq F 28 (by omega) dX4_meet_18 rfl (fun h6 => ?_) (fun h6 => ?_)
        · skip
          have hfit := lm_fit_npz (w := w) (m := m) ha hb hnp h5 h6
          refine lx_iconst F dX4_meet_28 kc_1 ?_
          refine lx_goto F 33 dX4_meet_29 rfl ?_
          exact lx_zret F hR (by first | rfl | decide) dX4_meet_33 ⟨by rw [hfit]; rfl, fag, fbk, ftd, by rw [hfit]; exact hms, by rw [hfit]⟩
        · skip
          refine lx_lload_n F dX4_meet_21 2 rfl ?_
          refine lx_lload F dX4_meet_22 4 rfl ?_
          refine lx_lcmp_ifne F 32 dX4_meet_24 dX4_meet_25 rfl (fun h7 => ?_) (fun h7 => ?_)
          · skip
            have hfit := lm_fit_npn (w := w) (m := m) hnp (fun z9 => h7 (by rw [z9]))
            refine lx_iconst F dX4_meet_32 kc_0 ?_
            exact lx_zret F hR (by first | rfl | decide) dX4_meet_33 ⟨by rw [hfit]; rfl, fag, fbk, ftd, by rw [hfit]; exact hms, by rw [hfit]⟩
          · skip
            have hfit := lm_fit_npe (w := w) (m := m) hnp h5 ((lm_ok_eq hu ha hb).mp h7)
            refine lx_iconst F dX4_meet_28 kc_1 ?_
            refine lx_goto F 33 dX4_meet_29 rfl ?_
            exact lx_zret F hR (by first | rfl | decide) dX4_meet_33 ⟨by rw [hfit]; rfl, fag, fbk, ftd, by rw [hfit]; exact hms, by rw [hfit]⟩

set_option maxHeartbeats 4000000 in
set_option maxRecDepth 100000 in
theorem zR_alike (l : Launch) (K : lm_G) (y : Nat) (c : Nat → Nat) (w : Nat → lm_V) (u : Nat) (rt : Nat → lm_V) (z : Int32) (hst : lm_st c w u rt) (th : Int32) (W : va_W) (hW : lm_mod K y (c, w, u, rt, z) th W) (r f : Int32) : lm_C l K mX4_alike (rk 3) [.ref y, .int r, .int f] W (fun v9 w9 => v9 = some (.int (if (lm_none r || lm_none f) = true then nI 0 else bI (lm_alike c w (rt (lm_ix r)) (rt (lm_ix f))))) ∧ lm_mod K y (lm_q2 r f (c, w, u, rt, z)).2 (nI (lm_q2 r f (c, w, u, rt, z)).1) w9) := by
  obtain ⟨acd, akd, act, ark, arr, ali, ala, anc, ank, ant, aag, abk, atd, ase, kk, kc, mn, nx, cd, kd, ct, rk1, rr1, fl, fla, nc, nk, nt, fag, fbk, ftd, fse, hh, hro, rfl⟩ := hW
  have hh : lm_mf cd kd ct c w u := hh
  have hro : ∀ r, r < 10 → rk1 r = nI (rt r).1 ∧ rr1 r = jI (rt r).2 := hro
  have hw := hst.1
  have hr9 := hst.2
  have hu := hw.1
  refine lx_met RX4 pn_X4 rfl (Nat.le_of_ble_eq_true rfl) (fun E hE hnm F hR => ?_)
  have F : lx_F K 10 E cX4_alike RX4 (some .boolean) (rk 3) := F
  show lx_W K 10 E 0 0 0 [(0, .ref y), (1, .int r), (2, .int f)] [] [(y, .inr (4, [.int th, .ref acd, .ref akd, .ref act, .int (nI u), .ref ark, .ref arr, .int z, .int kk, .long kc, .ref ali, .int mn, .ref ala, .ref anc, .ref ank, .ref ant, .int nx, .ref aag, .ref abk, .ref atd, .ref ase])), (acd, aI K 120 cd), (akd, aI K 120 kd), (act, aJ K 120 ct), (ark, aI K 10 rk1), (arr, aJ K 10 rr1), (ali, aI K 120 fl), (ala, aI K 120 fla), (anc, aI K 120 nc), (ank, aI K 120 nk), (ant, aJ K 120 nt), (aag, aI K 120 fag), (abk, aI K 120 fbk), (atd, aI K 120 ftd), (ase, aZ K 120 fse)]
  cases hnr : lm_none r
  · skip
    obtain ⟨k, hk, rfl⟩ := lm_none_f hnr
    cases hnf : lm_none f
    · skip
      obtain ⟨j, hj, rfl⟩ := lm_none_f hnf
      have loop : ∀ (n9 : Nat) (i : Nat) (gd : Bool) (m : lm_M) (kk1 : Int32) (kc1 : Int64) (f5 f6 f7 : Nat → Int32), i + n9 = 120 → lm_mok c w u m → lm_ms f5 f6 f7 m → (gd = true → lm_alk c w n9 i m = lm_alike c w (rt k) (rt j)) → (gd = false → lm_alike c w (rt k) (rt j) = false) → lx_W K 10 E 0 0 127 [(0, .ref y), (1, .int (nI k)), (2, .int (nI j)), (3, .int (bI gd)), (4, .int (nI i))] [] [(y, .inr (4, [.int (nI (lm_rf false false)), .ref acd, .ref akd, .ref act, .int (nI u), .ref ark, .ref arr, .int z, .int kk1, .long kc1, .ref ali, .int (nI m.2.2.length), .ref ala, .ref anc, .ref ank, .ref ant, .int nx, .ref aag, .ref abk, .ref atd, .ref ase])), (acd, aI K 120 cd), (akd, aI K 120 kd), (act, aJ K 120 ct), (ark, aI K 10 rk1), (arr, aJ K 10 rr1), (ali, aI K 120 fl), (ala, aI K 120 fla), (anc, aI K 120 nc), (ank, aI K 120 nk), (ant, aJ K 120 nt), (aag, aI K 120 f5), (abk, aI K 120 f6), (atd, aI K 120 f7), (ase, aZ K 120 fse)] := by
        intro n9
        induction n9 with
        | zero =>
          intro i gd m kk1 kc1 f5 f6 f7 hi hm hms hg1 hg0
          have hwl : m.2.2.length ≤ u := lm_gd_len hm.1
          have hal : gd = lm_alike c w (rt k) (rt j) := by
            cases gd with
            | true => exact hg1 rfl
            | false => exact (hg0 rfl).symm
          refine lx_iload F dX4_alike_127 4 rfl ?_
          refine lx_aload_n F dX4_alike_129 0 rfl ?_
          refine gf_X4_79 F 0 rfl rfl dX4_alike_130 ?_
          refine lx_icmpN_ge F 250 (by omega) (by omega) dX4_alike_133 rfl (fun _ => ?_) (fun h => absurd h (by omega))
          refine lx_iload_n F dX4_alike_250 3 rfl ?_
          exact lx_zret F hR (bI_nar _) dX4_alike_251 ⟨by rw [lm_none_n hk, lm_none_n hj, if_neg (by decide), lm_ix_n hk, lm_ix_n hj, ← hal], by rw [show lm_q2 (nI k) (nI j) (c, w, u, rt, z) = (0, (c, w, u, rt, z)) by unfold lm_q2; rw [lm_none_n hk, lm_none_n hj]; rfl]; exact ⟨_, _, _, _, _, _, _, _, _, _, _, _, _, _, _, _, _, _, _, _, _, _, _, _, _, _, _, _, _, _, _, _, hh, hro, rfl⟩⟩
        | succ n9 ih =>
          intro i gd m kk1 kc1 f5 f6 f7 hi hm hms hg1 hg0
          have hwl : m.2.2.length ≤ u := lm_gd_len hm.1
          refine lx_iload F dX4_alike_127 4 rfl ?_
          refine lx_aload_n F dX4_alike_129 0 rfl ?_
          refine gf_X4_79 F 0 rfl rfl dX4_alike_130 ?_
          refine lx_icmpN_ge F 250 (by omega) (by omega) dX4_alike_133 rfl (fun hi2 => ?_) (fun hi2 => ?_)
          · skip
            have hal : gd = lm_alike c w (rt k) (rt j) := by
              cases gd with
              | true => rw [← hg1 rfl]; exact (lm_alk_end hi2).symm
              | false => exact (hg0 rfl).symm
            refine lx_iload_n F dX4_alike_250 3 rfl ?_
            exact lx_zret F hR (bI_nar _) dX4_alike_251 ⟨by rw [lm_none_n hk, lm_none_n hj, if_neg (by decide), lm_ix_n hk, lm_ix_n hj, ← hal], by rw [show lm_q2 (nI k) (nI j) (c, w, u, rt, z) = (0, (c, w, u, rt, z)) by unfold lm_q2; rw [lm_none_n hk, lm_none_n hj]; rfl]; exact ⟨_, _, _, _, _, _, _, _, _, _, _, _, _, _, _, _, _, _, _, _, _, _, _, _, _, _, _, _, _, _, _, _, hh, hro, rfl⟩⟩
          · skip
            cases gd
            · skip
              have hal : false = lm_alike c w (rt k) (rt j) := (hg0 rfl).symm
              refine lx_iload_n F dX4_alike_136 3 rfl ?_
              refine lx_if_eq F 250 dX4_alike_137 rfl (fun _ => ?_) (fun h => absurd (by decide) h)
              refine lx_iload_n F dX4_alike_250 3 rfl ?_
              exact lx_zret F hR (bI_nar _) dX4_alike_251 ⟨by rw [lm_none_n hk, lm_none_n hj, if_neg (by decide), lm_ix_n hk, lm_ix_n hj, ← hal], by rw [show lm_q2 (nI k) (nI j) (c, w, u, rt, z) = (0, (c, w, u, rt, z)) by unfold lm_q2; rw [lm_none_n hk, lm_none_n hj]; rfl]; exact ⟨_, _, _, _, _, _, _, _, _, _, _, _, _, _, _, _, _, _, _, _, _, _, _, _, _, _, _, _, _, _, _, _, hh, hro, rfl⟩⟩
            · skip
              obtain ⟨p, hpe⟩ : ∃ p, p = m.2.2.getD i 0 := ⟨_, rfl⟩
              have hpin : p ∈ m.2.2 := by rw [hpe]; exact lm_getD_in hi2
              obtain ⟨q, hq⟩ := lm_mok_in hm hpin
              have hcp := hm.1.2 p hpin
              have hcq := hm.2.2.2 p q hq
              have hp1 := hcp.1
              have hq1 := hcq.1
              have hstep := lm_alk_step (c := c) (w := w) (n := n9) hi2 hpe hq
              have hfk := lm_fit_ok hw hm (lm_first_ok hw hcp) (lm_first_ok hw hcq)
              have hal0 := hg1 rfl
              refine lx_iload_n F dX4_alike_136 3 rfl ?_
              refine lx_if_eq F 250 dX4_alike_137 rfl (fun h => absurd h (by decide)) (fun _ => ?_)
              refine lx_aload_n F dX4_alike_140 0 rfl ?_
              refine gf_X4_47 F 0 rfl rfl dX4_alike_141 ?_
              refine lx_iload F dX4_alike_144 4 rfl ?_
              refine lx_iald F 13 i dX4_alike_146 rfl (by omega) (by decide) ?_
              rw [show f7 i = nI p by rw [hms.2.2 i hi2, hpe]]
              refine lx_istore F [(0, .ref y), (1, .int (nI k)), (2, .int (nI j)), (3, .int (bI true)), (4, .int (nI i)), (5, .int (nI p))] [1, 2, 3, 4, 5, 0] dX4_alike_147 rfl (by decide) ?_
              refine lx_aload_n F dX4_alike_149 0 rfl ?_
              refine gf_X4_41 F 0 rfl rfl dX4_alike_150 ?_
              refine lx_iload F dX4_alike_153 5 rfl ?_
              refine lx_iald F 11 p dX4_alike_155 rfl (by omega) (by decide) ?_
              rw [show f5 p = nI q by rw [hms.1 p (by omega), hq]; rfl]
              refine lx_istore F [(0, .ref y), (1, .int (nI k)), (2, .int (nI j)), (3, .int (bI true)), (4, .int (nI i)), (5, .int (nI p)), (6, .int (nI q))] [1, 2, 3, 4, 5, 6, 0] dX4_alike_156 rfl (by decide) ?_
              refine lx_aload_n F dX4_alike_158 0 rfl ?_
              refine lx_aload_n F dX4_alike_159 0 rfl ?_
              refine gf_X4_13 F 0 rfl rfl dX4_alike_160 ?_
              refine lx_iload F dX4_alike_163 5 rfl ?_
              refine lx_iald F 2 p dX4_alike_165 rfl (by omega) (by decide) ?_
              rw [(hh p hp1).2.1]
              refine lx_aload_n F dX4_alike_166 0 rfl ?_
              refine gf_X4_16 F 0 rfl rfl dX4_alike_167 ?_
              refine lx_iload F dX4_alike_170 5 rfl ?_
              refine lx_lald F 3 p dX4_alike_172 rfl (by omega) (by decide) ?_
              rw [(hh p hp1).2.2]
              refine lx_aload_n F dX4_alike_173 0 rfl ?_
              refine gf_X4_13 F 0 rfl rfl dX4_alike_174 ?_
              refine lx_iload F dX4_alike_177 6 rfl ?_
              refine lx_iald F 2 q dX4_alike_179 rfl (by omega) (by decide) ?_
              rw [(hh q hq1).2.1]
              refine lx_aload_n F dX4_alike_180 0 rfl ?_
              refine gf_X4_16 F 0 rfl rfl dX4_alike_181 ?_
              refine lx_iload F dX4_alike_184 6 rfl ?_
              refine lx_lald F 3 q dX4_alike_186 rfl (by omega) (by decide) ?_
              rw [(hh q hq1).2.2]
              refine lx_cv F (zr_meet (xl E) K y acd akd act ark arr ali ala anc ank ant aag abk atd ase (nI (lm_rf false false)) z kk1 kc1 (nI m.2.2.length) nx cd kd ct f5 f6 f7 c w u hw hh m hm hms (w p) (w q) (lm_first_ok hw hcp) (lm_first_ok hw hcq)) cv_X4_136 0 rfl rfl [0, 2, 3, 11, 12, 13] [1, 4, 5, 6, 7, 8, 9, 10, 14] [(acd, aI K 120 cd), (ark, aI K 10 rk1), (arr, aJ K 10 rr1), (ali, aI K 120 fl), (ala, aI K 120 fla), (anc, aI K 120 nc), (ank, aI K 120 nk), (ant, aJ K 120 nt), (ase, aZ K 120 fse)] rfl rfl (by decide) rfl (st := []) rfl (Nat.le_of_ble_eq_true rfl) (by decide) ⟨by decide, by decide⟩ dX4_alike_187 (fun v9 w9 h9 => ?_)
              obtain ⟨rfl, u5, u6, u7, hmsu, rfl⟩ := h9
              refine lx_perm [9, 0, 10, 11, 1, 2, 3, 4, 5, 6, 7, 12, 13, 14, 8] [(y, .inr (4, [.int (nI (lm_rf false false)), .ref acd, .ref akd, .ref act, .int (nI u), .ref ark, .ref arr, .int z, .int kk1, .long kc1, .ref ali, .int (nI ((lm_fit w m (w p) (w q)).1.2.2.length)), .ref ala, .ref anc, .ref ank, .ref ant, .int nx, .ref aag, .ref abk, .ref atd, .ref ase])), (acd, aI K 120 cd), (akd, aI K 120 kd), (act, aJ K 120 ct), (ark, aI K 10 rk1), (arr, aJ K 10 rr1), (ali, aI K 120 fl), (ala, aI K 120 fla), (anc, aI K 120 nc), (ank, aI K 120 nk), (ant, aJ K 120 nt), (aag, aI K 120 u5), (abk, aI K 120 u6), (atd, aI K 120 u7), (ase, aZ K 120 fse)] (by decide) rfl ?_
              refine lx_st (a' := 0) (b' := 0) [.int (bI (lm_fit w m (w p) (w q)).2)] rfl rfl rfl ?_
              refine lx_istore_n F [(0, .ref y), (1, .int (nI k)), (2, .int (nI j)), (3, .int (bI (lm_fit w m (w p) (w q)).2)), (4, .int (nI i)), (5, .int (nI p)), (6, .int (nI q))] [1, 2, 3, 0, 4, 5, 6] dX4_alike_190 rfl (by decide) ?_
              refine lx_aload_n F dX4_alike_191 0 rfl ?_
              refine lx_iload F dX4_alike_192 5 rfl ?_
              refine lx_cv F (zr_lookRest (xl E) K y acd akd act ark arr ali ala anc ank ant aag abk atd ase (nI (lm_rf false false)) z kk1 kc1 (nI (lm_fit w m (w p) (w q)).1.2.2.length) nx cd kd ct c w u hw hh p hcp) cv_X4_85 0 rfl rfl [0, 1, 2, 3] [4, 5, 6, 7, 8, 9, 10, 11, 12, 13, 14] [(ark, aI K 10 rk1), (arr, aJ K 10 rr1), (ali, aI K 120 fl), (ala, aI K 120 fla), (anc, aI K 120 nc), (ank, aI K 120 nk), (ant, aJ K 120 nt), (aag, aI K 120 u5), (abk, aI K 120 u6), (atd, aI K 120 u7), (ase, aZ K 120 fse)] rfl rfl (by decide) rfl (st := []) rfl (Nat.le_of_ble_eq_true rfl) (by decide) ⟨by decide, by decide⟩ dX4_alike_194 (fun v9 w9 h9 => ?_)
              obtain ⟨rfl, rfl⟩ := h9
              refine lx_perm [11, 12, 13, 14, 0, 1, 2, 3, 4, 5, 6, 7, 8, 9, 10] [(y, .inr (4, [.int (nI (lm_rf false false)), .ref acd, .ref akd, .ref act, .int (nI u), .ref ark, .ref arr, .int z, .int (nI ((lm_rest c w p).1)), .long (jI ((lm_rest c w p).2)), .ref ali, .int (nI ((lm_fit w m (w p) (w q)).1.2.2.length)), .ref ala, .ref anc, .ref ank, .ref ant, .int nx, .ref aag, .ref abk, .ref atd, .ref ase])), (acd, aI K 120 cd), (akd, aI K 120 kd), (act, aJ K 120 ct), (ark, aI K 10 rk1), (arr, aJ K 10 rr1), (ali, aI K 120 fl), (ala, aI K 120 fla), (anc, aI K 120 nc), (ank, aI K 120 nk), (ant, aJ K 120 nt), (aag, aI K 120 u5), (abk, aI K 120 u6), (atd, aI K 120 u7), (ase, aZ K 120 fse)] (by decide) rfl ?_
              refine lx_st (a' := 0) (b' := 0) [] rfl rfl rfl ?_
              refine lx_aload_n F dX4_alike_197 0 rfl ?_
              refine gf_X4_58 F 0 rfl rfl dX4_alike_198 ?_
              refine lx_istore F [(0, .ref y), (1, .int (nI k)), (2, .int (nI j)), (3, .int (bI (lm_fit w m (w p) (w q)).2)), (4, .int (nI i)), (5, .int (nI p)), (6, .int (nI q)), (7, .int (nI ((lm_rest c w p).1)))] [1, 2, 3, 4, 5, 6, 7, 0] dX4_alike_201 rfl (by decide) ?_
              refine lx_aload_n F dX4_alike_203 0 rfl ?_
              refine gf_X4_61 F 0 rfl rfl dX4_alike_204 ?_
              refine lx_lstore F [(0, .ref y), (1, .int (nI k)), (2, .int (nI j)), (3, .int (bI (lm_fit w m (w p) (w q)).2)), (4, .int (nI i)), (5, .int (nI p)), (6, .int (nI q)), (7, .int (nI ((lm_rest c w p).1))), (8, .long (jI ((lm_rest c w p).2)))] [1, 2, 3, 4, 5, 6, 7, 8, 0] dX4_alike_207 rfl (by decide) ?_
              refine lx_aload_n F dX4_alike_209 0 rfl ?_
              refine lx_iload F dX4_alike_210 6 rfl ?_
              refine lx_cv F (zr_lookRest (xl E) K y acd akd act ark arr ali ala anc ank ant aag abk atd ase (nI (lm_rf false false)) z (nI (lm_rest c w p).1) (jI (lm_rest c w p).2) (nI (lm_fit w m (w p) (w q)).1.2.2.length) nx cd kd ct c w u hw hh q hcq) cv_X4_85 0 rfl rfl [0, 1, 2, 3] [4, 5, 6, 7, 8, 9, 10, 11, 12, 13, 14] [(ark, aI K 10 rk1), (arr, aJ K 10 rr1), (ali, aI K 120 fl), (ala, aI K 120 fla), (anc, aI K 120 nc), (ank, aI K 120 nk), (ant, aJ K 120 nt), (aag, aI K 120 u5), (abk, aI K 120 u6), (atd, aI K 120 u7), (ase, aZ K 120 fse)] rfl rfl (by decide) rfl (st := []) rfl (Nat.le_of_ble_eq_true rfl) (by decide) ⟨by decide, by decide⟩ dX4_alike_212 (fun v9 w9 h9 => ?_)
              obtain ⟨rfl, rfl⟩ := h9
              refine lx_perm [11, 12, 13, 14, 0, 1, 2, 3, 4, 5, 6, 7, 8, 9, 10] [(y, .inr (4, [.int (nI (lm_rf false false)), .ref acd, .ref akd, .ref act, .int (nI u), .ref ark, .ref arr, .int z, .int (nI ((lm_rest c w q).1)), .long (jI ((lm_rest c w q).2)), .ref ali, .int (nI ((lm_fit w m (w p) (w q)).1.2.2.length)), .ref ala, .ref anc, .ref ank, .ref ant, .int nx, .ref aag, .ref abk, .ref atd, .ref ase])), (acd, aI K 120 cd), (akd, aI K 120 kd), (act, aJ K 120 ct), (ark, aI K 10 rk1), (arr, aJ K 10 rr1), (ali, aI K 120 fl), (ala, aI K 120 fla), (anc, aI K 120 nc), (ank, aI K 120 nk), (ant, aJ K 120 nt), (aag, aI K 120 u5), (abk, aI K 120 u6), (atd, aI K 120 u7), (ase, aZ K 120 fse)] (by decide) rfl ?_
              refine lx_st (a' := 0) (b' := 0) [] rfl rfl rfl ?_
              refine lx_iload_n F dX4_alike_215 3 rfl ?_
              refine lx_if_eq F 242 dX4_alike_216 rfl (fun h1 => ?_) (fun h1 => ?_)
              · skip
                have h1f := lm_bI_f h1
                refine lx_iconst F dX4_alike_242 kc_0 ?_
                refine lx_istore_n F [(0, .ref y), (1, .int (nI k)), (2, .int (nI j)), (3, .int (nI 0)), (4, .int (nI i)), (5, .int (nI p)), (6, .int (nI q)), (7, .int (nI ((lm_rest c w p).1))), (8, .long (jI ((lm_rest c w p).2)))] [1, 2, 3, 0, 4, 5, 6, 7, 8] dX4_alike_243 rfl (by decide) ?_
                refine lx_iinc F [(0, .ref y), (1, .int (nI k)), (2, .int (nI j)), (3, .int (nI 0)), (4, .int (nI (i + 1))), (5, .int (nI p)), (6, .int (nI q)), (7, .int (nI ((lm_rest c w p).1))), (8, .long (jI ((lm_rest c w p).2)))] 4 [1, 2, 3, 4, 0, 5, 6, 7, 8] dX4_alike_244 rfl (k_inc _) rfl (by decide) ?_
                refine lx_goto F 127 dX4_alike_247 rfl ?_
                refine lx_lv [0, 1, 2, 3, 4] [(0, .ref y), (1, .int (nI k)), (2, .int (nI j)), (3, .int (nI 0)), (4, .int (nI (i + 1)))] rfl ?_
                exact ih (i + 1) false _ _ _ u5 u6 u7 (by omega) hfk.1 hmsu (fun z9 => absurd z9 (by simp)) (fun _ => by rw [← hal0, hstep, lm_pair_f1 h1f])
              · skip
                have h1t := lm_bI_t h1
                have hfk2 := lm_fit_ok hw hfk.1 (lm_rest_ok hw hcp) (lm_rest_ok hw hcq)
                refine lx_aload_n F dX4_alike_219 0 rfl ?_
                refine lx_iload F dX4_alike_220 7 rfl ?_
                refine lx_lload F dX4_alike_222 8 rfl ?_
                refine lx_aload_n F dX4_alike_224 0 rfl ?_
                refine gf_X4_58 F 0 rfl rfl dX4_alike_225 ?_
                refine lx_aload_n F dX4_alike_228 0 rfl ?_
                refine gf_X4_61 F 0 rfl rfl dX4_alike_229 ?_
                refine lx_cv F (zr_meet (xl E) K y acd akd act ark arr ali ala anc ank ant aag abk atd ase (nI (lm_rf false false)) z (nI (lm_rest c w q).1) (jI (lm_rest c w q).2) (nI (lm_fit w m (w p) (w q)).1.2.2.length) nx cd kd ct u5 u6 u7 c w u hw hh (lm_fit w m (w p) (w q)).1 hfk.1 hmsu (lm_rest c w p) (lm_rest c w q) (lm_rest_ok hw hcp) (lm_rest_ok hw hcq)) cv_X4_136 0 rfl rfl [0, 2, 3, 11, 12, 13] [1, 4, 5, 6, 7, 8, 9, 10, 14] [(acd, aI K 120 cd), (ark, aI K 10 rk1), (arr, aJ K 10 rr1), (ali, aI K 120 fl), (ala, aI K 120 fla), (anc, aI K 120 nc), (ank, aI K 120 nk), (ant, aJ K 120 nt), (ase, aZ K 120 fse)] rfl rfl (by decide) rfl (st := []) rfl (Nat.le_of_ble_eq_true rfl) (by decide) ⟨by decide, by decide⟩ dX4_alike_232 (fun v9 w9 h9 => ?_)
                obtain ⟨rfl, z5, z6, z7, hmsz, rfl⟩ := h9
                refine lx_perm [9, 0, 10, 11, 1, 2, 3, 4, 5, 6, 7, 12, 13, 14, 8] [(y, .inr (4, [.int (nI (lm_rf false false)), .ref acd, .ref akd, .ref act, .int (nI u), .ref ark, .ref arr, .int z, .int (nI ((lm_rest c w q).1)), .long (jI ((lm_rest c w q).2)), .ref ali, .int (nI ((lm_fit w (lm_fit w m (w p) (w q)).1 (lm_rest c w p) (lm_rest c w q)).1.2.2.length)), .ref ala, .ref anc, .ref ank, .ref ant, .int nx, .ref aag, .ref abk, .ref atd, .ref ase])), (acd, aI K 120 cd), (akd, aI K 120 kd), (act, aJ K 120 ct), (ark, aI K 10 rk1), (arr, aJ K 10 rr1), (ali, aI K 120 fl), (ala, aI K 120 fla), (anc, aI K 120 nc), (ank, aI K 120 nk), (ant, aJ K 120 nt), (aag, aI K 120 z5), (abk, aI K 120 z6), (atd, aI K 120 z7), (ase, aZ K 120 fse)] (by decide) rfl ?_
                refine lx_st (a' := 0) (b' := 0) [.int (bI (lm_fit w (lm_fit w m (w p) (w q)).1 (lm_rest c w p) (lm_rest c w q)).2)] rfl rfl rfl ?_
                refine lx_if_eq F 242 dX4_alike_235 rfl (fun h2 => ?_) (fun h2 => ?_)
                · skip
                  have h2f := lm_bI_f h2
                  refine lx_iconst F dX4_alike_242 kc_0 ?_
                  refine lx_istore_n F [(0, .ref y), (1, .int (nI k)), (2, .int (nI j)), (3, .int (nI 0)), (4, .int (nI i)), (5, .int (nI p)), (6, .int (nI q)), (7, .int (nI ((lm_rest c w p).1))), (8, .long (jI ((lm_rest c w p).2)))] [1, 2, 3, 0, 4, 5, 6, 7, 8] dX4_alike_243 rfl (by decide) ?_
                  refine lx_iinc F [(0, .ref y), (1, .int (nI k)), (2, .int (nI j)), (3, .int (nI 0)), (4, .int (nI (i + 1))), (5, .int (nI p)), (6, .int (nI q)), (7, .int (nI ((lm_rest c w p).1))), (8, .long (jI ((lm_rest c w p).2)))] 4 [1, 2, 3, 4, 0, 5, 6, 7, 8] dX4_alike_244 rfl (k_inc _) rfl (by decide) ?_
                  refine lx_goto F 127 dX4_alike_247 rfl ?_
                  refine lx_lv [0, 1, 2, 3, 4] [(0, .ref y), (1, .int (nI k)), (2, .int (nI j)), (3, .int (nI 0)), (4, .int (nI (i + 1)))] rfl ?_
                  exact ih (i + 1) false _ _ _ z5 z6 z7 (by omega) hfk2.1 hmsz (fun z9 => absurd z9 (by simp)) (fun _ => by rw [← hal0, hstep, lm_pair_f2 h1t h2f])
                · skip
                  have h2t := lm_bI_t h2
                  refine lx_iconst F dX4_alike_238 kc_1 ?_
                  refine lx_goto F 243 dX4_alike_239 rfl ?_
                  refine lx_istore_n F [(0, .ref y), (1, .int (nI k)), (2, .int (nI j)), (3, .int (nI 1)), (4, .int (nI i)), (5, .int (nI p)), (6, .int (nI q)), (7, .int (nI ((lm_rest c w p).1))), (8, .long (jI ((lm_rest c w p).2)))] [1, 2, 3, 0, 4, 5, 6, 7, 8] dX4_alike_243 rfl (by decide) ?_
                  refine lx_iinc F [(0, .ref y), (1, .int (nI k)), (2, .int (nI j)), (3, .int (nI 1)), (4, .int (nI (i + 1))), (5, .int (nI p)), (6, .int (nI q)), (7, .int (nI ((lm_rest c w p).1))), (8, .long (jI ((lm_rest c w p).2)))] 4 [1, 2, 3, 4, 0, 5, 6, 7, 8] dX4_alike_244 rfl (k_inc _) rfl (by decide) ?_
                  refine lx_goto F 127 dX4_alike_247 rfl ?_
                  refine lx_lv [0, 1, 2, 3, 4] [(0, .ref y), (1, .int (nI k)), (2, .int (nI j)), (3, .int (nI 1)), (4, .int (nI (i + 1)))] rfl ?_
                  exact ih (i + 1) true _ _ _ z5 z6 z7 (by omega) hfk2.1 hmsz (fun _ => by rw [← hal0, hstep, lm_pair_t h1t h2t]) (fun z9 => absurd z9 (by simp))
      have loop1 : ∀ (n9 : Nat) (i : Nat) (f5 f6 : Nat → Int32), i + n9 = 120 → (∀ j, j < i → f5 j = -1) → (∀ j, j < i → f6 j = -1) → lx_W K 10 E 0 0 64 [(0, .ref y), (1, .int (nI k)), (2, .int (nI j)), (3, .int (nI i))] [] [(y, .inr (4, [.int (nI (lm_rf false false)), .ref acd, .ref akd, .ref act, .int (nI u), .ref ark, .ref arr, .int z, .int kk, .long kc, .ref ali, .int mn, .ref ala, .ref anc, .ref ank, .ref ant, .int nx, .ref aag, .ref abk, .ref atd, .ref ase])), (acd, aI K 120 cd), (akd, aI K 120 kd), (act, aJ K 120 ct), (ark, aI K 10 rk1), (arr, aJ K 10 rr1), (ali, aI K 120 fl), (ala, aI K 120 fla), (anc, aI K 120 nc), (ank, aI K 120 nk), (ant, aJ K 120 nt), (aag, aI K 120 f5), (abk, aI K 120 f6), (atd, aI K 120 ftd), (ase, aZ K 120 fse)] := by
        intro n9
        induction n9 with
        | zero =>
          intro i f5 f6 hi ha hb
          refine lx_iload_n F dX4_alike_64 3 rfl ?_
          refine lx_bipush F dX4_alike_65 kb_120 ?_
          refine lx_icmpN_ge F 90 (by omega) (by omega) dX4_alike_67 rfl (fun _ => ?_) (fun h => absurd h (by omega))
          refine lx_aload_n F dX4_alike_90 0 rfl ?_
          refine lx_iconst F dX4_alike_91 kc_0 ?_
          refine pf_X4_79 F 0 [(y, .inr (4, [.int (nI (lm_rf false false)), .ref acd, .ref akd, .ref act, .int (nI u), .ref ark, .ref arr, .int z, .int kk, .long kc, .ref ali, .int (nI 0), .ref ala, .ref anc, .ref ank, .ref ant, .int nx, .ref aag, .ref abk, .ref atd, .ref ase])), (acd, aI K 120 cd), (akd, aI K 120 kd), (act, aJ K 120 ct), (ark, aI K 10 rk1), (arr, aJ K 10 rr1), (ali, aI K 120 fl), (ala, aI K 120 fla), (anc, aI K 120 nc), (ank, aI K 120 nk), (ant, aJ K 120 nt), (aag, aI K 120 f5), (abk, aI K 120 f6), (atd, aI K 120 ftd), (ase, aZ K 120 fse)] rfl rfl dX4_alike_92 rfl ?_
          have hms0 : lm_ms f5 f6 ftd ((fun _ => none, fun _ => none, []) : lm_M) := lm_ms_0 (fun p hp => ha p (by omega)) (fun p hp => hb p (by omega))
          have hm0 : lm_mok c w u ((fun _ => none, fun _ => none, []) : lm_M) := lm_mok_0
          have hfk0 := lm_fit_ok hw hm0 (hr9 k hk) (hr9 j hj)
          refine lx_perm [0, 1, 2, 3, 4, 5, 6, 7, 8, 9, 10, 11, 12, 13, 14] [(y, .inr (4, [.int (nI (lm_rf false false)), .ref acd, .ref akd, .ref act, .int (nI u), .ref ark, .ref arr, .int z, .int kk, .long kc, .ref ali, .int (nI (((fun _ => none, fun _ => none, []) : lm_M).2.2.length)), .ref ala, .ref anc, .ref ank, .ref ant, .int nx, .ref aag, .ref abk, .ref atd, .ref ase])), (acd, aI K 120 cd), (akd, aI K 120 kd), (act, aJ K 120 ct), (ark, aI K 10 rk1), (arr, aJ K 10 rr1), (ali, aI K 120 fl), (ala, aI K 120 fla), (anc, aI K 120 nc), (ank, aI K 120 nk), (ant, aJ K 120 nt), (aag, aI K 120 f5), (abk, aI K 120 f6), (atd, aI K 120 ftd), (ase, aZ K 120 fse)] (by decide) rfl ?_
          refine lx_aload_n F dX4_alike_95 0 rfl ?_
          refine lx_aload_n F dX4_alike_96 0 rfl ?_
          refine gf_X4_20 F 0 rfl rfl dX4_alike_97 ?_
          refine lx_iload_n F dX4_alike_100 1 rfl ?_
          refine lx_iald F 4 k dX4_alike_101 rfl (by omega) (by decide) ?_
          rw [(hro k hk).1]
          refine lx_aload_n F dX4_alike_102 0 rfl ?_
          refine gf_X4_23 F 0 rfl rfl dX4_alike_103 ?_
          refine lx_iload_n F dX4_alike_106 1 rfl ?_
          refine lx_lald F 5 k dX4_alike_107 rfl (by omega) (by decide) ?_
          rw [(hro k hk).2]
          refine lx_aload_n F dX4_alike_108 0 rfl ?_
          refine gf_X4_20 F 0 rfl rfl dX4_alike_109 ?_
          refine lx_iload_n F dX4_alike_112 2 rfl ?_
          refine lx_iald F 4 j dX4_alike_113 rfl (by omega) (by decide) ?_
          rw [(hro j hj).1]
          refine lx_aload_n F dX4_alike_114 0 rfl ?_
          refine gf_X4_23 F 0 rfl rfl dX4_alike_115 ?_
          refine lx_iload_n F dX4_alike_118 2 rfl ?_
          refine lx_lald F 5 j dX4_alike_119 rfl (by omega) (by decide) ?_
          rw [(hro j hj).2]
          refine lx_cv F (zr_meet (xl E) K y acd akd act ark arr ali ala anc ank ant aag abk atd ase (nI (lm_rf false false)) z kk kc (nI ((fun _ => none, fun _ => none, []) : lm_M).2.2.length) nx cd kd ct f5 f6 ftd c w u hw hh ((fun _ => none, fun _ => none, []) : lm_M) hm0 hms0 (rt k) (rt j) (hr9 k hk) (hr9 j hj)) cv_X4_136 0 rfl rfl [0, 2, 3, 11, 12, 13] [1, 4, 5, 6, 7, 8, 9, 10, 14] [(acd, aI K 120 cd), (ark, aI K 10 rk1), (arr, aJ K 10 rr1), (ali, aI K 120 fl), (ala, aI K 120 fla), (anc, aI K 120 nc), (ank, aI K 120 nk), (ant, aJ K 120 nt), (ase, aZ K 120 fse)] rfl rfl (by decide) rfl (st := []) rfl (Nat.le_of_ble_eq_true rfl) (by decide) ⟨by decide, by decide⟩ dX4_alike_120 (fun v9 w9 h9 => ?_)
          obtain ⟨rfl, u5, u6, u7, hmsu, rfl⟩ := h9
          refine lx_perm [9, 0, 10, 11, 1, 2, 3, 4, 5, 6, 7, 12, 13, 14, 8] [(y, .inr (4, [.int (nI (lm_rf false false)), .ref acd, .ref akd, .ref act, .int (nI u), .ref ark, .ref arr, .int z, .int kk, .long kc, .ref ali, .int (nI ((lm_fit w ((fun _ => none, fun _ => none, []) : lm_M) (rt k) (rt j)).1.2.2.length)), .ref ala, .ref anc, .ref ank, .ref ant, .int nx, .ref aag, .ref abk, .ref atd, .ref ase])), (acd, aI K 120 cd), (akd, aI K 120 kd), (act, aJ K 120 ct), (ark, aI K 10 rk1), (arr, aJ K 10 rr1), (ali, aI K 120 fl), (ala, aI K 120 fla), (anc, aI K 120 nc), (ank, aI K 120 nk), (ant, aJ K 120 nt), (aag, aI K 120 u5), (abk, aI K 120 u6), (atd, aI K 120 u7), (ase, aZ K 120 fse)] (by decide) rfl ?_
          refine lx_st (a' := 0) (b' := 0) [.int (bI (lm_fit w ((fun _ => none, fun _ => none, []) : lm_M) (rt k) (rt j)).2)] rfl rfl rfl ?_
          refine lx_istore_n F [(0, .ref y), (1, .int (nI k)), (2, .int (nI j)), (3, .int (bI (lm_fit w ((fun _ => none, fun _ => none, []) : lm_M) (rt k) (rt j)).2))] [1, 2, 3, 0] dX4_alike_123 rfl (by decide) ?_
          refine lx_iconst F dX4_alike_124 kc_0 ?_
          refine lx_istore F [(0, .ref y), (1, .int (nI k)), (2, .int (nI j)), (3, .int (bI (lm_fit w ((fun _ => none, fun _ => none, []) : lm_M) (rt k) (rt j)).2)), (4, .int (nI 0))] [1, 2, 3, 4, 0] dX4_alike_125 rfl (by decide) ?_
          exact loop 120 0 _ _ kk kc u5 u6 u7 (by omega) hfk0.1 hmsu (fun z9 => lm_alike_t z9) (fun z9 => lm_alike_f z9)
        | succ n9 ih =>
          intro i f5 f6 hi ha hb
          refine lx_iload_n F dX4_alike_64 3 rfl ?_
          refine lx_bipush F dX4_alike_65 kb_120 ?_
          refine lx_icmpN_ge F 90 (by omega) (by omega) dX4_alike_67 rfl (fun h => absurd h (by omega)) (fun _ => ?_)
          refine lx_aload_n F dX4_alike_70 0 rfl ?_
          refine gf_X4_41 F 0 rfl rfl dX4_alike_71 ?_
          refine lx_iload_n F dX4_alike_74 3 rfl ?_
          refine lx_iconst F dX4_alike_75 kc_m1 ?_
          refine lx_iast F 11 i [(y, .inr (4, [.int (nI (lm_rf false false)), .ref acd, .ref akd, .ref act, .int (nI u), .ref ark, .ref arr, .int z, .int kk, .long kc, .ref ali, .int mn, .ref ala, .ref anc, .ref ank, .ref ant, .int nx, .ref aag, .ref abk, .ref atd, .ref ase])), (acd, aI K 120 cd), (akd, aI K 120 kd), (act, aJ K 120 ct), (ark, aI K 10 rk1), (arr, aJ K 10 rr1), (ali, aI K 120 fl), (ala, aI K 120 fla), (anc, aI K 120 nc), (ank, aI K 120 nk), (ant, aJ K 120 nt), (aag, aI K 120 (lm_up f5 i (-1))), (abk, aI K 120 f6), (atd, aI K 120 ftd), (ase, aZ K 120 fse)] dX4_alike_76 rfl (by omega) (by decide) rfl ?_
          refine lx_aload_n F dX4_alike_77 0 rfl ?_
          refine gf_X4_44 F 0 rfl rfl dX4_alike_78 ?_
          refine lx_iload_n F dX4_alike_81 3 rfl ?_
          refine lx_iconst F dX4_alike_82 kc_m1 ?_
          refine lx_iast F 12 i [(y, .inr (4, [.int (nI (lm_rf false false)), .ref acd, .ref akd, .ref act, .int (nI u), .ref ark, .ref arr, .int z, .int kk, .long kc, .ref ali, .int mn, .ref ala, .ref anc, .ref ank, .ref ant, .int nx, .ref aag, .ref abk, .ref atd, .ref ase])), (acd, aI K 120 cd), (akd, aI K 120 kd), (act, aJ K 120 ct), (ark, aI K 10 rk1), (arr, aJ K 10 rr1), (ali, aI K 120 fl), (ala, aI K 120 fla), (anc, aI K 120 nc), (ank, aI K 120 nk), (ant, aJ K 120 nt), (aag, aI K 120 (lm_up f5 i (-1))), (abk, aI K 120 (lm_up f6 i (-1))), (atd, aI K 120 ftd), (ase, aZ K 120 fse)] dX4_alike_83 rfl (by omega) (by decide) rfl ?_
          refine lx_iinc F [(0, .ref y), (1, .int (nI k)), (2, .int (nI j)), (3, .int (nI (i + 1)))] 3 [1, 2, 3, 0] dX4_alike_84 rfl (k_inc _) rfl (by decide) ?_
          refine lx_goto F 64 dX4_alike_87 rfl ?_
          exact ih (i + 1) _ _ (by omega) (lm_up_fill ha) (lm_up_fill hb)
      cases hs : lm_same w (rt k) (rt j)
      · skip
        refine lx_aload_n F dX4_alike_0 0 rfl ?_
        refine lx_iload_n F dX4_alike_1 1 rfl ?_
        refine lx_cs F (zr_none2 (xl E) K (nI k) false (lm_none_n hk)) cs_X4_102 [] [0, 1, 2, 3, 4, 5, 6, 7, 8, 9, 10, 11, 12, 13, 14] [(y, .inr (4, [.int th, .ref acd, .ref akd, .ref act, .int (nI u), .ref ark, .ref arr, .int z, .int kk, .long kc, .ref ali, .int mn, .ref ala, .ref anc, .ref ank, .ref ant, .int nx, .ref aag, .ref abk, .ref atd, .ref ase])), (acd, aI K 120 cd), (akd, aI K 120 kd), (act, aJ K 120 ct), (ark, aI K 10 rk1), (arr, aJ K 10 rr1), (ali, aI K 120 fl), (ala, aI K 120 fla), (anc, aI K 120 nc), (ank, aI K 120 nk), (ant, aJ K 120 nt), (aag, aI K 120 fag), (abk, aI K 120 fbk), (atd, aI K 120 ftd), (ase, aZ K 120 fse)] rfl rfl (by decide) rfl (st := [.ref y]) rfl (Nat.le_of_ble_eq_true rfl) (by decide) ⟨by decide, by decide⟩ dX4_alike_2 (fun v9 w9 h9 => ?_)
        obtain ⟨rfl, rfl⟩ := h9
        refine lx_perm [0, 1, 2, 3, 4, 5, 6, 7, 8, 9, 10, 11, 12, 13, 14] [(y, .inr (4, [.int th, .ref acd, .ref akd, .ref act, .int (nI u), .ref ark, .ref arr, .int z, .int kk, .long kc, .ref ali, .int mn, .ref ala, .ref anc, .ref ank, .ref ant, .int nx, .ref aag, .ref abk, .ref atd, .ref ase])), (acd, aI K 120 cd), (akd, aI K 120 kd), (act, aJ K 120 ct), (ark, aI K 10 rk1), (arr, aJ K 10 rr1), (ali, aI K 120 fl), (ala, aI K 120 fla), (anc, aI K 120 nc), (ank, aI K 120 nk), (ant, aJ K 120 nt), (aag, aI K 120 fag), (abk, aI K 120 fbk), (atd, aI K 120 ftd), (ase, aZ K 120 fse)] (by decide) rfl ?_
        refine lx_st (a' := 0) (b' := 0) [.int (bI false), .ref y] rfl rfl rfl ?_
        refine lx_if_ne F 15 dX4_alike_5 rfl (fun h => absurd (by decide) h) (fun _ => ?_)
        refine lx_iload_n F dX4_alike_8 2 rfl ?_
        refine lx_cs F (zr_none2 (xl E) K (nI j) false (lm_none_n hj)) cs_X4_102 [] [0, 1, 2, 3, 4, 5, 6, 7, 8, 9, 10, 11, 12, 13, 14] [(y, .inr (4, [.int th, .ref acd, .ref akd, .ref act, .int (nI u), .ref ark, .ref arr, .int z, .int kk, .long kc, .ref ali, .int mn, .ref ala, .ref anc, .ref ank, .ref ant, .int nx, .ref aag, .ref abk, .ref atd, .ref ase])), (acd, aI K 120 cd), (akd, aI K 120 kd), (act, aJ K 120 ct), (ark, aI K 10 rk1), (arr, aJ K 10 rr1), (ali, aI K 120 fl), (ala, aI K 120 fla), (anc, aI K 120 nc), (ank, aI K 120 nk), (ant, aJ K 120 nt), (aag, aI K 120 fag), (abk, aI K 120 fbk), (atd, aI K 120 ftd), (ase, aZ K 120 fse)] rfl rfl (by decide) rfl (st := [.ref y]) rfl (Nat.le_of_ble_eq_true rfl) (by decide) ⟨by decide, by decide⟩ dX4_alike_9 (fun v9 w9 h9 => ?_)
        obtain ⟨rfl, rfl⟩ := h9
        refine lx_perm [0, 1, 2, 3, 4, 5, 6, 7, 8, 9, 10, 11, 12, 13, 14] [(y, .inr (4, [.int th, .ref acd, .ref akd, .ref act, .int (nI u), .ref ark, .ref arr, .int z, .int kk, .long kc, .ref ali, .int mn, .ref ala, .ref anc, .ref ank, .ref ant, .int nx, .ref aag, .ref abk, .ref atd, .ref ase])), (acd, aI K 120 cd), (akd, aI K 120 kd), (act, aJ K 120 ct), (ark, aI K 10 rk1), (arr, aJ K 10 rr1), (ali, aI K 120 fl), (ala, aI K 120 fla), (anc, aI K 120 nc), (ank, aI K 120 nk), (ant, aJ K 120 nt), (aag, aI K 120 fag), (abk, aI K 120 fbk), (atd, aI K 120 ftd), (ase, aZ K 120 fse)] (by decide) rfl ?_
        refine lx_st (a' := 0) (b' := 0) [.int (bI false), .ref y] rfl rfl rfl ?_
        refine lx_if_eq F 19 dX4_alike_12 rfl (fun _ => ?_) (fun h => absurd (by decide) h)
        refine lx_iconst F dX4_alike_19 kc_0 ?_
        refine lx_iconst F dX4_alike_20 kc_0 ?_
        refine lx_cv F (zr_refuse (xl E) K y acd akd act ark arr ali ala anc ank ant aag abk atd ase th z kk kc mn nx (nI u) false false) cv_X4_110 0 rfl rfl [0] [1, 2, 3, 4, 5, 6, 7, 8, 9, 10, 11, 12, 13, 14] [(acd, aI K 120 cd), (akd, aI K 120 kd), (act, aJ K 120 ct), (ark, aI K 10 rk1), (arr, aJ K 10 rr1), (ali, aI K 120 fl), (ala, aI K 120 fla), (anc, aI K 120 nc), (ank, aI K 120 nk), (ant, aJ K 120 nt), (aag, aI K 120 fag), (abk, aI K 120 fbk), (atd, aI K 120 ftd), (ase, aZ K 120 fse)] rfl rfl (by decide) rfl (st := []) rfl (Nat.le_of_ble_eq_true rfl) (by decide) ⟨by decide, by decide⟩ dX4_alike_21 (fun v9 w9 h9 => ?_)
        obtain ⟨rfl, rfl⟩ := h9
        refine lx_perm [14, 0, 1, 2, 3, 4, 5, 6, 7, 8, 9, 10, 11, 12, 13] [(y, .inr (4, [.int (nI (lm_rf false false)), .ref acd, .ref akd, .ref act, .int (nI u), .ref ark, .ref arr, .int z, .int kk, .long kc, .ref ali, .int mn, .ref ala, .ref anc, .ref ank, .ref ant, .int nx, .ref aag, .ref abk, .ref atd, .ref ase])), (acd, aI K 120 cd), (akd, aI K 120 kd), (act, aJ K 120 ct), (ark, aI K 10 rk1), (arr, aJ K 10 rr1), (ali, aI K 120 fl), (ala, aI K 120 fla), (anc, aI K 120 nc), (ank, aI K 120 nk), (ant, aJ K 120 nt), (aag, aI K 120 fag), (abk, aI K 120 fbk), (atd, aI K 120 ftd), (ase, aZ K 120 fse)] (by decide) rfl ?_
        refine lx_st (a' := 0) (b' := 0) [.int (bI false)] rfl rfl rfl ?_
        refine lx_if_eq F 29 dX4_alike_24 rfl (fun _ => ?_) (fun h => absurd (by decide) h)
        refine lx_aload_n F dX4_alike_29 0 rfl ?_
        refine lx_aload_n F dX4_alike_30 0 rfl ?_
        refine gf_X4_20 F 0 rfl rfl dX4_alike_31 ?_
        refine lx_iload_n F dX4_alike_34 1 rfl ?_
        refine lx_iald F 4 k dX4_alike_35 rfl (by omega) (by decide) ?_
        rw [(hro k hk).1]
        refine lx_aload_n F dX4_alike_36 0 rfl ?_
        refine gf_X4_23 F 0 rfl rfl dX4_alike_37 ?_
        refine lx_iload_n F dX4_alike_40 1 rfl ?_
        refine lx_lald F 5 k dX4_alike_41 rfl (by omega) (by decide) ?_
        rw [(hro k hk).2]
        refine lx_aload_n F dX4_alike_42 0 rfl ?_
        refine gf_X4_20 F 0 rfl rfl dX4_alike_43 ?_
        refine lx_iload_n F dX4_alike_46 2 rfl ?_
        refine lx_iald F 4 j dX4_alike_47 rfl (by omega) (by decide) ?_
        rw [(hro j hj).1]
        refine lx_aload_n F dX4_alike_48 0 rfl ?_
        refine gf_X4_23 F 0 rfl rfl dX4_alike_49 ?_
        refine lx_iload_n F dX4_alike_52 2 rfl ?_
        refine lx_lald F 5 j dX4_alike_53 rfl (by omega) (by decide) ?_
        rw [(hro j hj).2]
        refine lx_cv F (zr_isSame (xl E) K y acd akd act ark arr ali ala anc ank ant aag abk atd ase (nI (lm_rf false false)) z kk kc mn nx cd kd ct c w u hw hh (rt k) (rt j) (hr9 k hk) (hr9 j hj)) cv_X4_128 0 rfl rfl [0, 2, 3] [1, 4, 5, 6, 7, 8, 9, 10, 11, 12, 13, 14] [(acd, aI K 120 cd), (ark, aI K 10 rk1), (arr, aJ K 10 rr1), (ali, aI K 120 fl), (ala, aI K 120 fla), (anc, aI K 120 nc), (ank, aI K 120 nk), (ant, aJ K 120 nt), (aag, aI K 120 fag), (abk, aI K 120 fbk), (atd, aI K 120 ftd), (ase, aZ K 120 fse)] rfl rfl (by decide) rfl (st := []) rfl (Nat.le_of_ble_eq_true rfl) (by decide) ⟨by decide, by decide⟩ dX4_alike_54 (fun v9 w9 h9 => ?_)
        obtain ⟨rfl, rfl⟩ := h9
        refine lx_perm [12, 0, 13, 14, 1, 2, 3, 4, 5, 6, 7, 8, 9, 10, 11] [(y, .inr (4, [.int (nI (lm_rf false false)), .ref acd, .ref akd, .ref act, .int (nI u), .ref ark, .ref arr, .int z, .int kk, .long kc, .ref ali, .int mn, .ref ala, .ref anc, .ref ank, .ref ant, .int nx, .ref aag, .ref abk, .ref atd, .ref ase])), (acd, aI K 120 cd), (akd, aI K 120 kd), (act, aJ K 120 ct), (ark, aI K 10 rk1), (arr, aJ K 10 rr1), (ali, aI K 120 fl), (ala, aI K 120 fla), (anc, aI K 120 nc), (ank, aI K 120 nk), (ant, aJ K 120 nt), (aag, aI K 120 fag), (abk, aI K 120 fbk), (atd, aI K 120 ftd), (ase, aZ K 120 fse)] (by decide) rfl ?_
        refine lx_st (a' := 0) (b' := 0) [.int (bI (lm_same w (rt k) (rt j)))] rfl rfl rfl ?_
        rw [hs]
        refine lx_if_eq F 62 dX4_alike_57 rfl (fun _ => ?_) (fun h => absurd (by decide) h)
        refine lx_iconst F dX4_alike_62 kc_0 ?_
        refine lx_istore_n F [(0, .ref y), (1, .int (nI k)), (2, .int (nI j)), (3, .int (nI 0))] [1, 2, 3, 0] dX4_alike_63 rfl (by decide) ?_
        exact loop1 120 0 fag fbk (by omega) (fun j hj => absurd hj (by omega)) (fun j hj => absurd hj (by omega))
      · skip
        refine lx_aload_n F dX4_alike_0 0 rfl ?_
        refine lx_iload_n F dX4_alike_1 1 rfl ?_
        refine lx_cs F (zr_none2 (xl E) K (nI k) false (lm_none_n hk)) cs_X4_102 [] [0, 1, 2, 3, 4, 5, 6, 7, 8, 9, 10, 11, 12, 13, 14] [(y, .inr (4, [.int th, .ref acd, .ref akd, .ref act, .int (nI u), .ref ark, .ref arr, .int z, .int kk, .long kc, .ref ali, .int mn, .ref ala, .ref anc, .ref ank, .ref ant, .int nx, .ref aag, .ref abk, .ref atd, .ref ase])), (acd, aI K 120 cd), (akd, aI K 120 kd), (act, aJ K 120 ct), (ark, aI K 10 rk1), (arr, aJ K 10 rr1), (ali, aI K 120 fl), (ala, aI K 120 fla), (anc, aI K 120 nc), (ank, aI K 120 nk), (ant, aJ K 120 nt), (aag, aI K 120 fag), (abk, aI K 120 fbk), (atd, aI K 120 ftd), (ase, aZ K 120 fse)] rfl rfl (by decide) rfl (st := [.ref y]) rfl (Nat.le_of_ble_eq_true rfl) (by decide) ⟨by decide, by decide⟩ dX4_alike_2 (fun v9 w9 h9 => ?_)
        obtain ⟨rfl, rfl⟩ := h9
        refine lx_perm [0, 1, 2, 3, 4, 5, 6, 7, 8, 9, 10, 11, 12, 13, 14] [(y, .inr (4, [.int th, .ref acd, .ref akd, .ref act, .int (nI u), .ref ark, .ref arr, .int z, .int kk, .long kc, .ref ali, .int mn, .ref ala, .ref anc, .ref ank, .ref ant, .int nx, .ref aag, .ref abk, .ref atd, .ref ase])), (acd, aI K 120 cd), (akd, aI K 120 kd), (act, aJ K 120 ct), (ark, aI K 10 rk1), (arr, aJ K 10 rr1), (ali, aI K 120 fl), (ala, aI K 120 fla), (anc, aI K 120 nc), (ank, aI K 120 nk), (ant, aJ K 120 nt), (aag, aI K 120 fag), (abk, aI K 120 fbk), (atd, aI K 120 ftd), (ase, aZ K 120 fse)] (by decide) rfl ?_
        refine lx_st (a' := 0) (b' := 0) [.int (bI false), .ref y] rfl rfl rfl ?_
        refine lx_if_ne F 15 dX4_alike_5 rfl (fun h => absurd (by decide) h) (fun _ => ?_)
        refine lx_iload_n F dX4_alike_8 2 rfl ?_
        refine lx_cs F (zr_none2 (xl E) K (nI j) false (lm_none_n hj)) cs_X4_102 [] [0, 1, 2, 3, 4, 5, 6, 7, 8, 9, 10, 11, 12, 13, 14] [(y, .inr (4, [.int th, .ref acd, .ref akd, .ref act, .int (nI u), .ref ark, .ref arr, .int z, .int kk, .long kc, .ref ali, .int mn, .ref ala, .ref anc, .ref ank, .ref ant, .int nx, .ref aag, .ref abk, .ref atd, .ref ase])), (acd, aI K 120 cd), (akd, aI K 120 kd), (act, aJ K 120 ct), (ark, aI K 10 rk1), (arr, aJ K 10 rr1), (ali, aI K 120 fl), (ala, aI K 120 fla), (anc, aI K 120 nc), (ank, aI K 120 nk), (ant, aJ K 120 nt), (aag, aI K 120 fag), (abk, aI K 120 fbk), (atd, aI K 120 ftd), (ase, aZ K 120 fse)] rfl rfl (by decide) rfl (st := [.ref y]) rfl (Nat.le_of_ble_eq_true rfl) (by decide) ⟨by decide, by decide⟩ dX4_alike_9 (fun v9 w9 h9 => ?_)
        obtain ⟨rfl, rfl⟩ := h9
        refine lx_perm [0, 1, 2, 3, 4, 5, 6, 7, 8, 9, 10, 11, 12, 13, 14] [(y, .inr (4, [.int th, .ref acd, .ref akd, .ref act, .int (nI u), .ref ark, .ref arr, .int z, .int kk, .long kc, .ref ali, .int mn, .ref ala, .ref anc, .ref ank, .ref ant, .int nx, .ref aag, .ref abk, .ref atd, .ref ase])), (acd, aI K 120 cd), (akd, aI K 120 kd), (act, aJ K 120 ct), (ark, aI K 10 rk1), (arr, aJ K 10 rr1), (ali, aI K 120 fl), (ala, aI K 120 fla), (anc, aI K 120 nc), (ank, aI K 120 nk), (ant, aJ K 120 nt), (aag, aI K 120 fag), (abk, aI K 120 fbk), (atd, aI K 120 ftd), (ase, aZ K 120 fse)] (by decide) rfl ?_
        refine lx_st (a' := 0) (b' := 0) [.int (bI false), .ref y] rfl rfl rfl ?_
        refine lx_if_eq F 19 dX4_alike_12 rfl (fun _ => ?_) (fun h => absurd (by decide) h)
        refine lx_iconst F dX4_alike_19 kc_0 ?_
        refine lx_iconst F dX4_alike_20 kc_0 ?_
        refine lx_cv F (zr_refuse (xl E) K y acd akd act ark arr ali ala anc ank ant aag abk atd ase th z kk kc mn nx (nI u) false false) cv_X4_110 0 rfl rfl [0] [1, 2, 3, 4, 5, 6, 7, 8, 9, 10, 11, 12, 13, 14] [(acd, aI K 120 cd), (akd, aI K 120 kd), (act, aJ K 120 ct), (ark, aI K 10 rk1), (arr, aJ K 10 rr1), (ali, aI K 120 fl), (ala, aI K 120 fla), (anc, aI K 120 nc), (ank, aI K 120 nk), (ant, aJ K 120 nt), (aag, aI K 120 fag), (abk, aI K 120 fbk), (atd, aI K 120 ftd), (ase, aZ K 120 fse)] rfl rfl (by decide) rfl (st := []) rfl (Nat.le_of_ble_eq_true rfl) (by decide) ⟨by decide, by decide⟩ dX4_alike_21 (fun v9 w9 h9 => ?_)
        obtain ⟨rfl, rfl⟩ := h9
        refine lx_perm [14, 0, 1, 2, 3, 4, 5, 6, 7, 8, 9, 10, 11, 12, 13] [(y, .inr (4, [.int (nI (lm_rf false false)), .ref acd, .ref akd, .ref act, .int (nI u), .ref ark, .ref arr, .int z, .int kk, .long kc, .ref ali, .int mn, .ref ala, .ref anc, .ref ank, .ref ant, .int nx, .ref aag, .ref abk, .ref atd, .ref ase])), (acd, aI K 120 cd), (akd, aI K 120 kd), (act, aJ K 120 ct), (ark, aI K 10 rk1), (arr, aJ K 10 rr1), (ali, aI K 120 fl), (ala, aI K 120 fla), (anc, aI K 120 nc), (ank, aI K 120 nk), (ant, aJ K 120 nt), (aag, aI K 120 fag), (abk, aI K 120 fbk), (atd, aI K 120 ftd), (ase, aZ K 120 fse)] (by decide) rfl ?_
        refine lx_st (a' := 0) (b' := 0) [.int (bI false)] rfl rfl rfl ?_
        refine lx_if_eq F 29 dX4_alike_24 rfl (fun _ => ?_) (fun h => absurd (by decide) h)
        refine lx_aload_n F dX4_alike_29 0 rfl ?_
        refine lx_aload_n F dX4_alike_30 0 rfl ?_
        refine gf_X4_20 F 0 rfl rfl dX4_alike_31 ?_
        refine lx_iload_n F dX4_alike_34 1 rfl ?_
        refine lx_iald F 4 k dX4_alike_35 rfl (by omega) (by decide) ?_
        rw [(hro k hk).1]
        refine lx_aload_n F dX4_alike_36 0 rfl ?_
        refine gf_X4_23 F 0 rfl rfl dX4_alike_37 ?_
        refine lx_iload_n F dX4_alike_40 1 rfl ?_
        refine lx_lald F 5 k dX4_alike_41 rfl (by omega) (by decide) ?_
        rw [(hro k hk).2]
        refine lx_aload_n F dX4_alike_42 0 rfl ?_
        refine gf_X4_20 F 0 rfl rfl dX4_alike_43 ?_
        refine lx_iload_n F dX4_alike_46 2 rfl ?_
        refine lx_iald F 4 j dX4_alike_47 rfl (by omega) (by decide) ?_
        rw [(hro j hj).1]
        refine lx_aload_n F dX4_alike_48 0 rfl ?_
        refine gf_X4_23 F 0 rfl rfl dX4_alike_49 ?_
        refine lx_iload_n F dX4_alike_52 2 rfl ?_
        refine lx_lald F 5 j dX4_alike_53 rfl (by omega) (by decide) ?_
        rw [(hro j hj).2]
        refine lx_cv F (zr_isSame (xl E) K y acd akd act ark arr ali ala anc ank ant aag abk atd ase (nI (lm_rf false false)) z kk kc mn nx cd kd ct c w u hw hh (rt k) (rt j) (hr9 k hk) (hr9 j hj)) cv_X4_128 0 rfl rfl [0, 2, 3] [1, 4, 5, 6, 7, 8, 9, 10, 11, 12, 13, 14] [(acd, aI K 120 cd), (ark, aI K 10 rk1), (arr, aJ K 10 rr1), (ali, aI K 120 fl), (ala, aI K 120 fla), (anc, aI K 120 nc), (ank, aI K 120 nk), (ant, aJ K 120 nt), (aag, aI K 120 fag), (abk, aI K 120 fbk), (atd, aI K 120 ftd), (ase, aZ K 120 fse)] rfl rfl (by decide) rfl (st := []) rfl (Nat.le_of_ble_eq_true rfl) (by decide) ⟨by decide, by decide⟩ dX4_alike_54 (fun v9 w9 h9 => ?_)
        obtain ⟨rfl, rfl⟩ := h9
        refine lx_perm [12, 0, 13, 14, 1, 2, 3, 4, 5, 6, 7, 8, 9, 10, 11] [(y, .inr (4, [.int (nI (lm_rf false false)), .ref acd, .ref akd, .ref act, .int (nI u), .ref ark, .ref arr, .int z, .int kk, .long kc, .ref ali, .int mn, .ref ala, .ref anc, .ref ank, .ref ant, .int nx, .ref aag, .ref abk, .ref atd, .ref ase])), (acd, aI K 120 cd), (akd, aI K 120 kd), (act, aJ K 120 ct), (ark, aI K 10 rk1), (arr, aJ K 10 rr1), (ali, aI K 120 fl), (ala, aI K 120 fla), (anc, aI K 120 nc), (ank, aI K 120 nk), (ant, aJ K 120 nt), (aag, aI K 120 fag), (abk, aI K 120 fbk), (atd, aI K 120 ftd), (ase, aZ K 120 fse)] (by decide) rfl ?_
        refine lx_st (a' := 0) (b' := 0) [.int (bI (lm_same w (rt k) (rt j)))] rfl rfl rfl ?_
        rw [hs]
        refine lx_if_eq F 62 dX4_alike_57 rfl (fun h => absurd h (by decide)) (fun _ => ?_)
        refine lx_iconst F dX4_alike_60 kc_1 ?_
        exact lx_zret F hR (by first | rfl | decide) dX4_alike_61 ⟨by rw [lm_none_n hk, lm_none_n hj, if_neg (by decide), lm_ix_n hk, lm_ix_n hj, lm_alike_same hs]; rfl, by rw [show lm_q2 (nI k) (nI j) (c, w, u, rt, z) = (0, (c, w, u, rt, z)) by unfold lm_q2; rw [lm_none_n hk, lm_none_n hj]; rfl]; exact ⟨_, _, _, _, _, _, _, _, _, _, _, _, _, _, _, _, _, _, _, _, _, _, _, _, _, _, _, _, _, _, _, _, hh, hro, rfl⟩⟩
    · skip
      refine lx_aload_n F dX4_alike_0 0 rfl ?_
      refine lx_iload_n F dX4_alike_1 1 rfl ?_
      refine lx_cs F (zr_none2 (xl E) K (nI k) false (lm_none_n hk)) cs_X4_102 [] [0, 1, 2, 3, 4, 5, 6, 7, 8, 9, 10, 11, 12, 13, 14] [(y, .inr (4, [.int th, .ref acd, .ref akd, .ref act, .int (nI u), .ref ark, .ref arr, .int z, .int kk, .long kc, .ref ali, .int mn, .ref ala, .ref anc, .ref ank, .ref ant, .int nx, .ref aag, .ref abk, .ref atd, .ref ase])), (acd, aI K 120 cd), (akd, aI K 120 kd), (act, aJ K 120 ct), (ark, aI K 10 rk1), (arr, aJ K 10 rr1), (ali, aI K 120 fl), (ala, aI K 120 fla), (anc, aI K 120 nc), (ank, aI K 120 nk), (ant, aJ K 120 nt), (aag, aI K 120 fag), (abk, aI K 120 fbk), (atd, aI K 120 ftd), (ase, aZ K 120 fse)] rfl rfl (by decide) rfl (st := [.ref y]) rfl (Nat.le_of_ble_eq_true rfl) (by decide) ⟨by decide, by decide⟩ dX4_alike_2 (fun v9 w9 h9 => ?_)
      obtain ⟨rfl, rfl⟩ := h9
      refine lx_perm [0, 1, 2, 3, 4, 5, 6, 7, 8, 9, 10, 11, 12, 13, 14] [(y, .inr (4, [.int th, .ref acd, .ref akd, .ref act, .int (nI u), .ref ark, .ref arr, .int z, .int kk, .long kc, .ref ali, .int mn, .ref ala, .ref anc, .ref ank, .ref ant, .int nx, .ref aag, .ref abk, .ref atd, .ref ase])), (acd, aI K 120 cd), (akd, aI K 120 kd), (act, aJ K 120 ct), (ark, aI K 10 rk1), (arr, aJ K 10 rr1), (ali, aI K 120 fl), (ala, aI K 120 fla), (anc, aI K 120 nc), (ank, aI K 120 nk), (ant, aJ K 120 nt), (aag, aI K 120 fag), (abk, aI K 120 fbk), (atd, aI K 120 ftd), (ase, aZ K 120 fse)] (by decide) rfl ?_
      refine lx_st (a' := 0) (b' := 0) [.int (bI false), .ref y] rfl rfl rfl ?_
      refine lx_if_ne F 15 dX4_alike_5 rfl (fun h => absurd (by decide) h) (fun _ => ?_)
      refine lx_iload_n F dX4_alike_8 2 rfl ?_
      refine lx_cs F (zr_none2 (xl E) K f true hnf) cs_X4_102 [] [0, 1, 2, 3, 4, 5, 6, 7, 8, 9, 10, 11, 12, 13, 14] [(y, .inr (4, [.int th, .ref acd, .ref akd, .ref act, .int (nI u), .ref ark, .ref arr, .int z, .int kk, .long kc, .ref ali, .int mn, .ref ala, .ref anc, .ref ank, .ref ant, .int nx, .ref aag, .ref abk, .ref atd, .ref ase])), (acd, aI K 120 cd), (akd, aI K 120 kd), (act, aJ K 120 ct), (ark, aI K 10 rk1), (arr, aJ K 10 rr1), (ali, aI K 120 fl), (ala, aI K 120 fla), (anc, aI K 120 nc), (ank, aI K 120 nk), (ant, aJ K 120 nt), (aag, aI K 120 fag), (abk, aI K 120 fbk), (atd, aI K 120 ftd), (ase, aZ K 120 fse)] rfl rfl (by decide) rfl (st := [.ref y]) rfl (Nat.le_of_ble_eq_true rfl) (by decide) ⟨by decide, by decide⟩ dX4_alike_9 (fun v9 w9 h9 => ?_)
      obtain ⟨rfl, rfl⟩ := h9
      refine lx_perm [0, 1, 2, 3, 4, 5, 6, 7, 8, 9, 10, 11, 12, 13, 14] [(y, .inr (4, [.int th, .ref acd, .ref akd, .ref act, .int (nI u), .ref ark, .ref arr, .int z, .int kk, .long kc, .ref ali, .int mn, .ref ala, .ref anc, .ref ank, .ref ant, .int nx, .ref aag, .ref abk, .ref atd, .ref ase])), (acd, aI K 120 cd), (akd, aI K 120 kd), (act, aJ K 120 ct), (ark, aI K 10 rk1), (arr, aJ K 10 rr1), (ali, aI K 120 fl), (ala, aI K 120 fla), (anc, aI K 120 nc), (ank, aI K 120 nk), (ant, aJ K 120 nt), (aag, aI K 120 fag), (abk, aI K 120 fbk), (atd, aI K 120 ftd), (ase, aZ K 120 fse)] (by decide) rfl ?_
      refine lx_st (a' := 0) (b' := 0) [.int (bI true), .ref y] rfl rfl rfl ?_
      refine lx_if_eq F 19 dX4_alike_12 rfl (fun h => absurd h (by decide)) (fun _ => ?_)
      refine lx_iconst F dX4_alike_15 kc_1 ?_
      refine lx_goto F 20 dX4_alike_16 rfl ?_
      refine lx_iconst F dX4_alike_20 kc_0 ?_
      refine lx_cv F (zr_refuse (xl E) K y acd akd act ark arr ali ala anc ank ant aag abk atd ase th z kk kc mn nx (nI u) true false) cv_X4_110 0 rfl rfl [0] [1, 2, 3, 4, 5, 6, 7, 8, 9, 10, 11, 12, 13, 14] [(acd, aI K 120 cd), (akd, aI K 120 kd), (act, aJ K 120 ct), (ark, aI K 10 rk1), (arr, aJ K 10 rr1), (ali, aI K 120 fl), (ala, aI K 120 fla), (anc, aI K 120 nc), (ank, aI K 120 nk), (ant, aJ K 120 nt), (aag, aI K 120 fag), (abk, aI K 120 fbk), (atd, aI K 120 ftd), (ase, aZ K 120 fse)] rfl rfl (by decide) rfl (st := []) rfl (Nat.le_of_ble_eq_true rfl) (by decide) ⟨by decide, by decide⟩ dX4_alike_21 (fun v9 w9 h9 => ?_)
      obtain ⟨rfl, rfl⟩ := h9
      refine lx_perm [14, 0, 1, 2, 3, 4, 5, 6, 7, 8, 9, 10, 11, 12, 13] [(y, .inr (4, [.int (nI (lm_rf true false)), .ref acd, .ref akd, .ref act, .int (nI u), .ref ark, .ref arr, .int z, .int kk, .long kc, .ref ali, .int mn, .ref ala, .ref anc, .ref ank, .ref ant, .int nx, .ref aag, .ref abk, .ref atd, .ref ase])), (acd, aI K 120 cd), (akd, aI K 120 kd), (act, aJ K 120 ct), (ark, aI K 10 rk1), (arr, aJ K 10 rr1), (ali, aI K 120 fl), (ala, aI K 120 fla), (anc, aI K 120 nc), (ank, aI K 120 nk), (ant, aJ K 120 nt), (aag, aI K 120 fag), (abk, aI K 120 fbk), (atd, aI K 120 ftd), (ase, aZ K 120 fse)] (by decide) rfl ?_
      refine lx_st (a' := 0) (b' := 0) [.int (bI true)] rfl rfl rfl ?_
      refine lx_if_eq F 29 dX4_alike_24 rfl (fun h => absurd h (by decide)) (fun _ => ?_)
      refine lx_iconst F dX4_alike_27 kc_0 ?_
      exact lx_zret F hR (by first | rfl | decide) dX4_alike_28 ⟨by first | rw [hnr]; rfl | rw [lm_none_n hk, hnf]; rfl, by rw [show lm_q2 (nI k) f (c, w, u, rt, z) = (1, (c, w, u, rt, z)) by unfold lm_q2; rw [lm_none_n hk, hnf]; rfl]; exact ⟨_, _, _, _, _, _, _, _, _, _, _, _, _, _, _, _, _, _, _, _, _, _, _, _, _, _, _, _, _, _, _, _, hh, hro, rfl⟩⟩
  · skip
    refine lx_aload_n F dX4_alike_0 0 rfl ?_
    refine lx_iload_n F dX4_alike_1 1 rfl ?_
    refine lx_cs F (zr_none2 (xl E) K r true hnr) cs_X4_102 [] [0, 1, 2, 3, 4, 5, 6, 7, 8, 9, 10, 11, 12, 13, 14] [(y, .inr (4, [.int th, .ref acd, .ref akd, .ref act, .int (nI u), .ref ark, .ref arr, .int z, .int kk, .long kc, .ref ali, .int mn, .ref ala, .ref anc, .ref ank, .ref ant, .int nx, .ref aag, .ref abk, .ref atd, .ref ase])), (acd, aI K 120 cd), (akd, aI K 120 kd), (act, aJ K 120 ct), (ark, aI K 10 rk1), (arr, aJ K 10 rr1), (ali, aI K 120 fl), (ala, aI K 120 fla), (anc, aI K 120 nc), (ank, aI K 120 nk), (ant, aJ K 120 nt), (aag, aI K 120 fag), (abk, aI K 120 fbk), (atd, aI K 120 ftd), (ase, aZ K 120 fse)] rfl rfl (by decide) rfl (st := [.ref y]) rfl (Nat.le_of_ble_eq_true rfl) (by decide) ⟨by decide, by decide⟩ dX4_alike_2 (fun v9 w9 h9 => ?_)
    obtain ⟨rfl, rfl⟩ := h9
    refine lx_perm [0, 1, 2, 3, 4, 5, 6, 7, 8, 9, 10, 11, 12, 13, 14] [(y, .inr (4, [.int th, .ref acd, .ref akd, .ref act, .int (nI u), .ref ark, .ref arr, .int z, .int kk, .long kc, .ref ali, .int mn, .ref ala, .ref anc, .ref ank, .ref ant, .int nx, .ref aag, .ref abk, .ref atd, .ref ase])), (acd, aI K 120 cd), (akd, aI K 120 kd), (act, aJ K 120 ct), (ark, aI K 10 rk1), (arr, aJ K 10 rr1), (ali, aI K 120 fl), (ala, aI K 120 fla), (anc, aI K 120 nc), (ank, aI K 120 nk), (ant, aJ K 120 nt), (aag, aI K 120 fag), (abk, aI K 120 fbk), (atd, aI K 120 ftd), (ase, aZ K 120 fse)] (by decide) rfl ?_
    refine lx_st (a' := 0) (b' := 0) [.int (bI true), .ref y] rfl rfl rfl ?_
    refine lx_if_ne F 15 dX4_alike_5 rfl (fun _ => ?_) (fun h => absurd h (by decide))
    refine lx_iconst F dX4_alike_15 kc_1 ?_
    refine lx_goto F 20 dX4_alike_16 rfl ?_
    refine lx_iconst F dX4_alike_20 kc_0 ?_
    refine lx_cv F (zr_refuse (xl E) K y acd akd act ark arr ali ala anc ank ant aag abk atd ase th z kk kc mn nx (nI u) true false) cv_X4_110 0 rfl rfl [0] [1, 2, 3, 4, 5, 6, 7, 8, 9, 10, 11, 12, 13, 14] [(acd, aI K 120 cd), (akd, aI K 120 kd), (act, aJ K 120 ct), (ark, aI K 10 rk1), (arr, aJ K 10 rr1), (ali, aI K 120 fl), (ala, aI K 120 fla), (anc, aI K 120 nc), (ank, aI K 120 nk), (ant, aJ K 120 nt), (aag, aI K 120 fag), (abk, aI K 120 fbk), (atd, aI K 120 ftd), (ase, aZ K 120 fse)] rfl rfl (by decide) rfl (st := []) rfl (Nat.le_of_ble_eq_true rfl) (by decide) ⟨by decide, by decide⟩ dX4_alike_21 (fun v9 w9 h9 => ?_)
    obtain ⟨rfl, rfl⟩ := h9
    refine lx_perm [14, 0, 1, 2, 3, 4, 5, 6, 7, 8, 9, 10, 11, 12, 13] [(y, .inr (4, [.int (nI (lm_rf true false)), .ref acd, .ref akd, .ref act, .int (nI u), .ref ark, .ref arr, .int z, .int kk, .long kc, .ref ali, .int mn, .ref ala, .ref anc, .ref ank, .ref ant, .int nx, .ref aag, .ref abk, .ref atd, .ref ase])), (acd, aI K 120 cd), (akd, aI K 120 kd), (act, aJ K 120 ct), (ark, aI K 10 rk1), (arr, aJ K 10 rr1), (ali, aI K 120 fl), (ala, aI K 120 fla), (anc, aI K 120 nc), (ank, aI K 120 nk), (ant, aJ K 120 nt), (aag, aI K 120 fag), (abk, aI K 120 fbk), (atd, aI K 120 ftd), (ase, aZ K 120 fse)] (by decide) rfl ?_
    refine lx_st (a' := 0) (b' := 0) [.int (bI true)] rfl rfl rfl ?_
    refine lx_if_eq F 29 dX4_alike_24 rfl (fun h => absurd h (by decide)) (fun _ => ?_)
    refine lx_iconst F dX4_alike_27 kc_0 ?_
    exact lx_zret F hR (by first | rfl | decide) dX4_alike_28 ⟨by first | rw [hnr]; rfl | rw [lm_none_n hk, hnf]; rfl, by rw [show lm_q2 r f (c, w, u, rt, z) = (1, (c, w, u, rt, z)) by unfold lm_q2; rw [hnr]; rfl]; exact ⟨_, _, _, _, _, _, _, _, _, _, _, _, _, _, _, _, _, _, _, _, _, _, _, _, _, _, _, _, _, _, _, _, hh, hro, rfl⟩⟩

set_option maxHeartbeats 4000000 in
set_option maxRecDepth 100000 in
theorem zr_init (l : Launch) (K : lm_G) (y : Nat) : lm_C l K mX4_init ({ frames := 1, cells := 14, slots := 1460, locals := 36 }) [.ref y] [(y, .inr (4, [.int (nI 0), .null, .null, .null, .int (nI 0), .null, .null, .int (nI 0), .int (nI 0), .long (jI 0), .null, .int (nI 0), .null, .null, .null, .null, .int (nI 0), .null, .null, .null, .null]))] (fun v9 w9 => v9 = none ∧ ∃ acd akd act ark arr ali ala anc ank ant aag abk atd ase : Nat, w9 = [(y, .inr (4, [.int (nI 0), .ref acd, .ref akd, .ref act, .int (nI 0), .ref ark, .ref arr, .int (nI 0), .int (nI 0), .long (jI 0), .ref ali, .int (nI 0), .ref ala, .ref anc, .ref ank, .ref ant, .int (nI 0), .ref aag, .ref abk, .ref atd, .ref ase])), (acd, aI K 120 (fun _ => 0)), (akd, aI K 120 (fun _ => 0)), (act, aJ K 120 (fun _ => 0)), (ark, aI K 10 (fun _ => 0)), (arr, aJ K 10 (fun _ => 0)), (ali, aI K 120 (fun _ => 0)), (ala, aI K 120 (fun _ => 0)), (anc, aI K 120 (fun _ => 0)), (ank, aI K 120 (fun _ => 0)), (ant, aJ K 120 (fun _ => 0)), (aag, aI K 120 (fun _ => 0)), (abk, aI K 120 (fun _ => 0)), (atd, aI K 120 (fun _ => 0)), (ase, aZ K 120 (fun _ => 0))]) := by
  refine lx_met RX4 pn_X4 rfl (Nat.le_of_ble_eq_true rfl) (fun E hE hnm F hR => ?_)
  have F : lx_F K 1 E cX4_init RX4 none ({ frames := 1, cells := 14, slots := 1460, locals := 36 }) := F
  show lx_W K 1 E 0 0 0 [(0, .ref y)] [] [(y, .inr (4, [.int (nI 0), .null, .null, .null, .int (nI 0), .null, .null, .int (nI 0), .int (nI 0), .long (jI 0), .null, .int (nI 0), .null, .null, .null, .null, .int (nI 0), .null, .null, .null, .null]))]
  refine lx_aload_n F dX4_init_0 0 rfl ?_
  refine lx_obj F to_X4_1 to_i to_c (by decide) (by decide) dX4_init_1 ?_
  refine lx_aload_n F dX4_init_4 0 rfl ?_
  refine lx_bipush F dX4_init_5 kb_120 ?_
  refine lx_newI F 120 dX4_init_7 ta_I (by decide) (by decide) (by decide) (fun q7 => ?_)
  refine lx_perm [0, 1] [(y, .inr (4, [.int (nI 0), .null, .null, .null, .int (nI 0), .null, .null, .int (nI 0), .int (nI 0), .long (jI 0), .null, .int (nI 0), .null, .null, .null, .null, .int (nI 0), .null, .null, .null, .null])), (q7, aI K 120 (fun _ => 0))] (by decide) rfl ?_
  refine lx_wide (a' := 1) (b' := 120) (by decide) (by decide) ?_
  refine pf_X4_7 F hnm 0 [(y, .inr (4, [.int (nI 0), .ref q7, .null, .null, .int (nI 0), .null, .null, .int (nI 0), .int (nI 0), .long (jI 0), .null, .int (nI 0), .null, .null, .null, .null, .int (nI 0), .null, .null, .null, .null])), (q7, aI K 120 (fun _ => 0))] rfl rfl dX4_init_9 rfl ?_
  refine lx_aload_n F dX4_init_12 0 rfl ?_
  refine lx_bipush F dX4_init_13 kb_120 ?_
  refine lx_newI F 120 dX4_init_15 ta_I (by decide) (by decide) (by decide) (fun q15 => ?_)
  refine lx_perm [0, 1, 2] [(y, .inr (4, [.int (nI 0), .ref q7, .null, .null, .int (nI 0), .null, .null, .int (nI 0), .int (nI 0), .long (jI 0), .null, .int (nI 0), .null, .null, .null, .null, .int (nI 0), .null, .null, .null, .null])), (q7, aI K 120 (fun _ => 0)), (q15, aI K 120 (fun _ => 0))] (by decide) rfl ?_
  refine lx_wide (a' := 2) (b' := 240) (by decide) (by decide) ?_
  refine pf_X4_13 F hnm 0 [(y, .inr (4, [.int (nI 0), .ref q7, .ref q15, .null, .int (nI 0), .null, .null, .int (nI 0), .int (nI 0), .long (jI 0), .null, .int (nI 0), .null, .null, .null, .null, .int (nI 0), .null, .null, .null, .null])), (q7, aI K 120 (fun _ => 0)), (q15, aI K 120 (fun _ => 0))] rfl rfl dX4_init_17 rfl ?_
  refine lx_aload_n F dX4_init_20 0 rfl ?_
  refine lx_bipush F dX4_init_21 kb_120 ?_
  refine lx_newJ F 120 dX4_init_23 ta_J (by decide) (by decide) (by decide) (fun q23 => ?_)
  refine lx_perm [0, 1, 2, 3] [(y, .inr (4, [.int (nI 0), .ref q7, .ref q15, .null, .int (nI 0), .null, .null, .int (nI 0), .int (nI 0), .long (jI 0), .null, .int (nI 0), .null, .null, .null, .null, .int (nI 0), .null, .null, .null, .null])), (q7, aI K 120 (fun _ => 0)), (q15, aI K 120 (fun _ => 0)), (q23, aJ K 120 (fun _ => 0))] (by decide) rfl ?_
  refine lx_wide (a' := 3) (b' := 360) (by decide) (by decide) ?_
  refine pf_X4_16 F hnm 0 [(y, .inr (4, [.int (nI 0), .ref q7, .ref q15, .ref q23, .int (nI 0), .null, .null, .int (nI 0), .int (nI 0), .long (jI 0), .null, .int (nI 0), .null, .null, .null, .null, .int (nI 0), .null, .null, .null, .null])), (q7, aI K 120 (fun _ => 0)), (q15, aI K 120 (fun _ => 0)), (q23, aJ K 120 (fun _ => 0))] rfl rfl dX4_init_25 rfl ?_
  refine lx_aload_n F dX4_init_28 0 rfl ?_
  refine lx_bipush F dX4_init_29 kb_10 ?_
  refine lx_newI F 10 dX4_init_31 ta_I (by decide) (by decide) (by decide) (fun q31 => ?_)
  refine lx_perm [0, 1, 2, 3, 4] [(y, .inr (4, [.int (nI 0), .ref q7, .ref q15, .ref q23, .int (nI 0), .null, .null, .int (nI 0), .int (nI 0), .long (jI 0), .null, .int (nI 0), .null, .null, .null, .null, .int (nI 0), .null, .null, .null, .null])), (q7, aI K 120 (fun _ => 0)), (q15, aI K 120 (fun _ => 0)), (q23, aJ K 120 (fun _ => 0)), (q31, aI K 10 (fun _ => 0))] (by decide) rfl ?_
  refine lx_wide (a' := 4) (b' := 370) (by decide) (by decide) ?_
  refine pf_X4_20 F hnm 0 [(y, .inr (4, [.int (nI 0), .ref q7, .ref q15, .ref q23, .int (nI 0), .ref q31, .null, .int (nI 0), .int (nI 0), .long (jI 0), .null, .int (nI 0), .null, .null, .null, .null, .int (nI 0), .null, .null, .null, .null])), (q7, aI K 120 (fun _ => 0)), (q15, aI K 120 (fun _ => 0)), (q23, aJ K 120 (fun _ => 0)), (q31, aI K 10 (fun _ => 0))] rfl rfl dX4_init_33 rfl ?_
  refine lx_aload_n F dX4_init_36 0 rfl ?_
  refine lx_bipush F dX4_init_37 kb_10 ?_
  refine lx_newJ F 10 dX4_init_39 ta_J (by decide) (by decide) (by decide) (fun q39 => ?_)
  refine lx_perm [0, 1, 2, 3, 4, 5] [(y, .inr (4, [.int (nI 0), .ref q7, .ref q15, .ref q23, .int (nI 0), .ref q31, .null, .int (nI 0), .int (nI 0), .long (jI 0), .null, .int (nI 0), .null, .null, .null, .null, .int (nI 0), .null, .null, .null, .null])), (q7, aI K 120 (fun _ => 0)), (q15, aI K 120 (fun _ => 0)), (q23, aJ K 120 (fun _ => 0)), (q31, aI K 10 (fun _ => 0)), (q39, aJ K 10 (fun _ => 0))] (by decide) rfl ?_
  refine lx_wide (a' := 5) (b' := 380) (by decide) (by decide) ?_
  refine pf_X4_23 F hnm 0 [(y, .inr (4, [.int (nI 0), .ref q7, .ref q15, .ref q23, .int (nI 0), .ref q31, .ref q39, .int (nI 0), .int (nI 0), .long (jI 0), .null, .int (nI 0), .null, .null, .null, .null, .int (nI 0), .null, .null, .null, .null])), (q7, aI K 120 (fun _ => 0)), (q15, aI K 120 (fun _ => 0)), (q23, aJ K 120 (fun _ => 0)), (q31, aI K 10 (fun _ => 0)), (q39, aJ K 10 (fun _ => 0))] rfl rfl dX4_init_41 rfl ?_
  refine lx_aload_n F dX4_init_44 0 rfl ?_
  refine lx_bipush F dX4_init_45 kb_120 ?_
  refine lx_newI F 120 dX4_init_47 ta_I (by decide) (by decide) (by decide) (fun q47 => ?_)
  refine lx_perm [0, 1, 2, 3, 4, 5, 6] [(y, .inr (4, [.int (nI 0), .ref q7, .ref q15, .ref q23, .int (nI 0), .ref q31, .ref q39, .int (nI 0), .int (nI 0), .long (jI 0), .null, .int (nI 0), .null, .null, .null, .null, .int (nI 0), .null, .null, .null, .null])), (q7, aI K 120 (fun _ => 0)), (q15, aI K 120 (fun _ => 0)), (q23, aJ K 120 (fun _ => 0)), (q31, aI K 10 (fun _ => 0)), (q39, aJ K 10 (fun _ => 0)), (q47, aI K 120 (fun _ => 0))] (by decide) rfl ?_
  refine lx_wide (a' := 6) (b' := 500) (by decide) (by decide) ?_
  refine pf_X4_26 F hnm 0 [(y, .inr (4, [.int (nI 0), .ref q7, .ref q15, .ref q23, .int (nI 0), .ref q31, .ref q39, .int (nI 0), .int (nI 0), .long (jI 0), .ref q47, .int (nI 0), .null, .null, .null, .null, .int (nI 0), .null, .null, .null, .null])), (q7, aI K 120 (fun _ => 0)), (q15, aI K 120 (fun _ => 0)), (q23, aJ K 120 (fun _ => 0)), (q31, aI K 10 (fun _ => 0)), (q39, aJ K 10 (fun _ => 0)), (q47, aI K 120 (fun _ => 0))] rfl rfl dX4_init_49 rfl ?_
  refine lx_aload_n F dX4_init_52 0 rfl ?_
  refine lx_bipush F dX4_init_53 kb_120 ?_
  refine lx_newI F 120 dX4_init_55 ta_I (by decide) (by decide) (by decide) (fun q55 => ?_)
  refine lx_perm [0, 1, 2, 3, 4, 5, 6, 7] [(y, .inr (4, [.int (nI 0), .ref q7, .ref q15, .ref q23, .int (nI 0), .ref q31, .ref q39, .int (nI 0), .int (nI 0), .long (jI 0), .ref q47, .int (nI 0), .null, .null, .null, .null, .int (nI 0), .null, .null, .null, .null])), (q7, aI K 120 (fun _ => 0)), (q15, aI K 120 (fun _ => 0)), (q23, aJ K 120 (fun _ => 0)), (q31, aI K 10 (fun _ => 0)), (q39, aJ K 10 (fun _ => 0)), (q47, aI K 120 (fun _ => 0)), (q55, aI K 120 (fun _ => 0))] (by decide) rfl ?_
  refine lx_wide (a' := 7) (b' := 620) (by decide) (by decide) ?_
  refine pf_X4_29 F hnm 0 [(y, .inr (4, [.int (nI 0), .ref q7, .ref q15, .ref q23, .int (nI 0), .ref q31, .ref q39, .int (nI 0), .int (nI 0), .long (jI 0), .ref q47, .int (nI 0), .ref q55, .null, .null, .null, .int (nI 0), .null, .null, .null, .null])), (q7, aI K 120 (fun _ => 0)), (q15, aI K 120 (fun _ => 0)), (q23, aJ K 120 (fun _ => 0)), (q31, aI K 10 (fun _ => 0)), (q39, aJ K 10 (fun _ => 0)), (q47, aI K 120 (fun _ => 0)), (q55, aI K 120 (fun _ => 0))] rfl rfl dX4_init_57 rfl ?_
  refine lx_aload_n F dX4_init_60 0 rfl ?_
  refine lx_bipush F dX4_init_61 kb_120 ?_
  refine lx_newI F 120 dX4_init_63 ta_I (by decide) (by decide) (by decide) (fun q63 => ?_)
  refine lx_perm [0, 1, 2, 3, 4, 5, 6, 7, 8] [(y, .inr (4, [.int (nI 0), .ref q7, .ref q15, .ref q23, .int (nI 0), .ref q31, .ref q39, .int (nI 0), .int (nI 0), .long (jI 0), .ref q47, .int (nI 0), .ref q55, .null, .null, .null, .int (nI 0), .null, .null, .null, .null])), (q7, aI K 120 (fun _ => 0)), (q15, aI K 120 (fun _ => 0)), (q23, aJ K 120 (fun _ => 0)), (q31, aI K 10 (fun _ => 0)), (q39, aJ K 10 (fun _ => 0)), (q47, aI K 120 (fun _ => 0)), (q55, aI K 120 (fun _ => 0)), (q63, aI K 120 (fun _ => 0))] (by decide) rfl ?_
  refine lx_wide (a' := 8) (b' := 740) (by decide) (by decide) ?_
  refine pf_X4_32 F hnm 0 [(y, .inr (4, [.int (nI 0), .ref q7, .ref q15, .ref q23, .int (nI 0), .ref q31, .ref q39, .int (nI 0), .int (nI 0), .long (jI 0), .ref q47, .int (nI 0), .ref q55, .ref q63, .null, .null, .int (nI 0), .null, .null, .null, .null])), (q7, aI K 120 (fun _ => 0)), (q15, aI K 120 (fun _ => 0)), (q23, aJ K 120 (fun _ => 0)), (q31, aI K 10 (fun _ => 0)), (q39, aJ K 10 (fun _ => 0)), (q47, aI K 120 (fun _ => 0)), (q55, aI K 120 (fun _ => 0)), (q63, aI K 120 (fun _ => 0))] rfl rfl dX4_init_65 rfl ?_
  refine lx_aload_n F dX4_init_68 0 rfl ?_
  refine lx_bipush F dX4_init_69 kb_120 ?_
  refine lx_newI F 120 dX4_init_71 ta_I (by decide) (by decide) (by decide) (fun q71 => ?_)
  refine lx_perm [0, 1, 2, 3, 4, 5, 6, 7, 8, 9] [(y, .inr (4, [.int (nI 0), .ref q7, .ref q15, .ref q23, .int (nI 0), .ref q31, .ref q39, .int (nI 0), .int (nI 0), .long (jI 0), .ref q47, .int (nI 0), .ref q55, .ref q63, .null, .null, .int (nI 0), .null, .null, .null, .null])), (q7, aI K 120 (fun _ => 0)), (q15, aI K 120 (fun _ => 0)), (q23, aJ K 120 (fun _ => 0)), (q31, aI K 10 (fun _ => 0)), (q39, aJ K 10 (fun _ => 0)), (q47, aI K 120 (fun _ => 0)), (q55, aI K 120 (fun _ => 0)), (q63, aI K 120 (fun _ => 0)), (q71, aI K 120 (fun _ => 0))] (by decide) rfl ?_
  refine lx_wide (a' := 9) (b' := 860) (by decide) (by decide) ?_
  refine pf_X4_35 F hnm 0 [(y, .inr (4, [.int (nI 0), .ref q7, .ref q15, .ref q23, .int (nI 0), .ref q31, .ref q39, .int (nI 0), .int (nI 0), .long (jI 0), .ref q47, .int (nI 0), .ref q55, .ref q63, .ref q71, .null, .int (nI 0), .null, .null, .null, .null])), (q7, aI K 120 (fun _ => 0)), (q15, aI K 120 (fun _ => 0)), (q23, aJ K 120 (fun _ => 0)), (q31, aI K 10 (fun _ => 0)), (q39, aJ K 10 (fun _ => 0)), (q47, aI K 120 (fun _ => 0)), (q55, aI K 120 (fun _ => 0)), (q63, aI K 120 (fun _ => 0)), (q71, aI K 120 (fun _ => 0))] rfl rfl dX4_init_73 rfl ?_
  refine lx_aload_n F dX4_init_76 0 rfl ?_
  refine lx_bipush F dX4_init_77 kb_120 ?_
  refine lx_newJ F 120 dX4_init_79 ta_J (by decide) (by decide) (by decide) (fun q79 => ?_)
  refine lx_perm [0, 1, 2, 3, 4, 5, 6, 7, 8, 9, 10] [(y, .inr (4, [.int (nI 0), .ref q7, .ref q15, .ref q23, .int (nI 0), .ref q31, .ref q39, .int (nI 0), .int (nI 0), .long (jI 0), .ref q47, .int (nI 0), .ref q55, .ref q63, .ref q71, .null, .int (nI 0), .null, .null, .null, .null])), (q7, aI K 120 (fun _ => 0)), (q15, aI K 120 (fun _ => 0)), (q23, aJ K 120 (fun _ => 0)), (q31, aI K 10 (fun _ => 0)), (q39, aJ K 10 (fun _ => 0)), (q47, aI K 120 (fun _ => 0)), (q55, aI K 120 (fun _ => 0)), (q63, aI K 120 (fun _ => 0)), (q71, aI K 120 (fun _ => 0)), (q79, aJ K 120 (fun _ => 0))] (by decide) rfl ?_
  refine lx_wide (a' := 10) (b' := 980) (by decide) (by decide) ?_
  refine pf_X4_38 F hnm 0 [(y, .inr (4, [.int (nI 0), .ref q7, .ref q15, .ref q23, .int (nI 0), .ref q31, .ref q39, .int (nI 0), .int (nI 0), .long (jI 0), .ref q47, .int (nI 0), .ref q55, .ref q63, .ref q71, .ref q79, .int (nI 0), .null, .null, .null, .null])), (q7, aI K 120 (fun _ => 0)), (q15, aI K 120 (fun _ => 0)), (q23, aJ K 120 (fun _ => 0)), (q31, aI K 10 (fun _ => 0)), (q39, aJ K 10 (fun _ => 0)), (q47, aI K 120 (fun _ => 0)), (q55, aI K 120 (fun _ => 0)), (q63, aI K 120 (fun _ => 0)), (q71, aI K 120 (fun _ => 0)), (q79, aJ K 120 (fun _ => 0))] rfl rfl dX4_init_81 rfl ?_
  refine lx_aload_n F dX4_init_84 0 rfl ?_
  refine lx_bipush F dX4_init_85 kb_120 ?_
  refine lx_newI F 120 dX4_init_87 ta_I (by decide) (by decide) (by decide) (fun q87 => ?_)
  refine lx_perm [0, 1, 2, 3, 4, 5, 6, 7, 8, 9, 10, 11] [(y, .inr (4, [.int (nI 0), .ref q7, .ref q15, .ref q23, .int (nI 0), .ref q31, .ref q39, .int (nI 0), .int (nI 0), .long (jI 0), .ref q47, .int (nI 0), .ref q55, .ref q63, .ref q71, .ref q79, .int (nI 0), .null, .null, .null, .null])), (q7, aI K 120 (fun _ => 0)), (q15, aI K 120 (fun _ => 0)), (q23, aJ K 120 (fun _ => 0)), (q31, aI K 10 (fun _ => 0)), (q39, aJ K 10 (fun _ => 0)), (q47, aI K 120 (fun _ => 0)), (q55, aI K 120 (fun _ => 0)), (q63, aI K 120 (fun _ => 0)), (q71, aI K 120 (fun _ => 0)), (q79, aJ K 120 (fun _ => 0)), (q87, aI K 120 (fun _ => 0))] (by decide) rfl ?_
  refine lx_wide (a' := 11) (b' := 1100) (by decide) (by decide) ?_
  refine pf_X4_41 F hnm 0 [(y, .inr (4, [.int (nI 0), .ref q7, .ref q15, .ref q23, .int (nI 0), .ref q31, .ref q39, .int (nI 0), .int (nI 0), .long (jI 0), .ref q47, .int (nI 0), .ref q55, .ref q63, .ref q71, .ref q79, .int (nI 0), .ref q87, .null, .null, .null])), (q7, aI K 120 (fun _ => 0)), (q15, aI K 120 (fun _ => 0)), (q23, aJ K 120 (fun _ => 0)), (q31, aI K 10 (fun _ => 0)), (q39, aJ K 10 (fun _ => 0)), (q47, aI K 120 (fun _ => 0)), (q55, aI K 120 (fun _ => 0)), (q63, aI K 120 (fun _ => 0)), (q71, aI K 120 (fun _ => 0)), (q79, aJ K 120 (fun _ => 0)), (q87, aI K 120 (fun _ => 0))] rfl rfl dX4_init_89 rfl ?_
  refine lx_aload_n F dX4_init_92 0 rfl ?_
  refine lx_bipush F dX4_init_93 kb_120 ?_
  refine lx_newI F 120 dX4_init_95 ta_I (by decide) (by decide) (by decide) (fun q95 => ?_)
  refine lx_perm [0, 1, 2, 3, 4, 5, 6, 7, 8, 9, 10, 11, 12] [(y, .inr (4, [.int (nI 0), .ref q7, .ref q15, .ref q23, .int (nI 0), .ref q31, .ref q39, .int (nI 0), .int (nI 0), .long (jI 0), .ref q47, .int (nI 0), .ref q55, .ref q63, .ref q71, .ref q79, .int (nI 0), .ref q87, .null, .null, .null])), (q7, aI K 120 (fun _ => 0)), (q15, aI K 120 (fun _ => 0)), (q23, aJ K 120 (fun _ => 0)), (q31, aI K 10 (fun _ => 0)), (q39, aJ K 10 (fun _ => 0)), (q47, aI K 120 (fun _ => 0)), (q55, aI K 120 (fun _ => 0)), (q63, aI K 120 (fun _ => 0)), (q71, aI K 120 (fun _ => 0)), (q79, aJ K 120 (fun _ => 0)), (q87, aI K 120 (fun _ => 0)), (q95, aI K 120 (fun _ => 0))] (by decide) rfl ?_
  refine lx_wide (a' := 12) (b' := 1220) (by decide) (by decide) ?_
  refine pf_X4_44 F hnm 0 [(y, .inr (4, [.int (nI 0), .ref q7, .ref q15, .ref q23, .int (nI 0), .ref q31, .ref q39, .int (nI 0), .int (nI 0), .long (jI 0), .ref q47, .int (nI 0), .ref q55, .ref q63, .ref q71, .ref q79, .int (nI 0), .ref q87, .ref q95, .null, .null])), (q7, aI K 120 (fun _ => 0)), (q15, aI K 120 (fun _ => 0)), (q23, aJ K 120 (fun _ => 0)), (q31, aI K 10 (fun _ => 0)), (q39, aJ K 10 (fun _ => 0)), (q47, aI K 120 (fun _ => 0)), (q55, aI K 120 (fun _ => 0)), (q63, aI K 120 (fun _ => 0)), (q71, aI K 120 (fun _ => 0)), (q79, aJ K 120 (fun _ => 0)), (q87, aI K 120 (fun _ => 0)), (q95, aI K 120 (fun _ => 0))] rfl rfl dX4_init_97 rfl ?_
  refine lx_aload_n F dX4_init_100 0 rfl ?_
  refine lx_bipush F dX4_init_101 kb_120 ?_
  refine lx_newI F 120 dX4_init_103 ta_I (by decide) (by decide) (by decide) (fun q103 => ?_)
  refine lx_perm [0, 1, 2, 3, 4, 5, 6, 7, 8, 9, 10, 11, 12, 13] [(y, .inr (4, [.int (nI 0), .ref q7, .ref q15, .ref q23, .int (nI 0), .ref q31, .ref q39, .int (nI 0), .int (nI 0), .long (jI 0), .ref q47, .int (nI 0), .ref q55, .ref q63, .ref q71, .ref q79, .int (nI 0), .ref q87, .ref q95, .null, .null])), (q7, aI K 120 (fun _ => 0)), (q15, aI K 120 (fun _ => 0)), (q23, aJ K 120 (fun _ => 0)), (q31, aI K 10 (fun _ => 0)), (q39, aJ K 10 (fun _ => 0)), (q47, aI K 120 (fun _ => 0)), (q55, aI K 120 (fun _ => 0)), (q63, aI K 120 (fun _ => 0)), (q71, aI K 120 (fun _ => 0)), (q79, aJ K 120 (fun _ => 0)), (q87, aI K 120 (fun _ => 0)), (q95, aI K 120 (fun _ => 0)), (q103, aI K 120 (fun _ => 0))] (by decide) rfl ?_
  refine lx_wide (a' := 13) (b' := 1340) (by decide) (by decide) ?_
  refine pf_X4_47 F hnm 0 [(y, .inr (4, [.int (nI 0), .ref q7, .ref q15, .ref q23, .int (nI 0), .ref q31, .ref q39, .int (nI 0), .int (nI 0), .long (jI 0), .ref q47, .int (nI 0), .ref q55, .ref q63, .ref q71, .ref q79, .int (nI 0), .ref q87, .ref q95, .ref q103, .null])), (q7, aI K 120 (fun _ => 0)), (q15, aI K 120 (fun _ => 0)), (q23, aJ K 120 (fun _ => 0)), (q31, aI K 10 (fun _ => 0)), (q39, aJ K 10 (fun _ => 0)), (q47, aI K 120 (fun _ => 0)), (q55, aI K 120 (fun _ => 0)), (q63, aI K 120 (fun _ => 0)), (q71, aI K 120 (fun _ => 0)), (q79, aJ K 120 (fun _ => 0)), (q87, aI K 120 (fun _ => 0)), (q95, aI K 120 (fun _ => 0)), (q103, aI K 120 (fun _ => 0))] rfl rfl dX4_init_105 rfl ?_
  refine lx_aload_n F dX4_init_108 0 rfl ?_
  refine lx_bipush F dX4_init_109 kb_120 ?_
  refine lx_newZ F 120 dX4_init_111 ta_Z (by decide) (by decide) (by decide) (fun q111 => ?_)
  refine lx_perm [0, 1, 2, 3, 4, 5, 6, 7, 8, 9, 10, 11, 12, 13, 14] [(y, .inr (4, [.int (nI 0), .ref q7, .ref q15, .ref q23, .int (nI 0), .ref q31, .ref q39, .int (nI 0), .int (nI 0), .long (jI 0), .ref q47, .int (nI 0), .ref q55, .ref q63, .ref q71, .ref q79, .int (nI 0), .ref q87, .ref q95, .ref q103, .null])), (q7, aI K 120 (fun _ => 0)), (q15, aI K 120 (fun _ => 0)), (q23, aJ K 120 (fun _ => 0)), (q31, aI K 10 (fun _ => 0)), (q39, aJ K 10 (fun _ => 0)), (q47, aI K 120 (fun _ => 0)), (q55, aI K 120 (fun _ => 0)), (q63, aI K 120 (fun _ => 0)), (q71, aI K 120 (fun _ => 0)), (q79, aJ K 120 (fun _ => 0)), (q87, aI K 120 (fun _ => 0)), (q95, aI K 120 (fun _ => 0)), (q103, aI K 120 (fun _ => 0)), (q111, aZ K 120 (fun _ => 0))] (by decide) rfl ?_
  refine lx_wide (a' := 14) (b' := 1460) (by decide) (by decide) ?_
  refine pf_X4_50 F hnm 0 [(y, .inr (4, [.int (nI 0), .ref q7, .ref q15, .ref q23, .int (nI 0), .ref q31, .ref q39, .int (nI 0), .int (nI 0), .long (jI 0), .ref q47, .int (nI 0), .ref q55, .ref q63, .ref q71, .ref q79, .int (nI 0), .ref q87, .ref q95, .ref q103, .ref q111])), (q7, aI K 120 (fun _ => 0)), (q15, aI K 120 (fun _ => 0)), (q23, aJ K 120 (fun _ => 0)), (q31, aI K 10 (fun _ => 0)), (q39, aJ K 10 (fun _ => 0)), (q47, aI K 120 (fun _ => 0)), (q55, aI K 120 (fun _ => 0)), (q63, aI K 120 (fun _ => 0)), (q71, aI K 120 (fun _ => 0)), (q79, aJ K 120 (fun _ => 0)), (q87, aI K 120 (fun _ => 0)), (q95, aI K 120 (fun _ => 0)), (q103, aI K 120 (fun _ => 0)), (q111, aZ K 120 (fun _ => 0))] rfl rfl dX4_init_113 rfl ?_
  exact lx_vret F hR dX4_init_116 ⟨rfl, _, _, _, _, _, _, _, _, _, _, _, _, _, _, rfl⟩
