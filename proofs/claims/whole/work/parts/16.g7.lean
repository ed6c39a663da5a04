set_option maxHeartbeats 4000000 in
set_option maxRecDepth 100000 in
theorem zr_spine (l : Launch) (K : lm_G) (y acd akd act ark arr ali ala anc ank ant aag abk atd ase : Nat) (th z kk : Int32) (kc : Int64) (mn nx : Int32) (cd kd : Nat → Int32) (ct : Nat → Int64) (fla nc nk : Nat → Int32) (nt : Nat → Int64) (c : Nat → Nat) (w : Nat → lm_V) (u : Nat) (hw : lm_wf c w u) (hh : lm_mf cd kd ct c w u) (L : List Nat) (hL : lm_gd c w u L) (hcl : ∀ p ∈ L, lm_cs c w L p) (s0 : lm_S) (hsb : lm_sb s0) (hom0 : lm_om fla nc nk nt s0) (hI0 : ∃ D k, lm_I c w u L s0 D k none) (p : Nat) (hpL : p ∈ L) (hlen : (lm_trs c w s0 p).2.length ≤ 120) : lm_C l K mX4_spine (rk 2) [.ref y, .int (nI p)] [(y, .inr (4, [.int th, .ref acd, .ref akd, .ref act, .int (nI u), .ref ark, .ref arr, .int z, .int kk, .long kc, .ref ali, .int mn, .ref ala, .ref anc, .ref ank, .ref ant, .int (nI s0.2.length), .ref aag, .ref abk, .ref atd, .ref ase])), (acd, aI K 120 cd), (akd, aI K 120 kd), (act, aJ K 120 ct), (ala, aI K 120 fla), (anc, aI K 120 nc), (ank, aI K 120 nk), (ant, aJ K 120 nt)] (fun v9 w9 => v9 = none ∧ ∃ (fla1 nc1 nk1 : Nat → Int32) (nt1 : Nat → Int64) (kk1 : Int32) (kc1 : Int64), lm_om fla1 nc1 nk1 nt1 (lm_trs c w s0 p) ∧ w9 = [(y, .inr (4, [.int th, .ref acd, .ref akd, .ref act, .int (nI u), .ref ark, .ref arr, .int z, .int kk1, .long kc1, .ref ali, .int mn, .ref ala, .ref anc, .ref ank, .ref ant, .int (nI ((lm_trs c w s0 p).2.length)), .ref aag, .ref abk, .ref atd, .ref ase])), (acd, aI K 120 cd), (akd, aI K 120 kd), (act, aJ K 120 ct), (ala, aI K 120 fla1), (anc, aI K 120 nc1), (ank, aI K 120 nk1), (ant, aJ K 120 nt1)]) := by
  refine lx_met RX4 pn_X4 rfl (Nat.le_of_ble_eq_true rfl) (fun E hE hnm F hR => ?_)
  have F : lx_F K 8 E cX4_spine RX4 none (rk 2) := F
  show lx_W K 8 E 0 0 0 [(0, .ref y), (1, .int (nI p))] [] [(y, .inr (4, [.int th, .ref acd, .ref akd, .ref act, .int (nI u), .ref ark, .ref arr, .int z, .int kk, .long kc, .ref ali, .int mn, .ref ala, .ref anc, .ref ank, .ref ant, .int (nI s0.2.length), .ref aag, .ref abk, .ref atd, .ref ase])), (acd, aI K 120 cd), (akd, aI K 120 kd), (act, aJ K 120 ct), (ala, aI K 120 fla), (anc, aI K 120 nc), (ank, aI K 120 nk), (ant, aJ K 120 nt)]
  have hu := hw.1
  have hp1 := (hL.2 p hpL).1
  refine lx_iload_n F dX4_spine_0 1 rfl ?_
  refine lx_istore_n F [(0, .ref y), (1, .int (nI p)), (2, .int (nI p))] [1, 2, 0] dX4_spine_1 rfl (by decide) ?_
  by_cases hp0 : s0.1 p = none
  · skip
    have loop : ∀ (n9 : Nat) (s : lm_S) (o : Option Nat) (fla1 nc1 nk1 : Nat → Int32) (nt1 : Nat → Int64) (kk1 : Int32) (kc1 : Int64), lm_spO c w n9 s o = lm_trs c w s0 p → lm_sb s → (∀ x, o = some x → s.1 x = none ∧ x ∈ L ∧ ∃ D k, lm_I c w u L s D k (some x) ∧ 120 ≤ D.length + n9) → lm_om fla1 nc1 nk1 nt1 s → lx_W K 8 E 0 0 2 [(0, .ref y), (1, .int (nI p)), (2, .int (oI o))] [] [(y, .inr (4, [.int th, .ref acd, .ref akd, .ref act, .int (nI u), .ref ark, .ref arr, .int z, .int kk1, .long kc1, .ref ali, .int mn, .ref ala, .ref anc, .ref ank, .ref ant, .int (nI s.2.length), .ref aag, .ref abk, .ref atd, .ref ase])), (acd, aI K 120 cd), (akd, aI K 120 kd), (act, aJ K 120 ct), (ala, aI K 120 fla1), (anc, aI K 120 nc1), (ank, aI K 120 nk1), (ant, aJ K 120 nt1)] := by
      intro n9
      induction n9 with
      | zero =>
        intro s o fla1 nc1 nk1 nt1 kk1 kc1 hsp hsb1 hnx0 hom
        rcases o with - | q
        · skip
          refine lx_iload_n F dX4_spine_2 2 rfl ?_
          refine lx_if_lt F 146 dX4_spine_3 rfl (fun _ => ?_) (fun h => absurd (by decide) h)
          exact lx_vret F hR dX4_spine_146 ⟨rfl, _, _, _, _, _, _, by rw [← hsp]; exact hom, by rw [← hsp]; rfl⟩
        · skip
          exfalso
          obtain ⟨hq0, hqL, D, k, hI, hD⟩ := hnx0 q rfl
          have h9 := lm_I_lt hw hL hI hq0 hqL
          omega
      | succ n9 ih =>
        intro s o fla1 nc1 nk1 nt1 kk1 kc1 hsp hsb1 hnx0 hom
        rcases o with - | q
        · skip
          refine lx_iload_n F dX4_spine_2 2 rfl ?_
          refine lx_if_lt F 146 dX4_spine_3 rfl (fun _ => ?_) (fun h => absurd (by decide) h)
          exact lx_vret F hR dX4_spine_146 ⟨rfl, _, _, _, _, _, _, by rw [← hsp]; exact hom, by rw [← hsp]; rfl⟩
        · skip
          refine lx_lv [0, 1, 2] [(0, .ref y), (1, .int (nI p)), (2, .int (nI q))] rfl ?_
          obtain ⟨hq0, hqL, D, k, hI, hD⟩ := hnx0 q rfl
          have hcq := hL.2 q hqL
          have hq1 := hcq.1
          have hok2 := lm_rest_ok hw hcq
          have hk3 := lm_ok_kind hok2
          rw [lm_spO_s] at hsp
          have hle1 := lm_spO_len (c := c) (w := w) n9 (lm_lay c w s q).1 (lm_lay c w s q).2
          rw [hsp] at hle1
          have hle2 := lm_lay_len (c := c) (w := w) (s := s) (p := q)
          have hnx : ∀ x, (lm_lay c w s q).2 = some x → (lm_lay c w s q).1.1 x = none ∧ x ∈ L ∧ ∃ D k, lm_I c w u L (lm_lay c w s q).1 D k (some x) ∧ 120 ≤ D.length + n9 := lm_sp_next hw hL hcl hI hq0 hqL hD
          have hlb := lm_lay_b (c := c) (w := w) (p := q) hsb1 (show s.2.length < 2 ^ 31 by omega)
          refine lx_iload_n F dX4_spine_2 2 rfl ?_
          refine lx_ifN_lt F 146 (by omega) dX4_spine_3 rfl (fun h => absurd h (by omega)) (fun _ => ?_)
          refine lx_aload_n F dX4_spine_6 0 rfl ?_
          refine gf_X4_29 F 0 rfl rfl dX4_spine_7 ?_
          refine lx_iload_n F dX4_spine_10 2 rfl ?_
          refine lx_iald F 4 q dX4_spine_11 rfl (by omega) (by decide) ?_
          rw [show fla1 q = -1 by rw [hom.1 q (by omega), hq0]; rfl]
          refine lx_if_ge F 146 dX4_spine_12 rfl (fun h => absurd h (by decide)) (fun _ => ?_)
          refine lx_aload_n F dX4_spine_15 0 rfl ?_
          refine gf_X4_29 F 0 rfl rfl dX4_spine_16 ?_
          refine lx_iload_n F dX4_spine_19 2 rfl ?_
          refine lx_aload_n F dX4_spine_20 0 rfl ?_
          refine gf_X4_82 F 0 rfl rfl dX4_spine_21 ?_
          refine lx_iast F 4 q [(y, .inr (4, [.int th, .ref acd, .ref akd, .ref act, .int (nI u), .ref ark, .ref arr, .int z, .int kk1, .long kc1, .ref ali, .int mn, .ref ala, .ref anc, .ref ank, .ref ant, .int (nI s.2.length), .ref aag, .ref abk, .ref atd, .ref ase])), (acd, aI K 120 cd), (akd, aI K 120 kd), (act, aJ K 120 ct), (ala, aI K 120 (lm_up fla1 q (nI s.2.length))), (anc, aI K 120 nc1), (ank, aI K 120 nk1), (ant, aJ K 120 nt1)] dX4_spine_24 rfl (by omega) (by decide) rfl ?_
          refine lx_aload_n F dX4_spine_25 0 rfl ?_
          refine lx_iload_n F dX4_spine_26 2 rfl ?_
          refine lx_cv F (zr_lookRest (xl E) K y acd akd act ark arr ali ala anc ank ant aag abk atd ase th z kk1 kc1 mn (nI s.2.length) cd kd ct c w u hw hh q hcq) cv_X4_85 0 rfl rfl [0, 1, 2, 3] [4, 5, 6, 7] [(ala, aI K 120 (lm_up fla1 q (nI s.2.length))), (anc, aI K 120 nc1), (ank, aI K 120 nk1), (ant, aJ K 120 nt1)] rfl rfl (by decide) rfl (st := []) rfl (Nat.le_of_ble_eq_true rfl) (by decide) ⟨by decide, by decide⟩ dX4_spine_27 (fun v9 w9 h9 => ?_)
          obtain ⟨rfl, rfl⟩ := h9
          refine lx_perm [4, 5, 6, 7, 0, 1, 2, 3] [(y, .inr (4, [.int th, .ref acd, .ref akd, .ref act, .int (nI u), .ref ark, .ref arr, .int z, .int (nI ((lm_rest c w q).1)), .long (jI ((lm_rest c w q).2)), .ref ali, .int mn, .ref ala, .ref anc, .ref ank, .ref ant, .int (nI s.2.length), .ref aag, .ref abk, .ref atd, .ref ase])), (acd, aI K 120 cd), (akd, aI K 120 kd), (act, aJ K 120 ct), (ala, aI K 120 (lm_up fla1 q (nI s.2.length))), (anc, aI K 120 nc1), (ank, aI K 120 nk1), (ant, aJ K 120 nt1)] (by decide) rfl ?_
          refine lx_st (a' := 0) (b' := 0) [] rfl rfl rfl ?_
          refine lx_aload_n F dX4_spine_30 0 rfl ?_
          refine gf_X4_58 F 0 rfl rfl dX4_spine_31 ?_
          refine lx_istore_n F [(0, .ref y), (1, .int (nI p)), (2, .int (nI q)), (3, .int (nI ((lm_rest c w q).1)))] [1, 2, 3, 0] dX4_spine_34 rfl (by decide) ?_
          refine lx_aload_n F dX4_spine_35 0 rfl ?_
          refine gf_X4_61 F 0 rfl rfl dX4_spine_36 ?_
          refine lx_lstore F [(0, .ref y), (1, .int (nI p)), (2, .int (nI q)), (3, .int (nI ((lm_rest c w q).1))), (4, .long (jI ((lm_rest c w q).2)))] [1, 2, 3, 4, 0] dX4_spine_39 rfl (by decide) ?_
          refine lx_iload_n F dX4_spine_41 3 rfl ?_
          refine lx_iconst F dX4_spine_42 kc_2 ?_
          refine lx_icmpN_ne F 55 (by omega) (by omega) dX4_spine_43 rfl (fun h2 => ?_) (fun h2 => ?_)
          · skip
            refine lx_iconst F dX4_spine_55 kc_m1 ?_
            refine lx_istore F [(0, .ref y), (1, .int (nI p)), (2, .int (nI q)), (3, .int (nI ((lm_rest c w q).1))), (4, .long (jI ((lm_rest c w q).2))), (6, .int (-1))] [1, 2, 3, 4, 5, 0] dX4_spine_56 rfl (by decide) ?_
            refine lx_iload F dX4_spine_58 5 rfl ?_
            refine lx_if_lt F 77 dX4_spine_60 rfl (fun _ => ?_) (fun h => absurd (by decide) h)
            refine lx_iconst F dX4_spine_77 kc_0 ?_
            refine lx_istore F [(0, .ref y), (1, .int (nI p)), (2, .int (nI q)), (3, .int (nI ((lm_rest c w q).1))), (4, .long (jI ((lm_rest c w q).2))), (6, .int (-1)), (7, .int (nI 0))] [1, 2, 3, 4, 5, 6, 0] dX4_spine_78 rfl (by decide) ?_
            by_cases h0 : (lm_rest c w q).1 = 0
            · skip
              have hlay := lm_lay_e (s := s) h0
              rw [hlay] at hsp hle1 hle2 hnx hlb
              have hsp2 := hsp
              refine lx_aload_n F dX4_spine_80 0 rfl ?_
              refine lx_iload_n F dX4_spine_81 3 rfl ?_
              refine lx_ifN_ne F 89 (by omega) dX4_spine_82 rfl (fun h => absurd h (by omega)) (fun _ => ?_)
              refine lx_iconst F dX4_spine_85 kc_1 ?_
              refine lx_goto F 99 dX4_spine_86 rfl ?_
              refine lx_aload_n F dX4_spine_99 0 rfl ?_
              refine gf_X4_13 F 0 rfl rfl dX4_spine_100 ?_
              refine lx_iload_n F dX4_spine_103 2 rfl ?_
              refine lx_iald F 2 q dX4_spine_104 rfl (by omega) (by decide) ?_
              rw [(hh q hq1).2.1]
              refine lx_aload_n F dX4_spine_105 0 rfl ?_
              refine gf_X4_16 F 0 rfl rfl dX4_spine_106 ?_
              refine lx_iload_n F dX4_spine_109 2 rfl ?_
              refine lx_lald F 3 q dX4_spine_110 rfl (by omega) (by decide) ?_
              rw [(hh q hq1).2.2]
              refine lx_cv F (zr_lay (xl E) K y acd akd act ark arr ali ala anc ank ant aag abk atd ase th z (nI (lm_rest c w q).1) (jI (lm_rest c w q).2) mn (nI (s.2.length)) (nI u) (nc1) (nk1) (nt1) (s.2.length) (by omega) (nI 1) (nI (w q).1) (jI (w q).2)) cv_X4_89 0 rfl rfl [0, 5, 6, 7] [1, 2, 3, 4] [(acd, aI K 120 cd), (akd, aI K 120 kd), (act, aJ K 120 ct), (ala, aI K 120 (lm_up fla1 q (nI s.2.length)))] rfl rfl (by decide) rfl (st := []) rfl (Nat.le_of_ble_eq_true rfl) (by decide) ⟨by decide, by decide⟩ dX4_spine_111 (fun v9 w9 h9 => ?_)
              obtain ⟨rfl, rfl⟩ := h9
              refine lx_perm [4, 0, 1, 2, 3, 5, 6, 7] [(y, .inr (4, [.int th, .ref acd, .ref akd, .ref act, .int (nI u), .ref ark, .ref arr, .int z, .int (nI ((lm_rest c w q).1)), .long (jI ((lm_rest c w q).2)), .ref ali, .int mn, .ref ala, .ref anc, .ref ank, .ref ant, .int (nI (s.2.length + 1)), .ref aag, .ref abk, .ref atd, .ref ase])), (acd, aI K 120 cd), (akd, aI K 120 kd), (act, aJ K 120 ct), (ala, aI K 120 (lm_up fla1 q (nI s.2.length))), (anc, aI K 120 (lm_up (nc1) (s.2.length) (nI 1))), (ank, aI K 120 (lm_up (nk1) (s.2.length) (nI (w q).1))), (ant, aJ K 120 (lm_up (nt1) (s.2.length) (jI (w q).2)))] (by decide) rfl ?_
              refine lx_st (a' := 0) (b' := 0) [] rfl rfl rfl ?_
              refine lx_iload_n F dX4_spine_114 3 rfl ?_
              refine lx_ifN_eq F 131 (by omega) dX4_spine_115 rfl (fun _ => ?_) (fun h => absurd h (by omega))
              refine lx_iload F dX4_spine_131 6 rfl ?_
              refine lx_ifN_eq F 141 (by omega) dX4_spine_133 rfl (fun _ => ?_) (fun h => absurd h (by omega))
              refine lx_iconst F dX4_spine_141 kc_m1 ?_
              refine lx_istore_n F [(0, .ref y), (1, .int (nI p)), (2, .int (-1)), (3, .int (nI ((lm_rest c w q).1))), (4, .long (jI ((lm_rest c w q).2))), (6, .int (-1)), (7, .int (nI 0))] [1, 2, 0, 3, 4, 5, 6] dX4_spine_142 rfl (by decide) ?_
              refine lx_goto F 2 dX4_spine_143 rfl ?_
              refine lx_lv [0, 1, 2] [(0, .ref y), (1, .int (nI p)), (2, .int (-1))] rfl ?_
              rw [lm_ln1 s.2 (1, w q)]
              exact ih _ _ _ _ _ _ _ _ hsp2 hlb hnx (lm_om_1 hom)
            · skip
              have hno : ¬ ((lm_rest c w q).1 = 2 ∧ lm_mark s.1 q s.2.length (lm_to w (lm_rest c w q)) = none) := fun z => h2 z.1
              have hlay := lm_lay_p (s := s) h0 hno
              rw [hlay] at hsp hle1 hle2 hnx hlb
              have hsp2 := hsp
              have hl2 : s.2.length + 2 ≤ 120 := by have h9 := hle1; simp at h9; omega
              refine lx_aload_n F dX4_spine_80 0 rfl ?_
              refine lx_iload_n F dX4_spine_81 3 rfl ?_
              refine lx_ifN_ne F 89 (by omega) dX4_spine_82 rfl (fun _ => ?_) (fun h => absurd h (by omega))
              refine lx_iload F dX4_spine_89 6 rfl ?_
              refine lx_ifN_eq F 98 (by omega) dX4_spine_91 rfl (fun _ => ?_) (fun h => absurd h (by omega))
              refine lx_iconst F dX4_spine_98 kc_2 ?_
              refine lx_aload_n F dX4_spine_99 0 rfl ?_
              refine gf_X4_13 F 0 rfl rfl dX4_spine_100 ?_
              refine lx_iload_n F dX4_spine_103 2 rfl ?_
              refine lx_iald F 2 q dX4_spine_104 rfl (by omega) (by decide) ?_
              rw [(hh q hq1).2.1]
              refine lx_aload_n F dX4_spine_105 0 rfl ?_
              refine gf_X4_16 F 0 rfl rfl dX4_spine_106 ?_
              refine lx_iload_n F dX4_spine_109 2 rfl ?_
              refine lx_lald F 3 q dX4_spine_110 rfl (by omega) (by decide) ?_
              rw [(hh q hq1).2.2]
              refine lx_cv F (zr_lay (xl E) K y acd akd act ark arr ali ala anc ank ant aag abk atd ase th z (nI (lm_rest c w q).1) (jI (lm_rest c w q).2) mn (nI (s.2.length)) (nI u) (nc1) (nk1) (nt1) (s.2.length) (by omega) (nI 2) (nI (w q).1) (jI (w q).2)) cv_X4_89 0 rfl rfl [0, 5, 6, 7] [1, 2, 3, 4] [(acd, aI K 120 cd), (akd, aI K 120 kd), (act, aJ K 120 ct), (ala, aI K 120 (lm_up fla1 q (nI s.2.length)))] rfl rfl (by decide) rfl (st := []) rfl (Nat.le_of_ble_eq_true rfl) (by decide) ⟨by decide, by decide⟩ dX4_spine_111 (fun v9 w9 h9 => ?_)
              obtain ⟨rfl, rfl⟩ := h9
              refine lx_perm [4, 0, 1, 2, 3, 5, 6, 7] [(y, .inr (4, [.int th, .ref acd, .ref akd, .ref act, .int (nI u), .ref ark, .ref arr, .int z, .int (nI ((lm_rest c w q).1)), .long (jI ((lm_rest c w q).2)), .ref ali, .int mn, .ref ala, .ref anc, .ref ank, .ref ant, .int (nI (s.2.length + 1)), .ref aag, .ref abk, .ref atd, .ref ase])), (acd, aI K 120 cd), (akd, aI K 120 kd), (act, aJ K 120 ct), (ala, aI K 120 (lm_up fla1 q (nI s.2.length))), (anc, aI K 120 (lm_up (nc1) (s.2.length) (nI 2))), (ank, aI K 120 (lm_up (nk1) (s.2.length) (nI (w q).1))), (ant, aJ K 120 (lm_up (nt1) (s.2.length) (jI (w q).2)))] (by decide) rfl ?_
              refine lx_st (a' := 0) (b' := 0) [] rfl rfl rfl ?_
              refine lx_iload_n F dX4_spine_114 3 rfl ?_
              refine lx_ifN_eq F 131 (by omega) dX4_spine_115 rfl (fun h => absurd h (by omega)) (fun _ => ?_)
              refine lx_iload F dX4_spine_118 6 rfl ?_
              refine lx_ifN_ne F 131 (by omega) dX4_spine_120 rfl (fun h => absurd h (by omega)) (fun _ => ?_)
              refine lx_aload_n F dX4_spine_123 0 rfl ?_
              refine lx_iconst F dX4_spine_124 kc_3 ?_
              refine lx_iload_n F dX4_spine_125 3 rfl ?_
              refine lx_lload F dX4_spine_126 4 rfl ?_
              refine lx_cv F (zr_lay (xl E) K y acd akd act ark arr ali ala anc ank ant aag abk atd ase th z (nI (lm_rest c w q).1) (jI (lm_rest c w q).2) mn (nI (s.2.length + 1)) (nI u) (lm_up nc1 s.2.length (nI 2)) (lm_up nk1 s.2.length (nI (w q).1)) (lm_up nt1 s.2.length (jI (w q).2)) (s.2.length + 1) (by omega) (nI 3) (nI (lm_rest c w q).1) (jI (lm_rest c w q).2)) cv_X4_89 0 rfl rfl [0, 5, 6, 7] [1, 2, 3, 4] [(acd, aI K 120 cd), (akd, aI K 120 kd), (act, aJ K 120 ct), (ala, aI K 120 (lm_up fla1 q (nI s.2.length)))] rfl rfl (by decide) rfl (st := []) rfl (Nat.le_of_ble_eq_true rfl) (by decide) ⟨by decide, by decide⟩ dX4_spine_128 (fun v9 w9 h9 => ?_)
              obtain ⟨rfl, rfl⟩ := h9
              refine lx_perm [4, 0, 1, 2, 3, 5, 6, 7] [(y, .inr (4, [.int th, .ref acd, .ref akd, .ref act, .int (nI u), .ref ark, .ref arr, .int z, .int (nI ((lm_rest c w q).1)), .long (jI ((lm_rest c w q).2)), .ref ali, .int mn, .ref ala, .ref anc, .ref ank, .ref ant, .int (nI (s.2.length + 1 + 1)), .ref aag, .ref abk, .ref atd, .ref ase])), (acd, aI K 120 cd), (akd, aI K 120 kd), (act, aJ K 120 ct), (ala, aI K 120 (lm_up fla1 q (nI s.2.length))), (anc, aI K 120 (lm_up (lm_up nc1 s.2.length (nI 2)) (s.2.length + 1) (nI 3))), (ank, aI K 120 (lm_up (lm_up nk1 s.2.length (nI (w q).1)) (s.2.length + 1) (nI (lm_rest c w q).1))), (ant, aJ K 120 (lm_up (lm_up nt1 s.2.length (jI (w q).2)) (s.2.length + 1) (jI (lm_rest c w q).2)))] (by decide) rfl ?_
              refine lx_st (a' := 0) (b' := 0) [] rfl rfl rfl ?_
              refine lx_iload F dX4_spine_131 6 rfl ?_
              refine lx_ifN_eq F 141 (by omega) dX4_spine_133 rfl (fun _ => ?_) (fun h => absurd h (by omega))
              refine lx_iconst F dX4_spine_141 kc_m1 ?_
              refine lx_istore_n F [(0, .ref y), (1, .int (nI p)), (2, .int (-1)), (3, .int (nI ((lm_rest c w q).1))), (4, .long (jI ((lm_rest c w q).2))), (6, .int (-1)), (7, .int (nI 0))] [1, 2, 0, 3, 4, 5, 6] dX4_spine_142 rfl (by decide) ?_
              refine lx_goto F 2 dX4_spine_143 rfl ?_
              refine lx_lv [0, 1, 2] [(0, .ref y), (1, .int (nI p)), (2, .int (-1))] rfl ?_
              rw [lm_ln2 s.2 (2, w q) (3, lm_rest c w q)]
              exact ih _ _ _ _ _ _ _ _ hsp2 hlb hnx (lm_om_2 hom)
          · skip
            have h0 : (lm_rest c w q).1 ≠ 0 := by omega
            obtain ⟨qr, er, lr, nr⟩ := lm_ok_p hok2 h2
            have tr : lm_to w (lm_rest c w q) = lm_cell w qr := lm_to_q er
            have rr0 := lm_cell_cl hw lr nr
            have rr := rr0.1
            refine lx_aload_n F dX4_spine_46 0 rfl ?_
            refine lx_lload F dX4_spine_47 4 rfl ?_
            refine lx_st (a' := 0) (b' := 0) [.long (jI ((qr : Nat) : Int)), .ref y] rfl rfl (by rw [er]) ?_
            refine lx_cv F (zr_cell (xl E) K y acd akd act ark arr ali ala anc ank ant aag abk atd ase th z (nI (lm_rest c w q).1) (jI (lm_rest c w q).2) mn (nI s.2.length) cd kd ct c w u hw hh qr lr nr) cv_X4_65 0 rfl rfl [0, 2, 3] [1, 4, 5, 6, 7] [(acd, aI K 120 cd), (ala, aI K 120 (lm_up fla1 q (nI s.2.length))), (anc, aI K 120 nc1), (ank, aI K 120 nk1), (ant, aJ K 120 nt1)] rfl rfl (by decide) rfl (st := []) rfl (Nat.le_of_ble_eq_true rfl) (by decide) ⟨by decide, by decide⟩ dX4_spine_49 (fun v9 w9 h9 => ?_)
            obtain ⟨rfl, rfl⟩ := h9
            refine lx_perm [5, 0, 6, 7, 1, 2, 3, 4] [(y, .inr (4, [.int th, .ref acd, .ref akd, .ref act, .int (nI u), .ref ark, .ref arr, .int z, .int (nI ((lm_rest c w q).1)), .long (jI ((lm_rest c w q).2)), .ref ali, .int mn, .ref ala, .ref anc, .ref ank, .ref ant, .int (nI s.2.length), .ref aag, .ref abk, .ref atd, .ref ase])), (acd, aI K 120 cd), (akd, aI K 120 kd), (act, aJ K 120 ct), (ala, aI K 120 (lm_up fla1 q (nI s.2.length))), (anc, aI K 120 nc1), (ank, aI K 120 nk1), (ant, aJ K 120 nt1)] (by decide) rfl ?_
            refine lx_st (a' := 0) (b' := 0) [.int (nI (lm_cell w qr))] rfl rfl rfl ?_
            refine lx_goto F 56 dX4_spine_52 rfl ?_
            refine lx_istore F [(0, .ref y), (1, .int (nI p)), (2, .int (nI q)), (3, .int (nI ((lm_rest c w q).1))), (4, .long (jI ((lm_rest c w q).2))), (6, .int (nI (lm_cell w qr)))] [1, 2, 3, 4, 5, 0] dX4_spine_56 rfl (by decide) ?_
            refine lx_iload F dX4_spine_58 5 rfl ?_
            refine lx_ifN_lt F 77 (by omega) dX4_spine_60 rfl (fun h => absurd h (by omega)) (fun _ => ?_)
            refine lx_aload_n F dX4_spine_63 0 rfl ?_
            refine gf_X4_29 F 0 rfl rfl dX4_spine_64 ?_
            refine lx_iload F dX4_spine_67 5 rfl ?_
            refine lx_iald F 4 (lm_cell w qr) dX4_spine_69 rfl (by omega) (by decide) ?_
            rw [lm_mark_up hom.1 _ (show lm_cell w qr < 120 by omega)]
            refine lx_if_ge F 77 dX4_spine_70 rfl (fun h5 => ?_) (fun h5 => ?_)
            · skip
              have hno : ¬ ((lm_rest c w q).1 = 2 ∧ lm_mark s.1 q s.2.length (lm_to w (lm_rest c w q)) = none) := fun z => absurd h5 (by rw [← tr, z.2]; decide)
              have hlay := lm_lay_p (s := s) h0 hno
              rw [hlay] at hsp hle1 hle2 hnx hlb
              have hsp2 := hsp
              have hl2 : s.2.length + 2 ≤ 120 := by have h9 := hle1; simp at h9; omega
              refine lx_iconst F dX4_spine_77 kc_0 ?_
              refine lx_istore F [(0, .ref y), (1, .int (nI p)), (2, .int (nI q)), (3, .int (nI ((lm_rest c w q).1))), (4, .long (jI ((lm_rest c w q).2))), (6, .int (nI (lm_cell w qr))), (7, .int (nI 0))] [1, 2, 3, 4, 5, 6, 0] dX4_spine_78 rfl (by decide) ?_
              refine lx_aload_n F dX4_spine_80 0 rfl ?_
              refine lx_iload_n F dX4_spine_81 3 rfl ?_
              refine lx_ifN_ne F 89 (by omega) dX4_spine_82 rfl (fun _ => ?_) (fun h => absurd h (by omega))
              refine lx_iload F dX4_spine_89 6 rfl ?_
              refine lx_ifN_eq F 98 (by omega) dX4_spine_91 rfl (fun _ => ?_) (fun h => absurd h (by omega))
              refine lx_iconst F dX4_spine_98 kc_2 ?_
              refine lx_aload_n F dX4_spine_99 0 rfl ?_
              refine gf_X4_13 F 0 rfl rfl dX4_spine_100 ?_
              refine lx_iload_n F dX4_spine_103 2 rfl ?_
              refine lx_iald F 2 q dX4_spine_104 rfl (by omega) (by decide) ?_
              rw [(hh q hq1).2.1]
              refine lx_aload_n F dX4_spine_105 0 rfl ?_
              refine gf_X4_16 F 0 rfl rfl dX4_spine_106 ?_
              refine lx_iload_n F dX4_spine_109 2 rfl ?_
              refine lx_lald F 3 q dX4_spine_110 rfl (by omega) (by decide) ?_
              rw [(hh q hq1).2.2]
              refine lx_cv F (zr_lay (xl E) K y acd akd act ark arr ali ala anc ank ant aag abk atd ase th z (nI (lm_rest c w q).1) (jI (lm_rest c w q).2) mn (nI (s.2.length)) (nI u) (nc1) (nk1) (nt1) (s.2.length) (by omega) (nI 2) (nI (w q).1) (jI (w q).2)) cv_X4_89 0 rfl rfl [0, 5, 6, 7] [1, 2, 3, 4] [(acd, aI K 120 cd), (akd, aI K 120 kd), (act, aJ K 120 ct), (ala, aI K 120 (lm_up fla1 q (nI s.2.length)))] rfl rfl (by decide) rfl (st := []) rfl (Nat.le_of_ble_eq_true rfl) (by decide) ⟨by decide, by decide⟩ dX4_spine_111 (fun v9 w9 h9 => ?_)
              obtain ⟨rfl, rfl⟩ := h9
              refine lx_perm [4, 0, 1, 2, 3, 5, 6, 7] [(y, .inr (4, [.int th, .ref acd, .ref akd, .ref act, .int (nI u), .ref ark, .ref arr, .int z, .int (nI ((lm_rest c w q).1)), .long (jI ((lm_rest c w q).2)), .ref ali, .int mn, .ref ala, .ref anc, .ref ank, .ref ant, .int (nI (s.2.length + 1)), .ref aag, .ref abk, .ref atd, .ref ase])), (acd, aI K 120 cd), (akd, aI K 120 kd), (act, aJ K 120 ct), (ala, aI K 120 (lm_up fla1 q (nI s.2.length))), (anc, aI K 120 (lm_up (nc1) (s.2.length) (nI 2))), (ank, aI K 120 (lm_up (nk1) (s.2.length) (nI (w q).1))), (ant, aJ K 120 (lm_up (nt1) (s.2.length) (jI (w q).2)))] (by decide) rfl ?_
              refine lx_st (a' := 0) (b' := 0) [] rfl rfl rfl ?_
              refine lx_iload_n F dX4_spine_114 3 rfl ?_
              refine lx_ifN_eq F 131 (by omega) dX4_spine_115 rfl (fun h => absurd h (by omega)) (fun _ => ?_)
              refine lx_iload F dX4_spine_118 6 rfl ?_
              refine lx_ifN_ne F 131 (by omega) dX4_spine_120 rfl (fun h => absurd h (by omega)) (fun _ => ?_)
              refine lx_aload_n F dX4_spine_123 0 rfl ?_
              refine lx_iconst F dX4_spine_124 kc_3 ?_
              refine lx_iload_n F dX4_spine_125 3 rfl ?_
              refine lx_lload F dX4_spine_126 4 rfl ?_
              refine lx_cv F (zr_lay (xl E) K y acd akd act ark arr ali ala anc ank ant aag abk atd ase th z (nI (lm_rest c w q).1) (jI (lm_rest c w q).2) mn (nI (s.2.length + 1)) (nI u) (lm_up nc1 s.2.length (nI 2)) (lm_up nk1 s.2.length (nI (w q).1)) (lm_up nt1 s.2.length (jI (w q).2)) (s.2.length + 1) (by omega) (nI 3) (nI (lm_rest c w q).1) (jI (lm_rest c w q).2)) cv_X4_89 0 rfl rfl [0, 5, 6, 7] [1, 2, 3, 4] [(acd, aI K 120 cd), (akd, aI K 120 kd), (act, aJ K 120 ct), (ala, aI K 120 (lm_up fla1 q (nI s.2.length)))] rfl rfl (by decide) rfl (st := []) rfl (Nat.le_of_ble_eq_true rfl) (by decide) ⟨by decide, by decide⟩ dX4_spine_128 (fun v9 w9 h9 => ?_)
              obtain ⟨rfl, rfl⟩ := h9
              refine lx_perm [4, 0, 1, 2, 3, 5, 6, 7] [(y, .inr (4, [.int th, .ref acd, .ref akd, .ref act, .int (nI u), .ref ark, .ref arr, .int z, .int (nI ((lm_rest c w q).1)), .long (jI ((lm_rest c w q).2)), .ref ali, .int mn, .ref ala, .ref anc, .ref ank, .ref ant, .int (nI (s.2.length + 1 + 1)), .ref aag, .ref abk, .ref atd, .ref ase])), (acd, aI K 120 cd), (akd, aI K 120 kd), (act, aJ K 120 ct), (ala, aI K 120 (lm_up fla1 q (nI s.2.length))), (anc, aI K 120 (lm_up (lm_up nc1 s.2.length (nI 2)) (s.2.length + 1) (nI 3))), (ank, aI K 120 (lm_up (lm_up nk1 s.2.length (nI (w q).1)) (s.2.length + 1) (nI (lm_rest c w q).1))), (ant, aJ K 120 (lm_up (lm_up nt1 s.2.length (jI (w q).2)) (s.2.length + 1) (jI (lm_rest c w q).2)))] (by decide) rfl ?_
              refine lx_st (a' := 0) (b' := 0) [] rfl rfl rfl ?_
              refine lx_iload F dX4_spine_131 6 rfl ?_
              refine lx_ifN_eq F 141 (by omega) dX4_spine_133 rfl (fun _ => ?_) (fun h => absurd h (by omega))
              refine lx_iconst F dX4_spine_141 kc_m1 ?_
              refine lx_istore_n F [(0, .ref y), (1, .int (nI p)), (2, .int (-1)), (3, .int (nI ((lm_rest c w q).1))), (4, .long (jI ((lm_rest c w q).2))), (6, .int (nI (lm_cell w qr))), (7, .int (nI 0))] [1, 2, 0, 3, 4, 5, 6] dX4_spine_142 rfl (by decide) ?_
              refine lx_goto F 2 dX4_spine_143 rfl ?_
              refine lx_lv [0, 1, 2] [(0, .ref y), (1, .int (nI p)), (2, .int (-1))] rfl ?_
              rw [lm_ln2 s.2 (2, w q) (3, lm_rest c w q)]
              exact ih _ _ _ _ _ _ _ _ hsp2 hlb hnx (lm_om_2 hom)
            · skip
              have h5n : lm_mark s.1 q s.2.length (lm_to w (lm_rest c w q)) = none := by rw [tr]; exact oI_neg (fun n hn => lm_mark_b hsb1 (by omega) _ n hn) h5
              have hlay := lm_lay_n (s := s) h2 h5n
              rw [hlay] at hsp hle1 hle2 hnx hlb
              have hsp2 := hsp
              refine lx_iconst F dX4_spine_73 kc_1 ?_
              refine lx_goto F 78 dX4_spine_74 rfl ?_
              refine lx_istore F [(0, .ref y), (1, .int (nI p)), (2, .int (nI q)), (3, .int (nI ((lm_rest c w q).1))), (4, .long (jI ((lm_rest c w q).2))), (6, .int (nI (lm_cell w qr))), (7, .int (nI 1))] [1, 2, 3, 4, 5, 6, 0] dX4_spine_78 rfl (by decide) ?_
              refine lx_aload_n F dX4_spine_80 0 rfl ?_
              refine lx_iload_n F dX4_spine_81 3 rfl ?_
              refine lx_ifN_ne F 89 (by omega) dX4_spine_82 rfl (fun _ => ?_) (fun h => absurd h (by omega))
              refine lx_iload F dX4_spine_89 6 rfl ?_
              refine lx_ifN_eq F 98 (by omega) dX4_spine_91 rfl (fun h => absurd h (by omega)) (fun _ => ?_)
              refine lx_iconst F dX4_spine_94 kc_0 ?_
              refine lx_goto F 99 dX4_spine_95 rfl ?_
              refine lx_aload_n F dX4_spine_99 0 rfl ?_
              refine gf_X4_13 F 0 rfl rfl dX4_spine_100 ?_
              refine lx_iload_n F dX4_spine_103 2 rfl ?_
              refine lx_iald F 2 q dX4_spine_104 rfl (by omega) (by decide) ?_
              rw [(hh q hq1).2.1]
              refine lx_aload_n F dX4_spine_105 0 rfl ?_
              refine gf_X4_16 F 0 rfl rfl dX4_spine_106 ?_
              refine lx_iload_n F dX4_spine_109 2 rfl ?_
              refine lx_lald F 3 q dX4_spine_110 rfl (by omega) (by decide) ?_
              rw [(hh q hq1).2.2]
              refine lx_cv F (zr_lay (xl E) K y acd akd act ark arr ali ala anc ank ant aag abk atd ase th z (nI (lm_rest c w q).1) (jI (lm_rest c w q).2) mn (nI (s.2.length)) (nI u) (nc1) (nk1) (nt1) (s.2.length) (by omega) (nI 0) (nI (w q).1) (jI (w q).2)) cv_X4_89 0 rfl rfl [0, 5, 6, 7] [1, 2, 3, 4] [(acd, aI K 120 cd), (akd, aI K 120 kd), (act, aJ K 120 ct), (ala, aI K 120 (lm_up fla1 q (nI s.2.length)))] rfl rfl (by decide) rfl (st := []) rfl (Nat.le_of_ble_eq_true rfl) (by decide) ⟨by decide, by decide⟩ dX4_spine_111 (fun v9 w9 h9 => ?_)
              obtain ⟨rfl, rfl⟩ := h9
              refine lx_perm [4, 0, 1, 2, 3, 5, 6, 7] [(y, .inr (4, [.int th, .ref acd, .ref akd, .ref act, .int (nI u), .ref ark, .ref arr, .int z, .int (nI ((lm_rest c w q).1)), .long (jI ((lm_rest c w q).2)), .ref ali, .int mn, .ref ala, .ref anc, .ref ank, .ref ant, .int (nI (s.2.length + 1)), .ref aag, .ref abk, .ref atd, .ref ase])), (acd, aI K 120 cd), (akd, aI K 120 kd), (act, aJ K 120 ct), (ala, aI K 120 (lm_up fla1 q (nI s.2.length))), (anc, aI K 120 (lm_up (nc1) (s.2.length) (nI 0))), (ank, aI K 120 (lm_up (nk1) (s.2.length) (nI (w q).1))), (ant, aJ K 120 (lm_up (nt1) (s.2.length) (jI (w q).2)))] (by decide) rfl ?_
              refine lx_st (a' := 0) (b' := 0) [] rfl rfl rfl ?_
              refine lx_iload_n F dX4_spine_114 3 rfl ?_
              refine lx_ifN_eq F 131 (by omega) dX4_spine_115 rfl (fun h => absurd h (by omega)) (fun _ => ?_)
              refine lx_iload F dX4_spine_118 6 rfl ?_
              refine lx_ifN_ne F 131 (by omega) dX4_spine_120 rfl (fun _ => ?_) (fun h => absurd h (by omega))
              refine lx_iload F dX4_spine_131 6 rfl ?_
              refine lx_ifN_eq F 141 (by omega) dX4_spine_133 rfl (fun h => absurd h (by omega)) (fun _ => ?_)
              refine lx_iload F dX4_spine_136 5 rfl ?_
              refine lx_goto F 142 dX4_spine_138 rfl ?_
              refine lx_istore_n F [(0, .ref y), (1, .int (nI p)), (2, .int (nI (lm_cell w qr))), (3, .int (nI ((lm_rest c w q).1))), (4, .long (jI ((lm_rest c w q).2))), (6, .int (nI (lm_cell w qr))), (7, .int (nI 1))] [1, 2, 0, 3, 4, 5, 6] dX4_spine_142 rfl (by decide) ?_
              refine lx_goto F 2 dX4_spine_143 rfl ?_
              refine lx_lv [0, 1, 2] [(0, .ref y), (1, .int (nI p)), (2, .int (nI (lm_cell w qr)))] rfl ?_
              rw [← tr]
              rw [lm_ln1 s.2 (0, w q)]
              exact ih _ _ _ _ _ _ _ _ hsp2 hlb hnx (lm_om_1 hom)
    obtain ⟨D, k0, hI⟩ := hI0
    exact loop 120 s0 (some p) fla nc nk nt kk kc (lm_trs_y hp0).symm hsb (fun x hx => by cases hx; exact ⟨hp0, hpL, D, k0 + 1, lm_I_open hI, by omega⟩) hom0
  · skip
    obtain ⟨n, hn⟩ : ∃ n, s0.1 p = some n := by
      cases e : s0.1 p with
      | none => exact absurd e hp0
      | some n => exact ⟨n, rfl⟩
    have hn2 := hsb p n hn
    refine lx_iload_n F dX4_spine_2 2 rfl ?_
    refine lx_ifN_lt F 146 (by omega) dX4_spine_3 rfl (fun h => absurd h (by omega)) (fun _ => ?_)
    refine lx_aload_n F dX4_spine_6 0 rfl ?_
    refine gf_X4_29 F 0 rfl rfl dX4_spine_7 ?_
    refine lx_iload_n F dX4_spine_10 2 rfl ?_
    refine lx_iald F 4 p dX4_spine_11 rfl (by omega) (by decide) ?_
    rw [show fla p = nI n by rw [hom0.1 p (by omega), hn]; rfl]
    refine lx_ifN_ge F 146 (by omega) dX4_spine_12 rfl (fun _ => ?_) (fun h => absurd h (by omega))
    exact lx_vret F hR dX4_spine_146 ⟨rfl, _, _, _, _, _, _, by rw [lm_trs_n hp0]; exact hom0, by rw [lm_trs_n hp0]⟩
