set_option maxHeartbeats 4000000 in
set_option maxRecDepth 100000 in
theorem zR_cons (l : Launch) (K : lm_G) (y : Nat) (c : Nat → Nat) (w : Nat → lm_V) (u : Nat) (rt : Nat → lm_V) (z : Int32) (hst : lm_st c w u rt) (th : Int32) (W : va_W) (hW : lm_mod K y (c, w, u, rt, z) th W) (r f t : Int32) : lm_C l K mX4_cons (rk 5) [.ref y, .int r, .int f, .int t] W (fun v9 w9 => v9 = none ∧ lm_mod K y (lm_oCons r f t (c, w, u, rt, z)).2 (nI (lm_oCons r f t (c, w, u, rt, z)).1) w9) := by
  obtain ⟨acd, akd, act, ark, arr, ali, ala, anc, ank, ant, aag, abk, atd, ase, kk, kc, mn, nx, cd, kd, ct, rk1, rr1, fl, fla, nc, nk, nt, fag, fbk, ftd, fse, hh, hro, rfl⟩ := hW
  have hh : lm_mf cd kd ct c w u := hh
  have hro : ∀ r, r < 10 → rk1 r = nI (rt r).1 ∧ rr1 r = jI (rt r).2 := hro
  have hw := hst.1
  have hr9 := hst.2
  have hu := hw.1
  refine lx_met RX4 pn_X4 rfl (Nat.le_of_ble_eq_true rfl) (fun E hE hnm F hR => ?_)
  have F : lx_F K 7 E cX4_cons RX4 none (rk 5) := F
  show lx_W K 7 E 0 0 0 [(0, .ref y), (1, .int r), (2, .int f), (3, .int t)] [] [(y, .inr (4, [.int th, .ref acd, .ref akd, .ref act, .int (nI u), .ref ark, .ref arr, .int z, .int kk, .long kc, .ref ali, .int mn, .ref ala, .ref anc, .ref ank, .ref ant, .int nx, .ref aag, .ref abk, .ref atd, .ref ase])), (acd, aI K 120 cd), (akd, aI K 120 kd), (act, aJ K 120 ct), (ark, aI K 10 rk1), (arr, aJ K 10 rr1), (ali, aI K 120 fl), (ala, aI K 120 fla), (anc, aI K 120 nc), (ank, aI K 120 nk), (ant, aJ K 120 nt), (aag, aI K 120 fag), (abk, aI K 120 fbk), (atd, aI K 120 ftd), (ase, aZ K 120 fse)]
  cases hnr : lm_none r
  · skip
    obtain ⟨k, hk, rfl⟩ := lm_none_f hnr
    cases hnf : lm_none f
    · skip
      obtain ⟨j, hj, rfl⟩ := lm_none_f hnf
      cases hnt : lm_none t
      · skip
        obtain ⟨i, hi, rfl⟩ := lm_none_f hnt
        obtain ⟨c1, w1, u1, rt1, z1, hσ⟩ : ∃ c1 w1 u1 rt1 z1, lm_rm 2 (c, w, u, rt, z) = (c1, w1, u1, rt1, z1) := ⟨_, _, _, _, _, rfl⟩
        have hst1 : lm_st c1 w1 u1 rt1 := by have h9 : lm_sx (lm_rm 2 (c, w, u, rt, z)) := lm_sx_rm 2 hst; rw [hσ] at h9; exact h9
        have hw1 := hst1.1
        have hu1 := hw1.1
        by_cases hfit : u1 + 2 ≤ 120
        · skip
          refine lx_iload_n F dX4_cons_0 1 rfl ?_
          refine lx_cs F (zr_none2 (xl E) K (nI k) false (lm_none_n hk)) cs_X4_102 [] [0, 1, 2, 3, 4, 5, 6, 7, 8, 9, 10, 11, 12, 13, 14] [(y, .inr (4, [.int th, .ref acd, .ref akd, .ref act, .int (nI u), .ref ark, .ref arr, .int z, .int kk, .long kc, .ref ali, .int mn, .ref ala, .ref anc, .ref ank, .ref ant, .int nx, .ref aag, .ref abk, .ref atd, .ref ase])), (acd, aI K 120 cd), (akd, aI K 120 kd), (act, aJ K 120 ct), (ark, aI K 10 rk1), (arr, aJ K 10 rr1), (ali, aI K 120 fl), (ala, aI K 120 fla), (anc, aI K 120 nc), (ank, aI K 120 nk), (ant, aJ K 120 nt), (aag, aI K 120 fag), (abk, aI K 120 fbk), (atd, aI K 120 ftd), (ase, aZ K 120 fse)] rfl rfl (by decide) rfl (st := []) rfl (Nat.le_of_ble_eq_true rfl) (by decide) ⟨by decide, by decide⟩ dX4_cons_1 (fun v9 w9 h9 => ?_)
          obtain ⟨rfl, rfl⟩ := h9
          refine lx_perm [0, 1, 2, 3, 4, 5, 6, 7, 8, 9, 10, 11, 12, 13, 14] [(y, .inr (4, [.int th, .ref acd, .ref akd, .ref act, .int (nI u), .ref ark, .ref arr, .int z, .int kk, .long kc, .ref ali, .int mn, .ref ala, .ref anc, .ref ank, .ref ant, .int nx, .ref aag, .ref abk, .ref atd, .ref ase])), (acd, aI K 120 cd), (akd, aI K 120 kd), (act, aJ K 120 ct), (ark, aI K 10 rk1), (arr, aJ K 10 rr1), (ali, aI K 120 fl), (ala, aI K 120 fla), (anc, aI K 120 nc), (ank, aI K 120 nk), (ant, aJ K 120 nt), (aag, aI K 120 fag), (abk, aI K 120 fbk), (atd, aI K 120 ftd), (ase, aZ K 120 fse)] (by decide) rfl ?_
          refine lx_st (a' := 0) (b' := 0) [.int (bI false)] rfl rfl rfl ?_
          refine lx_if_ne F 21 dX4_cons_4 rfl (fun h => absurd (by decide) h) (fun _ => ?_)
          refine lx_iload_n F dX4_cons_7 2 rfl ?_
          refine lx_cs F (zr_none2 (xl E) K (nI j) false (lm_none_n hj)) cs_X4_102 [] [0, 1, 2, 3, 4, 5, 6, 7, 8, 9, 10, 11, 12, 13, 14] [(y, .inr (4, [.int th, .ref acd, .ref akd, .ref act, .int (nI u), .ref ark, .ref arr, .int z, .int kk, .long kc, .ref ali, .int mn, .ref ala, .ref anc, .ref ank, .ref ant, .int nx, .ref aag, .ref abk, .ref atd, .ref ase])), (acd, aI K 120 cd), (akd, aI K 120 kd), (act, aJ K 120 ct), (ark, aI K 10 rk1), (arr, aJ K 10 rr1), (ali, aI K 120 fl), (ala, aI K 120 fla), (anc, aI K 120 nc), (ank, aI K 120 nk), (ant, aJ K 120 nt), (aag, aI K 120 fag), (abk, aI K 120 fbk), (atd, aI K 120 ftd), (ase, aZ K 120 fse)] rfl rfl (by decide) rfl (st := []) rfl (Nat.le_of_ble_eq_true rfl) (by decide) ⟨by decide, by decide⟩ dX4_cons_8 (fun v9 w9 h9 => ?_)
          obtain ⟨rfl, rfl⟩ := h9
          refine lx_perm [0, 1, 2, 3, 4, 5, 6, 7, 8, 9, 10, 11, 12, 13, 14] [(y, .inr (4, [.int th, .ref acd, .ref akd, .ref act, .int (nI u), .ref ark, .ref arr, .int z, .int kk, .long kc, .ref ali, .int mn, .ref ala, .ref anc, .ref ank, .ref ant, .int nx, .ref aag, .ref abk, .ref atd, .ref ase])), (acd, aI K 120 cd), (akd, aI K 120 kd), (act, aJ K 120 ct), (ark, aI K 10 rk1), (arr, aJ K 10 rr1), (ali, aI K 120 fl), (ala, aI K 120 fla), (anc, aI K 120 nc), (ank, aI K 120 nk), (ant, aJ K 120 nt), (aag, aI K 120 fag), (abk, aI K 120 fbk), (atd, aI K 120 ftd), (ase, aZ K 120 fse)] (by decide) rfl ?_
          refine lx_st (a' := 0) (b' := 0) [.int (bI false)] rfl rfl rfl ?_
          refine lx_if_ne F 21 dX4_cons_11 rfl (fun h => absurd (by decide) h) (fun _ => ?_)
          refine lx_iload_n F dX4_cons_14 3 rfl ?_
          refine lx_cs F (zr_none2 (xl E) K (nI i) false (lm_none_n hi)) cs_X4_102 [] [0, 1, 2, 3, 4, 5, 6, 7, 8, 9, 10, 11, 12, 13, 14] [(y, .inr (4, [.int th, .ref acd, .ref akd, .ref act, .int (nI u), .ref ark, .ref arr, .int z, .int kk, .long kc, .ref ali, .int mn, .ref ala, .ref anc, .ref ank, .ref ant, .int nx, .ref aag, .ref abk, .ref atd, .ref ase])), (acd, aI K 120 cd), (akd, aI K 120 kd), (act, aJ K 120 ct), (ark, aI K 10 rk1), (arr, aJ K 10 rr1), (ali, aI K 120 fl), (ala, aI K 120 fla), (anc, aI K 120 nc), (ank, aI K 120 nk), (ant, aJ K 120 nt), (aag, aI K 120 fag), (abk, aI K 120 fbk), (atd, aI K 120 ftd), (ase, aZ K 120 fse)] rfl rfl (by decide) rfl (st := []) rfl (Nat.le_of_ble_eq_true rfl) (by decide) ⟨by decide, by decide⟩ dX4_cons_15 (fun v9 w9 h9 => ?_)
          obtain ⟨rfl, rfl⟩ := h9
          refine lx_perm [0, 1, 2, 3, 4, 5, 6, 7, 8, 9, 10, 11, 12, 13, 14] [(y, .inr (4, [.int th, .ref acd, .ref akd, .ref act, .int (nI u), .ref ark, .ref arr, .int z, .int kk, .long kc, .ref ali, .int mn, .ref ala, .ref anc, .ref ank, .ref ant, .int nx, .ref aag, .ref abk, .ref atd, .ref ase])), (acd, aI K 120 cd), (akd, aI K 120 kd), (act, aJ K 120 ct), (ark, aI K 10 rk1), (arr, aJ K 10 rr1), (ali, aI K 120 fl), (ala, aI K 120 fla), (anc, aI K 120 nc), (ank, aI K 120 nk), (ant, aJ K 120 nt), (aag, aI K 120 fag), (abk, aI K 120 fbk), (atd, aI K 120 ftd), (ase, aZ K 120 fse)] (by decide) rfl ?_
          refine lx_st (a' := 0) (b' := 0) [.int (bI false)] rfl rfl rfl ?_
          refine lx_if_eq F 25 dX4_cons_18 rfl (fun _ => ?_) (fun h => absurd (by decide) h)
          refine lx_iconst F dX4_cons_25 kc_0 ?_
          refine lx_istore F [(0, .ref y), (1, .int (nI k)), (2, .int (nI j)), (3, .int (nI i)), (4, .int (nI 0))] [1, 2, 3, 4, 0] dX4_cons_26 rfl (by decide) ?_
          refine lx_aload_n F dX4_cons_28 0 rfl ?_
          refine lx_iload F dX4_cons_29 4 rfl ?_
          refine lx_iload F dX4_cons_31 4 rfl ?_
          refine lx_ifN_ne F 48 (by omega) dX4_cons_33 rfl (fun h => absurd h (by omega)) (fun _ => ?_)
          refine lx_aload_n F dX4_cons_36 0 rfl ?_
          refine lx_iconst F dX4_cons_37 kc_2 ?_
          refine lx_cv F (zR_room (xl E) K y c w u rt z hst th _ ⟨_, _, _, _, _, _, _, _, _, _, _, _, _, _, _, _, _, _, _, _, _, _, _, _, _, _, _, _, _, _, _, _, hh, hro, rfl⟩ 2 (by omega) (c1, w1, u1, rt1, z1) hσ true (decide_eq_true hfit)) cv_X4_117 0 rfl rfl [0, 1, 2, 3, 4, 5, 6, 7, 8, 9, 10, 11, 12, 13, 14] [] [] rfl rfl (by decide) rfl (st := [.int (nI 0), .ref y]) rfl (Nat.le_of_ble_eq_true rfl) (by decide) ⟨by decide, by decide⟩ dX4_cons_38 (fun v9 w9 h9 => ?_)
          obtain ⟨rfl, acd1, akd1, act1, ark1, arr1, ali1, ala1, anc1, ank1, ant1, aag1, abk1, atd1, ase1, kk1, kc1, mn1, nx1, cd1, kd1, ct1, rk11, rr11, fl1, fla1, nc1, nk1, nt1, fag1, fbk1, ftd1, fse1, hh1, hro1, rfl⟩ := h9
          refine lx_perm [0, 1, 2, 3, 4, 5, 6, 7, 8, 9, 10, 11, 12, 13, 14] [(y, .inr (4, [.int th, .ref acd1, .ref akd1, .ref act1, .int (nI u1), .ref ark1, .ref arr1, .int z1, .int kk1, .long kc1, .ref ali1, .int mn1, .ref ala1, .ref anc1, .ref ank1, .ref ant1, .int nx1, .ref aag1, .ref abk1, .ref atd1, .ref ase1])), (acd1, aI K 120 cd1), (akd1, aI K 120 kd1), (act1, aJ K 120 ct1), (ark1, aI K 10 rk11), (arr1, aJ K 10 rr11), (ali1, aI K 120 fl1), (ala1, aI K 120 fla1), (anc1, aI K 120 nc1), (ank1, aI K 120 nk1), (ant1, aJ K 120 nt1), (aag1, aI K 120 fag1), (abk1, aI K 120 fbk1), (atd1, aI K 120 ftd1), (ase1, aZ K 120 fse1)] (by decide) rfl ?_
          refine lx_st (a' := 0) (b' := 0) [.int (bI true), .int (nI 0), .ref y] rfl rfl rfl ?_
          have hh1 : lm_mf cd1 kd1 ct1 c1 w1 u1 := hh1
          have hro1 : ∀ r, r < 10 → rk11 r = nI (rt1 r).1 ∧ rr11 r = jI (rt1 r).2 := hro1
          refine lx_if_ne F 48 dX4_cons_41 rfl (fun _ => ?_) (fun h => absurd h (by decide))
          refine lx_iconst F dX4_cons_48 kc_0 ?_
          refine lx_cv F (zr_refuse (xl E) K y acd1 akd1 act1 ark1 arr1 ali1 ala1 anc1 ank1 ant1 aag1 abk1 atd1 ase1 th z1 kk1 kc1 mn1 nx1 (nI u1) false false) cv_X4_110 0 rfl rfl [0] [1, 2, 3, 4, 5, 6, 7, 8, 9, 10, 11, 12, 13, 14] [(acd1, aI K 120 cd1), (akd1, aI K 120 kd1), (act1, aJ K 120 ct1), (ark1, aI K 10 rk11), (arr1, aJ K 10 rr11), (ali1, aI K 120 fl1), (ala1, aI K 120 fla1), (anc1, aI K 120 nc1), (ank1, aI K 120 nk1), (ant1, aJ K 120 nt1), (aag1, aI K 120 fag1), (abk1, aI K 120 fbk1), (atd1, aI K 120 ftd1), (ase1, aZ K 120 fse1)] rfl rfl (by decide) rfl (st := []) rfl (Nat.le_of_ble_eq_true rfl) (by decide) ⟨by decide, by decide⟩ dX4_cons_49 (fun v9 w9 h9 => ?_)
          obtain ⟨rfl, rfl⟩ := h9
          refine lx_perm [14, 0, 1, 2, 3, 4, 5, 6, 7, 8, 9, 10, 11, 12, 13] [(y, .inr (4, [.int (nI (lm_rf false false)), .ref acd1, .ref akd1, .ref act1, .int (nI u1), .ref ark1, .ref arr1, .int z1, .int kk1, .long kc1, .ref ali1, .int mn1, .ref ala1, .ref anc1, .ref ank1, .ref ant1, .int nx1, .ref aag1, .ref abk1, .ref atd1, .ref ase1])), (acd1, aI K 120 cd1), (akd1, aI K 120 kd1), (act1, aJ K 120 ct1), (ark1, aI K 10 rk11), (arr1, aJ K 10 rr11), (ali1, aI K 120 fl1), (ala1, aI K 120 fla1), (anc1, aI K 120 nc1), (ank1, aI K 120 nk1), (ant1, aJ K 120 nt1), (aag1, aI K 120 fag1), (abk1, aI K 120 fbk1), (atd1, aI K 120 ftd1), (ase1, aZ K 120 fse1)] (by decide) rfl ?_
          refine lx_st (a' := 0) (b' := 0) [.int (bI false)] rfl rfl rfl ?_
          refine lx_if_eq F 56 dX4_cons_52 rfl (fun _ => ?_) (fun h => absurd (by decide) h)
          refine lx_aload_n F dX4_cons_56 0 rfl ?_
          refine lx_iconst F dX4_cons_57 kc_2 ?_
          refine lx_aload_n F dX4_cons_58 0 rfl ?_
          refine gf_X4_20 F 0 rfl rfl dX4_cons_59 ?_
          refine lx_iload_n F dX4_cons_62 2 rfl ?_
          refine lx_iald F 4 j dX4_cons_63 rfl (by omega) (by decide) ?_
          rw [(hro1 j hj).1]
          refine lx_aload_n F dX4_cons_64 0 rfl ?_
          refine gf_X4_23 F 0 rfl rfl dX4_cons_65 ?_
          refine lx_iload_n F dX4_cons_68 2 rfl ?_
          refine lx_lald F 5 j dX4_cons_69 rfl (by omega) (by decide) ?_
          rw [(hro1 j hj).2]
          refine lx_cv F (zr_put (xl E) K y acd1 akd1 act1 ark1 arr1 ali1 ala1 anc1 ank1 ant1 aag1 abk1 atd1 ase1 (nI (lm_rf false false)) z1 kk1 kc1 mn1 nx1 cd1 kd1 ct1 (u1) (by omega) (nI 2) (nI (rt1 j).1) (jI (rt1 j).2)) cv_X4_120 0 rfl rfl [0, 1, 2, 3] [4, 5, 6, 7, 8, 9, 10, 11, 12, 13, 14] [(ark1, aI K 10 rk11), (arr1, aJ K 10 rr11), (ali1, aI K 120 fl1), (ala1, aI K 120 fla1), (anc1, aI K 120 nc1), (ank1, aI K 120 nk1), (ant1, aJ K 120 nt1), (aag1, aI K 120 fag1), (abk1, aI K 120 fbk1), (atd1, aI K 120 ftd1), (ase1, aZ K 120 fse1)] rfl rfl (by decide) rfl (st := []) rfl (Nat.le_of_ble_eq_true rfl) (by decide) ⟨by decide, by decide⟩ dX4_cons_70 (fun v9 w9 h9 => ?_)
          obtain ⟨rfl, rfl⟩ := h9
          refine lx_perm [11, 12, 13, 14, 0, 1, 2, 3, 4, 5, 6, 7, 8, 9, 10] [(y, .inr (4, [.int (nI (lm_rf false false)), .ref acd1, .ref akd1, .ref act1, .int (nI (u1 + 1)), .ref ark1, .ref arr1, .int z1, .int kk1, .long kc1, .ref ali1, .int mn1, .ref ala1, .ref anc1, .ref ank1, .ref ant1, .int nx1, .ref aag1, .ref abk1, .ref atd1, .ref ase1])), (acd1, aI K 120 (lm_up cd1 u1 (nI 2))), (akd1, aI K 120 (lm_up kd1 u1 (nI (rt1 j).1))), (act1, aJ K 120 (lm_up ct1 u1 (jI (rt1 j).2))), (ark1, aI K 10 rk11), (arr1, aJ K 10 rr11), (ali1, aI K 120 fl1), (ala1, aI K 120 fla1), (anc1, aI K 120 nc1), (ank1, aI K 120 nk1), (ant1, aJ K 120 nt1), (aag1, aI K 120 fag1), (abk1, aI K 120 fbk1), (atd1, aI K 120 ftd1), (ase1, aZ K 120 fse1)] (by decide) rfl ?_
          refine lx_st (a' := 0) (b' := 0) [.int (nI u1)] rfl rfl rfl ?_
          refine lx_istore F [(0, .ref y), (1, .int (nI k)), (2, .int (nI j)), (3, .int (nI i)), (4, .int (nI 0)), (5, .int (nI u1))] [1, 2, 3, 4, 5, 0] dX4_cons_73 rfl (by decide) ?_
          refine lx_aload_n F dX4_cons_75 0 rfl ?_
          refine lx_iconst F dX4_cons_76 kc_3 ?_
          refine lx_aload_n F dX4_cons_77 0 rfl ?_
          refine gf_X4_20 F 0 rfl rfl dX4_cons_78 ?_
          refine lx_iload_n F dX4_cons_81 3 rfl ?_
          refine lx_iald F 4 i dX4_cons_82 rfl (by omega) (by decide) ?_
          rw [(hro1 i hi).1]
          refine lx_aload_n F dX4_cons_83 0 rfl ?_
          refine gf_X4_23 F 0 rfl rfl dX4_cons_84 ?_
          refine lx_iload_n F dX4_cons_87 3 rfl ?_
          refine lx_lald F 5 i dX4_cons_88 rfl (by omega) (by decide) ?_
          rw [(hro1 i hi).2]
          refine lx_cv F (zr_put (xl E) K y acd1 akd1 act1 ark1 arr1 ali1 ala1 anc1 ank1 ant1 aag1 abk1 atd1 ase1 (nI (lm_rf false false)) z1 kk1 kc1 mn1 nx1 (lm_up cd1 u1 (nI 2)) (lm_up kd1 u1 (nI (rt1 j).1)) (lm_up ct1 u1 (jI (rt1 j).2)) (u1 + 1) (by omega) (nI 3) (nI (rt1 i).1) (jI (rt1 i).2)) cv_X4_120 0 rfl rfl [0, 1, 2, 3] [4, 5, 6, 7, 8, 9, 10, 11, 12, 13, 14] [(ark1, aI K 10 rk11), (arr1, aJ K 10 rr11), (ali1, aI K 120 fl1), (ala1, aI K 120 fla1), (anc1, aI K 120 nc1), (ank1, aI K 120 nk1), (ant1, aJ K 120 nt1), (aag1, aI K 120 fag1), (abk1, aI K 120 fbk1), (atd1, aI K 120 ftd1), (ase1, aZ K 120 fse1)] rfl rfl (by decide) rfl (st := []) rfl (Nat.le_of_ble_eq_true rfl) (by decide) ⟨by decide, by decide⟩ dX4_cons_89 (fun v9 w9 h9 => ?_)
          obtain ⟨rfl, rfl⟩ := h9
          refine lx_perm [11, 12, 13, 14, 0, 1, 2, 3, 4, 5, 6, 7, 8, 9, 10] [(y, .inr (4, [.int (nI (lm_rf false false)), .ref acd1, .ref akd1, .ref act1, .int (nI (u1 + 1 + 1)), .ref ark1, .ref arr1, .int z1, .int kk1, .long kc1, .ref ali1, .int mn1, .ref ala1, .ref anc1, .ref ank1, .ref ant1, .int nx1, .ref aag1, .ref abk1, .ref atd1, .ref ase1])), (acd1, aI K 120 (lm_up (lm_up cd1 u1 (nI 2)) (u1 + 1) (nI 3))), (akd1, aI K 120 (lm_up (lm_up kd1 u1 (nI (rt1 j).1)) (u1 + 1) (nI (rt1 i).1))), (act1, aJ K 120 (lm_up (lm_up ct1 u1 (jI (rt1 j).2)) (u1 + 1) (jI (rt1 i).2))), (ark1, aI K 10 rk11), (arr1, aJ K 10 rr11), (ali1, aI K 120 fl1), (ala1, aI K 120 fla1), (anc1, aI K 120 nc1), (ank1, aI K 120 nk1), (ant1, aJ K 120 nt1), (aag1, aI K 120 fag1), (abk1, aI K 120 fbk1), (atd1, aI K 120 ftd1), (ase1, aZ K 120 fse1)] (by decide) rfl ?_
          refine lx_st (a' := 0) (b' := 0) [.int (nI (u1 + 1))] rfl rfl rfl ?_
          refine lx_istore F [(0, .ref y), (1, .int (nI k)), (2, .int (nI j)), (3, .int (nI i)), (4, .int (nI 0)), (5, .int (nI u1)), (6, .int (nI (u1 + 1)))] [1, 2, 3, 4, 5, 6, 0] dX4_cons_92 rfl (by decide) ?_
          refine lx_aload_n F dX4_cons_94 0 rfl ?_
          refine lx_iload_n F dX4_cons_95 1 rfl ?_
          refine lx_iconst F dX4_cons_96 kc_2 ?_
          refine lx_iload F dX4_cons_97 5 rfl ?_
          refine lx_i2l F dX4_cons_99 (jI_i2l (by omega)) ?_
          refine lx_cv F (zr_setRoot (xl E) K y acd1 akd1 act1 ark1 arr1 ali1 ala1 anc1 ank1 ant1 aag1 abk1 atd1 ase1 (nI (lm_rf false false)) z1 kk1 kc1 mn1 nx1 (nI (u1 + 1 + 1)) rk11 rr11 k hk (nI 2) (jI ((u1 : Nat) : Int))) cv_X4_114 0 rfl rfl [0, 4, 5] [1, 2, 3, 6, 7, 8, 9, 10, 11, 12, 13, 14] [(acd1, aI K 120 (lm_up (lm_up cd1 u1 (nI 2)) (u1 + 1) (nI 3))), (akd1, aI K 120 (lm_up (lm_up kd1 u1 (nI (rt1 j).1)) (u1 + 1) (nI (rt1 i).1))), (act1, aJ K 120 (lm_up (lm_up ct1 u1 (jI (rt1 j).2)) (u1 + 1) (jI (rt1 i).2))), (ali1, aI K 120 fl1), (ala1, aI K 120 fla1), (anc1, aI K 120 nc1), (ank1, aI K 120 nk1), (ant1, aJ K 120 nt1), (aag1, aI K 120 fag1), (abk1, aI K 120 fbk1), (atd1, aI K 120 ftd1), (ase1, aZ K 120 fse1)] rfl rfl (by decide) rfl (st := []) rfl (Nat.le_of_ble_eq_true rfl) (by decide) ⟨by decide, by decide⟩ dX4_cons_100 (fun v9 w9 h9 => ?_)
          obtain ⟨rfl, rfl⟩ := h9
          refine lx_perm [12, 0, 1, 2, 13, 14, 3, 4, 5, 6, 7, 8, 9, 10, 11] [(y, .inr (4, [.int (nI (lm_rf false false)), .ref acd1, .ref akd1, .ref act1, .int (nI (u1 + 1 + 1)), .ref ark1, .ref arr1, .int z1, .int kk1, .long kc1, .ref ali1, .int mn1, .ref ala1, .ref anc1, .ref ank1, .ref ant1, .int nx1, .ref aag1, .ref abk1, .ref atd1, .ref ase1])), (acd1, aI K 120 (lm_up (lm_up cd1 u1 (nI 2)) (u1 + 1) (nI 3))), (akd1, aI K 120 (lm_up (lm_up kd1 u1 (nI (rt1 j).1)) (u1 + 1) (nI (rt1 i).1))), (act1, aJ K 120 (lm_up (lm_up ct1 u1 (jI (rt1 j).2)) (u1 + 1) (jI (rt1 i).2))), (ark1, aI K 10 (lm_up rk11 k (nI 2))), (arr1, aJ K 10 (lm_up rr11 k (jI ((u1 : Nat) : Int)))), (ali1, aI K 120 fl1), (ala1, aI K 120 fla1), (anc1, aI K 120 nc1), (ank1, aI K 120 nk1), (ant1, aJ K 120 nt1), (aag1, aI K 120 fag1), (abk1, aI K 120 fbk1), (atd1, aI K 120 ftd1), (ase1, aZ K 120 fse1)] (by decide) rfl ?_
          refine lx_st (a' := 0) (b' := 0) [] rfl rfl rfl ?_
          exact lx_vret F hR dX4_cons_103 ⟨rfl, by rw [show lm_oCons (nI k) (nI j) (nI i) (c, w, u, rt, z) = (0, lm_set (lm_ap (c1, w1, u1, rt1, z1) [(2, rt1 j), (3, rt1 i)]) k (2, ((u1 : Nat) : Int))) by unfold lm_oCons; rw [lm_none_n hk, lm_none_n hj, lm_none_n hi, if_neg (by decide), hσ, if_pos hfit, lm_ix_n hk, lm_ix_n hj, lm_ix_n hi]]; exact ⟨_, _, _, _, _, _, _, _, _, _, _, _, _, _, _, _, _, _, _, _, _, _, _, _, _, _, _, _, _, _, _, _, (lm_mf_2 hh1), (lm_ro_up (v := (2, ((u1 : Nat) : Int))) hro1), rfl⟩⟩
        · skip
          refine lx_iload_n F dX4_cons_0 1 rfl ?_
          refine lx_cs F (zr_none2 (xl E) K (nI k) false (lm_none_n hk)) cs_X4_102 [] [0, 1, 2, 3, 4, 5, 6, 7, 8, 9, 10, 11, 12, 13, 14] [(y, .inr (4, [.int th, .ref acd, .ref akd, .ref act, .int (nI u), .ref ark, .ref arr, .int z, .int kk, .long kc, .ref ali, .int mn, .ref ala, .ref anc, .ref ank, .ref ant, .int nx, .ref aag, .ref abk, .ref atd, .ref ase])), (acd, aI K 120 cd), (akd, aI K 120 kd), (act, aJ K 120 ct), (ark, aI K 10 rk1), (arr, aJ K 10 rr1), (ali, aI K 120 fl), (ala, aI K 120 fla), (anc, aI K 120 nc), (ank, aI K 120 nk), (ant, aJ K 120 nt), (aag, aI K 120 fag), (abk, aI K 120 fbk), (atd, aI K 120 ftd), (ase, aZ K 120 fse)] rfl rfl (by decide) rfl (st := []) rfl (Nat.le_of_ble_eq_true rfl) (by decide) ⟨by decide, by decide⟩ dX4_cons_1 (fun v9 w9 h9 => ?_)
          obtain ⟨rfl, rfl⟩ := h9
          refine lx_perm [0, 1, 2, 3, 4, 5, 6, 7, 8, 9, 10, 11, 12, 13, 14] [(y, .inr (4, [.int th, .ref acd, .ref akd, .ref act, .int (nI u), .ref ark, .ref arr, .int z, .int kk, .long kc, .ref ali, .int mn, .ref ala, .ref anc, .ref ank, .ref ant, .int nx, .ref aag, .ref abk, .ref atd, .ref ase])), (acd, aI K 120 cd), (akd, aI K 120 kd), (act, aJ K 120 ct), (ark, aI K 10 rk1), (arr, aJ K 10 rr1), (ali, aI K 120 fl), (ala, aI K 120 fla), (anc, aI K 120 nc), (ank, aI K 120 nk), (ant, aJ K 120 nt), (aag, aI K 120 fag), (abk, aI K 120 fbk), (atd, aI K 120 ftd), (ase, aZ K 120 fse)] (by decide) rfl ?_
          refine lx_st (a' := 0) (b' := 0) [.int (bI false)] rfl rfl rfl ?_
          refine lx_if_ne F 21 dX4_cons_4 rfl (fun h => absurd (by decide) h) (fun _ => ?_)
          refine lx_iload_n F dX4_cons_7 2 rfl ?_
          refine lx_cs F (zr_none2 (xl E) K (nI j) false (lm_none_n hj)) cs_X4_102 [] [0, 1, 2, 3, 4, 5, 6, 7, 8, 9, 10, 11, 12, 13, 14] [(y, .inr (4, [.int th, .ref acd, .ref akd, .ref act, .int (nI u), .ref ark, .ref arr, .int z, .int kk, .long kc, .ref ali, .int mn, .ref ala, .ref anc, .ref ank, .ref ant, .int nx, .ref aag, .ref abk, .ref atd, .ref ase])), (acd, aI K 120 cd), (akd, aI K 120 kd), (act, aJ K 120 ct), (ark, aI K 10 rk1), (arr, aJ K 10 rr1), (ali, aI K 120 fl), (ala, aI K 120 fla), (anc, aI K 120 nc), (ank, aI K 120 nk), (ant, aJ K 120 nt), (aag, aI K 120 fag), (abk, aI K 120 fbk), (atd, aI K 120 ftd), (ase, aZ K 120 fse)] rfl rfl (by decide) rfl (st := []) rfl (Nat.le_of_ble_eq_true rfl) (by decide) ⟨by decide, by decide⟩ dX4_cons_8 (fun v9 w9 h9 => ?_)
          obtain ⟨rfl, rfl⟩ := h9
          refine lx_perm [0, 1, 2, 3, 4, 5, 6, 7, 8, 9, 10, 11, 12, 13, 14] [(y, .inr (4, [.int th, .ref acd, .ref akd, .ref act, .int (nI u), .ref ark, .ref arr, .int z, .int kk, .long kc, .ref ali, .int mn, .ref ala, .ref anc, .ref ank, .ref ant, .int nx, .ref aag, .ref abk, .ref atd, .ref ase])), (acd, aI K 120 cd), (akd, aI K 120 kd), (act, aJ K 120 ct), (ark, aI K 10 rk1), (arr, aJ K 10 rr1), (ali, aI K 120 fl), (ala, aI K 120 fla), (anc, aI K 120 nc), (ank, aI K 120 nk), (ant, aJ K 120 nt), (aag, aI K 120 fag), (abk, aI K 120 fbk), (atd, aI K 120 ftd), (ase, aZ K 120 fse)] (by decide) rfl ?_
          refine lx_st (a' := 0) (b' := 0) [.int (bI false)] rfl rfl rfl ?_
          refine lx_if_ne F 21 dX4_cons_11 rfl (fun h => absurd (by decide) h) (fun _ => ?_)
          refine lx_iload_n F dX4_cons_14 3 rfl ?_
          refine lx_cs F (zr_none2 (xl E) K (nI i) false (lm_none_n hi)) cs_X4_102 [] [0, 1, 2, 3, 4, 5, 6, 7, 8, 9, 10, 11, 12, 13, 14] [(y, .inr (4, [.int th, .ref acd, .ref akd, .ref act, .int (nI u), .ref ark, .ref arr, .int z, .int kk, .long kc, .ref ali, .int mn, .ref ala, .ref anc, .ref ank, .ref ant, .int nx, .ref aag, .ref abk, .ref atd, .ref ase])), (acd, aI K 120 cd), (akd, aI K 120 kd), (act, aJ K 120 ct), (ark, aI K 10 rk1), (arr, aJ K 10 rr1), (ali, aI K 120 fl), (ala, aI K 120 fla), (anc, aI K 120 nc), (ank, aI K 120 nk), (ant, aJ K 120 nt), (aag, aI K 120 fag), (abk, aI K 120 fbk), (atd, aI K 120 ftd), (ase, aZ K 120 fse)] rfl rfl (by decide) rfl (st := []) rfl (Nat.le_of_ble_eq_true rfl) (by decide) ⟨by decide, by decide⟩ dX4_cons_15 (fun v9 w9 h9 => ?_)
          obtain ⟨rfl, rfl⟩ := h9
          refine lx_perm [0, 1, 2, 3, 4, 5, 6, 7, 8, 9, 10, 11, 12, 13, 14] [(y, .inr (4, [.int th, .ref acd, .ref akd, .ref act, .int (nI u), .ref ark, .ref arr, .int z, .int kk, .long kc, .ref ali, .int mn, .ref ala, .ref anc, .ref ank, .ref ant, .int nx, .ref aag, .ref abk, .ref atd, .ref ase])), (acd, aI K 120 cd), (akd, aI K 120 kd), (act, aJ K 120 ct), (ark, aI K 10 rk1), (arr, aJ K 10 rr1), (ali, aI K 120 fl), (ala, aI K 120 fla), (anc, aI K 120 nc), (ank, aI K 120 nk), (ant, aJ K 120 nt), (aag, aI K 120 fag), (abk, aI K 120 fbk), (atd, aI K 120 ftd), (ase, aZ K 120 fse)] (by decide) rfl ?_
          refine lx_st (a' := 0) (b' := 0) [.int (bI false)] rfl rfl rfl ?_
          refine lx_if_eq F 25 dX4_cons_18 rfl (fun _ => ?_) (fun h => absurd (by decide) h)
          refine lx_iconst F dX4_cons_25 kc_0 ?_
          refine lx_istore F [(0, .ref y), (1, .int (nI k)), (2, .int (nI j)), (3, .int (nI i)), (4, .int (nI 0))] [1, 2, 3, 4, 0] dX4_cons_26 rfl (by decide) ?_
          refine lx_aload_n F dX4_cons_28 0 rfl ?_
          refine lx_iload F dX4_cons_29 4 rfl ?_
          refine lx_iload F dX4_cons_31 4 rfl ?_
          refine lx_ifN_ne F 48 (by omega) dX4_cons_33 rfl (fun h => absurd h (by omega)) (fun _ => ?_)
          refine lx_aload_n F dX4_cons_36 0 rfl ?_
          refine lx_iconst F dX4_cons_37 kc_2 ?_
          refine lx_cv F (zR_room (xl E) K y c w u rt z hst th _ ⟨_, _, _, _, _, _, _, _, _, _, _, _, _, _, _, _, _, _, _, _, _, _, _, _, _, _, _, _, _, _, _, _, hh, hro, rfl⟩ 2 (by omega) (c1, w1, u1, rt1, z1) hσ false (decide_eq_false hfit)) cv_X4_117 0 rfl rfl [0, 1, 2, 3, 4, 5, 6, 7, 8, 9, 10, 11, 12, 13, 14] [] [] rfl rfl (by decide) rfl (st := [.int (nI 0), .ref y]) rfl (Nat.le_of_ble_eq_true rfl) (by decide) ⟨by decide, by decide⟩ dX4_cons_38 (fun v9 w9 h9 => ?_)
          obtain ⟨rfl, acd1, akd1, act1, ark1, arr1, ali1, ala1, anc1, ank1, ant1, aag1, abk1, atd1, ase1, kk1, kc1, mn1, nx1, cd1, kd1, ct1, rk11, rr11, fl1, fla1, nc1, nk1, nt1, fag1, fbk1, ftd1, fse1, hh1, hro1, rfl⟩ := h9
          refine lx_perm [0, 1, 2, 3, 4, 5, 6, 7, 8, 9, 10, 11, 12, 13, 14] [(y, .inr (4, [.int th, .ref acd1, .ref akd1, .ref act1, .int (nI u1), .ref ark1, .ref arr1, .int z1, .int kk1, .long kc1, .ref ali1, .int mn1, .ref ala1, .ref anc1, .ref ank1, .ref ant1, .int nx1, .ref aag1, .ref abk1, .ref atd1, .ref ase1])), (acd1, aI K 120 cd1), (akd1, aI K 120 kd1), (act1, aJ K 120 ct1), (ark1, aI K 10 rk11), (arr1, aJ K 10 rr11), (ali1, aI K 120 fl1), (ala1, aI K 120 fla1), (anc1, aI K 120 nc1), (ank1, aI K 120 nk1), (ant1, aJ K 120 nt1), (aag1, aI K 120 fag1), (abk1, aI K 120 fbk1), (atd1, aI K 120 ftd1), (ase1, aZ K 120 fse1)] (by decide) rfl ?_
          refine lx_st (a' := 0) (b' := 0) [.int (bI false), .int (nI 0), .ref y] rfl rfl rfl ?_
          have hh1 : lm_mf cd1 kd1 ct1 c1 w1 u1 := hh1
          have hro1 : ∀ r, r < 10 → rk11 r = nI (rt1 r).1 ∧ rr11 r = jI (rt1 r).2 := hro1
          refine lx_if_ne F 48 dX4_cons_41 rfl (fun h => absurd (by decide) h) (fun _ => ?_)
          refine lx_iconst F dX4_cons_44 kc_1 ?_
          refine lx_goto F 49 dX4_cons_45 rfl ?_
          refine lx_cv F (zr_refuse (xl E) K y acd1 akd1 act1 ark1 arr1 ali1 ala1 anc1 ank1 ant1 aag1 abk1 atd1 ase1 th z1 kk1 kc1 mn1 nx1 (nI u1) false true) cv_X4_110 0 rfl rfl [0] [1, 2, 3, 4, 5, 6, 7, 8, 9, 10, 11, 12, 13, 14] [(acd1, aI K 120 cd1), (akd1, aI K 120 kd1), (act1, aJ K 120 ct1), (ark1, aI K 10 rk11), (arr1, aJ K 10 rr11), (ali1, aI K 120 fl1), (ala1, aI K 120 fla1), (anc1, aI K 120 nc1), (ank1, aI K 120 nk1), (ant1, aJ K 120 nt1), (aag1, aI K 120 fag1), (abk1, aI K 120 fbk1), (atd1, aI K 120 ftd1), (ase1, aZ K 120 fse1)] rfl rfl (by decide) rfl (st := []) rfl (Nat.le_of_ble_eq_true rfl) (by decide) ⟨by decide, by decide⟩ dX4_cons_49 (fun v9 w9 h9 => ?_)
          obtain ⟨rfl, rfl⟩ := h9
          refine lx_perm [14, 0, 1, 2, 3, 4, 5, 6, 7, 8, 9, 10, 11, 12, 13] [(y, .inr (4, [.int (nI (lm_rf false true)), .ref acd1, .ref akd1, .ref act1, .int (nI u1), .ref ark1, .ref arr1, .int z1, .int kk1, .long kc1, .ref ali1, .int mn1, .ref ala1, .ref anc1, .ref ank1, .ref ant1, .int nx1, .ref aag1, .ref abk1, .ref atd1, .ref ase1])), (acd1, aI K 120 cd1), (akd1, aI K 120 kd1), (act1, aJ K 120 ct1), (ark1, aI K 10 rk11), (arr1, aJ K 10 rr11), (ali1, aI K 120 fl1), (ala1, aI K 120 fla1), (anc1, aI K 120 nc1), (ank1, aI K 120 nk1), (ant1, aJ K 120 nt1), (aag1, aI K 120 fag1), (abk1, aI K 120 fbk1), (atd1, aI K 120 ftd1), (ase1, aZ K 120 fse1)] (by decide) rfl ?_
          refine lx_st (a' := 0) (b' := 0) [.int (bI true)] rfl rfl rfl ?_
          refine lx_if_eq F 56 dX4_cons_52 rfl (fun h => absurd h (by decide)) (fun _ => ?_)
          exact lx_vret F hR dX4_cons_55 ⟨rfl, by rw [show lm_oCons (nI k) (nI j) (nI i) (c, w, u, rt, z) = (2, (c1, w1, u1, rt1, z1)) by unfold lm_oCons; rw [lm_none_n hk, lm_none_n hj, lm_none_n hi, if_neg (by decide), hσ, if_neg hfit]]; exact ⟨_, _, _, _, _, _, _, _, _, _, _, _, _, _, _, _, _, _, _, _, _, _, _, _, _, _, _, _, _, _, _, _, hh1, hro1, rfl⟩⟩
      · skip
        refine lx_iload_n F dX4_cons_0 1 rfl ?_
        refine lx_cs F (zr_none2 (xl E) K (nI k) false (lm_none_n hk)) cs_X4_102 [] [0, 1, 2, 3, 4, 5, 6, 7, 8, 9, 10, 11, 12, 13, 14] [(y, .inr (4, [.int th, .ref acd, .ref akd, .ref act, .int (nI u), .ref ark, .ref arr, .int z, .int kk, .long kc, .ref ali, .int mn, .ref ala, .ref anc, .ref ank, .ref ant, .int nx, .ref aag, .ref abk, .ref atd, .ref ase])), (acd, aI K 120 cd), (akd, aI K 120 kd), (act, aJ K 120 ct), (ark, aI K 10 rk1), (arr, aJ K 10 rr1), (ali, aI K 120 fl), (ala, aI K 120 fla), (anc, aI K 120 nc), (ank, aI K 120 nk), (ant, aJ K 120 nt), (aag, aI K 120 fag), (abk, aI K 120 fbk), (atd, aI K 120 ftd), (ase, aZ K 120 fse)] rfl rfl (by decide) rfl (st := []) rfl (Nat.le_of_ble_eq_true rfl) (by decide) ⟨by decide, by decide⟩ dX4_cons_1 (fun v9 w9 h9 => ?_)
        obtain ⟨rfl, rfl⟩ := h9
        refine lx_perm [0, 1, 2, 3, 4, 5, 6, 7, 8, 9, 10, 11, 12, 13, 14] [(y, .inr (4, [.int th, .ref acd, .ref akd, .ref act, .int (nI u), .ref ark, .ref arr, .int z, .int kk, .long kc, .ref ali, .int mn, .ref ala, .ref anc, .ref ank, .ref ant, .int nx, .ref aag, .ref abk, .ref atd, .ref ase])), (acd, aI K 120 cd), (akd, aI K 120 kd), (act, aJ K 120 ct), (ark, aI K 10 rk1), (arr, aJ K 10 rr1), (ali, aI K 120 fl), (ala, aI K 120 fla), (anc, aI K 120 nc), (ank, aI K 120 nk), (ant, aJ K 120 nt), (aag, aI K 120 fag), (abk, aI K 120 fbk), (atd, aI K 120 ftd), (ase, aZ K 120 fse)] (by decide) rfl ?_
        refine lx_st (a' := 0) (b' := 0) [.int (bI false)] rfl rfl rfl ?_
        refine lx_if_ne F 21 dX4_cons_4 rfl (fun h => absurd (by decide) h) (fun _ => ?_)
        refine lx_iload_n F dX4_cons_7 2 rfl ?_
        refine lx_cs F (zr_none2 (xl E) K (nI j) false (lm_none_n hj)) cs_X4_102 [] [0, 1, 2, 3, 4, 5, 6, 7, 8, 9, 10, 11, 12, 13, 14] [(y, .inr (4, [.int th, .ref acd, .ref akd, .ref act, .int (nI u), .ref ark, .ref arr, .int z, .int kk, .long kc, .ref ali, .int mn, .ref ala, .ref anc, .ref ank, .ref ant, .int nx, .ref aag, .ref abk, .ref atd, .ref ase])), (acd, aI K 120 cd), (akd, aI K 120 kd), (act, aJ K 120 ct), (ark, aI K 10 rk1), (arr, aJ K 10 rr1), (ali, aI K 120 fl), (ala, aI K 120 fla), (anc, aI K 120 nc), (ank, aI K 120 nk), (ant, aJ K 120 nt), (aag, aI K 120 fag), (abk, aI K 120 fbk), (atd, aI K 120 ftd), (ase, aZ K 120 fse)] rfl rfl (by decide) rfl (st := []) rfl (Nat.le_of_ble_eq_true rfl) (by decide) ⟨by decide, by decide⟩ dX4_cons_8 (fun v9 w9 h9 => ?_)
        obtain ⟨rfl, rfl⟩ := h9
        refine lx_perm [0, 1, 2, 3, 4, 5, 6, 7, 8, 9, 10, 11, 12, 13, 14] [(y, .inr (4, [.int th, .ref acd, .ref akd, .ref act, .int (nI u), .ref ark, .ref arr, .int z, .int kk, .long kc, .ref ali, .int mn, .ref ala, .ref anc, .ref ank, .ref ant, .int nx, .ref aag, .ref abk, .ref atd, .ref ase])), (acd, aI K 120 cd), (akd, aI K 120 kd), (act, aJ K 120 ct), (ark, aI K 10 rk1), (arr, aJ K 10 rr1), (ali, aI K 120 fl), (ala, aI K 120 fla), (anc, aI K 120 nc), (ank, aI K 120 nk), (ant, aJ K 120 nt), (aag, aI K 120 fag), (abk, aI K 120 fbk), (atd, aI K 120 ftd), (ase, aZ K 120 fse)] (by decide) rfl ?_
        refine lx_st (a' := 0) (b' := 0) [.int (bI false)] rfl rfl rfl ?_
        refine lx_if_ne F 21 dX4_cons_11 rfl (fun h => absurd (by decide) h) (fun _ => ?_)
        refine lx_iload_n F dX4_cons_14 3 rfl ?_
        refine lx_cs F (zr_none2 (xl E) K t true hnt) cs_X4_102 [] [0, 1, 2, 3, 4, 5, 6, 7, 8, 9, 10, 11, 12, 13, 14] [(y, .inr (4, [.int th, .ref acd, .ref akd, .ref act, .int (nI u), .ref ark, .ref arr, .int z, .int kk, .long kc, .ref ali, .int mn, .ref ala, .ref anc, .ref ank, .ref ant, .int nx, .ref aag, .ref abk, .ref atd, .ref ase])), (acd, aI K 120 cd), (akd, aI K 120 kd), (act, aJ K 120 ct), (ark, aI K 10 rk1), (arr, aJ K 10 rr1), (ali, aI K 120 fl), (ala, aI K 120 fla), (anc, aI K 120 nc), (ank, aI K 120 nk), (ant, aJ K 120 nt), (aag, aI K 120 fag), (abk, aI K 120 fbk), (atd, aI K 120 ftd), (ase, aZ K 120 fse)] rfl rfl (by decide) rfl (st := []) rfl (Nat.le_of_ble_eq_true rfl) (by decide) ⟨by decide, by decide⟩ dX4_cons_15 (fun v9 w9 h9 => ?_)
        obtain ⟨rfl, rfl⟩ := h9
        refine lx_perm [0, 1, 2, 3, 4, 5, 6, 7, 8, 9, 10, 11, 12, 13, 14] [(y, .inr (4, [.int th, .ref acd, .ref akd, .ref act, .int (nI u), .ref ark, .ref arr, .int z, .int kk, .long kc, .ref ali, .int mn, .ref ala, .ref anc, .ref ank, .ref ant, .int nx, .ref aag, .ref abk, .ref atd, .ref ase])), (acd, aI K 120 cd), (akd, aI K 120 kd), (act, aJ K 120 ct), (ark, aI K 10 rk1), (arr, aJ K 10 rr1), (ali, aI K 120 fl), (ala, aI K 120 fla), (anc, aI K 120 nc), (ank, aI K 120 nk), (ant, aJ K 120 nt), (aag, aI K 120 fag), (abk, aI K 120 fbk), (atd, aI K 120 ftd), (ase, aZ K 120 fse)] (by decide) rfl ?_
        refine lx_st (a' := 0) (b' := 0) [.int (bI true)] rfl rfl rfl ?_
        refine lx_if_eq F 25 dX4_cons_18 rfl (fun h => absurd h (by decide)) (fun _ => ?_)
        refine lx_iconst F dX4_cons_21 kc_1 ?_
        refine lx_goto F 26 dX4_cons_22 rfl ?_
        refine lx_istore F [(0, .ref y), (1, .int (nI k)), (2, .int (nI j)), (3, .int t), (4, .int (nI 1))] [1, 2, 3, 4, 0] dX4_cons_26 rfl (by decide) ?_
        refine lx_aload_n F dX4_cons_28 0 rfl ?_
        refine lx_iload F dX4_cons_29 4 rfl ?_
        refine lx_iload F dX4_cons_31 4 rfl ?_
        refine lx_ifN_ne F 48 (by omega) dX4_cons_33 rfl (fun _ => ?_) (fun h => absurd h (by omega))
        refine lx_iconst F dX4_cons_48 kc_0 ?_
        refine lx_cv F (zr_refuse (xl E) K y acd akd act ark arr ali ala anc ank ant aag abk atd ase th z kk kc mn nx (nI u) true false) cv_X4_110 0 rfl rfl [0] [1, 2, 3, 4, 5, 6, 7, 8, 9, 10, 11, 12, 13, 14] [(acd, aI K 120 cd), (akd, aI K 120 kd), (act, aJ K 120 ct), (ark, aI K 10 rk1), (arr, aJ K 10 rr1), (ali, aI K 120 fl), (ala, aI K 120 fla), (anc, aI K 120 nc), (ank, aI K 120 nk), (ant, aJ K 120 nt), (aag, aI K 120 fag), (abk, aI K 120 fbk), (atd, aI K 120 ftd), (ase, aZ K 120 fse)] rfl rfl (by decide) rfl (st := []) rfl (Nat.le_of_ble_eq_true rfl) (by decide) ⟨by decide, by decide⟩ dX4_cons_49 (fun v9 w9 h9 => ?_)
        obtain ⟨rfl, rfl⟩ := h9
        refine lx_perm [14, 0, 1, 2, 3, 4, 5, 6, 7, 8, 9, 10, 11, 12, 13] [(y, .inr (4, [.int (nI (lm_rf true false)), .ref acd, .ref akd, .ref act, .int (nI u), .ref ark, .ref arr, .int z, .int kk, .long kc, .ref ali, .int mn, .ref ala, .ref anc, .ref ank, .ref ant, .int nx, .ref aag, .ref abk, .ref atd, .ref ase])), (acd, aI K 120 cd), (akd, aI K 120 kd), (act, aJ K 120 ct), (ark, aI K 10 rk1), (arr, aJ K 10 rr1), (ali, aI K 120 fl), (ala, aI K 120 fla), (anc, aI K 120 nc), (ank, aI K 120 nk), (ant, aJ K 120 nt), (aag, aI K 120 fag), (abk, aI K 120 fbk), (atd, aI K 120 ftd), (ase, aZ K 120 fse)] (by decide) rfl ?_
        refine lx_st (a' := 0) (b' := 0) [.int (bI true)] rfl rfl rfl ?_
        refine lx_if_eq F 56 dX4_cons_52 rfl (fun h => absurd h (by decide)) (fun _ => ?_)
        exact lx_vret F hR dX4_cons_55 ⟨rfl, by rw [show lm_oCons (nI k) (nI j) t (c, w, u, rt, z) = (1, (c, w, u, rt, z)) by unfold lm_oCons; rw [lm_none_n hk, lm_none_n hj, hnt]; rfl]; exact ⟨_, _, _, _, _, _, _, _, _, _, _, _, _, _, _, _, _, _, _, _, _, _, _, _, _, _, _, _, _, _, _, _, hh, hro, rfl⟩⟩
    · skip
      refine lx_iload_n F dX4_cons_0 1 rfl ?_
      refine lx_cs F (zr_none2 (xl E) K (nI k) false (lm_none_n hk)) cs_X4_102 [] [0, 1, 2, 3, 4, 5, 6, 7, 8, 9, 10, 11, 12, 13, 14] [(y, .inr (4, [.int th, .ref acd, .ref akd, .ref act, .int (nI u), .ref ark, .ref arr, .int z, .int kk, .long kc, .ref ali, .int mn, .ref ala, .ref anc, .ref ank, .ref ant, .int nx, .ref aag, .ref abk, .ref atd, .ref ase])), (acd, aI K 120 cd), (akd, aI K 120 kd), (act, aJ K 120 ct), (ark, aI K 10 rk1), (arr, aJ K 10 rr1), (ali, aI K 120 fl), (ala, aI K 120 fla), (anc, aI K 120 nc), (ank, aI K 120 nk), (ant, aJ K 120 nt), (aag, aI K 120 fag), (abk, aI K 120 fbk), (atd, aI K 120 ftd), (ase, aZ K 120 fse)] rfl rfl (by decide) rfl (st := []) rfl (Nat.le_of_ble_eq_true rfl) (by decide) ⟨by decide, by decide⟩ dX4_cons_1 (fun v9 w9 h9 => ?_)
      obtain ⟨rfl, rfl⟩ := h9
      refine lx_perm [0, 1, 2, 3, 4, 5, 6, 7, 8, 9, 10, 11, 12, 13, 14] [(y, .inr (4, [.int th, .ref acd, .ref akd, .ref act, .int (nI u), .ref ark, .ref arr, .int z, .int kk, .long kc, .ref ali, .int mn, .ref ala, .ref anc, .ref ank, .ref ant, .int nx, .ref aag, .ref abk, .ref atd, .ref ase])), (acd, aI K 120 cd), (akd, aI K 120 kd), (act, aJ K 120 ct), (ark, aI K 10 rk1), (arr, aJ K 10 rr1), (ali, aI K 120 fl), (ala, aI K 120 fla), (anc, aI K 120 nc), (ank, aI K 120 nk), (ant, aJ K 120 nt), (aag, aI K 120 fag), (abk, aI K 120 fbk), (atd, aI K 120 ftd), (ase, aZ K 120 fse)] (by decide) rfl ?_
      refine lx_st (a' := 0) (b' := 0) [.int (bI false)] rfl rfl rfl ?_
      refine lx_if_ne F 21 dX4_cons_4 rfl (fun h => absurd (by decide) h) (fun _ => ?_)
      refine lx_iload_n F dX4_cons_7 2 rfl ?_
      refine lx_cs F (zr_none2 (xl E) K f true hnf) cs_X4_102 [] [0, 1, 2, 3, 4, 5, 6, 7, 8, 9, 10, 11, 12, 13, 14] [(y, .inr (4, [.int th, .ref acd, .ref akd, .ref act, .int (nI u), .ref ark, .ref arr, .int z, .int kk, .long kc, .ref ali, .int mn, .ref ala, .ref anc, .ref ank, .ref ant, .int nx, .ref aag, .ref abk, .ref atd, .ref ase])), (acd, aI K 120 cd), (akd, aI K 120 kd), (act, aJ K 120 ct), (ark, aI K 10 rk1), (arr, aJ K 10 rr1), (ali, aI K 120 fl), (ala, aI K 120 fla), (anc, aI K 120 nc), (ank, aI K 120 nk), (ant, aJ K 120 nt), (aag, aI K 120 fag), (abk, aI K 120 fbk), (atd, aI K 120 ftd), (ase, aZ K 120 fse)] rfl rfl (by decide) rfl (st := []) rfl (Nat.le_of_ble_eq_true rfl) (by decide) ⟨by decide, by decide⟩ dX4_cons_8 (fun v9 w9 h9 => ?_)
      obtain ⟨rfl, rfl⟩ := h9
      refine lx_perm [0, 1, 2, 3, 4, 5, 6, 7, 8, 9, 10, 11, 12, 13, 14] [(y, .inr (4, [.int th, .ref acd, .ref akd, .ref act, .int (nI u), .ref ark, .ref arr, .int z, .int kk, .long kc, .ref ali, .int mn, .ref ala, .ref anc, .ref ank, .ref ant, .int nx, .ref aag, .ref abk, .ref atd, .ref ase])), (acd, aI K 120 cd), (akd, aI K 120 kd), (act, aJ K 120 ct), (ark, aI K 10 rk1), (arr, aJ K 10 rr1), (ali, aI K 120 fl), (ala, aI K 120 fla), (anc, aI K 120 nc), (ank, aI K 120 nk), (ant, aJ K 120 nt), (aag, aI K 120 fag), (abk, aI K 120 fbk), (atd, aI K 120 ftd), (ase, aZ K 120 fse)] (by decide) rfl ?_
      refine lx_st (a' := 0) (b' := 0) [.int (bI true)] rfl rfl rfl ?_
      refine lx_if_ne F 21 dX4_cons_11 rfl (fun _ => ?_) (fun h => absurd h (by decide))
      refine lx_iconst F dX4_cons_21 kc_1 ?_
      refine lx_goto F 26 dX4_cons_22 rfl ?_
      refine lx_istore F [(0, .ref y), (1, .int (nI k)), (2, .int f), (3, .int t), (4, .int (nI 1))] [1, 2, 3, 4, 0] dX4_cons_26 rfl (by decide) ?_
      refine lx_aload_n F dX4_cons_28 0 rfl ?_
      refine lx_iload F dX4_cons_29 4 rfl ?_
      refine lx_iload F dX4_cons_31 4 rfl ?_
      refine lx_ifN_ne F 48 (by omega) dX4_cons_33 rfl (fun _ => ?_) (fun h => absurd h (by omega))
      refine lx_iconst F dX4_cons_48 kc_0 ?_
      refine lx_cv F (zr_refuse (xl E) K y acd akd act ark arr ali ala anc ank ant aag abk atd ase th z kk kc mn nx (nI u) true false) cv_X4_110 0 rfl rfl [0] [1, 2, 3, 4, 5, 6, 7, 8, 9, 10, 11, 12, 13, 14] [(acd, aI K 120 cd), (akd, aI K 120 kd), (act, aJ K 120 ct), (ark, aI K 10 rk1), (arr, aJ K 10 rr1), (ali, aI K 120 fl), (ala, aI K 120 fla), (anc, aI K 120 nc), (ank, aI K 120 nk), (ant, aJ K 120 nt), (aag, aI K 120 fag), (abk, aI K 120 fbk), (atd, aI K 120 ftd), (ase, aZ K 120 fse)] rfl rfl (by decide) rfl (st := []) rfl (Nat.le_of_ble_eq_true rfl) (by decide) ⟨by decide, by decide⟩ dX4_cons_49 (fun v9 w9 h9 => ?_)
      obtain ⟨rfl, rfl⟩ := h9
      refine lx_perm [14, 0, 1, 2, 3, 4, 5, 6, 7, 8, 9, 10, 11, 12, 13] [(y, .inr (4, [.int (nI (lm_rf true false)), .ref acd, .ref akd, .ref act, .int (nI u), .ref ark, .ref arr, .int z, .int kk, .long kc, .ref ali, .int mn, .ref ala, .ref anc, .ref ank, .ref ant, .int nx, .ref aag, .ref abk, .ref atd, .ref ase])), (acd, aI K 120 cd), (akd, aI K 120 kd), (act, aJ K 120 ct), (ark, aI K 10 rk1), (arr, aJ K 10 rr1), (ali, aI K 120 fl), (ala, aI K 120 fla), (anc, aI K 120 nc), (ank, aI K 120 nk), (ant, aJ K 120 nt), (aag, aI K 120 fag), (abk, aI K 120 fbk), (atd, aI K 120 ftd), (ase, aZ K 120 fse)] (by decide) rfl ?_
      refine lx_st (a' := 0) (b' := 0) [.int (bI true)] rfl rfl rfl ?_
      refine lx_if_eq F 56 dX4_cons_52 rfl (fun h => absurd h (by decide)) (fun _ => ?_)
      exact lx_vret F hR dX4_cons_55 ⟨rfl, by rw [show lm_oCons (nI k) f t (c, w, u, rt, z) = (1, (c, w, u, rt, z)) by unfold lm_oCons; rw [lm_none_n hk, hnf]; rfl]; exact ⟨_, _, _, _, _, _, _, _, _, _, _, _, _, _, _, _, _, _, _, _, _, _, _, _, _, _, _, _, _, _, _, _, hh, hro, rfl⟩⟩
  · skip
    refine lx_iload_n F dX4_cons_0 1 rfl ?_
    refine lx_cs F (zr_none2 (xl E) K r true hnr) cs_X4_102 [] [0, 1, 2, 3, 4, 5, 6, 7, 8, 9, 10, 11, 12, 13, 14] [(y, .inr (4, [.int th, .ref acd, .ref akd, .ref act, .int (nI u), .ref ark, .ref arr, .int z, .int kk, .long kc, .ref ali, .int mn, .ref ala, .ref anc, .ref ank, .ref ant, .int nx, .ref aag, .ref abk, .ref atd, .ref ase])), (acd, aI K 120 cd), (akd, aI K 120 kd), (act, aJ K 120 ct), (ark, aI K 10 rk1), (arr, aJ K 10 rr1), (ali, aI K 120 fl), (ala, aI K 120 fla), (anc, aI K 120 nc), (ank, aI K 120 nk), (ant, aJ K 120 nt), (aag, aI K 120 fag), (abk, aI K 120 fbk), (atd, aI K 120 ftd), (ase, aZ K 120 fse)] rfl rfl (by decide) rfl (st := []) rfl (Nat.le_of_ble_eq_true rfl) (by decide) ⟨by decide, by decide⟩ dX4_cons_1 (fun v9 w9 h9 => ?_)
    obtain ⟨rfl, rfl⟩ := h9
    refine lx_perm [0, 1, 2, 3, 4, 5, 6, 7, 8, 9, 10, 11, 12, 13, 14] [(y, .inr (4, [.int th, .ref acd, .ref akd, .ref act, .int (nI u), .ref ark, .ref arr, .int z, .int kk, .long kc, .ref ali, .int mn, .ref ala, .ref anc, .ref ank, .ref ant, .int nx, .ref aag, .ref abk, .ref atd, .ref ase])), (acd, aI K 120 cd), (akd, aI K 120 kd), (act, aJ K 120 ct), (ark, aI K 10 rk1), (arr, aJ K 10 rr1), (ali, aI K 120 fl), (ala, aI K 120 fla), (anc, aI K 120 nc), (ank, aI K 120 nk), (ant, aJ K 120 nt), (aag, aI K 120 fag), (abk, aI K 120 fbk), (atd, aI K 120 ftd), (ase, aZ K 120 fse)] (by decide) rfl ?_
    refine lx_st (a' := 0) (b' := 0) [.int (bI true)] rfl rfl rfl ?_
    refine lx_if_ne F 21 dX4_cons_4 rfl (fun _ => ?_) (fun h => absurd h (by decide))
    refine lx_iconst F dX4_cons_21 kc_1 ?_
    refine lx_goto F 26 dX4_cons_22 rfl ?_
    refine lx_istore F [(0, .ref y), (1, .int r), (2, .int f), (3, .int t), (4, .int (nI 1))] [1, 2, 3, 4, 0] dX4_cons_26 rfl (by decide) ?_
    refine lx_aload_n F dX4_cons_28 0 rfl ?_
    refine lx_iload F dX4_cons_29 4 rfl ?_
    refine lx_iload F dX4_cons_31 4 rfl ?_
    refine lx_ifN_ne F 48 (by omega) dX4_cons_33 rfl (fun _ => ?_) (fun h => absurd h (by omega))
    refine lx_iconst F dX4_cons_48 kc_0 ?_
    refine lx_cv F (zr_refuse (xl E) K y acd akd act ark arr ali ala anc ank ant aag abk atd ase th z kk kc mn nx (nI u) true false) cv_X4_110 0 rfl rfl [0] [1, 2, 3, 4, 5, 6, 7, 8, 9, 10, 11, 12, 13, 14] [(acd, aI K 120 cd), (akd, aI K 120 kd), (act, aJ K 120 ct), (ark, aI K 10 rk1), (arr, aJ K 10 rr1), (ali, aI K 120 fl), (ala, aI K 120 fla), (anc, aI K 120 nc), (ank, aI K 120 nk), (ant, aJ K 120 nt), (aag, aI K 120 fag), (abk, aI K 120 fbk), (atd, aI K 120 ftd), (ase, aZ K 120 fse)] rfl rfl (by decide) rfl (st := []) rfl (Nat.le_of_ble_eq_true rfl) (by decide) ⟨by decide, by decide⟩ dX4_cons_49 (fun v9 w9 h9 => ?_)
    obtain ⟨rfl, rfl⟩ := h9
    refine lx_perm [14, 0, 1, 2, 3, 4, 5, 6, 7, 8, 9, 10, 11, 12, 13] [(y, .inr (4, [.int (nI (lm_rf true false)), .ref acd, .ref akd, .ref act, .int (nI u), .ref ark, .ref arr, .int z, .int kk, .long kc, .ref ali, .int mn, .ref ala, .ref anc, .ref ank, .ref ant, .int nx, .ref aag, .ref abk, .ref atd, .ref ase])), (acd, aI K 120 cd), (akd, aI K 120 kd), (act, aJ K 120 ct), (ark, aI K 10 rk1), (arr, aJ K 10 rr1), (ali, aI K 120 fl), (ala, aI K 120 fla), (anc, aI K 120 nc), (ank, aI K 120 nk), (ant, aJ K 120 nt), (aag, aI K 120 fag), (abk, aI K 120 fbk), (atd, aI K 120 ftd), (ase, aZ K 120 fse)] (by decide) rfl ?_
    refine lx_st (a' := 0) (b' := 0) [.int (bI true)] rfl rfl rfl ?_
    refine lx_if_eq F 56 dX4_cons_52 rfl (fun h => absurd h (by decide)) (fun _ => ?_)
    exact lx_vret F hR dX4_cons_55 ⟨rfl, by rw [show lm_oCons r f t (c, w, u, rt, z) = (1, (c, w, u, rt, z)) by unfold lm_oCons; rw [hnr]; rfl]; exact ⟨_, _, _, _, _, _, _, _, _, _, _, _, _, _, _, _, _, _, _, _, _, _, _, _, _, _, _, _, _, _, _, _, hh, hro, rfl⟩⟩

set_option maxHeartbeats 4000000 in
set_option maxRecDepth 100000 in
theorem zR_list (l : Launch) (K : lm_G) (y : Nat) (c : Nat → Nat) (w : Nat → lm_V) (u : Nat) (rt : Nat → lm_V) (z : Int32) (hst : lm_st c w u rt) (th : Int32) (W : va_W) (hW : lm_mod K y (c, w, u, rt, z) th W) (r f n : Int32) : lm_C l K mX4_list (rk 5) [.ref y, .int r, .int f, .int n] W (fun v9 w9 => v9 = none ∧ lm_mod K y (lm_oList r f n (c, w, u, rt, z)).2 (nI (lm_oList r f n (c, w, u, rt, z)).1) w9) := by
  obtain ⟨acd, akd, act, ark, arr, ali, ala, anc, ank, ant, aag, abk, atd, ase, kk, kc, mn, nx, cd, kd, ct, rk1, rr1, fl, fla, nc, nk, nt, fag, fbk, ftd, fse, hh, hro, rfl⟩ := hW
  have hh : lm_mf cd kd ct c w u := hh
  have hro : ∀ r, r < 10 → rk1 r = nI (rt r).1 ∧ rr1 r = jI (rt r).2 := hro
  have hw := hst.1
  have hr9 := hst.2
  have hu := hw.1
  refine lx_met RX4 pn_X4 rfl (Nat.le_of_ble_eq_true rfl) (fun E hE hnm F hR => ?_)
  have F : lx_F K 7 E cX4_list RX4 none (rk 5) := F
  show lx_W K 7 E 0 0 0 [(0, .ref y), (1, .int r), (2, .int f), (3, .int n)] [] [(y, .inr (4, [.int th, .ref acd, .ref akd, .ref act, .int (nI u), .ref ark, .ref arr, .int z, .int kk, .long kc, .ref ali, .int mn, .ref ala, .ref anc, .ref ank, .ref ant, .int nx, .ref aag, .ref abk, .ref atd, .ref ase])), (acd, aI K 120 cd), (akd, aI K 120 kd), (act, aJ K 120 ct), (ark, aI K 10 rk1), (arr, aJ K 10 rr1), (ali, aI K 120 fl), (ala, aI K 120 fla), (anc, aI K 120 nc), (ank, aI K 120 nk), (ant, aJ K 120 nt), (aag, aI K 120 fag), (abk, aI K 120 fbk), (atd, aI K 120 ftd), (ase, aZ K 120 fse)]
  cases hnr : lm_none r
  · skip
    obtain ⟨k, hk, rfl⟩ := lm_none_f hnr
    cases hnf : lm_none f
    · skip
      obtain ⟨j, hj, rfl⟩ := lm_none_f hnf
      cases hlb : lm_lb (nI j) n
      · skip
        obtain ⟨m, rfl, hm1, hm2, hm3⟩ := lm_lb_f (by omega) hlb
        obtain ⟨c1, w1, u1, rt1, z1, hσ⟩ : ∃ c1 w1 u1 rt1 z1, lm_rm m (c, w, u, rt, z) = (c1, w1, u1, rt1, z1) := ⟨_, _, _, _, _, rfl⟩
        have hst1 : lm_st c1 w1 u1 rt1 := by have h9 : lm_sx (lm_rm m (c, w, u, rt, z)) := lm_sx_rm m hst; rw [hσ] at h9; exact h9
        have hw1 := hst1.1
        have hu1 := hw1.1
        by_cases hfit : u1 + m ≤ 120
        · skip
          refine lx_aload_n F dX4_list_0 0 rfl ?_
          refine lx_iload_n F dX4_list_1 1 rfl ?_
          refine lx_cs F (zr_none2 (xl E) K (nI k) false (lm_none_n hk)) cs_X4_102 [] [0, 1, 2, 3, 4, 5, 6, 7, 8, 9, 10, 11, 12, 13, 14] [(y, .inr (4, [.int th, .ref acd, .ref akd, .ref act, .int (nI u), .ref ark, .ref arr, .int z, .int kk, .long kc, .ref ali, .int mn, .ref ala, .ref anc, .ref ank, .ref ant, .int nx, .ref aag, .ref abk, .ref atd, .ref ase])), (acd, aI K 120 cd), (akd, aI K 120 kd), (act, aJ K 120 ct), (ark, aI K 10 rk1), (arr, aJ K 10 rr1), (ali, aI K 120 fl), (ala, aI K 120 fla), (anc, aI K 120 nc), (ank, aI K 120 nk), (ant, aJ K 120 nt), (aag, aI K 120 fag), (abk, aI K 120 fbk), (atd, aI K 120 ftd), (ase, aZ K 120 fse)] rfl rfl (by decide) rfl (st := [.ref y]) rfl (Nat.le_of_ble_eq_true rfl) (by decide) ⟨by decide, by decide⟩ dX4_list_2 (fun v9 w9 h9 => ?_)
          obtain ⟨rfl, rfl⟩ := h9
          refine lx_perm [0, 1, 2, 3, 4, 5, 6, 7, 8, 9, 10, 11, 12, 13, 14] [(y, .inr (4, [.int th, .ref acd, .ref akd, .ref act, .int (nI u), .ref ark, .ref arr, .int z, .int kk, .long kc, .ref ali, .int mn, .ref ala, .ref anc, .ref ank, .ref ant, .int nx, .ref aag, .ref abk, .ref atd, .ref ase])), (acd, aI K 120 cd), (akd, aI K 120 kd), (act, aJ K 120 ct), (ark, aI K 10 rk1), (arr, aJ K 10 rr1), (ali, aI K 120 fl), (ala, aI K 120 fla), (anc, aI K 120 nc), (ank, aI K 120 nk), (ant, aJ K 120 nt), (aag, aI K 120 fag), (abk, aI K 120 fbk), (atd, aI K 120 ftd), (ase, aZ K 120 fse)] (by decide) rfl ?_
          refine lx_st (a' := 0) (b' := 0) [.int (bI false), .ref y] rfl rfl rfl ?_
          refine lx_if_ne F 15 dX4_list_5 rfl (fun h => absurd (by decide) h) (fun _ => ?_)
          refine lx_iload_n F dX4_list_8 2 rfl ?_
          refine lx_cs F (zr_none2 (xl E) K (nI j) false (lm_none_n hj)) cs_X4_102 [] [0, 1, 2, 3, 4, 5, 6, 7, 8, 9, 10, 11, 12, 13, 14] [(y, .inr (4, [.int th, .ref acd, .ref akd, .ref act, .int (nI u), .ref ark, .ref arr, .int z, .int kk, .long kc, .ref ali, .int mn, .ref ala, .ref anc, .ref ank, .ref ant, .int nx, .ref aag, .ref abk, .ref atd, .ref ase])), (acd, aI K 120 cd), (akd, aI K 120 kd), (act, aJ K 120 ct), (ark, aI K 10 rk1), (arr, aJ K 10 rr1), (ali, aI K 120 fl), (ala, aI K 120 fla), (anc, aI K 120 nc), (ank, aI K 120 nk), (ant, aJ K 120 nt), (aag, aI K 120 fag), (abk, aI K 120 fbk), (atd, aI K 120 ftd), (ase, aZ K 120 fse)] rfl rfl (by decide) rfl (st := [.ref y]) rfl (Nat.le_of_ble_eq_true rfl) (by decide) ⟨by decide, by decide⟩ dX4_list_9 (fun v9 w9 h9 => ?_)
          obtain ⟨rfl, rfl⟩ := h9
          refine lx_perm [0, 1, 2, 3, 4, 5, 6, 7, 8, 9, 10, 11, 12, 13, 14] [(y, .inr (4, [.int th, .ref acd, .ref akd, .ref act, .int (nI u), .ref ark, .ref arr, .int z, .int kk, .long kc, .ref ali, .int mn, .ref ala, .ref anc, .ref ank, .ref ant, .int nx, .ref aag, .ref abk, .ref atd, .ref ase])), (acd, aI K 120 cd), (akd, aI K 120 kd), (act, aJ K 120 ct), (ark, aI K 10 rk1), (arr, aJ K 10 rr1), (ali, aI K 120 fl), (ala, aI K 120 fla), (anc, aI K 120 nc), (ank, aI K 120 nk), (ant, aJ K 120 nt), (aag, aI K 120 fag), (abk, aI K 120 fbk), (atd, aI K 120 ftd), (ase, aZ K 120 fse)] (by decide) rfl ?_
          refine lx_st (a' := 0) (b' := 0) [.int (bI false), .ref y] rfl rfl rfl ?_
          refine lx_if_eq F 19 dX4_list_12 rfl (fun _ => ?_) (fun h => absurd (by decide) h)
          refine lx_iconst F dX4_list_19 kc_0 ?_
          refine lx_iload_n F dX4_list_20 3 rfl ?_
          refine lx_iconst F dX4_list_21 kc_1 ?_
          refine lx_icmpN_lt F 39 (by omega) (by omega) dX4_list_22 rfl (fun h => absurd h (by omega)) (fun _ => ?_)
          refine lx_iload_n F dX4_list_25 3 rfl ?_
          refine lx_bipush F dX4_list_26 kb_10 ?_
          refine lx_icmpN_gt F 39 (by omega) (by omega) dX4_list_28 rfl (fun h => absurd h (by omega)) (fun _ => ?_)
          refine lx_iload_n F dX4_list_31 2 rfl ?_
          refine lx_bipush F dX4_list_32 kb_10 ?_
          refine lx_iload_n F dX4_list_34 3 rfl ?_
          refine lx_isub F dX4_list_35 (pk_sub (by omega)) ?_
          refine lx_icmpN_le F 43 (by omega) (by omega) dX4_list_36 rfl (fun _ => ?_) (fun h => absurd h (by omega))
          refine lx_iconst F dX4_list_43 kc_0 ?_
          refine lx_cv F (zr_refuse (xl E) K y acd akd act ark arr ali ala anc ank ant aag abk atd ase th z kk kc mn nx (nI u) false false) cv_X4_110 0 rfl rfl [0] [1, 2, 3, 4, 5, 6, 7, 8, 9, 10, 11, 12, 13, 14] [(acd, aI K 120 cd), (akd, aI K 120 kd), (act, aJ K 120 ct), (ark, aI K 10 rk1), (arr, aJ K 10 rr1), (ali, aI K 120 fl), (ala, aI K 120 fla), (anc, aI K 120 nc), (ank, aI K 120 nk), (ant, aJ K 120 nt), (aag, aI K 120 fag), (abk, aI K 120 fbk), (atd, aI K 120 ftd), (ase, aZ K 120 fse)] rfl rfl (by decide) rfl (st := []) rfl (Nat.le_of_ble_eq_true rfl) (by decide) ⟨by decide, by decide⟩ dX4_list_44 (fun v9 w9 h9 => ?_)
          obtain ⟨rfl, rfl⟩ := h9
          refine lx_perm [14, 0, 1, 2, 3, 4, 5, 6, 7, 8, 9, 10, 11, 12, 13] [(y, .inr (4, [.int (nI (lm_rf false false)), .ref acd, .ref akd, .ref act, .int (nI u), .ref ark, .ref arr, .int z, .int kk, .long kc, .ref ali, .int mn, .ref ala, .ref anc, .ref ank, .ref ant, .int nx, .ref aag, .ref abk, .ref atd, .ref ase])), (acd, aI K 120 cd), (akd, aI K 120 kd), (act, aJ K 120 ct), (ark, aI K 10 rk1), (arr, aJ K 10 rr1), (ali, aI K 120 fl), (ala, aI K 120 fla), (anc, aI K 120 nc), (ank, aI K 120 nk), (ant, aJ K 120 nt), (aag, aI K 120 fag), (abk, aI K 120 fbk), (atd, aI K 120 ftd), (ase, aZ K 120 fse)] (by decide) rfl ?_
          refine lx_st (a' := 0) (b' := 0) [.int (bI false)] rfl rfl rfl ?_
          refine lx_if_eq F 51 dX4_list_47 rfl (fun _ => ?_) (fun h => absurd (by decide) h)
          refine lx_aload_n F dX4_list_51 0 rfl ?_
          refine lx_iload_n F dX4_list_52 3 rfl ?_
          refine lx_cv F (zR_room (xl E) K y c w u rt z hst (nI (lm_rf false false)) _ ⟨_, _, _, _, _, _, _, _, _, _, _, _, _, _, _, _, _, _, _, _, _, _, _, _, _, _, _, _, _, _, _, _, hh, hro, rfl⟩ m (by omega) (c1, w1, u1, rt1, z1) hσ true (decide_eq_true hfit)) cv_X4_117 0 rfl rfl [0, 1, 2, 3, 4, 5, 6, 7, 8, 9, 10, 11, 12, 13, 14] [] [] rfl rfl (by decide) rfl (st := []) rfl (Nat.le_of_ble_eq_true rfl) (by decide) ⟨by decide, by decide⟩ dX4_list_53 (fun v9 w9 h9 => ?_)
          obtain ⟨rfl, acd1, akd1, act1, ark1, arr1, ali1, ala1, anc1, ank1, ant1, aag1, abk1, atd1, ase1, kk1, kc1, mn1, nx1, cd1, kd1, ct1, rk11, rr11, fl1, fla1, nc1, nk1, nt1, fag1, fbk1, ftd1, fse1, hh1, hro1, rfl⟩ := h9
          refine lx_perm [0, 1, 2, 3, 4, 5, 6, 7, 8, 9, 10, 11, 12, 13, 14] [(y, .inr (4, [.int (nI (lm_rf false false)), .ref acd1, .ref akd1, .ref act1, .int (nI u1), .ref ark1, .ref arr1, .int z1, .int kk1, .long kc1, .ref ali1, .int mn1, .ref ala1, .ref anc1, .ref ank1, .ref ant1, .int nx1, .ref aag1, .ref abk1, .ref atd1, .ref ase1])), (acd1, aI K 120 cd1), (akd1, aI K 120 kd1), (act1, aJ K 120 ct1), (ark1, aI K 10 rk11), (arr1, aJ K 10 rr11), (ali1, aI K 120 fl1), (ala1, aI K 120 fla1), (anc1, aI K 120 nc1), (ank1, aI K 120 nk1), (ant1, aJ K 120 nt1), (aag1, aI K 120 fag1), (abk1, aI K 120 fbk1), (atd1, aI K 120 ftd1), (ase1, aZ K 120 fse1)] (by decide) rfl ?_
          refine lx_st (a' := 0) (b' := 0) [.int (bI true)] rfl rfl rfl ?_
          have hh1 : lm_mf cd1 kd1 ct1 c1 w1 u1 := hh1
          have hro1 : ∀ r, r < 10 → rk11 r = nI (rt1 r).1 ∧ rr11 r = jI (rt1 r).2 := hro1
          refine lx_if_ne F 65 dX4_list_56 rfl (fun _ => ?_) (fun h => absurd h (by decide))
          refine lx_aload_n F dX4_list_65 0 rfl ?_
          refine gf_X4_73 F 0 rfl rfl dX4_list_66 ?_
          refine lx_istore F [(0, .ref y), (1, .int (nI k)), (2, .int (nI j)), (3, .int (nI m)), (4, .int (nI u1))] [1, 2, 3, 4, 0] dX4_list_69 rfl (by decide) ?_
          refine lx_iconst F dX4_list_71 kc_0 ?_
          refine lx_istore F [(0, .ref y), (1, .int (nI k)), (2, .int (nI j)), (3, .int (nI m)), (4, .int (nI u1)), (5, .int (nI 0))] [1, 2, 3, 4, 5, 0] dX4_list_72 rfl (by decide) ?_
          have loop : ∀ (n9 : Nat) (i : Nat) (Md : lm_O) (cd2 kd2 : Nat → Int32) (ct2 : Nat → Int64), i + n9 = m → Md ++ lm_lsM rt1 (j + i) n9 = lm_lsM rt1 j m → Md.length = i → lm_mf cd2 kd2 ct2 (lm_ac c1 u1 Md) (lm_aw w1 u1 Md) (u1 + i) → lx_W K 7 E 0 0 74 [(0, .ref y), (1, .int (nI k)), (2, .int (nI j)), (3, .int (nI m)), (4, .int (nI u1)), (5, .int (nI i))] [] [(y, .inr (4, [.int (nI (lm_rf false false)), .ref acd1, .ref akd1, .ref act1, .int (nI (u1 + i)), .ref ark1, .ref arr1, .int z1, .int kk1, .long kc1, .ref ali1, .int mn1, .ref ala1, .ref anc1, .ref ank1, .ref ant1, .int nx1, .ref aag1, .ref abk1, .ref atd1, .ref ase1])), (acd1, aI K 120 cd2), (akd1, aI K 120 kd2), (act1, aJ K 120 ct2), (ark1, aI K 10 rk11), (arr1, aJ K 10 rr11), (ali1, aI K 120 fl1), (ala1, aI K 120 fla1), (anc1, aI K 120 nc1), (ank1, aI K 120 nk1), (ant1, aJ K 120 nt1), (aag1, aI K 120 fag1), (abk1, aI K 120 fbk1), (atd1, aI K 120 ftd1), (ase1, aZ K 120 fse1)] := by
            intro n9
            induction n9 with
            | zero =>
              intro i Md cd2 kd2 ct2 hi hM hMi hmf
              have hMd : Md = lm_lsM rt1 j m := by rw [← hM]; simp [lm_lsM]
              refine lx_iload F dX4_list_74 5 rfl ?_
              refine lx_iload_n F dX4_list_76 3 rfl ?_
              refine lx_icmpN_ge F 123 (by omega) (by omega) dX4_list_77 rfl (fun _ => ?_) (fun h => absurd h (by omega))
              refine lx_aload_n F dX4_list_123 0 rfl ?_
              refine lx_iload_n F dX4_list_124 1 rfl ?_
              refine lx_iconst F dX4_list_125 kc_2 ?_
              refine lx_iload F dX4_list_126 4 rfl ?_
              refine lx_i2l F dX4_list_128 (jI_i2l (by omega)) ?_
              refine lx_cv F (zr_setRoot (xl E) K y acd1 akd1 act1 ark1 arr1 ali1 ala1 anc1 ank1 ant1 aag1 abk1 atd1 ase1 (nI (lm_rf false false)) z1 kk1 kc1 mn1 nx1 (nI (u1 + i)) rk11 rr11 k hk (nI 2) (jI ((u1 : Nat) : Int))) cv_X4_114 0 rfl rfl [0, 4, 5] [1, 2, 3, 6, 7, 8, 9, 10, 11, 12, 13, 14] [(acd1, aI K 120 cd2), (akd1, aI K 120 kd2), (act1, aJ K 120 ct2), (ali1, aI K 120 fl1), (ala1, aI K 120 fla1), (anc1, aI K 120 nc1), (ank1, aI K 120 nk1), (ant1, aJ K 120 nt1), (aag1, aI K 120 fag1), (abk1, aI K 120 fbk1), (atd1, aI K 120 ftd1), (ase1, aZ K 120 fse1)] rfl rfl (by decide) rfl (st := []) rfl (Nat.le_of_ble_eq_true rfl) (by decide) ⟨by decide, by decide⟩ dX4_list_129 (fun v9 w9 h9 => ?_)
              obtain ⟨rfl, rfl⟩ := h9
              refine lx_perm [12, 0, 1, 2, 13, 14, 3, 4, 5, 6, 7, 8, 9, 10, 11] [(y, .inr (4, [.int (nI (lm_rf false false)), .ref acd1, .ref akd1, .ref act1, .int (nI (u1 + i)), .ref ark1, .ref arr1, .int z1, .int kk1, .long kc1, .ref ali1, .int mn1, .ref ala1, .ref anc1, .ref ank1, .ref ant1, .int nx1, .ref aag1, .ref abk1, .ref atd1, .ref ase1])), (acd1, aI K 120 cd2), (akd1, aI K 120 kd2), (act1, aJ K 120 ct2), (ark1, aI K 10 (lm_up rk11 k (nI 2))), (arr1, aJ K 10 (lm_up rr11 k (jI ((u1 : Nat) : Int)))), (ali1, aI K 120 fl1), (ala1, aI K 120 fla1), (anc1, aI K 120 nc1), (ank1, aI K 120 nk1), (ant1, aJ K 120 nt1), (aag1, aI K 120 fag1), (abk1, aI K 120 fbk1), (atd1, aI K 120 ftd1), (ase1, aZ K 120 fse1)] (by decide) rfl ?_
              refine lx_st (a' := 0) (b' := 0) [] rfl rfl rfl ?_
              rw [← hMi]
              exact lx_vret F hR dX4_list_132 ⟨rfl, by rw [show lm_oList (nI k) (nI j) (nI m) (c, w, u, rt, z) = (0, lm_set (lm_ap (c1, w1, u1, rt1, z1) Md) k (2, ((u1 : Nat) : Int))) by unfold lm_oList; rw [lm_none_n hk, lm_none_n hj, if_neg (by decide), hlb, if_neg (by decide), lm_ix_n10 hm2, hσ, if_pos hfit, lm_ix_n hk, lm_ix_n hj, ← hMd]]; exact ⟨_, _, _, _, _, _, _, _, _, _, _, _, _, _, _, _, _, _, _, _, _, _, _, _, _, _, _, _, _, _, _, _, (by show lm_mf _ _ _ (lm_ac c1 u1 Md) (lm_aw w1 u1 Md) (u1 + Md.length); rw [hMi]; exact hmf), (lm_ro_up (v := (2, ((u1 : Nat) : Int))) hro1), rfl⟩⟩
            | succ n9 ih =>
              intro i Md cd2 kd2 ct2 hi hM hMi hmf
              refine lx_iload F dX4_list_74 5 rfl ?_
              refine lx_iload_n F dX4_list_76 3 rfl ?_
              refine lx_icmpN_ge F 123 (by omega) (by omega) dX4_list_77 rfl (fun h => absurd h (by omega)) (fun _ => ?_)
              by_cases hlast : n9 = 0
              · skip
                subst hlast
                have hA : lm_lsM rt1 (j + i) (0 + 1) = [(1, rt1 (j + i))] := rfl
                rw [hA] at hM
                refine lx_aload_n F dX4_list_80 0 rfl ?_
                refine lx_iload F dX4_list_81 5 rfl ?_
                refine lx_iload_n F dX4_list_83 3 rfl ?_
                refine lx_iconst F dX4_list_84 kc_1 ?_
                refine lx_isub F dX4_list_85 (pk_sub (by omega)) ?_
                refine lx_icmpN_ge F 93 (by omega) (by omega) dX4_list_86 rfl (fun _ => ?_) (fun h => absurd h (by omega))
                refine lx_iconst F dX4_list_93 kc_1 ?_
                refine lx_aload_n F dX4_list_94 0 rfl ?_
                refine gf_X4_20 F 0 rfl rfl dX4_list_95 ?_
                refine lx_iload_n F dX4_list_98 2 rfl ?_
                refine lx_iload F dX4_list_99 5 rfl ?_
                refine lx_iadd F dX4_list_101 (nI_add _ _) ?_
                refine lx_iald F 4 (j + i) dX4_list_102 rfl (by omega) (by decide) ?_
                rw [(hro1 (j + i) (by omega)).1]
                refine lx_aload_n F dX4_list_103 0 rfl ?_
                refine gf_X4_23 F 0 rfl rfl dX4_list_104 ?_
                refine lx_iload_n F dX4_list_107 2 rfl ?_
                refine lx_iload F dX4_list_108 5 rfl ?_
                refine lx_iadd F dX4_list_110 (nI_add _ _) ?_
                refine lx_lald F 5 (j + i) dX4_list_111 rfl (by omega) (by decide) ?_
                rw [(hro1 (j + i) (by omega)).2]
                refine lx_cv F (zr_put (xl E) K y acd1 akd1 act1 ark1 arr1 ali1 ala1 anc1 ank1 ant1 aag1 abk1 atd1 ase1 (nI (lm_rf false false)) z1 kk1 kc1 mn1 nx1 cd2 kd2 ct2 (u1 + i) (by omega) (nI 1) (nI (rt1 (j + i)).1) (jI (rt1 (j + i)).2)) cv_X4_120 0 rfl rfl [0, 1, 2, 3] [4, 5, 6, 7, 8, 9, 10, 11, 12, 13, 14] [(ark1, aI K 10 rk11), (arr1, aJ K 10 rr11), (ali1, aI K 120 fl1), (ala1, aI K 120 fla1), (anc1, aI K 120 nc1), (ank1, aI K 120 nk1), (ant1, aJ K 120 nt1), (aag1, aI K 120 fag1), (abk1, aI K 120 fbk1), (atd1, aI K 120 ftd1), (ase1, aZ K 120 fse1)] rfl rfl (by decide) rfl (st := []) rfl (Nat.le_of_ble_eq_true rfl) (by decide) ⟨by decide, by decide⟩ dX4_list_112 (fun v9 w9 h9 => ?_)
                obtain ⟨rfl, rfl⟩ := h9
                refine lx_perm [11, 12, 13, 14, 0, 1, 2, 3, 4, 5, 6, 7, 8, 9, 10] [(y, .inr (4, [.int (nI (lm_rf false false)), .ref acd1, .ref akd1, .ref act1, .int (nI (u1 + i + 1)), .ref ark1, .ref arr1, .int z1, .int kk1, .long kc1, .ref ali1, .int mn1, .ref ala1, .ref anc1, .ref ank1, .ref ant1, .int nx1, .ref aag1, .ref abk1, .ref atd1, .ref ase1])), (acd1, aI K 120 (lm_up cd2 (u1 + i) (nI 1))), (akd1, aI K 120 (lm_up kd2 (u1 + i) (nI (rt1 (j + i)).1))), (act1, aJ K 120 (lm_up ct2 (u1 + i) (jI (rt1 (j + i)).2))), (ark1, aI K 10 rk11), (arr1, aJ K 10 rr11), (ali1, aI K 120 fl1), (ala1, aI K 120 fla1), (anc1, aI K 120 nc1), (ank1, aI K 120 nk1), (ant1, aJ K 120 nt1), (aag1, aI K 120 fag1), (abk1, aI K 120 fbk1), (atd1, aI K 120 ftd1), (ase1, aZ K 120 fse1)] (by decide) rfl ?_
                refine lx_st (a' := 0) (b' := 0) [.int (nI (u1 + i))] rfl rfl rfl ?_
                refine lx_istore F [(0, .ref y), (1, .int (nI k)), (2, .int (nI j)), (3, .int (nI m)), (4, .int (nI u1)), (5, .int (nI i)), (6, .int (nI (u1 + i)))] [1, 2, 3, 4, 5, 6, 0] dX4_list_115 rfl (by decide) ?_
                refine lx_iinc F [(0, .ref y), (1, .int (nI k)), (2, .int (nI j)), (3, .int (nI m)), (4, .int (nI u1)), (5, .int (nI (i + 1))), (6, .int (nI (u1 + i)))] 5 [1, 2, 3, 4, 5, 0, 6] dX4_list_117 rfl (k_inc _) rfl (by decide) ?_
                refine lx_goto F 74 dX4_list_120 rfl ?_
                refine lx_lv [0, 1, 2, 3, 4, 5] [(0, .ref y), (1, .int (nI k)), (2, .int (nI j)), (3, .int (nI m)), (4, .int (nI u1)), (5, .int (nI (i + 1)))] rfl ?_
                exact ih (i + 1) (Md ++ [(1, rt1 (j + i))]) _ _ _ (by omega) (by rw [hM]; simp [lm_lsM]) (by simp [hMi]) (lm_mf_app hmf hMi)
              · skip
                have hA := lm_lsM_2 (rt := rt1) (f := j + i) hlast
                rw [hA] at hM
                refine lx_aload_n F dX4_list_80 0 rfl ?_
                refine lx_iload F dX4_list_81 5 rfl ?_
                refine lx_iload_n F dX4_list_83 3 rfl ?_
                refine lx_iconst F dX4_list_84 kc_1 ?_
                refine lx_isub F dX4_list_85 (pk_sub (by omega)) ?_
                refine lx_icmpN_ge F 93 (by omega) (by omega) dX4_list_86 rfl (fun h => absurd h (by omega)) (fun _ => ?_)
                refine lx_iconst F dX4_list_89 kc_0 ?_
                refine lx_goto F 94 dX4_list_90 rfl ?_
                refine lx_aload_n F dX4_list_94 0 rfl ?_
                refine gf_X4_20 F 0 rfl rfl dX4_list_95 ?_
                refine lx_iload_n F dX4_list_98 2 rfl ?_
                refine lx_iload F dX4_list_99 5 rfl ?_
                refine lx_iadd F dX4_list_101 (nI_add _ _) ?_
                refine lx_iald F 4 (j + i) dX4_list_102 rfl (by omega) (by decide) ?_
                rw [(hro1 (j + i) (by omega)).1]
                refine lx_aload_n F dX4_list_103 0 rfl ?_
                refine gf_X4_23 F 0 rfl rfl dX4_list_104 ?_
                refine lx_iload_n F dX4_list_107 2 rfl ?_
                refine lx_iload F dX4_list_108 5 rfl ?_
                refine lx_iadd F dX4_list_110 (nI_add _ _) ?_
                refine lx_lald F 5 (j + i) dX4_list_111 rfl (by omega) (by decide) ?_
                rw [(hro1 (j + i) (by omega)).2]
                refine lx_cv F (zr_put (xl E) K y acd1 akd1 act1 ark1 arr1 ali1 ala1 anc1 ank1 ant1 aag1 abk1 atd1 ase1 (nI (lm_rf false false)) z1 kk1 kc1 mn1 nx1 cd2 kd2 ct2 (u1 + i) (by omega) (nI 0) (nI (rt1 (j + i)).1) (jI (rt1 (j + i)).2)) cv_X4_120 0 rfl rfl [0, 1, 2, 3] [4, 5, 6, 7, 8, 9, 10, 11, 12, 13, 14] [(ark1, aI K 10 rk11), (arr1, aJ K 10 rr11), (ali1, aI K 120 fl1), (ala1, aI K 120 fla1), (anc1, aI K 120 nc1), (ank1, aI K 120 nk1), (ant1, aJ K 120 nt1), (aag1, aI K 120 fag1), (abk1, aI K 120 fbk1), (atd1, aI K 120 ftd1), (ase1, aZ K 120 fse1)] rfl rfl (by decide) rfl (st := []) rfl (Nat.le_of_ble_eq_true rfl) (by decide) ⟨by decide, by decide⟩ dX4_list_112 (fun v9 w9 h9 => ?_)
                obtain ⟨rfl, rfl⟩ := h9
                refine lx_perm [11, 12, 13, 14, 0, 1, 2, 3, 4, 5, 6, 7, 8, 9, 10] [(y, .inr (4, [.int (nI (lm_rf false false)), .ref acd1, .ref akd1, .ref act1, .int (nI (u1 + i + 1)), .ref ark1, .ref arr1, .int z1, .int kk1, .long kc1, .ref ali1, .int mn1, .ref ala1, .ref anc1, .ref ank1, .ref ant1, .int nx1, .ref aag1, .ref abk1, .ref atd1, .ref ase1])), (acd1, aI K 120 (lm_up cd2 (u1 + i) (nI 0))), (akd1, aI K 120 (lm_up kd2 (u1 + i) (nI (rt1 (j + i)).1))), (act1, aJ K 120 (lm_up ct2 (u1 + i) (jI (rt1 (j + i)).2))), (ark1, aI K 10 rk11), (arr1, aJ K 10 rr11), (ali1, aI K 120 fl1), (ala1, aI K 120 fla1), (anc1, aI K 120 nc1), (ank1, aI K 120 nk1), (ant1, aJ K 120 nt1), (aag1, aI K 120 fag1), (abk1, aI K 120 fbk1), (atd1, aI K 120 ftd1), (ase1, aZ K 120 fse1)] (by decide) rfl ?_
                refine lx_st (a' := 0) (b' := 0) [.int (nI (u1 + i))] rfl rfl rfl ?_
                refine lx_istore F [(0, .ref y), (1, .int (nI k)), (2, .int (nI j)), (3, .int (nI m)), (4, .int (nI u1)), (5, .int (nI i)), (6, .int (nI (u1 + i)))] [1, 2, 3, 4, 5, 6, 0] dX4_list_115 rfl (by decide) ?_
                refine lx_iinc F [(0, .ref y), (1, .int (nI k)), (2, .int (nI j)), (3, .int (nI m)), (4, .int (nI u1)), (5, .int (nI (i + 1))), (6, .int (nI (u1 + i)))] 5 [1, 2, 3, 4, 5, 0, 6] dX4_list_117 rfl (k_inc _) rfl (by decide) ?_
                refine lx_goto F 74 dX4_list_120 rfl ?_
                refine lx_lv [0, 1, 2, 3, 4, 5] [(0, .ref y), (1, .int (nI k)), (2, .int (nI j)), (3, .int (nI m)), (4, .int (nI u1)), (5, .int (nI (i + 1)))] rfl ?_
                exact ih (i + 1) (Md ++ [(0, rt1 (j + i))]) _ _ _ (by omega) (by rw [← hM]; simp [Nat.add_assoc]) (by simp [hMi]) (lm_mf_app hmf hMi)
          exact loop m 0 [] cd1 kd1 ct1 (by omega) rfl rfl (lm_mf_0 hh1)
        · skip
          refine lx_aload_n F dX4_list_0 0 rfl ?_
          refine lx_iload_n F dX4_list_1 1 rfl ?_
          refine lx_cs F (zr_none2 (xl E) K (nI k) false (lm_none_n hk)) cs_X4_102 [] [0, 1, 2, 3, 4, 5, 6, 7, 8, 9, 10, 11, 12, 13, 14] [(y, .inr (4, [.int th, .ref acd, .ref akd, .ref act, .int (nI u), .ref ark, .ref arr, .int z, .int kk, .long kc, .ref ali, .int mn, .ref ala, .ref anc, .ref ank, .ref ant, .int nx, .ref aag, .ref abk, .ref atd, .ref ase])), (acd, aI K 120 cd), (akd, aI K 120 kd), (act, aJ K 120 ct), (ark, aI K 10 rk1), (arr, aJ K 10 rr1), (ali, aI K 120 fl), (ala, aI K 120 fla), (anc, aI K 120 nc), (ank, aI K 120 nk), (ant, aJ K 120 nt), (aag, aI K 120 fag), (abk, aI K 120 fbk), (atd, aI K 120 ftd), (ase, aZ K 120 fse)] rfl rfl (by decide) rfl (st := [.ref y]) rfl (Nat.le_of_ble_eq_true rfl) (by decide) ⟨by decide, by decide⟩ dX4_list_2 (fun v9 w9 h9 => ?_)
          obtain ⟨rfl, rfl⟩ := h9
          refine lx_perm [0, 1, 2, 3, 4, 5, 6, 7, 8, 9, 10, 11, 12, 13, 14] [(y, .inr (4, [.int th, .ref acd, .ref akd, .ref act, .int (nI u), .ref ark, .ref arr, .int z, .int kk, .long kc, .ref ali, .int mn, .ref ala, .ref anc, .ref ank, .ref ant, .int nx, .ref aag, .ref abk, .ref atd, .ref ase])), (acd, aI K 120 cd), (akd, aI K 120 kd), (act, aJ K 120 ct), (ark, aI K 10 rk1), (arr, aJ K 10 rr1), (ali, aI K 120 fl), (ala, aI K 120 fla), (anc, aI K 120 nc), (ank, aI K 120 nk), (ant, aJ K 120 nt), (aag, aI K 120 fag), (abk, aI K 120 fbk), (atd, aI K 120 ftd), (ase, aZ K 120 fse)] (by decide) rfl ?_
          refine lx_st (a' := 0) (b' := 0) [.int (bI false), .ref y] rfl rfl rfl ?_
          refine lx_if_ne F 15 dX4_list_5 rfl (fun h => absurd (by decide) h) (fun _ => ?_)
          refine lx_iload_n F dX4_list_8 2 rfl ?_
          refine lx_cs F (zr_none2 (xl E) K (nI j) false (lm_none_n hj)) cs_X4_102 [] [0, 1, 2, 3, 4, 5, 6, 7, 8, 9, 10, 11, 12, 13, 14] [(y, .inr (4, [.int th, .ref acd, .ref akd, .ref act, .int (nI u), .ref ark, .ref arr, .int z, .int kk, .long kc, .ref ali, .int mn, .ref ala, .ref anc, .ref ank, .ref ant, .int nx, .ref aag, .ref abk, .ref atd, .ref ase])), (acd, aI K 120 cd), (akd, aI K 120 kd), (act, aJ K 120 ct), (ark, aI K 10 rk1), (arr, aJ K 10 rr1), (ali, aI K 120 fl), (ala, aI K 120 fla), (anc, aI K 120 nc), (ank, aI K 120 nk), (ant, aJ K 120 nt), (aag, aI K 120 fag), (abk, aI K 120 fbk), (atd, aI K 120 ftd), (ase, aZ K 120 fse)] rfl rfl (by decide) rfl (st := [.ref y]) rfl (Nat.le_of_ble_eq_true rfl) (by decide) ⟨by decide, by decide⟩ dX4_list_9 (fun v9 w9 h9 => ?_)
          obtain ⟨rfl, rfl⟩ := h9
          refine lx_perm [0, 1, 2, 3, 4, 5, 6, 7, 8, 9, 10, 11, 12, 13, 14] [(y, .inr (4, [.int th, .ref acd, .ref akd, .ref act, .int (nI u), .ref ark, .ref arr, .int z, .int kk, .long kc, .ref ali, .int mn, .ref ala, .ref anc, .ref ank, .ref ant, .int nx, .ref aag, .ref abk, .ref atd, .ref ase])), (acd, aI K 120 cd), (akd, aI K 120 kd), (act, aJ K 120 ct), (ark, aI K 10 rk1), (arr, aJ K 10 rr1), (ali, aI K 120 fl), (ala, aI K 120 fla), (anc, aI K 120 nc), (ank, aI K 120 nk), (ant, aJ K 120 nt), (aag, aI K 120 fag), (abk, aI K 120 fbk), (atd, aI K 120 ftd), (ase, aZ K 120 fse)] (by decide) rfl ?_
          refine lx_st (a' := 0) (b' := 0) [.int (bI false), .ref y] rfl rfl rfl ?_
          refine lx_if_eq F 19 dX4_list_12 rfl (fun _ => ?_) (fun h => absurd (by decide) h)
          refine lx_iconst F dX4_list_19 kc_0 ?_
          refine lx_iload_n F dX4_list_20 3 rfl ?_
          refine lx_iconst F dX4_list_21 kc_1 ?_
          refine lx_icmpN_lt F 39 (by omega) (by omega) dX4_list_22 rfl (fun h => absurd h (by omega)) (fun _ => ?_)
          refine lx_iload_n F dX4_list_25 3 rfl ?_
          refine lx_bipush F dX4_list_26 kb_10 ?_
          refine lx_icmpN_gt F 39 (by omega) (by omega) dX4_list_28 rfl (fun h => absurd h (by omega)) (fun _ => ?_)
          refine lx_iload_n F dX4_list_31 2 rfl ?_
          refine lx_bipush F dX4_list_32 kb_10 ?_
          refine lx_iload_n F dX4_list_34 3 rfl ?_
          refine lx_isub F dX4_list_35 (pk_sub (by omega)) ?_
          refine lx_icmpN_le F 43 (by omega) (by omega) dX4_list_36 rfl (fun _ => ?_) (fun h => absurd h (by omega))
          refine lx_iconst F dX4_list_43 kc_0 ?_
          refine lx_cv F (zr_refuse (xl E) K y acd akd act ark arr ali ala anc ank ant aag abk atd ase th z kk kc mn nx (nI u) false false) cv_X4_110 0 rfl rfl [0] [1, 2, 3, 4, 5, 6, 7, 8, 9, 10, 11, 12, 13, 14] [(acd, aI K 120 cd), (akd, aI K 120 kd), (act, aJ K 120 ct), (ark, aI K 10 rk1), (arr, aJ K 10 rr1), (ali, aI K 120 fl), (ala, aI K 120 fla), (anc, aI K 120 nc), (ank, aI K 120 nk), (ant, aJ K 120 nt), (aag, aI K 120 fag), (abk, aI K 120 fbk), (atd, aI K 120 ftd), (ase, aZ K 120 fse)] rfl rfl (by decide) rfl (st := []) rfl (Nat.le_of_ble_eq_true rfl) (by decide) ⟨by decide, by decide⟩ dX4_list_44 (fun v9 w9 h9 => ?_)
          obtain ⟨rfl, rfl⟩ := h9
          refine lx_perm [14, 0, 1, 2, 3, 4, 5, 6, 7, 8, 9, 10, 11, 12, 13] [(y, .inr (4, [.int (nI (lm_rf false false)), .ref acd, .ref akd, .ref act, .int (nI u), .ref ark, .ref arr, .int z, .int kk, .long kc, .ref ali, .int mn, .ref ala, .ref anc, .ref ank, .ref ant, .int nx, .ref aag, .ref abk, .ref atd, .ref ase])), (acd, aI K 120 cd), (akd, aI K 120 kd), (act, aJ K 120 ct), (ark, aI K 10 rk1), (arr, aJ K 10 rr1), (ali, aI K 120 fl), (ala, aI K 120 fla), (anc, aI K 120 nc), (ank, aI K 120 nk), (ant, aJ K 120 nt), (aag, aI K 120 fag), (abk, aI K 120 fbk), (atd, aI K 120 ftd), (ase, aZ K 120 fse)] (by decide) rfl ?_
          refine lx_st (a' := 0) (b' := 0) [.int (bI false)] rfl rfl rfl ?_
          refine lx_if_eq F 51 dX4_list_47 rfl (fun _ => ?_) (fun h => absurd (by decide) h)
          refine lx_aload_n F dX4_list_51 0 rfl ?_
          refine lx_iload_n F dX4_list_52 3 rfl ?_
          refine lx_cv F (zR_room (xl E) K y c w u rt z hst (nI (lm_rf false false)) _ ⟨_, _, _, _, _, _, _, _, _, _, _, _, _, _, _, _, _, _, _, _, _, _, _, _, _, _, _, _, _, _, _, _, hh, hro, rfl⟩ m (by omega) (c1, w1, u1, rt1, z1) hσ false (decide_eq_false hfit)) cv_X4_117 0 rfl rfl [0, 1, 2, 3, 4, 5, 6, 7, 8, 9, 10, 11, 12, 13, 14] [] [] rfl rfl (by decide) rfl (st := []) rfl (Nat.le_of_ble_eq_true rfl) (by decide) ⟨by decide, by decide⟩ dX4_list_53 (fun v9 w9 h9 => ?_)
          obtain ⟨rfl, acd1, akd1, act1, ark1, arr1, ali1, ala1, anc1, ank1, ant1, aag1, abk1, atd1, ase1, kk1, kc1, mn1, nx1, cd1, kd1, ct1, rk11, rr11, fl1, fla1, nc1, nk1, nt1, fag1, fbk1, ftd1, fse1, hh1, hro1, rfl⟩ := h9
          refine lx_perm [0, 1, 2, 3, 4, 5, 6, 7, 8, 9, 10, 11, 12, 13, 14] [(y, .inr (4, [.int (nI (lm_rf false false)), .ref acd1, .ref akd1, .ref act1, .int (nI u1), .ref ark1, .ref arr1, .int z1, .int kk1, .long kc1, .ref ali1, .int mn1, .ref ala1, .ref anc1, .ref ank1, .ref ant1, .int nx1, .ref aag1, .ref abk1, .ref atd1, .ref ase1])), (acd1, aI K 120 cd1), (akd1, aI K 120 kd1), (act1, aJ K 120 ct1), (ark1, aI K 10 rk11), (arr1, aJ K 10 rr11), (ali1, aI K 120 fl1), (ala1, aI K 120 fla1), (anc1, aI K 120 nc1), (ank1, aI K 120 nk1), (ant1, aJ K 120 nt1), (aag1, aI K 120 fag1), (abk1, aI K 120 fbk1), (atd1, aI K 120 ftd1), (ase1, aZ K 120 fse1)] (by decide) rfl ?_
          refine lx_st (a' := 0) (b' := 0) [.int (bI false)] rfl rfl rfl ?_
          have hh1 : lm_mf cd1 kd1 ct1 c1 w1 u1 := hh1
          have hro1 : ∀ r, r < 10 → rk11 r = nI (rt1 r).1 ∧ rr11 r = jI (rt1 r).2 := hro1
          refine lx_if_ne F 65 dX4_list_56 rfl (fun h => absurd (by decide) h) (fun _ => ?_)
          refine lx_aload_n F dX4_list_59 0 rfl ?_
          refine lx_iconst F dX4_list_60 kc_3 ?_
          refine pf_X4_54 F 0 [(y, .inr (4, [.int (nI 3), .ref acd1, .ref akd1, .ref act1, .int (nI u1), .ref ark1, .ref arr1, .int z1, .int kk1, .long kc1, .ref ali1, .int mn1, .ref ala1, .ref anc1, .ref ank1, .ref ant1, .int nx1, .ref aag1, .ref abk1, .ref atd1, .ref ase1])), (acd1, aI K 120 cd1), (akd1, aI K 120 kd1), (act1, aJ K 120 ct1), (ark1, aI K 10 rk11), (arr1, aJ K 10 rr11), (ali1, aI K 120 fl1), (ala1, aI K 120 fla1), (anc1, aI K 120 nc1), (ank1, aI K 120 nk1), (ant1, aJ K 120 nt1), (aag1, aI K 120 fag1), (abk1, aI K 120 fbk1), (atd1, aI K 120 ftd1), (ase1, aZ K 120 fse1)] rfl rfl dX4_list_61 rfl ?_
          exact lx_vret F hR dX4_list_64 ⟨rfl, by rw [show lm_oList (nI k) (nI j) (nI m) (c, w, u, rt, z) = (3, (c1, w1, u1, rt1, z1)) by unfold lm_oList; rw [lm_none_n hk, lm_none_n hj, if_neg (by decide), hlb, if_neg (by decide), lm_ix_n10 hm2, hσ, if_neg hfit]]; exact ⟨_, _, _, _, _, _, _, _, _, _, _, _, _, _, _, _, _, _, _, _, _, _, _, _, _, _, _, _, _, _, _, _, hh1, hro1, rfl⟩⟩
      · skip
        refine lx_aload_n F dX4_list_0 0 rfl ?_
        refine lx_iload_n F dX4_list_1 1 rfl ?_
        refine lx_cs F (zr_none2 (xl E) K (nI k) false (lm_none_n hk)) cs_X4_102 [] [0, 1, 2, 3, 4, 5, 6, 7, 8, 9, 10, 11, 12, 13, 14] [(y, .inr (4, [.int th, .ref acd, .ref akd, .ref act, .int (nI u), .ref ark, .ref arr, .int z, .int kk, .long kc, .ref ali, .int mn, .ref ala, .ref anc, .ref ank, .ref ant, .int nx, .ref aag, .ref abk, .ref atd, .ref ase])), (acd, aI K 120 cd), (akd, aI K 120 kd), (act, aJ K 120 ct), (ark, aI K 10 rk1), (arr, aJ K 10 rr1), (ali, aI K 120 fl), (ala, aI K 120 fla), (anc, aI K 120 nc), (ank, aI K 120 nk), (ant, aJ K 120 nt), (aag, aI K 120 fag), (abk, aI K 120 fbk), (atd, aI K 120 ftd), (ase, aZ K 120 fse)] rfl rfl (by decide) rfl (st := [.ref y]) rfl (Nat.le_of_ble_eq_true rfl) (by decide) ⟨by decide, by decide⟩ dX4_list_2 (fun v9 w9 h9 => ?_)
        obtain ⟨rfl, rfl⟩ := h9
        refine lx_perm [0, 1, 2, 3, 4, 5, 6, 7, 8, 9, 10, 11, 12, 13, 14] [(y, .inr (4, [.int th, .ref acd, .ref akd, .ref act, .int (nI u), .ref ark, .ref arr, .int z, .int kk, .long kc, .ref ali, .int mn, .ref ala, .ref anc, .ref ank, .ref ant, .int nx, .ref aag, .ref abk, .ref atd, .ref ase])), (acd, aI K 120 cd), (akd, aI K 120 kd), (act, aJ K 120 ct), (ark, aI K 10 rk1), (arr, aJ K 10 rr1), (ali, aI K 120 fl), (ala, aI K 120 fla), (anc, aI K 120 nc), (ank, aI K 120 nk), (ant, aJ K 120 nt), (aag, aI K 120 fag), (abk, aI K 120 fbk), (atd, aI K 120 ftd), (ase, aZ K 120 fse)] (by decide) rfl ?_
        refine lx_st (a' := 0) (b' := 0) [.int (bI false), .ref y] rfl rfl rfl ?_
        refine lx_if_ne F 15 dX4_list_5 rfl (fun h => absurd (by decide) h) (fun _ => ?_)
        refine lx_iload_n F dX4_list_8 2 rfl ?_
        refine lx_cs F (zr_none2 (xl E) K (nI j) false (lm_none_n hj)) cs_X4_102 [] [0, 1, 2, 3, 4, 5, 6, 7, 8, 9, 10, 11, 12, 13, 14] [(y, .inr (4, [.int th, .ref acd, .ref akd, .ref act, .int (nI u), .ref ark, .ref arr, .int z, .int kk, .long kc, .ref ali, .int mn, .ref ala, .ref anc, .ref ank, .ref ant, .int nx, .ref aag, .ref abk, .ref atd, .ref ase])), (acd, aI K 120 cd), (akd, aI K 120 kd), (act, aJ K 120 ct), (ark, aI K 10 rk1), (arr, aJ K 10 rr1), (ali, aI K 120 fl), (ala, aI K 120 fla), (anc, aI K 120 nc), (ank, aI K 120 nk), (ant, aJ K 120 nt), (aag, aI K 120 fag), (abk, aI K 120 fbk), (atd, aI K 120 ftd), (ase, aZ K 120 fse)] rfl rfl (by decide) rfl (st := [.ref y]) rfl (Nat.le_of_ble_eq_true rfl) (by decide) ⟨by decide, by decide⟩ dX4_list_9 (fun v9 w9 h9 => ?_)
        obtain ⟨rfl, rfl⟩ := h9
        refine lx_perm [0, 1, 2, 3, 4, 5, 6, 7, 8, 9, 10, 11, 12, 13, 14] [(y, .inr (4, [.int th, .ref acd, .ref akd, .ref act, .int (nI u), .ref ark, .ref arr, .int z, .int kk, .long kc, .ref ali, .int mn, .ref ala, .ref anc, .ref ank, .ref ant, .int nx, .ref aag, .ref abk, .ref atd, .ref ase])), (acd, aI K 120 cd), (akd, aI K 120 kd), (act, aJ K 120 ct), (ark, aI K 10 rk1), (arr, aJ K 10 rr1), (ali, aI K 120 fl), (ala, aI K 120 fla), (anc, aI K 120 nc), (ank, aI K 120 nk), (ant, aJ K 120 nt), (aag, aI K 120 fag), (abk, aI K 120 fbk), (atd, aI K 120 ftd), (ase, aZ K 120 fse)] (by decide) rfl ?_
        refine lx_st (a' := 0) (b' := 0) [.int (bI false), .ref y] rfl rfl rfl ?_
        refine lx_if_eq F 19 dX4_list_12 rfl (fun _ => ?_) (fun h => absurd (by decide) h)
        refine lx_iconst F dX4_list_19 kc_0 ?_
        refine lx_iload_n F dX4_list_20 3 rfl ?_
        refine lx_iconst F dX4_list_21 kc_1 ?_
        refine lx_icmp_lt F 39 dX4_list_22 rfl (fun h1 => ?_) (fun h1 => ?_)
        · skip
          refine lx_iconst F dX4_list_39 kc_1 ?_
          refine lx_goto F 44 dX4_list_40 rfl ?_
          refine lx_cv F (zr_refuse (xl E) K y acd akd act ark arr ali ala anc ank ant aag abk atd ase th z kk kc mn nx (nI u) false true) cv_X4_110 0 rfl rfl [0] [1, 2, 3, 4, 5, 6, 7, 8, 9, 10, 11, 12, 13, 14] [(acd, aI K 120 cd), (akd, aI K 120 kd), (act, aJ K 120 ct), (ark, aI K 10 rk1), (arr, aJ K 10 rr1), (ali, aI K 120 fl), (ala, aI K 120 fla), (anc, aI K 120 nc), (ank, aI K 120 nk), (ant, aJ K 120 nt), (aag, aI K 120 fag), (abk, aI K 120 fbk), (atd, aI K 120 ftd), (ase, aZ K 120 fse)] rfl rfl (by decide) rfl (st := []) rfl (Nat.le_of_ble_eq_true rfl) (by decide) ⟨by decide, by decide⟩ dX4_list_44 (fun v9 w9 h9 => ?_)
          obtain ⟨rfl, rfl⟩ := h9
          refine lx_perm [14, 0, 1, 2, 3, 4, 5, 6, 7, 8, 9, 10, 11, 12, 13] [(y, .inr (4, [.int (nI (lm_rf false true)), .ref acd, .ref akd, .ref act, .int (nI u), .ref ark, .ref arr, .int z, .int kk, .long kc, .ref ali, .int mn, .ref ala, .ref anc, .ref ank, .ref ant, .int nx, .ref aag, .ref abk, .ref atd, .ref ase])), (acd, aI K 120 cd), (akd, aI K 120 kd), (act, aJ K 120 ct), (ark, aI K 10 rk1), (arr, aJ K 10 rr1), (ali, aI K 120 fl), (ala, aI K 120 fla), (anc, aI K 120 nc), (ank, aI K 120 nk), (ant, aJ K 120 nt), (aag, aI K 120 fag), (abk, aI K 120 fbk), (atd, aI K 120 ftd), (ase, aZ K 120 fse)] (by decide) rfl ?_
          refine lx_st (a' := 0) (b' := 0) [.int (bI true)] rfl rfl rfl ?_
          refine lx_if_eq F 51 dX4_list_47 rfl (fun h => absurd h (by decide)) (fun _ => ?_)
          exact lx_vret F hR dX4_list_50 ⟨rfl, by rw [show lm_oList (nI k) (nI j) n (c, w, u, rt, z) = (2, (c, w, u, rt, z)) by unfold lm_oList; rw [lm_none_n hk, lm_none_n hj, if_neg (by decide), if_pos hlb]]; exact ⟨_, _, _, _, _, _, _, _, _, _, _, _, _, _, _, _, _, _, _, _, _, _, _, _, _, _, _, _, _, _, _, _, hh, hro, rfl⟩⟩
        · skip
          refine lx_iload_n F dX4_list_25 3 rfl ?_
          refine lx_bipush F dX4_list_26 kb_10 ?_
          refine lx_icmp_gt F 39 dX4_list_28 rfl (fun h2 => ?_) (fun h2 => ?_)
          · skip
            refine lx_iconst F dX4_list_39 kc_1 ?_
            refine lx_goto F 44 dX4_list_40 rfl ?_
            refine lx_cv F (zr_refuse (xl E) K y acd akd act ark arr ali ala anc ank ant aag abk atd ase th z kk kc mn nx (nI u) false true) cv_X4_110 0 rfl rfl [0] [1, 2, 3, 4, 5, 6, 7, 8, 9, 10, 11, 12, 13, 14] [(acd, aI K 120 cd), (akd, aI K 120 kd), (act, aJ K 120 ct), (ark, aI K 10 rk1), (arr, aJ K 10 rr1), (ali, aI K 120 fl), (ala, aI K 120 fla), (anc, aI K 120 nc), (ank, aI K 120 nk), (ant, aJ K 120 nt), (aag, aI K 120 fag), (abk, aI K 120 fbk), (atd, aI K 120 ftd), (ase, aZ K 120 fse)] rfl rfl (by decide) rfl (st := []) rfl (Nat.le_of_ble_eq_true rfl) (by decide) ⟨by decide, by decide⟩ dX4_list_44 (fun v9 w9 h9 => ?_)
            obtain ⟨rfl, rfl⟩ := h9
            refine lx_perm [14, 0, 1, 2, 3, 4, 5, 6, 7, 8, 9, 10, 11, 12, 13] [(y, .inr (4, [.int (nI (lm_rf false true)), .ref acd, .ref akd, .ref act, .int (nI u), .ref ark, .ref arr, .int z, .int kk, .long kc, .ref ali, .int mn, .ref ala, .ref anc, .ref ank, .ref ant, .int nx, .ref aag, .ref abk, .ref atd, .ref ase])), (acd, aI K 120 cd), (akd, aI K 120 kd), (act, aJ K 120 ct), (ark, aI K 10 rk1), (arr, aJ K 10 rr1), (ali, aI K 120 fl), (ala, aI K 120 fla), (anc, aI K 120 nc), (ank, aI K 120 nk), (ant, aJ K 120 nt), (aag, aI K 120 fag), (abk, aI K 120 fbk), (atd, aI K 120 ftd), (ase, aZ K 120 fse)] (by decide) rfl ?_
            refine lx_st (a' := 0) (b' := 0) [.int (bI true)] rfl rfl rfl ?_
            refine lx_if_eq F 51 dX4_list_47 rfl (fun h => absurd h (by decide)) (fun _ => ?_)
            exact lx_vret F hR dX4_list_50 ⟨rfl, by rw [show lm_oList (nI k) (nI j) n (c, w, u, rt, z) = (2, (c, w, u, rt, z)) by unfold lm_oList; rw [lm_none_n hk, lm_none_n hj, if_neg (by decide), if_pos hlb]]; exact ⟨_, _, _, _, _, _, _, _, _, _, _, _, _, _, _, _, _, _, _, _, _, _, _, _, _, _, _, _, _, _, _, _, hh, hro, rfl⟩⟩
          · skip
            obtain ⟨m, rfl, hm1, hm2⟩ := lm_lb_m h1 h2
            have hm3 := lm_lb_t (by omega) (by omega) hm1 hm2 hlb
            refine lx_iload_n F dX4_list_31 2 rfl ?_
            refine lx_bipush F dX4_list_32 kb_10 ?_
            refine lx_iload_n F dX4_list_34 3 rfl ?_
            refine lx_isub F dX4_list_35 (pk_sub (by omega)) ?_
            refine lx_icmpN_le F 43 (by omega) (by omega) dX4_list_36 rfl (fun h => absurd h (by omega)) (fun _ => ?_)
            refine lx_iconst F dX4_list_39 kc_1 ?_
            refine lx_goto F 44 dX4_list_40 rfl ?_
            refine lx_cv F (zr_refuse (xl E) K y acd akd act ark arr ali ala anc ank ant aag abk atd ase th z kk kc mn nx (nI u) false true) cv_X4_110 0 rfl rfl [0] [1, 2, 3, 4, 5, 6, 7, 8, 9, 10, 11, 12, 13, 14] [(acd, aI K 120 cd), (akd, aI K 120 kd), (act, aJ K 120 ct), (ark, aI K 10 rk1), (arr, aJ K 10 rr1), (ali, aI K 120 fl), (ala, aI K 120 fla), (anc, aI K 120 nc), (ank, aI K 120 nk), (ant, aJ K 120 nt), (aag, aI K 120 fag), (abk, aI K 120 fbk), (atd, aI K 120 ftd), (ase, aZ K 120 fse)] rfl rfl (by decide) rfl (st := []) rfl (Nat.le_of_ble_eq_true rfl) (by decide) ⟨by decide, by decide⟩ dX4_list_44 (fun v9 w9 h9 => ?_)
            obtain ⟨rfl, rfl⟩ := h9
            refine lx_perm [14, 0, 1, 2, 3, 4, 5, 6, 7, 8, 9, 10, 11, 12, 13] [(y, .inr (4, [.int (nI (lm_rf false true)), .ref acd, .ref akd, .ref act, .int (nI u), .ref ark, .ref arr, .int z, .int kk, .long kc, .ref ali, .int mn, .ref ala, .ref anc, .ref ank, .ref ant, .int nx, .ref aag, .ref abk, .ref atd, .ref ase])), (acd, aI K 120 cd), (akd, aI K 120 kd), (act, aJ K 120 ct), (ark, aI K 10 rk1), (arr, aJ K 10 rr1), (ali, aI K 120 fl), (ala, aI K 120 fla), (anc, aI K 120 nc), (ank, aI K 120 nk), (ant, aJ K 120 nt), (aag, aI K 120 fag), (abk, aI K 120 fbk), (atd, aI K 120 ftd), (ase, aZ K 120 fse)] (by decide) rfl ?_
            refine lx_st (a' := 0) (b' := 0) [.int (bI true)] rfl rfl rfl ?_
            refine lx_if_eq F 51 dX4_list_47 rfl (fun h => absurd h (by decide)) (fun _ => ?_)
            exact lx_vret F hR dX4_list_50 ⟨rfl, by rw [show lm_oList (nI k) (nI j) (nI m) (c, w, u, rt, z) = (2, (c, w, u, rt, z)) by unfold lm_oList; rw [lm_none_n hk, lm_none_n hj, if_neg (by decide), if_pos hlb]]; exact ⟨_, _, _, _, _, _, _, _, _, _, _, _, _, _, _, _, _, _, _, _, _, _, _, _, _, _, _, _, _, _, _, _, hh, hro, rfl⟩⟩
    · skip
      refine lx_aload_n F dX4_list_0 0 rfl ?_
      refine lx_iload_n F dX4_list_1 1 rfl ?_
      refine lx_cs F (zr_none2 (xl E) K (nI k) false (lm_none_n hk)) cs_X4_102 [] [0, 1, 2, 3, 4, 5, 6, 7, 8, 9, 10, 11, 12, 13, 14] [(y, .inr (4, [.int th, .ref acd, .ref akd, .ref act, .int (nI u), .ref ark, .ref arr, .int z, .int kk, .long kc, .ref ali, .int mn, .ref ala, .ref anc, .ref ank, .ref ant, .int nx, .ref aag, .ref abk, .ref atd, .ref ase])), (acd, aI K 120 cd), (akd, aI K 120 kd), (act, aJ K 120 ct), (ark, aI K 10 rk1), (arr, aJ K 10 rr1), (ali, aI K 120 fl), (ala, aI K 120 fla), (anc, aI K 120 nc), (ank, aI K 120 nk), (ant, aJ K 120 nt), (aag, aI K 120 fag), (abk, aI K 120 fbk), (atd, aI K 120 ftd), (ase, aZ K 120 fse)] rfl rfl (by decide) rfl (st := [.ref y]) rfl (Nat.le_of_ble_eq_true rfl) (by decide) ⟨by decide, by decide⟩ dX4_list_2 (fun v9 w9 h9 => ?_)
      obtain ⟨rfl, rfl⟩ := h9
      refine lx_perm [0, 1, 2, 3, 4, 5, 6, 7, 8, 9, 10, 11, 12, 13, 14] [(y, .inr (4, [.int th, .ref acd, .ref akd, .ref act, .int (nI u), .ref ark, .ref arr, .int z, .int kk, .long kc, .ref ali, .int mn, .ref ala, .ref anc, .ref ank, .ref ant, .int nx, .ref aag, .ref abk, .ref atd, .ref ase])), (acd, aI K 120 cd), (akd, aI K 120 kd), (act, aJ K 120 ct), (ark, aI K 10 rk1), (arr, aJ K 10 rr1), (ali, aI K 120 fl), (ala, aI K 120 fla), (anc, aI K 120 nc), (ank, aI K 120 nk), (ant, aJ K 120 nt), (aag, aI K 120 fag), (abk, aI K 120 fbk), (atd, aI K 120 ftd), (ase, aZ K 120 fse)] (by decide) rfl ?_
      refine lx_st (a' := 0) (b' := 0) [.int (bI false), .ref y] rfl rfl rfl ?_
      refine lx_if_ne F 15 dX4_list_5 rfl (fun h => absurd (by decide) h) (fun _ => ?_)
      refine lx_iload_n F dX4_list_8 2 rfl ?_
      refine lx_cs F (zr_none2 (xl E) K f true hnf) cs_X4_102 [] [0, 1, 2, 3, 4, 5, 6, 7, 8, 9, 10, 11, 12, 13, 14] [(y, .inr (4, [.int th, .ref acd, .ref akd, .ref act, .int (nI u), .ref ark, .ref arr, .int z, .int kk, .long kc, .ref ali, .int mn, .ref ala, .ref anc, .ref ank, .ref ant, .int nx, .ref aag, .ref abk, .ref atd, .ref ase])), (acd, aI K 120 cd), (akd, aI K 120 kd), (act, aJ K 120 ct), (ark, aI K 10 rk1), (arr, aJ K 10 rr1), (ali, aI K 120 fl), (ala, aI K 120 fla), (anc, aI K 120 nc), (ank, aI K 120 nk), (ant, aJ K 120 nt), (aag, aI K 120 fag), (abk, aI K 120 fbk), (atd, aI K 120 ftd), (ase, aZ K 120 fse)] rfl rfl (by decide) rfl (st := [.ref y]) rfl (Nat.le_of_ble_eq_true rfl) (by decide) ⟨by decide, by decide⟩ dX4_list_9 (fun v9 w9 h9 => ?_)
      obtain ⟨rfl, rfl⟩ := h9
      refine lx_perm [0, 1, 2, 3, 4, 5, 6, 7, 8, 9, 10, 11, 12, 13, 14] [(y, .inr (4, [.int th, .ref acd, .ref akd, .ref act, .int (nI u), .ref ark, .ref arr, .int z, .int kk, .long kc, .ref ali, .int mn, .ref ala, .ref anc, .ref ank, .ref ant, .int nx, .ref aag, .ref abk, .ref atd, .ref ase])), (acd, aI K 120 cd), (akd, aI K 120 kd), (act, aJ K 120 ct), (ark, aI K 10 rk1), (arr, aJ K 10 rr1), (ali, aI K 120 fl), (ala, aI K 120 fla), (anc, aI K 120 nc), (ank, aI K 120 nk), (ant, aJ K 120 nt), (aag, aI K 120 fag), (abk, aI K 120 fbk), (atd, aI K 120 ftd), (ase, aZ K 120 fse)] (by decide) rfl ?_
      refine lx_st (a' := 0) (b' := 0) [.int (bI true), .ref y] rfl rfl rfl ?_
      refine lx_if_eq F 19 dX4_list_12 rfl (fun h => absurd h (by decide)) (fun _ => ?_)
      refine lx_iconst F dX4_list_15 kc_1 ?_
      refine lx_goto F 20 dX4_list_16 rfl ?_
      refine lx_iload_n F dX4_list_20 3 rfl ?_
      refine lx_iconst F dX4_list_21 kc_1 ?_
      refine lx_icmp_lt F 39 dX4_list_22 rfl (fun h1 => ?_) (fun h1 => ?_)
      · skip
        refine lx_iconst F dX4_list_39 kc_1 ?_
        refine lx_goto F 44 dX4_list_40 rfl ?_
        refine lx_cv F (zr_refuse (xl E) K y acd akd act ark arr ali ala anc ank ant aag abk atd ase th z kk kc mn nx (nI u) true true) cv_X4_110 0 rfl rfl [0] [1, 2, 3, 4, 5, 6, 7, 8, 9, 10, 11, 12, 13, 14] [(acd, aI K 120 cd), (akd, aI K 120 kd), (act, aJ K 120 ct), (ark, aI K 10 rk1), (arr, aJ K 10 rr1), (ali, aI K 120 fl), (ala, aI K 120 fla), (anc, aI K 120 nc), (ank, aI K 120 nk), (ant, aJ K 120 nt), (aag, aI K 120 fag), (abk, aI K 120 fbk), (atd, aI K 120 ftd), (ase, aZ K 120 fse)] rfl rfl (by decide) rfl (st := []) rfl (Nat.le_of_ble_eq_true rfl) (by decide) ⟨by decide, by decide⟩ dX4_list_44 (fun v9 w9 h9 => ?_)
        obtain ⟨rfl, rfl⟩ := h9
        refine lx_perm [14, 0, 1, 2, 3, 4, 5, 6, 7, 8, 9, 10, 11, 12, 13] [(y, .inr (4, [.int (nI (lm_rf true true)), .ref acd, .ref akd, .ref act, .int (nI u), .ref ark, .ref arr, .int z, .int kk, .long kc, .ref ali, .int mn, .ref ala, .ref anc, .ref ank, .ref ant, .int nx, .ref aag, .ref abk, .ref atd, .ref ase])), (acd, aI K 120 cd), (akd, aI K 120 kd), (act, aJ K 120 ct), (ark, aI K 10 rk1), (arr, aJ K 10 rr1), (ali, aI K 120 fl), (ala, aI K 120 fla), (anc, aI K 120 nc), (ank, aI K 120 nk), (ant, aJ K 120 nt), (aag, aI K 120 fag), (abk, aI K 120 fbk), (atd, aI K 120 ftd), (ase, aZ K 120 fse)] (by decide) rfl ?_
        refine lx_st (a' := 0) (b' := 0) [.int (bI true)] rfl rfl rfl ?_
        refine lx_if_eq F 51 dX4_list_47 rfl (fun h => absurd h (by decide)) (fun _ => ?_)
        exact lx_vret F hR dX4_list_50 ⟨rfl, by rw [show lm_oList (nI k) f n (c, w, u, rt, z) = (1, (c, w, u, rt, z)) by unfold lm_oList; rw [lm_none_n hk, hnf]; rfl]; exact ⟨_, _, _, _, _, _, _, _, _, _, _, _, _, _, _, _, _, _, _, _, _, _, _, _, _, _, _, _, _, _, _, _, hh, hro, rfl⟩⟩
      · skip
        refine lx_iload_n F dX4_list_25 3 rfl ?_
        refine lx_bipush F dX4_list_26 kb_10 ?_
        refine lx_icmp_gt F 39 dX4_list_28 rfl (fun h2 => ?_) (fun h2 => ?_)
        · skip
          refine lx_iconst F dX4_list_39 kc_1 ?_
          refine lx_goto F 44 dX4_list_40 rfl ?_
          refine lx_cv F (zr_refuse (xl E) K y acd akd act ark arr ali ala anc ank ant aag abk atd ase th z kk kc mn nx (nI u) true true) cv_X4_110 0 rfl rfl [0] [1, 2, 3, 4, 5, 6, 7, 8, 9, 10, 11, 12, 13, 14] [(acd, aI K 120 cd), (akd, aI K 120 kd), (act, aJ K 120 ct), (ark, aI K 10 rk1), (arr, aJ K 10 rr1), (ali, aI K 120 fl), (ala, aI K 120 fla), (anc, aI K 120 nc), (ank, aI K 120 nk), (ant, aJ K 120 nt), (aag, aI K 120 fag), (abk, aI K 120 fbk), (atd, aI K 120 ftd), (ase, aZ K 120 fse)] rfl rfl (by decide) rfl (st := []) rfl (Nat.le_of_ble_eq_true rfl) (by decide) ⟨by decide, by decide⟩ dX4_list_44 (fun v9 w9 h9 => ?_)
          obtain ⟨rfl, rfl⟩ := h9
          refine lx_perm [14, 0, 1, 2, 3, 4, 5, 6, 7, 8, 9, 10, 11, 12, 13] [(y, .inr (4, [.int (nI (lm_rf true true)), .ref acd, .ref akd, .ref act, .int (nI u), .ref ark, .ref arr, .int z, .int kk, .long kc, .ref ali, .int mn, .ref ala, .ref anc, .ref ank, .ref ant, .int nx, .ref aag, .ref abk, .ref atd, .ref ase])), (acd, aI K 120 cd), (akd, aI K 120 kd), (act, aJ K 120 ct), (ark, aI K 10 rk1), (arr, aJ K 10 rr1), (ali, aI K 120 fl), (ala, aI K 120 fla), (anc, aI K 120 nc), (ank, aI K 120 nk), (ant, aJ K 120 nt), (aag, aI K 120 fag), (abk, aI K 120 fbk), (atd, aI K 120 ftd), (ase, aZ K 120 fse)] (by decide) rfl ?_
          refine lx_st (a' := 0) (b' := 0) [.int (bI true)] rfl rfl rfl ?_
          refine lx_if_eq F 51 dX4_list_47 rfl (fun h => absurd h (by decide)) (fun _ => ?_)
          exact lx_vret F hR dX4_list_50 ⟨rfl, by rw [show lm_oList (nI k) f n (c, w, u, rt, z) = (1, (c, w, u, rt, z)) by unfold lm_oList; rw [lm_none_n hk, hnf]; rfl]; exact ⟨_, _, _, _, _, _, _, _, _, _, _, _, _, _, _, _, _, _, _, _, _, _, _, _, _, _, _, _, _, _, _, _, hh, hro, rfl⟩⟩
        · skip
          refine lx_iload_n F dX4_list_31 2 rfl ?_
          refine lx_bipush F dX4_list_32 kb_10 ?_
          refine lx_iload_n F dX4_list_34 3 rfl ?_
          refine lx_isub F dX4_list_35 rfl ?_
          refine lx_icmp_le F 43 dX4_list_36 rfl (fun h3 => ?_) (fun h3 => ?_)
          · skip
            refine lx_iconst F dX4_list_43 kc_0 ?_
            refine lx_cv F (zr_refuse (xl E) K y acd akd act ark arr ali ala anc ank ant aag abk atd ase th z kk kc mn nx (nI u) true false) cv_X4_110 0 rfl rfl [0] [1, 2, 3, 4, 5, 6, 7, 8, 9, 10, 11, 12, 13, 14] [(acd, aI K 120 cd), (akd, aI K 120 kd), (act, aJ K 120 ct), (ark, aI K 10 rk1), (arr, aJ K 10 rr1), (ali, aI K 120 fl), (ala, aI K 120 fla), (anc, aI K 120 nc), (ank, aI K 120 nk), (ant, aJ K 120 nt), (aag, aI K 120 fag), (abk, aI K 120 fbk), (atd, aI K 120 ftd), (ase, aZ K 120 fse)] rfl rfl (by decide) rfl (st := []) rfl (Nat.le_of_ble_eq_true rfl) (by decide) ⟨by decide, by decide⟩ dX4_list_44 (fun v9 w9 h9 => ?_)
            obtain ⟨rfl, rfl⟩ := h9
            refine lx_perm [14, 0, 1, 2, 3, 4, 5, 6, 7, 8, 9, 10, 11, 12, 13] [(y, .inr (4, [.int (nI (lm_rf true false)), .ref acd, .ref akd, .ref act, .int (nI u), .ref ark, .ref arr, .int z, .int kk, .long kc, .ref ali, .int mn, .ref ala, .ref anc, .ref ank, .ref ant, .int nx, .ref aag, .ref abk, .ref atd, .ref ase])), (acd, aI K 120 cd), (akd, aI K 120 kd), (act, aJ K 120 ct), (ark, aI K 10 rk1), (arr, aJ K 10 rr1), (ali, aI K 120 fl), (ala, aI K 120 fla), (anc, aI K 120 nc), (ank, aI K 120 nk), (ant, aJ K 120 nt), (aag, aI K 120 fag), (abk, aI K 120 fbk), (atd, aI K 120 ftd), (ase, aZ K 120 fse)] (by decide) rfl ?_
            refine lx_st (a' := 0) (b' := 0) [.int (bI true)] rfl rfl rfl ?_
            refine lx_if_eq F 51 dX4_list_47 rfl (fun h => absurd h (by decide)) (fun _ => ?_)
            exact lx_vret F hR dX4_list_50 ⟨rfl, by rw [show lm_oList (nI k) f n (c, w, u, rt, z) = (1, (c, w, u, rt, z)) by unfold lm_oList; rw [lm_none_n hk, hnf]; rfl]; exact ⟨_, _, _, _, _, _, _, _, _, _, _, _, _, _, _, _, _, _, _, _, _, _, _, _, _, _, _, _, _, _, _, _, hh, hro, rfl⟩⟩
          · skip
            refine lx_iconst F dX4_list_39 kc_1 ?_
            refine lx_goto F 44 dX4_list_40 rfl ?_
            refine lx_cv F (zr_refuse (xl E) K y acd akd act ark arr ali ala anc ank ant aag abk atd ase th z kk kc mn nx (nI u) true true) cv_X4_110 0 rfl rfl [0] [1, 2, 3, 4, 5, 6, 7, 8, 9, 10, 11, 12, 13, 14] [(acd, aI K 120 cd), (akd, aI K 120 kd), (act, aJ K 120 ct), (ark, aI K 10 rk1), (arr, aJ K 10 rr1), (ali, aI K 120 fl), (ala, aI K 120 fla), (anc, aI K 120 nc), (ank, aI K 120 nk), (ant, aJ K 120 nt), (aag, aI K 120 fag), (abk, aI K 120 fbk), (atd, aI K 120 ftd), (ase, aZ K 120 fse)] rfl rfl (by decide) rfl (st := []) rfl (Nat.le_of_ble_eq_true rfl) (by decide) ⟨by decide, by decide⟩ dX4_list_44 (fun v9 w9 h9 => ?_)
            obtain ⟨rfl, rfl⟩ := h9
            refine lx_perm [14, 0, 1, 2, 3, 4, 5, 6, 7, 8, 9, 10, 11, 12, 13] [(y, .inr (4, [.int (nI (lm_rf true true)), .ref acd, .ref akd, .ref act, .int (nI u), .ref ark, .ref arr, .int z, .int kk, .long kc, .ref ali, .int mn, .ref ala, .ref anc, .ref ank, .ref ant, .int nx, .ref aag, .ref abk, .ref atd, .ref ase])), (acd, aI K 120 cd), (akd, aI K 120 kd), (act, aJ K 120 ct), (ark, aI K 10 rk1), (arr, aJ K 10 rr1), (ali, aI K 120 fl), (ala, aI K 120 fla), (anc, aI K 120 nc), (ank, aI K 120 nk), (ant, aJ K 120 nt), (aag, aI K 120 fag), (abk, aI K 120 fbk), (atd, aI K 120 ftd), (ase, aZ K 120 fse)] (by decide) rfl ?_
            refine lx_st (a' := 0) (b' := 0) [.int (bI true)] rfl rfl rfl ?_
            refine lx_if_eq F 51 dX4_list_47 rfl (fun h => absurd h (by decide)) (fun _ => ?_)
            exact lx_vret F hR dX4_list_50 ⟨rfl, by rw [show lm_oList (nI k) f n (c, w, u, rt, z) = (1, (c, w, u, rt, z)) by unfold lm_oList; rw [lm_none_n hk, hnf]; rfl]; exact ⟨_, _, _, _, _, _, _, _, _, _, _, _, _, _, _, _, _, _, _, _, _, _, _, _, _, _, _, _, _, _, _, _, hh, hro, rfl⟩⟩
  · skip
    refine lx_aload_n F dX4_list_0 0 rfl ?_
    refine lx_iload_n F dX4_list_1 1 rfl ?_
    refine lx_cs F (zr_none2 (xl E) K r true hnr) cs_X4_102 [] [0, 1, 2, 3, 4, 5, 6, 7, 8, 9, 10, 11, 12, 13, 14] [(y, .inr (4, [.int th, .ref acd, .ref akd, .ref act, .int (nI u), .ref ark, .ref arr, .int z, .int kk, .long kc, .ref ali, .int mn, .ref ala, .ref anc, .ref ank, .ref ant, .int nx, .ref aag, .ref abk, .ref atd, .ref ase])), (acd, aI K 120 cd), (akd, aI K 120 kd), (act, aJ K 120 ct), (ark, aI K 10 rk1), (arr, aJ K 10 rr1), (ali, aI K 120 fl), (ala, aI K 120 fla), (anc, aI K 120 nc), (ank, aI K 120 nk), (ant, aJ K 120 nt), (aag, aI K 120 fag), (abk, aI K 120 fbk), (atd, aI K 120 ftd), (ase, aZ K 120 fse)] rfl rfl (by decide) rfl (st := [.ref y]) rfl (Nat.le_of_ble_eq_true rfl) (by decide) ⟨by decide, by decide⟩ dX4_list_2 (fun v9 w9 h9 => ?_)
    obtain ⟨rfl, rfl⟩ := h9
    refine lx_perm [0, 1, 2, 3, 4, 5, 6, 7, 8, 9, 10, 11, 12, 13, 14] [(y, .inr (4, [.int th, .ref acd, .ref akd, .ref act, .int (nI u), .ref ark, .ref arr, .int z, .int kk, .long kc, .ref ali, .int mn, .ref ala, .ref anc, .ref ank, .ref ant, .int nx, .ref aag, .ref abk, .ref atd, .ref ase])), (acd, aI K 120 cd), (akd, aI K 120 kd), (act, aJ K 120 ct), (ark, aI K 10 rk1), (arr, aJ K 10 rr1), (ali, aI K 120 fl), (ala, aI K 120 fla), (anc, aI K 120 nc), (ank, aI K 120 nk), (ant, aJ K 120 nt), (aag, aI K 120 fag), (abk, aI K 120 fbk), (atd, aI K 120 ftd), (ase, aZ K 120 fse)] (by decide) rfl ?_
    refine lx_st (a' := 0) (b' := 0) [.int (bI true), .ref y] rfl rfl rfl ?_
    refine lx_if_ne F 15 dX4_list_5 rfl (fun _ => ?_) (fun h => absurd h (by decide))
    refine lx_iconst F dX4_list_15 kc_1 ?_
    refine lx_goto F 20 dX4_list_16 rfl ?_
    refine lx_iload_n F dX4_list_20 3 rfl ?_
    refine lx_iconst F dX4_list_21 kc_1 ?_
    refine lx_icmp_lt F 39 dX4_list_22 rfl (fun h1 => ?_) (fun h1 => ?_)
    · skip
      refine lx_iconst F dX4_list_39 kc_1 ?_
      refine lx_goto F 44 dX4_list_40 rfl ?_
      refine lx_cv F (zr_refuse (xl E) K y acd akd act ark arr ali ala anc ank ant aag abk atd ase th z kk kc mn nx (nI u) true true) cv_X4_110 0 rfl rfl [0] [1, 2, 3, 4, 5, 6, 7, 8, 9, 10, 11, 12, 13, 14] [(acd, aI K 120 cd), (akd, aI K 120 kd), (act, aJ K 120 ct), (ark, aI K 10 rk1), (arr, aJ K 10 rr1), (ali, aI K 120 fl), (ala, aI K 120 fla), (anc, aI K 120 nc), (ank, aI K 120 nk), (ant, aJ K 120 nt), (aag, aI K 120 fag), (abk, aI K 120 fbk), (atd, aI K 120 ftd), (ase, aZ K 120 fse)] rfl rfl (by decide) rfl (st := []) rfl (Nat.le_of_ble_eq_true rfl) (by decide) ⟨by decide, by decide⟩ dX4_list_44 (fun v9 w9 h9 => ?_)
      obtain ⟨rfl, rfl⟩ := h9
      refine lx_perm [14, 0, 1, 2, 3, 4, 5, 6, 7, 8, 9, 10, 11, 12, 13] [(y, .inr (4, [.int (nI (lm_rf true true)), .ref acd, .ref akd, .ref act, .int (nI u), .ref ark, .ref arr, .int z, .int kk, .long kc, .ref ali, .int mn, .ref ala, .ref anc, .ref ank, .ref ant, .int nx, .ref aag, .ref abk, .ref atd, .ref ase])), (acd, aI K 120 cd), (akd, aI K 120 kd), (act, aJ K 120 ct), (ark, aI K 10 rk1), (arr, aJ K 10 rr1), (ali, aI K 120 fl), (ala, aI K 120 fla), (anc, aI K 120 nc), (ank, aI K 120 nk), (ant, aJ K 120 nt), (aag, aI K 120 fag), (abk, aI K 120 fbk), (atd, aI K 120 ftd), (ase, aZ K 120 fse)] (by decide) rfl ?_
      refine lx_st (a' := 0) (b' := 0) [.int (bI true)] rfl rfl rfl ?_
      refine lx_if_eq F 51 dX4_list_47 rfl (fun h => absurd h (by decide)) (fun _ => ?_)
      exact lx_vret F hR dX4_list_50 ⟨rfl, by rw [show lm_oList r f n (c, w, u, rt, z) = (1, (c, w, u, rt, z)) by unfold lm_oList; rw [hnr]; rfl]; exact ⟨_, _, _, _, _, _, _, _, _, _, _, _, _, _, _, _, _, _, _, _, _, _, _, _, _, _, _, _, _, _, _, _, hh, hro, rfl⟩⟩
    · skip
      refine lx_iload_n F dX4_list_25 3 rfl ?_
      refine lx_bipush F dX4_list_26 kb_10 ?_
      refine lx_icmp_gt F 39 dX4_list_28 rfl (fun h2 => ?_) (fun h2 => ?_)
      · skip
        refine lx_iconst F dX4_list_39 kc_1 ?_
        refine lx_goto F 44 dX4_list_40 rfl ?_
        refine lx_cv F (zr_refuse (xl E) K y acd akd act ark arr ali ala anc ank ant aag abk atd ase th z kk kc mn nx (nI u) true true) cv_X4_110 0 rfl rfl [0] [1, 2, 3, 4, 5, 6, 7, 8, 9, 10, 11, 12, 13, 14] [(acd, aI K 120 cd), (akd, aI K 120 kd), (act, aJ K 120 ct), (ark, aI K 10 rk1), (arr, aJ K 10 rr1), (ali, aI K 120 fl), (ala, aI K 120 fla), (anc, aI K 120 nc), (ank, aI K 120 nk), (ant, aJ K 120 nt), (aag, aI K 120 fag), (abk, aI K 120 fbk), (atd, aI K 120 ftd), (ase, aZ K 120 fse)] rfl rfl (by decide) rfl (st := []) rfl (Nat.le_of_ble_eq_true rfl) (by decide) ⟨by decide, by decide⟩ dX4_list_44 (fun v9 w9 h9 => ?_)
        obtain ⟨rfl, rfl⟩ := h9
        refine lx_perm [14, 0, 1, 2, 3, 4, 5, 6, 7, 8, 9, 10, 11, 12, 13] [(y, .inr (4, [.int (nI (lm_rf true true)), .ref acd, .ref akd, .ref act, .int (nI u), .ref ark, .ref arr, .int z, .int kk, .long kc, .ref ali, .int mn, .ref ala, .ref anc, .ref ank, .ref ant, .int nx, .ref aag, .ref abk, .ref atd, .ref ase])), (acd, aI K 120 cd), (akd, aI K 120 kd), (act, aJ K 120 ct), (ark, aI K 10 rk1), (arr, aJ K 10 rr1), (ali, aI K 120 fl), (ala, aI K 120 fla), (anc, aI K 120 nc), (ank, aI K 120 nk), (ant, aJ K 120 nt), (aag, aI K 120 fag), (abk, aI K 120 fbk), (atd, aI K 120 ftd), (ase, aZ K 120 fse)] (by decide) rfl ?_
        refine lx_st (a' := 0) (b' := 0) [.int (bI true)] rfl rfl rfl ?_
        refine lx_if_eq F 51 dX4_list_47 rfl (fun h => absurd h (by decide)) (fun _ => ?_)
        exact lx_vret F hR dX4_list_50 ⟨rfl, by rw [show lm_oList r f n (c, w, u, rt, z) = (1, (c, w, u, rt, z)) by unfold lm_oList; rw [hnr]; rfl]; exact ⟨_, _, _, _, _, _, _, _, _, _, _, _, _, _, _, _, _, _, _, _, _, _, _, _, _, _, _, _, _, _, _, _, hh, hro, rfl⟩⟩
      · skip
        refine lx_iload_n F dX4_list_31 2 rfl ?_
        refine lx_bipush F dX4_list_32 kb_10 ?_
        refine lx_iload_n F dX4_list_34 3 rfl ?_
        refine lx_isub F dX4_list_35 rfl ?_
        refine lx_icmp_le F 43 dX4_list_36 rfl (fun h3 => ?_) (fun h3 => ?_)
        · skip
          refine lx_iconst F dX4_list_43 kc_0 ?_
          refine lx_cv F (zr_refuse (xl E) K y acd akd act ark arr ali ala anc ank ant aag abk atd ase th z kk kc mn nx (nI u) true false) cv_X4_110 0 rfl rfl [0] [1, 2, 3, 4, 5, 6, 7, 8, 9, 10, 11, 12, 13, 14] [(acd, aI K 120 cd), (akd, aI K 120 kd), (act, aJ K 120 ct), (ark, aI K 10 rk1), (arr, aJ K 10 rr1), (ali, aI K 120 fl), (ala, aI K 120 fla), (anc, aI K 120 nc), (ank, aI K 120 nk), (ant, aJ K 120 nt), (aag, aI K 120 fag), (abk, aI K 120 fbk), (atd, aI K 120 ftd), (ase, aZ K 120 fse)] rfl rfl (by decide) rfl (st := []) rfl (Nat.le_of_ble_eq_true rfl) (by decide) ⟨by decide, by decide⟩ dX4_list_44 (fun v9 w9 h9 => ?_)
          obtain ⟨rfl, rfl⟩ := h9
          refine lx_perm [14, 0, 1, 2, 3, 4, 5, 6, 7, 8, 9, 10, 11, 12, 13] [(y, .inr (4, [.int (nI (lm_rf true false)), .ref acd, .ref akd, .ref act, .int (nI u), .ref ark, .ref arr, .int z, .int kk, .long kc, .ref ali, .int mn, .ref ala, .ref anc, .ref ank, .ref ant, .int nx, .ref aag, .ref abk, .ref atd, .ref ase])), (acd, aI K 120 cd), (akd, aI K 120 kd), (act, aJ K 120 ct), (ark, aI K 10 rk1), (arr, aJ K 10 rr1), (ali, aI K 120 fl), (ala, aI K 120 fla), (anc, aI K 120 nc), (ank, aI K 120 nk), (ant, aJ K 120 nt), (aag, aI K 120 fag), (abk, aI K 120 fbk), (atd, aI K 120 ftd), (ase, aZ K 120 fse)] (by decide) rfl ?_
          refine lx_st (a' := 0) (b' := 0) [.int (bI true)] rfl rfl rfl ?_
          refine lx_if_eq F 51 dX4_list_47 rfl (fun h => absurd h (by decide)) (fun _ => ?_)
          exact lx_vret F hR dX4_list_50 ⟨rfl, by rw [show lm_oList r f n (c, w, u, rt, z) = (1, (c, w, u, rt, z)) by unfold lm_oList; rw [hnr]; rfl]; exact ⟨_, _, _, _, _, _, _, _, _, _, _, _, _, _, _, _, _, _, _, _, _, _, _, _, _, _, _, _, _, _, _, _, hh, hro, rfl⟩⟩
        · skip
          refine lx_iconst F dX4_list_39 kc_1 ?_
          refine lx_goto F 44 dX4_list_40 rfl ?_
          refine lx_cv F (zr_refuse (xl E) K y acd akd act ark arr ali ala anc ank ant aag abk atd ase th z kk kc mn nx (nI u) true true) cv_X4_110 0 rfl rfl [0] [1, 2, 3, 4, 5, 6, 7, 8, 9, 10, 11, 12, 13, 14] [(acd, aI K 120 cd), (akd, aI K 120 kd), (act, aJ K 120 ct), (ark, aI K 10 rk1), (arr, aJ K 10 rr1), (ali, aI K 120 fl), (ala, aI K 120 fla), (anc, aI K 120 nc), (ank, aI K 120 nk), (ant, aJ K 120 nt), (aag, aI K 120 fag), (abk, aI K 120 fbk), (atd, aI K 120 ftd), (ase, aZ K 120 fse)] rfl rfl (by decide) rfl (st := []) rfl (Nat.le_of_ble_eq_true rfl) (by decide) ⟨by decide, by decide⟩ dX4_list_44 (fun v9 w9 h9 => ?_)
          obtain ⟨rfl, rfl⟩ := h9
          refine lx_perm [14, 0, 1, 2, 3, 4, 5, 6, 7, 8, 9, 10, 11, 12, 13] [(y, .inr (4, [.int (nI (lm_rf true true)), .ref acd, .ref akd, .ref act, .int (nI u), .ref ark, .ref arr, .int z, .int kk, .long kc, .ref ali, .int mn, .ref ala, .ref anc, .ref ank, .ref ant, .int nx, .ref aag, .ref abk, .ref atd, .ref ase])), (acd, aI K 120 cd), (akd, aI K 120 kd), (act, aJ K 120 ct), (ark, aI K 10 rk1), (arr, aJ K 10 rr1), (ali, aI K 120 fl), (ala, aI K 120 fla), (anc, aI K 120 nc), (ank, aI K 120 nk), (ant, aJ K 120 nt), (aag, aI K 120 fag), (abk, aI K 120 fbk), (atd, aI K 120 ftd), (ase, aZ K 120 fse)] (by decide) rfl ?_
          refine lx_st (a' := 0) (b' := 0) [.int (bI true)] rfl rfl rfl ?_
          refine lx_if_eq F 51 dX4_list_47 rfl (fun h => absurd h (by decide)) (fun _ => ?_)
          exact lx_vret F hR dX4_list_50 ⟨rfl, by rw [show lm_oList r f n (c, w, u, rt, z) = (1, (c, w, u, rt, z)) by unfold lm_oList; rw [hnr]; rfl]; exact ⟨_, _, _, _, _, _, _, _, _, _, _, _, _, _, _, _, _, _, _, _, _, _, _, _, _, _, _, _, _, _, _, _, hh, hro, rfl⟩⟩

set_option maxHeartbeats 4000000 in
set_option maxRecDepth 100000 in
theorem zR_setRest (l : Launch) (K : lm_G) (y : Nat) (c : Nat → Nat) (w : Nat → lm_V) (u : Nat) (rt : Nat → lm_V) (z : Int32) (hst : lm_st c w u rt) (th : Int32) (W : va_W) (hW : lm_mod K y (c, w, u, rt, z) th W) (r f : Int32) : lm_C l K mX4_setRest (rk 5) [.ref y, .int r, .int f] W (fun v9 w9 => v9 = none ∧ lm_mod K y (lm_oSetRest r f (c, w, u, rt, z)).2 (nI (lm_oSetRest r f (c, w, u, rt, z)).1) w9) := by
  obtain ⟨acd, akd, act, ark, arr, ali, ala, anc, ank, ant, aag, abk, atd, ase, kk, kc, mn, nx, cd, kd, ct, rk1, rr1, fl, fla, nc, nk, nt, fag, fbk, ftd, fse, hh, hro, rfl⟩ := hW
  have hh : lm_mf cd kd ct c w u := hh
  have hro : ∀ r, r < 10 → rk1 r = nI (rt r).1 ∧ rr1 r = jI (rt r).2 := hro
  have hw := hst.1
  have hr9 := hst.2
  have hu := hw.1
  refine lx_met RX4 pn_X4 rfl (Nat.le_of_ble_eq_true rfl) (fun E hE hnm F hR => ?_)
  have F : lx_F K 7 E cX4_setRest RX4 none (rk 5) := F
  show lx_W K 7 E 0 0 0 [(0, .ref y), (1, .int r), (2, .int f)] [] [(y, .inr (4, [.int th, .ref acd, .ref akd, .ref act, .int (nI u), .ref ark, .ref arr, .int z, .int kk, .long kc, .ref ali, .int mn, .ref ala, .ref anc, .ref ank, .ref ant, .int nx, .ref aag, .ref abk, .ref atd, .ref ase])), (acd, aI K 120 cd), (akd, aI K 120 kd), (act, aJ K 120 ct), (ark, aI K 10 rk1), (arr, aJ K 10 rr1), (ali, aI K 120 fl), (ala, aI K 120 fla), (anc, aI K 120 nc), (ank, aI K 120 nk), (ant, aJ K 120 nt), (aag, aI K 120 fag), (abk, aI K 120 fbk), (atd, aI K 120 ftd), (ase, aZ K 120 fse)]
  cases hnr : lm_none r
  · skip
    obtain ⟨k, hk, rfl⟩ := lm_none_f hnr
    cases hnf : lm_none f
    · skip
      obtain ⟨j, hj, rfl⟩ := lm_none_f hnf
      refine lx_iload_n F dX4_setRest_0 1 rfl ?_
      refine lx_cs F (zr_none2 (xl E) K (nI k) false (lm_none_n hk)) cs_X4_102 [] [0, 1, 2, 3, 4, 5, 6, 7, 8, 9, 10, 11, 12, 13, 14] [(y, .inr (4, [.int th, .ref acd, .ref akd, .ref act, .int (nI u), .ref ark, .ref arr, .int z, .int kk, .long kc, .ref ali, .int mn, .ref ala, .ref anc, .ref ank, .ref ant, .int nx, .ref aag, .ref abk, .ref atd, .ref ase])), (acd, aI K 120 cd), (akd, aI K 120 kd), (act, aJ K 120 ct), (ark, aI K 10 rk1), (arr, aJ K 10 rr1), (ali, aI K 120 fl), (ala, aI K 120 fla), (anc, aI K 120 nc), (ank, aI K 120 nk), (ant, aJ K 120 nt), (aag, aI K 120 fag), (abk, aI K 120 fbk), (atd, aI K 120 ftd), (ase, aZ K 120 fse)] rfl rfl (by decide) rfl (st := []) rfl (Nat.le_of_ble_eq_true rfl) (by decide) ⟨by decide, by decide⟩ dX4_setRest_1 (fun v9 w9 h9 => ?_)
      obtain ⟨rfl, rfl⟩ := h9
      refine lx_perm [0, 1, 2, 3, 4, 5, 6, 7, 8, 9, 10, 11, 12, 13, 14] [(y, .inr (4, [.int th, .ref acd, .ref akd, .ref act, .int (nI u), .ref ark, .ref arr, .int z, .int kk, .long kc, .ref ali, .int mn, .ref ala, .ref anc, .ref ank, .ref ant, .int nx, .ref aag, .ref abk, .ref atd, .ref ase])), (acd, aI K 120 cd), (akd, aI K 120 kd), (act, aJ K 120 ct), (ark, aI K 10 rk1), (arr, aJ K 10 rr1), (ali, aI K 120 fl), (ala, aI K 120 fla), (anc, aI K 120 nc), (ank, aI K 120 nk), (ant, aJ K 120 nt), (aag, aI K 120 fag), (abk, aI K 120 fbk), (atd, aI K 120 ftd), (ase, aZ K 120 fse)] (by decide) rfl ?_
      refine lx_st (a' := 0) (b' := 0) [.int (bI false)] rfl rfl rfl ?_
      refine lx_if_ne F 14 dX4_setRest_4 rfl (fun h => absurd (by decide) h) (fun _ => ?_)
      refine lx_iload_n F dX4_setRest_7 2 rfl ?_
      refine lx_cs F (zr_none2 (xl E) K (nI j) false (lm_none_n hj)) cs_X4_102 [] [0, 1, 2, 3, 4, 5, 6, 7, 8, 9, 10, 11, 12, 13, 14] [(y, .inr (4, [.int th, .ref acd, .ref akd, .ref act, .int (nI u), .ref ark, .ref arr, .int z, .int kk, .long kc, .ref ali, .int mn, .ref ala, .ref anc, .ref ank, .ref ant, .int nx, .ref aag, .ref abk, .ref atd, .ref ase])), (acd, aI K 120 cd), (akd, aI K 120 kd), (act, aJ K 120 ct), (ark, aI K 10 rk1), (arr, aJ K 10 rr1), (ali, aI K 120 fl), (ala, aI K 120 fla), (anc, aI K 120 nc), (ank, aI K 120 nk), (ant, aJ K 120 nt), (aag, aI K 120 fag), (abk, aI K 120 fbk), (atd, aI K 120 ftd), (ase, aZ K 120 fse)] rfl rfl (by decide) rfl (st := []) rfl (Nat.le_of_ble_eq_true rfl) (by decide) ⟨by decide, by decide⟩ dX4_setRest_8 (fun v9 w9 h9 => ?_)
      obtain ⟨rfl, rfl⟩ := h9
      refine lx_perm [0, 1, 2, 3, 4, 5, 6, 7, 8, 9, 10, 11, 12, 13, 14] [(y, .inr (4, [.int th, .ref acd, .ref akd, .ref act, .int (nI u), .ref ark, .ref arr, .int z, .int kk, .long kc, .ref ali, .int mn, .ref ala, .ref anc, .ref ank, .ref ant, .int nx, .ref aag, .ref abk, .ref atd, .ref ase])), (acd, aI K 120 cd), (akd, aI K 120 kd), (act, aJ K 120 ct), (ark, aI K 10 rk1), (arr, aJ K 10 rr1), (ali, aI K 120 fl), (ala, aI K 120 fla), (anc, aI K 120 nc), (ank, aI K 120 nk), (ant, aJ K 120 nt), (aag, aI K 120 fag), (abk, aI K 120 fbk), (atd, aI K 120 ftd), (ase, aZ K 120 fse)] (by decide) rfl ?_
      refine lx_st (a' := 0) (b' := 0) [.int (bI false)] rfl rfl rfl ?_
      refine lx_if_eq F 18 dX4_setRest_11 rfl (fun _ => ?_) (fun h => absurd (by decide) h)
      refine lx_iconst F dX4_setRest_18 kc_0 ?_
      refine lx_istore_n F [(0, .ref y), (1, .int (nI k)), (2, .int (nI j)), (3, .int (nI 0))] [1, 2, 3, 0] dX4_setRest_19 rfl (by decide) ?_
      refine lx_aload_n F dX4_setRest_20 0 rfl ?_
      refine lx_iload_n F dX4_setRest_21 3 rfl ?_
      refine lx_iload_n F dX4_setRest_22 3 rfl ?_
      refine lx_ifN_ne F 40 (by omega) dX4_setRest_23 rfl (fun h => absurd h (by omega)) (fun _ => ?_)
      have hk3 := lm_ok_kind (hr9 k hk)
      refine lx_aload_n F dX4_setRest_26 0 rfl ?_
      refine gf_X4_20 F 0 rfl rfl dX4_setRest_27 ?_
      refine lx_iload_n F dX4_setRest_30 1 rfl ?_
      refine lx_iald F 4 k dX4_setRest_31 rfl (by omega) (by decide) ?_
      rw [(hro k hk).1]
      refine lx_iconst F dX4_setRest_32 kc_2 ?_
      refine lx_icmpN_eq F 40 (by omega) (by omega) dX4_setRest_33 rfl (fun h2 => ?_) (fun h2 => ?_)
      · skip
        have hcl := lm_to_cl hw (hr9 k hk) h2
        have hp1 := hcl.1
        refine lx_iconst F dX4_setRest_40 kc_0 ?_
        refine lx_cv F (zr_refuse (xl E) K y acd akd act ark arr ali ala anc ank ant aag abk atd ase th z kk kc mn nx (nI u) false false) cv_X4_110 0 rfl rfl [0] [1, 2, 3, 4, 5, 6, 7, 8, 9, 10, 11, 12, 13, 14] [(acd, aI K 120 cd), (akd, aI K 120 kd), (act, aJ K 120 ct), (ark, aI K 10 rk1), (arr, aJ K 10 rr1), (ali, aI K 120 fl), (ala, aI K 120 fla), (anc, aI K 120 nc), (ank, aI K 120 nk), (ant, aJ K 120 nt), (aag, aI K 120 fag), (abk, aI K 120 fbk), (atd, aI K 120 ftd), (ase, aZ K 120 fse)] rfl rfl (by decide) rfl (st := []) rfl (Nat.le_of_ble_eq_true rfl) (by decide) ⟨by decide, by decide⟩ dX4_setRest_41 (fun v9 w9 h9 => ?_)
        obtain ⟨rfl, rfl⟩ := h9
        refine lx_perm [14, 0, 1, 2, 3, 4, 5, 6, 7, 8, 9, 10, 11, 12, 13] [(y, .inr (4, [.int (nI (lm_rf false false)), .ref acd, .ref akd, .ref act, .int (nI u), .ref ark, .ref arr, .int z, .int kk, .long kc, .ref ali, .int mn, .ref ala, .ref anc, .ref ank, .ref ant, .int nx, .ref aag, .ref abk, .ref atd, .ref ase])), (acd, aI K 120 cd), (akd, aI K 120 kd), (act, aJ K 120 ct), (ark, aI K 10 rk1), (arr, aJ K 10 rr1), (ali, aI K 120 fl), (ala, aI K 120 fla), (anc, aI K 120 nc), (ank, aI K 120 nk), (ant, aJ K 120 nt), (aag, aI K 120 fag), (abk, aI K 120 fbk), (atd, aI K 120 ftd), (ase, aZ K 120 fse)] (by decide) rfl ?_
        refine lx_st (a' := 0) (b' := 0) [.int (bI false)] rfl rfl rfl ?_
        refine lx_if_eq F 48 dX4_setRest_44 rfl (fun _ => ?_) (fun h => absurd (by decide) h)
        by_cases hs : lm_same w (lm_rest c w (lm_to w (rt k))) (rt j) = true
        · skip
          refine lx_aload_n F dX4_setRest_48 0 rfl ?_
          refine lx_aload_n F dX4_setRest_49 0 rfl ?_
          refine lx_iload_n F dX4_setRest_50 1 rfl ?_
          refine lx_cv F (zr_cellOf (xl E) K y acd akd act ark arr ali ala anc ank ant aag abk atd ase (nI (lm_rf false false)) z kk kc mn nx cd kd ct rr1 c w u hw hh k hk (rt k) (hr9 k hk) h2 (hro k hk).2) cv_X4_124 0 rfl rfl [0, 2, 3, 5] [1, 4, 6, 7, 8, 9, 10, 11, 12, 13, 14] [(acd, aI K 120 cd), (ark, aI K 10 rk1), (ali, aI K 120 fl), (ala, aI K 120 fla), (anc, aI K 120 nc), (ank, aI K 120 nk), (ant, aJ K 120 nt), (aag, aI K 120 fag), (abk, aI K 120 fbk), (atd, aI K 120 ftd), (ase, aZ K 120 fse)] rfl rfl (by decide) rfl (st := [.ref y]) rfl (Nat.le_of_ble_eq_true rfl) (by decide) ⟨by decide, by decide⟩ dX4_setRest_51 (fun v9 w9 h9 => ?_)
          obtain ⟨rfl, rfl⟩ := h9
          refine lx_perm [11, 0, 12, 13, 1, 14, 2, 3, 4, 5, 6, 7, 8, 9, 10] [(y, .inr (4, [.int (nI (lm_rf false false)), .ref acd, .ref akd, .ref act, .int (nI u), .ref ark, .ref arr, .int z, .int kk, .long kc, .ref ali, .int mn, .ref ala, .ref anc, .ref ank, .ref ant, .int nx, .ref aag, .ref abk, .ref atd, .ref ase])), (acd, aI K 120 cd), (akd, aI K 120 kd), (act, aJ K 120 ct), (ark, aI K 10 rk1), (arr, aJ K 10 rr1), (ali, aI K 120 fl), (ala, aI K 120 fla), (anc, aI K 120 nc), (ank, aI K 120 nk), (ant, aJ K 120 nt), (aag, aI K 120 fag), (abk, aI K 120 fbk), (atd, aI K 120 ftd), (ase, aZ K 120 fse)] (by decide) rfl ?_
          refine lx_st (a' := 0) (b' := 0) [.int (nI (lm_to w (rt k))), .ref y] rfl rfl rfl ?_
          refine lx_cv F (zr_lookRest (xl E) K y acd akd act ark arr ali ala anc ank ant aag abk atd ase (nI (lm_rf false false)) z kk kc mn nx cd kd ct c w u hw hh (lm_to w (rt k)) hcl) cv_X4_85 0 rfl rfl [0, 1, 2, 3] [4, 5, 6, 7, 8, 9, 10, 11, 12, 13, 14] [(ark, aI K 10 rk1), (arr, aJ K 10 rr1), (ali, aI K 120 fl), (ala, aI K 120 fla), (anc, aI K 120 nc), (ank, aI K 120 nk), (ant, aJ K 120 nt), (aag, aI K 120 fag), (abk, aI K 120 fbk), (atd, aI K 120 ftd), (ase, aZ K 120 fse)] rfl rfl (by decide) rfl (st := []) rfl (Nat.le_of_ble_eq_true rfl) (by decide) ⟨by decide, by decide⟩ dX4_setRest_54 (fun v9 w9 h9 => ?_)
          obtain ⟨rfl, rfl⟩ := h9
          refine lx_perm [11, 12, 13, 14, 0, 1, 2, 3, 4, 5, 6, 7, 8, 9, 10] [(y, .inr (4, [.int (nI (lm_rf false false)), .ref acd, .ref akd, .ref act, .int (nI u), .ref ark, .ref arr, .int z, .int (nI ((lm_rest c w (lm_to w (rt k))).1)), .long (jI ((lm_rest c w (lm_to w (rt k))).2)), .ref ali, .int mn, .ref ala, .ref anc, .ref ank, .ref ant, .int nx, .ref aag, .ref abk, .ref atd, .ref ase])), (acd, aI K 120 cd), (akd, aI K 120 kd), (act, aJ K 120 ct), (ark, aI K 10 rk1), (arr, aJ K 10 rr1), (ali, aI K 120 fl), (ala, aI K 120 fla), (anc, aI K 120 nc), (ank, aI K 120 nk), (ant, aJ K 120 nt), (aag, aI K 120 fag), (abk, aI K 120 fbk), (atd, aI K 120 ftd), (ase, aZ K 120 fse)] (by decide) rfl ?_
          refine lx_st (a' := 0) (b' := 0) [] rfl rfl rfl ?_
          refine lx_aload_n F dX4_setRest_57 0 rfl ?_
          refine lx_aload_n F dX4_setRest_58 0 rfl ?_
          refine gf_X4_58 F 0 rfl rfl dX4_setRest_59 ?_
          refine lx_aload_n F dX4_setRest_62 0 rfl ?_
          refine gf_X4_61 F 0 rfl rfl dX4_setRest_63 ?_
          refine lx_aload_n F dX4_setRest_66 0 rfl ?_
          refine gf_X4_20 F 0 rfl rfl dX4_setRest_67 ?_
          refine lx_iload_n F dX4_setRest_70 2 rfl ?_
          refine lx_iald F 4 j dX4_setRest_71 rfl (by omega) (by decide) ?_
          rw [(hro j hj).1]
          refine lx_aload_n F dX4_setRest_72 0 rfl ?_
          refine gf_X4_23 F 0 rfl rfl dX4_setRest_73 ?_
          refine lx_iload_n F dX4_setRest_76 2 rfl ?_
          refine lx_lald F 5 j dX4_setRest_77 rfl (by omega) (by decide) ?_
          rw [(hro j hj).2]
          refine lx_cv F (zr_isSame (xl E) K y acd akd act ark arr ali ala anc ank ant aag abk atd ase (nI (lm_rf false false)) z (nI (lm_rest c w (lm_to w (rt k))).1) (jI (lm_rest c w (lm_to w (rt k))).2) mn nx cd kd ct c w u hw hh (lm_rest c w (lm_to w (rt k))) (rt j) (lm_rest_ok hw hcl) (hr9 j hj)) cv_X4_128 0 rfl rfl [0, 2, 3] [1, 4, 5, 6, 7, 8, 9, 10, 11, 12, 13, 14] [(acd, aI K 120 cd), (ark, aI K 10 rk1), (arr, aJ K 10 rr1), (ali, aI K 120 fl), (ala, aI K 120 fla), (anc, aI K 120 nc), (ank, aI K 120 nk), (ant, aJ K 120 nt), (aag, aI K 120 fag), (abk, aI K 120 fbk), (atd, aI K 120 ftd), (ase, aZ K 120 fse)] rfl rfl (by decide) rfl (st := []) rfl (Nat.le_of_ble_eq_true rfl) (by decide) ⟨by decide, by decide⟩ dX4_setRest_78 (fun v9 w9 h9 => ?_)
          obtain ⟨rfl, rfl⟩ := h9
          refine lx_perm [12, 0, 13, 14, 1, 2, 3, 4, 5, 6, 7, 8, 9, 10, 11] [(y, .inr (4, [.int (nI (lm_rf false false)), .ref acd, .ref akd, .ref act, .int (nI u), .ref ark, .ref arr, .int z, .int (nI ((lm_rest c w (lm_to w (rt k))).1)), .long (jI ((lm_rest c w (lm_to w (rt k))).2)), .ref ali, .int mn, .ref ala, .ref anc, .ref ank, .ref ant, .int nx, .ref aag, .ref abk, .ref atd, .ref ase])), (acd, aI K 120 cd), (akd, aI K 120 kd), (act, aJ K 120 ct), (ark, aI K 10 rk1), (arr, aJ K 10 rr1), (ali, aI K 120 fl), (ala, aI K 120 fla), (anc, aI K 120 nc), (ank, aI K 120 nk), (ant, aJ K 120 nt), (aag, aI K 120 fag), (abk, aI K 120 fbk), (atd, aI K 120 ftd), (ase, aZ K 120 fse)] (by decide) rfl ?_
          refine lx_st (a' := 0) (b' := 0) [.int (bI (lm_same w (lm_rest c w (lm_to w (rt k))) (rt j)))] rfl rfl rfl ?_
          rw [hs]
          refine lx_if_eq F 85 dX4_setRest_81 rfl (fun h => absurd h (by decide)) (fun _ => ?_)
          exact lx_vret F hR dX4_setRest_84 ⟨rfl, by rw [show lm_oSetRest (nI k) (nI j) (c, w, u, rt, z) = (0, (c, w, u, rt, z)) by unfold lm_oSetRest; rw [lm_none_n hk, lm_none_n hj, if_neg (by decide), lm_ix_n hk, if_neg (show ¬ (rt k).1 ≠ 2 from fun z9 => z9 h2), lm_ix_n hj, if_pos hs]]; exact ⟨_, _, _, _, _, _, _, _, _, _, _, _, _, _, _, _, _, _, _, _, _, _, _, _, _, _, _, _, _, _, _, _, hh, hro, rfl⟩⟩
        · skip
          have hs2 : lm_same w (lm_rest c w (lm_to w (rt k))) (rt j) = false := by cases h9 : lm_same w (lm_rest c w (lm_to w (rt k))) (rt j) with
            | false => rfl
            | true => exact absurd h9 hs
          obtain ⟨c1, w1, u1, rt1, z1, hσ⟩ : ∃ c1 w1 u1 rt1 z1, lm_rm 2 (c, w, u, rt, z) = (c1, w1, u1, rt1, z1) := ⟨_, _, _, _, _, rfl⟩
          have hst1 : lm_st c1 w1 u1 rt1 := by have h9 : lm_sx (lm_rm 2 (c, w, u, rt, z)) := lm_sx_rm 2 hst; rw [hσ] at h9; exact h9
          have hw1 := hst1.1
          have hu1 := hw1.1
          refine lx_aload_n F dX4_setRest_48 0 rfl ?_
          refine lx_aload_n F dX4_setRest_49 0 rfl ?_
          refine lx_iload_n F dX4_setRest_50 1 rfl ?_
          refine lx_cv F (zr_cellOf (xl E) K y acd akd act ark arr ali ala anc ank ant aag abk atd ase (nI (lm_rf false false)) z kk kc mn nx cd kd ct rr1 c w u hw hh k hk (rt k) (hr9 k hk) h2 (hro k hk).2) cv_X4_124 0 rfl rfl [0, 2, 3, 5] [1, 4, 6, 7, 8, 9, 10, 11, 12, 13, 14] [(acd, aI K 120 cd), (ark, aI K 10 rk1), (ali, aI K 120 fl), (ala, aI K 120 fla), (anc, aI K 120 nc), (ank, aI K 120 nk), (ant, aJ K 120 nt), (aag, aI K 120 fag), (abk, aI K 120 fbk), (atd, aI K 120 ftd), (ase, aZ K 120 fse)] rfl rfl (by decide) rfl (st := [.ref y]) rfl (Nat.le_of_ble_eq_true rfl) (by decide) ⟨by decide, by decide⟩ dX4_setRest_51 (fun v9 w9 h9 => ?_)
          obtain ⟨rfl, rfl⟩ := h9
          refine lx_perm [11, 0, 12, 13, 1, 14, 2, 3, 4, 5, 6, 7, 8, 9, 10] [(y, .inr (4, [.int (nI (lm_rf false false)), .ref acd, .ref akd, .ref act, .int (nI u), .ref ark, .ref arr, .int z, .int kk, .long kc, .ref ali, .int mn, .ref ala, .ref anc, .ref ank, .ref ant, .int nx, .ref aag, .ref abk, .ref atd, .ref ase])), (acd, aI K 120 cd), (akd, aI K 120 kd), (act, aJ K 120 ct), (ark, aI K 10 rk1), (arr, aJ K 10 rr1), (ali, aI K 120 fl), (ala, aI K 120 fla), (anc, aI K 120 nc), (ank, aI K 120 nk), (ant, aJ K 120 nt), (aag, aI K 120 fag), (abk, aI K 120 fbk), (atd, aI K 120 ftd), (ase, aZ K 120 fse)] (by decide) rfl ?_
          refine lx_st (a' := 0) (b' := 0) [.int (nI (lm_to w (rt k))), .ref y] rfl rfl rfl ?_
          refine lx_cv F (zr_lookRest (xl E) K y acd akd act ark arr ali ala anc ank ant aag abk atd ase (nI (lm_rf false false)) z kk kc mn nx cd kd ct c w u hw hh (lm_to w (rt k)) hcl) cv_X4_85 0 rfl rfl [0, 1, 2, 3] [4, 5, 6, 7, 8, 9, 10, 11, 12, 13, 14] [(ark, aI K 10 rk1), (arr, aJ K 10 rr1), (ali, aI K 120 fl), (ala, aI K 120 fla), (anc, aI K 120 nc), (ank, aI K 120 nk), (ant, aJ K 120 nt), (aag, aI K 120 fag), (abk, aI K 120 fbk), (atd, aI K 120 ftd), (ase, aZ K 120 fse)] rfl rfl (by decide) rfl (st := []) rfl (Nat.le_of_ble_eq_true rfl) (by decide) ⟨by decide, by decide⟩ dX4_setRest_54 (fun v9 w9 h9 => ?_)
          obtain ⟨rfl, rfl⟩ := h9
          refine lx_perm [11, 12, 13, 14, 0, 1, 2, 3, 4, 5, 6, 7, 8, 9, 10] [(y, .inr (4, [.int (nI (lm_rf false false)), .ref acd, .ref akd, .ref act, .int (nI u), .ref ark, .ref arr, .int z, .int (nI ((lm_rest c w (lm_to w (rt k))).1)), .long (jI ((lm_rest c w (lm_to w (rt k))).2)), .ref ali, .int mn, .ref ala, .ref anc, .ref ank, .ref ant, .int nx, .ref aag, .ref abk, .ref atd, .ref ase])), (acd, aI K 120 cd), (akd, aI K 120 kd), (act, aJ K 120 ct), (ark, aI K 10 rk1), (arr, aJ K 10 rr1), (ali, aI K 120 fl), (ala, aI K 120 fla), (anc, aI K 120 nc), (ank, aI K 120 nk), (ant, aJ K 120 nt), (aag, aI K 120 fag), (abk, aI K 120 fbk), (atd, aI K 120 ftd), (ase, aZ K 120 fse)] (by decide) rfl ?_
          refine lx_st (a' := 0) (b' := 0) [] rfl rfl rfl ?_
          refine lx_aload_n F dX4_setRest_57 0 rfl ?_
          refine lx_aload_n F dX4_setRest_58 0 rfl ?_
          refine gf_X4_58 F 0 rfl rfl dX4_setRest_59 ?_
          refine lx_aload_n F dX4_setRest_62 0 rfl ?_
          refine gf_X4_61 F 0 rfl rfl dX4_setRest_63 ?_
          refine lx_aload_n F dX4_setRest_66 0 rfl ?_
          refine gf_X4_20 F 0 rfl rfl dX4_setRest_67 ?_
          refine lx_iload_n F dX4_setRest_70 2 rfl ?_
          refine lx_iald F 4 j dX4_setRest_71 rfl (by omega) (by decide) ?_
          rw [(hro j hj).1]
          refine lx_aload_n F dX4_setRest_72 0 rfl ?_
          refine gf_X4_23 F 0 rfl rfl dX4_setRest_73 ?_
          refine lx_iload_n F dX4_setRest_76 2 rfl ?_
          refine lx_lald F 5 j dX4_setRest_77 rfl (by omega) (by decide) ?_
          rw [(hro j hj).2]
          refine lx_cv F (zr_isSame (xl E) K y acd akd act ark arr ali ala anc ank ant aag abk atd ase (nI (lm_rf false false)) z (nI (lm_rest c w (lm_to w (rt k))).1) (jI (lm_rest c w (lm_to w (rt k))).2) mn nx cd kd ct c w u hw hh (lm_rest c w (lm_to w (rt k))) (rt j) (lm_rest_ok hw hcl) (hr9 j hj)) cv_X4_128 0 rfl rfl [0, 2, 3] [1, 4, 5, 6, 7, 8, 9, 10, 11, 12, 13, 14] [(acd, aI K 120 cd), (ark, aI K 10 rk1), (arr, aJ K 10 rr1), (ali, aI K 120 fl), (ala, aI K 120 fla), (anc, aI K 120 nc), (ank, aI K 120 nk), (ant, aJ K 120 nt), (aag, aI K 120 fag), (abk, aI K 120 fbk), (atd, aI K 120 ftd), (ase, aZ K 120 fse)] rfl rfl (by decide) rfl (st := []) rfl (Nat.le_of_ble_eq_true rfl) (by decide) ⟨by decide, by decide⟩ dX4_setRest_78 (fun v9 w9 h9 => ?_)
          obtain ⟨rfl, rfl⟩ := h9
          refine lx_perm [12, 0, 13, 14, 1, 2, 3, 4, 5, 6, 7, 8, 9, 10, 11] [(y, .inr (4, [.int (nI (lm_rf false false)), .ref acd, .ref akd, .ref act, .int (nI u), .ref ark, .ref arr, .int z, .int (nI ((lm_rest c w (lm_to w (rt k))).1)), .long (jI ((lm_rest c w (lm_to w (rt k))).2)), .ref ali, .int mn, .ref ala, .ref anc, .ref ank, .ref ant, .int nx, .ref aag, .ref abk, .ref atd, .ref ase])), (acd, aI K 120 cd), (akd, aI K 120 kd), (act, aJ K 120 ct), (ark, aI K 10 rk1), (arr, aJ K 10 rr1), (ali, aI K 120 fl), (ala, aI K 120 fla), (anc, aI K 120 nc), (ank, aI K 120 nk), (ant, aJ K 120 nt), (aag, aI K 120 fag), (abk, aI K 120 fbk), (atd, aI K 120 ftd), (ase, aZ K 120 fse)] (by decide) rfl ?_
          refine lx_st (a' := 0) (b' := 0) [.int (bI (lm_same w (lm_rest c w (lm_to w (rt k))) (rt j)))] rfl rfl rfl ?_
          rw [hs2]
          refine lx_if_eq F 85 dX4_setRest_81 rfl (fun _ => ?_) (fun h => absurd (by decide) h)
          have hc3 := hw.2.1 _ hp1
          refine lx_aload_n F dX4_setRest_85 0 rfl ?_
          refine gf_X4_7 F 0 rfl rfl dX4_setRest_86 ?_
          refine lx_aload_n F dX4_setRest_89 0 rfl ?_
          refine lx_iload_n F dX4_setRest_90 1 rfl ?_
          refine lx_cv F (zr_cellOf (xl E) K y acd akd act ark arr ali ala anc ank ant aag abk atd ase (nI (lm_rf false false)) z (nI (lm_rest c w (lm_to w (rt k))).1) (jI (lm_rest c w (lm_to w (rt k))).2) mn nx cd kd ct rr1 c w u hw hh k hk (rt k) (hr9 k hk) h2 (hro k hk).2) cv_X4_124 0 rfl rfl [0, 2, 3, 5] [1, 4, 6, 7, 8, 9, 10, 11, 12, 13, 14] [(acd, aI K 120 cd), (ark, aI K 10 rk1), (ali, aI K 120 fl), (ala, aI K 120 fla), (anc, aI K 120 nc), (ank, aI K 120 nk), (ant, aJ K 120 nt), (aag, aI K 120 fag), (abk, aI K 120 fbk), (atd, aI K 120 ftd), (ase, aZ K 120 fse)] rfl rfl (by decide) rfl (st := [.ref acd]) rfl (Nat.le_of_ble_eq_true rfl) (by decide) ⟨by decide, by decide⟩ dX4_setRest_91 (fun v9 w9 h9 => ?_)
          obtain ⟨rfl, rfl⟩ := h9
          refine lx_perm [11, 0, 12, 13, 1, 14, 2, 3, 4, 5, 6, 7, 8, 9, 10] [(y, .inr (4, [.int (nI (lm_rf false false)), .ref acd, .ref akd, .ref act, .int (nI u), .ref ark, .ref arr, .int z, .int (nI ((lm_rest c w (lm_to w (rt k))).1)), .long (jI ((lm_rest c w (lm_to w (rt k))).2)), .ref ali, .int mn, .ref ala, .ref anc, .ref ank, .ref ant, .int nx, .ref aag, .ref abk, .ref atd, .ref ase])), (acd, aI K 120 cd), (akd, aI K 120 kd), (act, aJ K 120 ct), (ark, aI K 10 rk1), (arr, aJ K 10 rr1), (ali, aI K 120 fl), (ala, aI K 120 fla), (anc, aI K 120 nc), (ank, aI K 120 nk), (ant, aJ K 120 nt), (aag, aI K 120 fag), (abk, aI K 120 fbk), (atd, aI K 120 ftd), (ase, aZ K 120 fse)] (by decide) rfl ?_
          refine lx_st (a' := 0) (b' := 0) [.int (nI (lm_to w (rt k))), .ref acd] rfl rfl rfl ?_
          refine lx_iald F 1 (lm_to w (rt k)) dX4_setRest_94 rfl (by omega) (by decide) ?_
          rw [(hh _ hp1).1]
          refine lx_iconst F dX4_setRest_95 kc_2 ?_
          refine lx_icmpN_eq F 113 (by omega) (by omega) dX4_setRest_96 rfl (fun h6 => ?_) (fun h6 => ?_)
          · skip
            have hp3 := hw.2.2.2.1 _ hp1 h6
            have hp4 := hp3.1
            refine lx_aload_n F dX4_setRest_113 0 rfl ?_
            refine lx_iload_n F dX4_setRest_114 1 rfl ?_
            refine lx_cv F (zr_cellOf (xl E) K y acd akd act ark arr ali ala anc ank ant aag abk atd ase (nI (lm_rf false false)) z (nI (lm_rest c w (lm_to w (rt k))).1) (jI (lm_rest c w (lm_to w (rt k))).2) mn nx cd kd ct rr1 c w u hw hh k hk (rt k) (hr9 k hk) h2 (hro k hk).2) cv_X4_124 0 rfl rfl [0, 2, 3, 5] [1, 4, 6, 7, 8, 9, 10, 11, 12, 13, 14] [(acd, aI K 120 cd), (ark, aI K 10 rk1), (ali, aI K 120 fl), (ala, aI K 120 fla), (anc, aI K 120 nc), (ank, aI K 120 nk), (ant, aJ K 120 nt), (aag, aI K 120 fag), (abk, aI K 120 fbk), (atd, aI K 120 ftd), (ase, aZ K 120 fse)] rfl rfl (by decide) rfl (st := []) rfl (Nat.le_of_ble_eq_true rfl) (by decide) ⟨by decide, by decide⟩ dX4_setRest_115 (fun v9 w9 h9 => ?_)
            obtain ⟨rfl, rfl⟩ := h9
            refine lx_perm [11, 0, 12, 13, 1, 14, 2, 3, 4, 5, 6, 7, 8, 9, 10] [(y, .inr (4, [.int (nI (lm_rf false false)), .ref acd, .ref akd, .ref act, .int (nI u), .ref ark, .ref arr, .int z, .int (nI ((lm_rest c w (lm_to w (rt k))).1)), .long (jI ((lm_rest c w (lm_to w (rt k))).2)), .ref ali, .int mn, .ref ala, .ref anc, .ref ank, .ref ant, .int nx, .ref aag, .ref abk, .ref atd, .ref ase])), (acd, aI K 120 cd), (akd, aI K 120 kd), (act, aJ K 120 ct), (ark, aI K 10 rk1), (arr, aJ K 10 rr1), (ali, aI K 120 fl), (ala, aI K 120 fla), (anc, aI K 120 nc), (ank, aI K 120 nk), (ant, aJ K 120 nt), (aag, aI K 120 fag), (abk, aI K 120 fbk), (atd, aI K 120 ftd), (ase, aZ K 120 fse)] (by decide) rfl ?_
            refine lx_st (a' := 0) (b' := 0) [.int (nI (lm_to w (rt k)))] rfl rfl rfl ?_
            refine lx_istore F [(0, .ref y), (1, .int (nI k)), (2, .int (nI j)), (3, .int (nI 0)), (4, .int (nI (lm_to w (rt k))))] [1, 2, 3, 4, 0] dX4_setRest_118 rfl (by decide) ?_
            refine lx_aload_n F dX4_setRest_120 0 rfl ?_
            refine gf_X4_7 F 0 rfl rfl dX4_setRest_121 ?_
            refine lx_iload F dX4_setRest_124 4 rfl ?_
            refine lx_iald F 1 (lm_to w (rt k)) dX4_setRest_126 rfl (by omega) (by decide) ?_
            rw [(hh _ hp1).1]
            refine lx_iconst F dX4_setRest_127 kc_2 ?_
            refine lx_icmpN_ne F 162 (by omega) (by omega) dX4_setRest_128 rfl (fun h => absurd h (by omega)) (fun _ => ?_)
            refine lx_aload_n F dX4_setRest_131 0 rfl ?_
            refine gf_X4_13 F 0 rfl rfl dX4_setRest_132 ?_
            refine lx_iload F dX4_setRest_135 4 rfl ?_
            refine lx_iconst F dX4_setRest_137 kc_1 ?_
            refine lx_iadd F dX4_setRest_138 (nI_add _ _) ?_
            refine lx_aload_n F dX4_setRest_139 0 rfl ?_
            refine gf_X4_20 F 0 rfl rfl dX4_setRest_140 ?_
            refine lx_iload_n F dX4_setRest_143 2 rfl ?_
            refine lx_iald F 4 j dX4_setRest_144 rfl (by omega) (by decide) ?_
            rw [(hro j hj).1]
            refine lx_iast F 2 ((lm_to w (rt k)) + 1) [(y, .inr (4, [.int (nI (lm_rf false false)), .ref acd, .ref akd, .ref act, .int (nI u), .ref ark, .ref arr, .int z, .int (nI ((lm_rest c w (lm_to w (rt k))).1)), .long (jI ((lm_rest c w (lm_to w (rt k))).2)), .ref ali, .int mn, .ref ala, .ref anc, .ref ank, .ref ant, .int nx, .ref aag, .ref abk, .ref atd, .ref ase])), (acd, aI K 120 cd), (akd, aI K 120 (lm_up kd ((lm_to w (rt k)) + 1) (nI ((rt j).1)))), (act, aJ K 120 ct), (ark, aI K 10 rk1), (arr, aJ K 10 rr1), (ali, aI K 120 fl), (ala, aI K 120 fla), (anc, aI K 120 nc), (ank, aI K 120 nk), (ant, aJ K 120 nt), (aag, aI K 120 fag), (abk, aI K 120 fbk), (atd, aI K 120 ftd), (ase, aZ K 120 fse)] dX4_setRest_145 rfl (by omega) (by decide) rfl ?_
            refine lx_aload_n F dX4_setRest_146 0 rfl ?_
            refine gf_X4_16 F 0 rfl rfl dX4_setRest_147 ?_
            refine lx_iload F dX4_setRest_150 4 rfl ?_
            refine lx_iconst F dX4_setRest_152 kc_1 ?_
            refine lx_iadd F dX4_setRest_153 (nI_add _ _) ?_
            refine lx_aload_n F dX4_setRest_154 0 rfl ?_
            refine gf_X4_23 F 0 rfl rfl dX4_setRest_155 ?_
            refine lx_iload_n F dX4_setRest_158 2 rfl ?_
            refine lx_lald F 5 j dX4_setRest_159 rfl (by omega) (by decide) ?_
            rw [(hro j hj).2]
            refine lx_last F 3 ((lm_to w (rt k)) + 1) [(y, .inr (4, [.int (nI (lm_rf false false)), .ref acd, .ref akd, .ref act, .int (nI u), .ref ark, .ref arr, .int z, .int (nI ((lm_rest c w (lm_to w (rt k))).1)), .long (jI ((lm_rest c w (lm_to w (rt k))).2)), .ref ali, .int mn, .ref ala, .ref anc, .ref ank, .ref ant, .int nx, .ref aag, .ref abk, .ref atd, .ref ase])), (acd, aI K 120 cd), (akd, aI K 120 (lm_up kd ((lm_to w (rt k)) + 1) (nI ((rt j).1)))), (act, aJ K 120 (lm_up ct ((lm_to w (rt k)) + 1) (jI ((rt j).2)))), (ark, aI K 10 rk1), (arr, aJ K 10 rr1), (ali, aI K 120 fl), (ala, aI K 120 fla), (anc, aI K 120 nc), (ank, aI K 120 nk), (ant, aJ K 120 nt), (aag, aI K 120 fag), (abk, aI K 120 fbk), (atd, aI K 120 ftd), (ase, aZ K 120 fse)] dX4_setRest_160 rfl (by omega) (by decide) rfl ?_
            exact lx_vret F hR dX4_setRest_161 ⟨rfl, by rw [show lm_oSetRest (nI k) (nI j) (c, w, u, rt, z) = (0, lm_pt (c, w, u, rt, z) (lm_to w (rt k) + 1) (rt j)) by unfold lm_oSetRest; rw [lm_none_n hk, lm_none_n hj, if_neg (by decide), lm_ix_n hk, if_neg (show ¬ (rt k).1 ≠ 2 from fun z9 => z9 h2), lm_ix_n hj, if_neg hs, if_pos h6]; exact congrArg (Prod.mk 0) (if_pos h6)]; exact ⟨_, _, _, _, _, _, _, _, _, _, _, _, _, _, _, _, _, _, _, _, _, _, _, _, _, _, _, _, _, _, _, _, (lm_mf_up (v := rt j) hh), hro, rfl⟩⟩
          · skip
            by_cases hfit : u1 + 2 ≤ 120
            · skip
              refine lx_aload_n F dX4_setRest_99 0 rfl ?_
              refine lx_iconst F dX4_setRest_100 kc_2 ?_
              refine lx_cv F (zR_room (xl E) K y c w u rt z hst (nI (lm_rf false false)) _ ⟨_, _, _, _, _, _, _, _, _, _, _, _, _, _, _, _, _, _, _, _, _, _, _, _, _, _, _, _, _, _, _, _, hh, hro, rfl⟩ 2 (by omega) (c1, w1, u1, rt1, z1) hσ true (decide_eq_true hfit)) cv_X4_117 0 rfl rfl [0, 1, 2, 3, 4, 5, 6, 7, 8, 9, 10, 11, 12, 13, 14] [] [] rfl rfl (by decide) rfl (st := []) rfl (Nat.le_of_ble_eq_true rfl) (by decide) ⟨by decide, by decide⟩ dX4_setRest_101 (fun v9 w9 h9 => ?_)
              obtain ⟨rfl, acd1, akd1, act1, ark1, arr1, ali1, ala1, anc1, ank1, ant1, aag1, abk1, atd1, ase1, kk1, kc1, mn1, nx1, cd1, kd1, ct1, rk11, rr11, fl1, fla1, nc1, nk1, nt1, fag1, fbk1, ftd1, fse1, hh1, hro1, rfl⟩ := h9
              refine lx_perm [0, 1, 2, 3, 4, 5, 6, 7, 8, 9, 10, 11, 12, 13, 14] [(y, .inr (4, [.int (nI (lm_rf false false)), .ref acd1, .ref akd1, .ref act1, .int (nI u1), .ref ark1, .ref arr1, .int z1, .int kk1, .long kc1, .ref ali1, .int mn1, .ref ala1, .ref anc1, .ref ank1, .ref ant1, .int nx1, .ref aag1, .ref abk1, .ref atd1, .ref ase1])), (acd1, aI K 120 cd1), (akd1, aI K 120 kd1), (act1, aJ K 120 ct1), (ark1, aI K 10 rk11), (arr1, aJ K 10 rr11), (ali1, aI K 120 fl1), (ala1, aI K 120 fla1), (anc1, aI K 120 nc1), (ank1, aI K 120 nk1), (ant1, aJ K 120 nt1), (aag1, aI K 120 fag1), (abk1, aI K 120 fbk1), (atd1, aI K 120 ftd1), (ase1, aZ K 120 fse1)] (by decide) rfl ?_
              refine lx_st (a' := 0) (b' := 0) [.int (bI true)] rfl rfl rfl ?_
              refine lx_if_ne F 113 dX4_setRest_104 rfl (fun _ => ?_) (fun h => absurd h (by decide))
              have hh1 : lm_mf cd1 kd1 ct1 c1 w1 u1 := hh1
              have hro1 : ∀ r, r < 10 → rk11 r = nI (rt1 r).1 ∧ rr11 r = jI (rt1 r).2 := hro1
              have h21 : (rt1 k).1 = 2 := lm_rm_k hσ h2
              have hcl1 := lm_to_cl hw1 (hst1.2 k hk) h21
              have hp2 := hcl1.1
              have hc31 := hw1.2.1 _ hp2
              refine lx_aload_n F dX4_setRest_113 0 rfl ?_
              refine lx_iload_n F dX4_setRest_114 1 rfl ?_
              refine lx_cv F (zr_cellOf (xl E) K y acd1 akd1 act1 ark1 arr1 ali1 ala1 anc1 ank1 ant1 aag1 abk1 atd1 ase1 (nI (lm_rf false false)) z1 kk1 kc1 mn1 nx1 cd1 kd1 ct1 rr11 c1 w1 u1 hw1 hh1 k hk (rt1 k) (hst1.2 k hk) h21 (hro1 k hk).2) cv_X4_124 0 rfl rfl [0, 2, 3, 5] [1, 4, 6, 7, 8, 9, 10, 11, 12, 13, 14] [(acd1, aI K 120 cd1), (ark1, aI K 10 rk11), (ali1, aI K 120 fl1), (ala1, aI K 120 fla1), (anc1, aI K 120 nc1), (ank1, aI K 120 nk1), (ant1, aJ K 120 nt1), (aag1, aI K 120 fag1), (abk1, aI K 120 fbk1), (atd1, aI K 120 ftd1), (ase1, aZ K 120 fse1)] rfl rfl (by decide) rfl (st := []) rfl (Nat.le_of_ble_eq_true rfl) (by decide) ⟨by decide, by decide⟩ dX4_setRest_115 (fun v9 w9 h9 => ?_)
              obtain ⟨rfl, rfl⟩ := h9
              refine lx_perm [11, 0, 12, 13, 1, 14, 2, 3, 4, 5, 6, 7, 8, 9, 10] [(y, .inr (4, [.int (nI (lm_rf false false)), .ref acd1, .ref akd1, .ref act1, .int (nI u1), .ref ark1, .ref arr1, .int z1, .int kk1, .long kc1, .ref ali1, .int mn1, .ref ala1, .ref anc1, .ref ank1, .ref ant1, .int nx1, .ref aag1, .ref abk1, .ref atd1, .ref ase1])), (acd1, aI K 120 cd1), (akd1, aI K 120 kd1), (act1, aJ K 120 ct1), (ark1, aI K 10 rk11), (arr1, aJ K 10 rr11), (ali1, aI K 120 fl1), (ala1, aI K 120 fla1), (anc1, aI K 120 nc1), (ank1, aI K 120 nk1), (ant1, aJ K 120 nt1), (aag1, aI K 120 fag1), (abk1, aI K 120 fbk1), (atd1, aI K 120 ftd1), (ase1, aZ K 120 fse1)] (by decide) rfl ?_
              refine lx_st (a' := 0) (b' := 0) [.int (nI (lm_to w1 (rt1 k)))] rfl rfl rfl ?_
              refine lx_istore F [(0, .ref y), (1, .int (nI k)), (2, .int (nI j)), (3, .int (nI 0)), (4, .int (nI (lm_to w1 (rt1 k))))] [1, 2, 3, 4, 0] dX4_setRest_118 rfl (by decide) ?_
              refine lx_aload_n F dX4_setRest_120 0 rfl ?_
              refine gf_X4_7 F 0 rfl rfl dX4_setRest_121 ?_
              refine lx_iload F dX4_setRest_124 4 rfl ?_
              refine lx_iald F 1 (lm_to w1 (rt1 k)) dX4_setRest_126 rfl (by omega) (by decide) ?_
              rw [(hh1 _ hp2).1]
              refine lx_iconst F dX4_setRest_127 kc_2 ?_
              refine lx_icmpN_ne F 162 (by omega) (by omega) dX4_setRest_128 rfl (fun h7 => ?_) (fun h7 => ?_)
              · skip
                refine lx_aload_n F dX4_setRest_162 0 rfl ?_
                refine lx_iconst F dX4_setRest_163 kc_2 ?_
                refine lx_aload_n F dX4_setRest_164 0 rfl ?_
                refine gf_X4_13 F 0 rfl rfl dX4_setRest_165 ?_
                refine lx_iload F dX4_setRest_168 4 rfl ?_
                refine lx_iald F 2 (lm_to w1 (rt1 k)) dX4_setRest_170 rfl (by omega) (by decide) ?_
                rw [(hh1 _ hp2).2.1]
                refine lx_aload_n F dX4_setRest_171 0 rfl ?_
                refine gf_X4_16 F 0 rfl rfl dX4_setRest_172 ?_
                refine lx_iload F dX4_setRest_175 4 rfl ?_
                refine lx_lald F 3 (lm_to w1 (rt1 k)) dX4_setRest_177 rfl (by omega) (by decide) ?_
                rw [(hh1 _ hp2).2.2]
                refine lx_cv F (zr_put (xl E) K y acd1 akd1 act1 ark1 arr1 ali1 ala1 anc1 ank1 ant1 aag1 abk1 atd1 ase1 (nI (lm_rf false false)) z1 kk1 kc1 mn1 nx1 cd1 kd1 ct1 (u1) (by omega) (nI 2) (nI (w1 (lm_to w1 (rt1 k))).1) (jI (w1 (lm_to w1 (rt1 k))).2)) cv_X4_120 0 rfl rfl [0, 1, 2, 3] [4, 5, 6, 7, 8, 9, 10, 11, 12, 13, 14] [(ark1, aI K 10 rk11), (arr1, aJ K 10 rr11), (ali1, aI K 120 fl1), (ala1, aI K 120 fla1), (anc1, aI K 120 nc1), (ank1, aI K 120 nk1), (ant1, aJ K 120 nt1), (aag1, aI K 120 fag1), (abk1, aI K 120 fbk1), (atd1, aI K 120 ftd1), (ase1, aZ K 120 fse1)] rfl rfl (by decide) rfl (st := []) rfl (Nat.le_of_ble_eq_true rfl) (by decide) ⟨by decide, by decide⟩ dX4_setRest_178 (fun v9 w9 h9 => ?_)
                obtain ⟨rfl, rfl⟩ := h9
                refine lx_perm [11, 12, 13, 14, 0, 1, 2, 3, 4, 5, 6, 7, 8, 9, 10] [(y, .inr (4, [.int (nI (lm_rf false false)), .ref acd1, .ref akd1, .ref act1, .int (nI (u1 + 1)), .ref ark1, .ref arr1, .int z1, .int kk1, .long kc1, .ref ali1, .int mn1, .ref ala1, .ref anc1, .ref ank1, .ref ant1, .int nx1, .ref aag1, .ref abk1, .ref atd1, .ref ase1])), (acd1, aI K 120 (lm_up cd1 u1 (nI 2))), (akd1, aI K 120 (lm_up kd1 u1 (nI (w1 (lm_to w1 (rt1 k))).1))), (act1, aJ K 120 (lm_up ct1 u1 (jI (w1 (lm_to w1 (rt1 k))).2))), (ark1, aI K 10 rk11), (arr1, aJ K 10 rr11), (ali1, aI K 120 fl1), (ala1, aI K 120 fla1), (anc1, aI K 120 nc1), (ank1, aI K 120 nk1), (ant1, aJ K 120 nt1), (aag1, aI K 120 fag1), (abk1, aI K 120 fbk1), (atd1, aI K 120 ftd1), (ase1, aZ K 120 fse1)] (by decide) rfl ?_
                refine lx_st (a' := 0) (b' := 0) [.int (nI u1)] rfl rfl rfl ?_
                refine lx_istore F [(0, .ref y), (1, .int (nI k)), (2, .int (nI j)), (3, .int (nI 0)), (4, .int (nI (lm_to w1 (rt1 k)))), (5, .int (nI u1))] [1, 2, 3, 4, 5, 0] dX4_setRest_181 rfl (by decide) ?_
                refine lx_aload_n F dX4_setRest_183 0 rfl ?_
                refine lx_iconst F dX4_setRest_184 kc_3 ?_
                refine lx_aload_n F dX4_setRest_185 0 rfl ?_
                refine gf_X4_20 F 0 rfl rfl dX4_setRest_186 ?_
                refine lx_iload_n F dX4_setRest_189 2 rfl ?_
                refine lx_iald F 4 j dX4_setRest_190 rfl (by omega) (by decide) ?_
                rw [(hro1 j hj).1]
                refine lx_aload_n F dX4_setRest_191 0 rfl ?_
                refine gf_X4_23 F 0 rfl rfl dX4_setRest_192 ?_
                refine lx_iload_n F dX4_setRest_195 2 rfl ?_
                refine lx_lald F 5 j dX4_setRest_196 rfl (by omega) (by decide) ?_
                rw [(hro1 j hj).2]
                refine lx_cv F (zr_put (xl E) K y acd1 akd1 act1 ark1 arr1 ali1 ala1 anc1 ank1 ant1 aag1 abk1 atd1 ase1 (nI (lm_rf false false)) z1 kk1 kc1 mn1 nx1 (lm_up cd1 u1 (nI 2)) (lm_up kd1 u1 (nI (w1 (lm_to w1 (rt1 k))).1)) (lm_up ct1 u1 (jI (w1 (lm_to w1 (rt1 k))).2)) (u1 + 1) (by omega) (nI 3) (nI (rt1 j).1) (jI (rt1 j).2)) cv_X4_120 0 rfl rfl [0, 1, 2, 3] [4, 5, 6, 7, 8, 9, 10, 11, 12, 13, 14] [(ark1, aI K 10 rk11), (arr1, aJ K 10 rr11), (ali1, aI K 120 fl1), (ala1, aI K 120 fla1), (anc1, aI K 120 nc1), (ank1, aI K 120 nk1), (ant1, aJ K 120 nt1), (aag1, aI K 120 fag1), (abk1, aI K 120 fbk1), (atd1, aI K 120 ftd1), (ase1, aZ K 120 fse1)] rfl rfl (by decide) rfl (st := []) rfl (Nat.le_of_ble_eq_true rfl) (by decide) ⟨by decide, by decide⟩ dX4_setRest_197 (fun v9 w9 h9 => ?_)
                obtain ⟨rfl, rfl⟩ := h9
                refine lx_perm [11, 12, 13, 14, 0, 1, 2, 3, 4, 5, 6, 7, 8, 9, 10] [(y, .inr (4, [.int (nI (lm_rf false false)), .ref acd1, .ref akd1, .ref act1, .int (nI (u1 + 1 + 1)), .ref ark1, .ref arr1, .int z1, .int kk1, .long kc1, .ref ali1, .int mn1, .ref ala1, .ref anc1, .ref ank1, .ref ant1, .int nx1, .ref aag1, .ref abk1, .ref atd1, .ref ase1])), (acd1, aI K 120 (lm_up (lm_up cd1 u1 (nI 2)) (u1 + 1) (nI 3))), (akd1, aI K 120 (lm_up (lm_up kd1 u1 (nI (w1 (lm_to w1 (rt1 k))).1)) (u1 + 1) (nI (rt1 j).1))), (act1, aJ K 120 (lm_up (lm_up ct1 u1 (jI (w1 (lm_to w1 (rt1 k))).2)) (u1 + 1) (jI (rt1 j).2))), (ark1, aI K 10 rk11), (arr1, aJ K 10 rr11), (ali1, aI K 120 fl1), (ala1, aI K 120 fla1), (anc1, aI K 120 nc1), (ank1, aI K 120 nk1), (ant1, aJ K 120 nt1), (aag1, aI K 120 fag1), (abk1, aI K 120 fbk1), (atd1, aI K 120 ftd1), (ase1, aZ K 120 fse1)] (by decide) rfl ?_
                refine lx_st (a' := 0) (b' := 0) [.int (nI (u1 + 1))] rfl rfl rfl ?_
                refine lx_istore F [(0, .ref y), (1, .int (nI k)), (2, .int (nI j)), (3, .int (nI 0)), (4, .int (nI (lm_to w1 (rt1 k)))), (5, .int (nI u1)), (6, .int (nI (u1 + 1)))] [1, 2, 3, 4, 5, 6, 0] dX4_setRest_200 rfl (by decide) ?_
                refine lx_aload_n F dX4_setRest_202 0 rfl ?_
                refine gf_X4_13 F 0 rfl rfl dX4_setRest_203 ?_
                refine lx_iload F dX4_setRest_206 4 rfl ?_
                refine lx_iconst F dX4_setRest_208 kc_3 ?_
                refine lx_iast F 2 (lm_to w1 (rt1 k)) [(y, .inr (4, [.int (nI (lm_rf false false)), .ref acd1, .ref akd1, .ref act1, .int (nI (u1 + 1 + 1)), .ref ark1, .ref arr1, .int z1, .int kk1, .long kc1, .ref ali1, .int mn1, .ref ala1, .ref anc1, .ref ank1, .ref ant1, .int nx1, .ref aag1, .ref abk1, .ref atd1, .ref ase1])), (acd1, aI K 120 (lm_up (lm_up cd1 u1 (nI 2)) (u1 + 1) (nI 3))), (akd1, aI K 120 (lm_up (lm_up (lm_up kd1 u1 (nI (w1 (lm_to w1 (rt1 k))).1)) (u1 + 1) (nI (rt1 j).1)) (lm_to w1 (rt1 k)) (nI 3))), (act1, aJ K 120 (lm_up (lm_up ct1 u1 (jI (w1 (lm_to w1 (rt1 k))).2)) (u1 + 1) (jI (rt1 j).2))), (ark1, aI K 10 rk11), (arr1, aJ K 10 rr11), (ali1, aI K 120 fl1), (ala1, aI K 120 fla1), (anc1, aI K 120 nc1), (ank1, aI K 120 nk1), (ant1, aJ K 120 nt1), (aag1, aI K 120 fag1), (abk1, aI K 120 fbk1), (atd1, aI K 120 ftd1), (ase1, aZ K 120 fse1)] dX4_setRest_209 rfl (by omega) (by decide) rfl ?_
                refine lx_aload_n F dX4_setRest_210 0 rfl ?_
                refine gf_X4_16 F 0 rfl rfl dX4_setRest_211 ?_
                refine lx_iload F dX4_setRest_214 4 rfl ?_
                refine lx_iload F dX4_setRest_216 5 rfl ?_
                refine lx_i2l F dX4_setRest_218 (jI_i2l (by omega)) ?_
                refine lx_last F 3 (lm_to w1 (rt1 k)) [(y, .inr (4, [.int (nI (lm_rf false false)), .ref acd1, .ref akd1, .ref act1, .int (nI (u1 + 1 + 1)), .ref ark1, .ref arr1, .int z1, .int kk1, .long kc1, .ref ali1, .int mn1, .ref ala1, .ref anc1, .ref ank1, .ref ant1, .int nx1, .ref aag1, .ref abk1, .ref atd1, .ref ase1])), (acd1, aI K 120 (lm_up (lm_up cd1 u1 (nI 2)) (u1 + 1) (nI 3))), (akd1, aI K 120 (lm_up (lm_up (lm_up kd1 u1 (nI (w1 (lm_to w1 (rt1 k))).1)) (u1 + 1) (nI (rt1 j).1)) (lm_to w1 (rt1 k)) (nI 3))), (act1, aJ K 120 (lm_up (lm_up (lm_up ct1 u1 (jI (w1 (lm_to w1 (rt1 k))).2)) (u1 + 1) (jI (rt1 j).2)) (lm_to w1 (rt1 k)) (jI ((u1 : Nat) : Int)))), (ark1, aI K 10 rk11), (arr1, aJ K 10 rr11), (ali1, aI K 120 fl1), (ala1, aI K 120 fla1), (anc1, aI K 120 nc1), (ank1, aI K 120 nk1), (ant1, aJ K 120 nt1), (aag1, aI K 120 fag1), (abk1, aI K 120 fbk1), (atd1, aI K 120 ftd1), (ase1, aZ K 120 fse1)] dX4_setRest_219 rfl (by omega) (by decide) rfl ?_
                exact lx_vret F hR dX4_setRest_220 ⟨rfl, by rw [show lm_oSetRest (nI k) (nI j) (c, w, u, rt, z) = (0, lm_pt (lm_ap (c1, w1, u1, rt1, z1) [(2, w1 (lm_to w1 (rt1 k))), (3, rt1 j)]) (lm_to w1 (rt1 k)) (3, ((u1 : Nat) : Int))) by unfold lm_oSetRest; rw [lm_none_n hk, lm_none_n hj, if_neg (by decide), lm_ix_n hk, if_neg (show ¬ (rt k).1 ≠ 2 from fun z9 => z9 h2), lm_ix_n hj, if_neg hs, if_neg h6, hσ, if_pos hfit]; exact congrArg (Prod.mk 0) (if_neg h7)]; exact ⟨_, _, _, _, _, _, _, _, _, _, _, _, _, _, _, _, _, _, _, _, _, _, _, _, _, _, _, _, _, _, _, _, (lm_mf_up (v := (3, ((u1 : Nat) : Int))) (lm_mf_2 hh1)), hro1, rfl⟩⟩
              · skip
                have hp3 := hw1.2.2.2.1 _ hp2 h7
                have hp4 := hp3.1
                refine lx_aload_n F dX4_setRest_131 0 rfl ?_
                refine gf_X4_13 F 0 rfl rfl dX4_setRest_132 ?_
                refine lx_iload F dX4_setRest_135 4 rfl ?_
                refine lx_iconst F dX4_setRest_137 kc_1 ?_
                refine lx_iadd F dX4_setRest_138 (nI_add _ _) ?_
                refine lx_aload_n F dX4_setRest_139 0 rfl ?_
                refine gf_X4_20 F 0 rfl rfl dX4_setRest_140 ?_
                refine lx_iload_n F dX4_setRest_143 2 rfl ?_
                refine lx_iald F 4 j dX4_setRest_144 rfl (by omega) (by decide) ?_
                rw [(hro1 j hj).1]
                refine lx_iast F 2 ((lm_to w1 (rt1 k)) + 1) [(y, .inr (4, [.int (nI (lm_rf false false)), .ref acd1, .ref akd1, .ref act1, .int (nI u1), .ref ark1, .ref arr1, .int z1, .int kk1, .long kc1, .ref ali1, .int mn1, .ref ala1, .ref anc1, .ref ank1, .ref ant1, .int nx1, .ref aag1, .ref abk1, .ref atd1, .ref ase1])), (acd1, aI K 120 cd1), (akd1, aI K 120 (lm_up kd1 ((lm_to w1 (rt1 k)) + 1) (nI ((rt1 j).1)))), (act1, aJ K 120 ct1), (ark1, aI K 10 rk11), (arr1, aJ K 10 rr11), (ali1, aI K 120 fl1), (ala1, aI K 120 fla1), (anc1, aI K 120 nc1), (ank1, aI K 120 nk1), (ant1, aJ K 120 nt1), (aag1, aI K 120 fag1), (abk1, aI K 120 fbk1), (atd1, aI K 120 ftd1), (ase1, aZ K 120 fse1)] dX4_setRest_145 rfl (by omega) (by decide) rfl ?_
                refine lx_aload_n F dX4_setRest_146 0 rfl ?_
                refine gf_X4_16 F 0 rfl rfl dX4_setRest_147 ?_
                refine lx_iload F dX4_setRest_150 4 rfl ?_
                refine lx_iconst F dX4_setRest_152 kc_1 ?_
                refine lx_iadd F dX4_setRest_153 (nI_add _ _) ?_
                refine lx_aload_n F dX4_setRest_154 0 rfl ?_
                refine gf_X4_23 F 0 rfl rfl dX4_setRest_155 ?_
                refine lx_iload_n F dX4_setRest_158 2 rfl ?_
                refine lx_lald F 5 j dX4_setRest_159 rfl (by omega) (by decide) ?_
                rw [(hro1 j hj).2]
                refine lx_last F 3 ((lm_to w1 (rt1 k)) + 1) [(y, .inr (4, [.int (nI (lm_rf false false)), .ref acd1, .ref akd1, .ref act1, .int (nI u1), .ref ark1, .ref arr1, .int z1, .int kk1, .long kc1, .ref ali1, .int mn1, .ref ala1, .ref anc1, .ref ank1, .ref ant1, .int nx1, .ref aag1, .ref abk1, .ref atd1, .ref ase1])), (acd1, aI K 120 cd1), (akd1, aI K 120 (lm_up kd1 ((lm_to w1 (rt1 k)) + 1) (nI ((rt1 j).1)))), (act1, aJ K 120 (lm_up ct1 ((lm_to w1 (rt1 k)) + 1) (jI ((rt1 j).2)))), (ark1, aI K 10 rk11), (arr1, aJ K 10 rr11), (ali1, aI K 120 fl1), (ala1, aI K 120 fla1), (anc1, aI K 120 nc1), (ank1, aI K 120 nk1), (ant1, aJ K 120 nt1), (aag1, aI K 120 fag1), (abk1, aI K 120 fbk1), (atd1, aI K 120 ftd1), (ase1, aZ K 120 fse1)] dX4_setRest_160 rfl (by omega) (by decide) rfl ?_
                exact lx_vret F hR dX4_setRest_161 ⟨rfl, by rw [show lm_oSetRest (nI k) (nI j) (c, w, u, rt, z) = (0, lm_pt (c1, w1, u1, rt1, z1) (lm_to w1 (rt1 k) + 1) (rt1 j)) by unfold lm_oSetRest; rw [lm_none_n hk, lm_none_n hj, if_neg (by decide), lm_ix_n hk, if_neg (show ¬ (rt k).1 ≠ 2 from fun z9 => z9 h2), lm_ix_n hj, if_neg hs, if_neg h6, hσ, if_pos hfit]; exact congrArg (Prod.mk 0) (if_pos h7)]; exact ⟨_, _, _, _, _, _, _, _, _, _, _, _, _, _, _, _, _, _, _, _, _, _, _, _, _, _, _, _, _, _, _, _, (lm_mf_up (v := rt1 j) hh1), hro1, rfl⟩⟩
            · skip
              refine lx_aload_n F dX4_setRest_99 0 rfl ?_
              refine lx_iconst F dX4_setRest_100 kc_2 ?_
              refine lx_cv F (zR_room (xl E) K y c w u rt z hst (nI (lm_rf false false)) _ ⟨_, _, _, _, _, _, _, _, _, _, _, _, _, _, _, _, _, _, _, _, _, _, _, _, _, _, _, _, _, _, _, _, hh, hro, rfl⟩ 2 (by omega) (c1, w1, u1, rt1, z1) hσ false (decide_eq_false hfit)) cv_X4_117 0 rfl rfl [0, 1, 2, 3, 4, 5, 6, 7, 8, 9, 10, 11, 12, 13, 14] [] [] rfl rfl (by decide) rfl (st := []) rfl (Nat.le_of_ble_eq_true rfl) (by decide) ⟨by decide, by decide⟩ dX4_setRest_101 (fun v9 w9 h9 => ?_)
              obtain ⟨rfl, acd1, akd1, act1, ark1, arr1, ali1, ala1, anc1, ank1, ant1, aag1, abk1, atd1, ase1, kk1, kc1, mn1, nx1, cd1, kd1, ct1, rk11, rr11, fl1, fla1, nc1, nk1, nt1, fag1, fbk1, ftd1, fse1, hh1, hro1, rfl⟩ := h9
              refine lx_perm [0, 1, 2, 3, 4, 5, 6, 7, 8, 9, 10, 11, 12, 13, 14] [(y, .inr (4, [.int (nI (lm_rf false false)), .ref acd1, .ref akd1, .ref act1, .int (nI u1), .ref ark1, .ref arr1, .int z1, .int kk1, .long kc1, .ref ali1, .int mn1, .ref ala1, .ref anc1, .ref ank1, .ref ant1, .int nx1, .ref aag1, .ref abk1, .ref atd1, .ref ase1])), (acd1, aI K 120 cd1), (akd1, aI K 120 kd1), (act1, aJ K 120 ct1), (ark1, aI K 10 rk11), (arr1, aJ K 10 rr11), (ali1, aI K 120 fl1), (ala1, aI K 120 fla1), (anc1, aI K 120 nc1), (ank1, aI K 120 nk1), (ant1, aJ K 120 nt1), (aag1, aI K 120 fag1), (abk1, aI K 120 fbk1), (atd1, aI K 120 ftd1), (ase1, aZ K 120 fse1)] (by decide) rfl ?_
              refine lx_st (a' := 0) (b' := 0) [.int (bI false)] rfl rfl rfl ?_
              have hh1 : lm_mf cd1 kd1 ct1 c1 w1 u1 := hh1
              have hro1 : ∀ r, r < 10 → rk11 r = nI (rt1 r).1 ∧ rr11 r = jI (rt1 r).2 := hro1
              refine lx_if_ne F 113 dX4_setRest_104 rfl (fun h => absurd (by decide) h) (fun _ => ?_)
              refine lx_aload_n F dX4_setRest_107 0 rfl ?_
              refine lx_iconst F dX4_setRest_108 kc_3 ?_
              refine pf_X4_54 F 0 [(y, .inr (4, [.int (nI 3), .ref acd1, .ref akd1, .ref act1, .int (nI u1), .ref ark1, .ref arr1, .int z1, .int kk1, .long kc1, .ref ali1, .int mn1, .ref ala1, .ref anc1, .ref ank1, .ref ant1, .int nx1, .ref aag1, .ref abk1, .ref atd1, .ref ase1])), (acd1, aI K 120 cd1), (akd1, aI K 120 kd1), (act1, aJ K 120 ct1), (ark1, aI K 10 rk11), (arr1, aJ K 10 rr11), (ali1, aI K 120 fl1), (ala1, aI K 120 fla1), (anc1, aI K 120 nc1), (ank1, aI K 120 nk1), (ant1, aJ K 120 nt1), (aag1, aI K 120 fag1), (abk1, aI K 120 fbk1), (atd1, aI K 120 ftd1), (ase1, aZ K 120 fse1)] rfl rfl dX4_setRest_109 rfl ?_
              exact lx_vret F hR dX4_setRest_112 ⟨rfl, by rw [show lm_oSetRest (nI k) (nI j) (c, w, u, rt, z) = (3, (c1, w1, u1, rt1, z1)) by unfold lm_oSetRest; rw [lm_none_n hk, lm_none_n hj, if_neg (by decide), lm_ix_n hk, if_neg (show ¬ (rt k).1 ≠ 2 from fun z9 => z9 h2), lm_ix_n hj, if_neg hs, if_neg h6, hσ, if_neg hfit]]; exact ⟨_, _, _, _, _, _, _, _, _, _, _, _, _, _, _, _, _, _, _, _, _, _, _, _, _, _, _, _, _, _, _, _, hh1, hro1, rfl⟩⟩
      · skip
        refine lx_iconst F dX4_setRest_36 kc_1 ?_
        refine lx_goto F 41 dX4_setRest_37 rfl ?_
        refine lx_cv F (zr_refuse (xl E) K y acd akd act ark arr ali ala anc ank ant aag abk atd ase th z kk kc mn nx (nI u) false true) cv_X4_110 0 rfl rfl [0] [1, 2, 3, 4, 5, 6, 7, 8, 9, 10, 11, 12, 13, 14] [(acd, aI K 120 cd), (akd, aI K 120 kd), (act, aJ K 120 ct), (ark, aI K 10 rk1), (arr, aJ K 10 rr1), (ali, aI K 120 fl), (ala, aI K 120 fla), (anc, aI K 120 nc), (ank, aI K 120 nk), (ant, aJ K 120 nt), (aag, aI K 120 fag), (abk, aI K 120 fbk), (atd, aI K 120 ftd), (ase, aZ K 120 fse)] rfl rfl (by decide) rfl (st := []) rfl (Nat.le_of_ble_eq_true rfl) (by decide) ⟨by decide, by decide⟩ dX4_setRest_41 (fun v9 w9 h9 => ?_)
        obtain ⟨rfl, rfl⟩ := h9
        refine lx_perm [14, 0, 1, 2, 3, 4, 5, 6, 7, 8, 9, 10, 11, 12, 13] [(y, .inr (4, [.int (nI (lm_rf false true)), .ref acd, .ref akd, .ref act, .int (nI u), .ref ark, .ref arr, .int z, .int kk, .long kc, .ref ali, .int mn, .ref ala, .ref anc, .ref ank, .ref ant, .int nx, .ref aag, .ref abk, .ref atd, .ref ase])), (acd, aI K 120 cd), (akd, aI K 120 kd), (act, aJ K 120 ct), (ark, aI K 10 rk1), (arr, aJ K 10 rr1), (ali, aI K 120 fl), (ala, aI K 120 fla), (anc, aI K 120 nc), (ank, aI K 120 nk), (ant, aJ K 120 nt), (aag, aI K 120 fag), (abk, aI K 120 fbk), (atd, aI K 120 ftd), (ase, aZ K 120 fse)] (by decide) rfl ?_
        refine lx_st (a' := 0) (b' := 0) [.int (bI true)] rfl rfl rfl ?_
        refine lx_if_eq F 48 dX4_setRest_44 rfl (fun h => absurd h (by decide)) (fun _ => ?_)
        exact lx_vret F hR dX4_setRest_47 ⟨rfl, by rw [show lm_oSetRest (nI k) (nI j) (c, w, u, rt, z) = (2, (c, w, u, rt, z)) by unfold lm_oSetRest; rw [lm_none_n hk, lm_none_n hj, if_neg (by decide), lm_ix_n hk, if_pos h2]]; exact ⟨_, _, _, _, _, _, _, _, _, _, _, _, _, _, _, _, _, _, _, _, _, _, _, _, _, _, _, _, _, _, _, _, hh, hro, rfl⟩⟩
    · skip
      refine lx_iload_n F dX4_setRest_0 1 rfl ?_
      refine lx_cs F (zr_none2 (xl E) K (nI k) false (lm_none_n hk)) cs_X4_102 [] [0, 1, 2, 3, 4, 5, 6, 7, 8, 9, 10, 11, 12, 13, 14] [(y, .inr (4, [.int th, .ref acd, .ref akd, .ref act, .int (nI u), .ref ark, .ref arr, .int z, .int kk, .long kc, .ref ali, .int mn, .ref ala, .ref anc, .ref ank, .ref ant, .int nx, .ref aag, .ref abk, .ref atd, .ref ase])), (acd, aI K 120 cd), (akd, aI K 120 kd), (act, aJ K 120 ct), (ark, aI K 10 rk1), (arr, aJ K 10 rr1), (ali, aI K 120 fl), (ala, aI K 120 fla), (anc, aI K 120 nc), (ank, aI K 120 nk), (ant, aJ K 120 nt), (aag, aI K 120 fag), (abk, aI K 120 fbk), (atd, aI K 120 ftd), (ase, aZ K 120 fse)] rfl rfl (by decide) rfl (st := []) rfl (Nat.le_of_ble_eq_true rfl) (by decide) ⟨by decide, by decide⟩ dX4_setRest_1 (fun v9 w9 h9 => ?_)
      obtain ⟨rfl, rfl⟩ := h9
      refine lx_perm [0, 1, 2, 3, 4, 5, 6, 7, 8, 9, 10, 11, 12, 13, 14] [(y, .inr (4, [.int th, .ref acd, .ref akd, .ref act, .int (nI u), .ref ark, .ref arr, .int z, .int kk, .long kc, .ref ali, .int mn, .ref ala, .ref anc, .ref ank, .ref ant, .int nx, .ref aag, .ref abk, .ref atd, .ref ase])), (acd, aI K 120 cd), (akd, aI K 120 kd), (act, aJ K 120 ct), (ark, aI K 10 rk1), (arr, aJ K 10 rr1), (ali, aI K 120 fl), (ala, aI K 120 fla), (anc, aI K 120 nc), (ank, aI K 120 nk), (ant, aJ K 120 nt), (aag, aI K 120 fag), (abk, aI K 120 fbk), (atd, aI K 120 ftd), (ase, aZ K 120 fse)] (by decide) rfl ?_
      refine lx_st (a' := 0) (b' := 0) [.int (bI false)] rfl rfl rfl ?_
      refine lx_if_ne F 14 dX4_setRest_4 rfl (fun h => absurd (by decide) h) (fun _ => ?_)
      refine lx_iload_n F dX4_setRest_7 2 rfl ?_
      refine lx_cs F (zr_none2 (xl E) K f true hnf) cs_X4_102 [] [0, 1, 2, 3, 4, 5, 6, 7, 8, 9, 10, 11, 12, 13, 14] [(y, .inr (4, [.int th, .ref acd, .ref akd, .ref act, .int (nI u), .ref ark, .ref arr, .int z, .int kk, .long kc, .ref ali, .int mn, .ref ala, .ref anc, .ref ank, .ref ant, .int nx, .ref aag, .ref abk, .ref atd, .ref ase])), (acd, aI K 120 cd), (akd, aI K 120 kd), (act, aJ K 120 ct), (ark, aI K 10 rk1), (arr, aJ K 10 rr1), (ali, aI K 120 fl), (ala, aI K 120 fla), (anc, aI K 120 nc), (ank, aI K 120 nk), (ant, aJ K 120 nt), (aag, aI K 120 fag), (abk, aI K 120 fbk), (atd, aI K 120 ftd), (ase, aZ K 120 fse)] rfl rfl (by decide) rfl (st := []) rfl (Nat.le_of_ble_eq_true rfl) (by decide) ⟨by decide, by decide⟩ dX4_setRest_8 (fun v9 w9 h9 => ?_)
      obtain ⟨rfl, rfl⟩ := h9
      refine lx_perm [0, 1, 2, 3, 4, 5, 6, 7, 8, 9, 10, 11, 12, 13, 14] [(y, .inr (4, [.int th, .ref acd, .ref akd, .ref act, .int (nI u), .ref ark, .ref arr, .int z, .int kk, .long kc, .ref ali, .int mn, .ref ala, .ref anc, .ref ank, .ref ant, .int nx, .ref aag, .ref abk, .ref atd, .ref ase])), (acd, aI K 120 cd), (akd, aI K 120 kd), (act, aJ K 120 ct), (ark, aI K 10 rk1), (arr, aJ K 10 rr1), (ali, aI K 120 fl), (ala, aI K 120 fla), (anc, aI K 120 nc), (ank, aI K 120 nk), (ant, aJ K 120 nt), (aag, aI K 120 fag), (abk, aI K 120 fbk), (atd, aI K 120 ftd), (ase, aZ K 120 fse)] (by decide) rfl ?_
      refine lx_st (a' := 0) (b' := 0) [.int (bI true)] rfl rfl rfl ?_
      refine lx_if_eq F 18 dX4_setRest_11 rfl (fun h => absurd h (by decide)) (fun _ => ?_)
      refine lx_iconst F dX4_setRest_14 kc_1 ?_
      refine lx_goto F 19 dX4_setRest_15 rfl ?_
      refine lx_istore_n F [(0, .ref y), (1, .int (nI k)), (2, .int f), (3, .int (nI 1))] [1, 2, 3, 0] dX4_setRest_19 rfl (by decide) ?_
      refine lx_aload_n F dX4_setRest_20 0 rfl ?_
      refine lx_iload_n F dX4_setRest_21 3 rfl ?_
      refine lx_iload_n F dX4_setRest_22 3 rfl ?_
      refine lx_ifN_ne F 40 (by omega) dX4_setRest_23 rfl (fun _ => ?_) (fun h => absurd h (by omega))
      refine lx_iconst F dX4_setRest_40 kc_0 ?_
      refine lx_cv F (zr_refuse (xl E) K y acd akd act ark arr ali ala anc ank ant aag abk atd ase th z kk kc mn nx (nI u) true false) cv_X4_110 0 rfl rfl [0] [1, 2, 3, 4, 5, 6, 7, 8, 9, 10, 11, 12, 13, 14] [(acd, aI K 120 cd), (akd, aI K 120 kd), (act, aJ K 120 ct), (ark, aI K 10 rk1), (arr, aJ K 10 rr1), (ali, aI K 120 fl), (ala, aI K 120 fla), (anc, aI K 120 nc), (ank, aI K 120 nk), (ant, aJ K 120 nt), (aag, aI K 120 fag), (abk, aI K 120 fbk), (atd, aI K 120 ftd), (ase, aZ K 120 fse)] rfl rfl (by decide) rfl (st := []) rfl (Nat.le_of_ble_eq_true rfl) (by decide) ⟨by decide, by decide⟩ dX4_setRest_41 (fun v9 w9 h9 => ?_)
      obtain ⟨rfl, rfl⟩ := h9
      refine lx_perm [14, 0, 1, 2, 3, 4, 5, 6, 7, 8, 9, 10, 11, 12, 13] [(y, .inr (4, [.int (nI (lm_rf true false)), .ref acd, .ref akd, .ref act, .int (nI u), .ref ark, .ref arr, .int z, .int kk, .long kc, .ref ali, .int mn, .ref ala, .ref anc, .ref ank, .ref ant, .int nx, .ref aag, .ref abk, .ref atd, .ref ase])), (acd, aI K 120 cd), (akd, aI K 120 kd), (act, aJ K 120 ct), (ark, aI K 10 rk1), (arr, aJ K 10 rr1), (ali, aI K 120 fl), (ala, aI K 120 fla), (anc, aI K 120 nc), (ank, aI K 120 nk), (ant, aJ K 120 nt), (aag, aI K 120 fag), (abk, aI K 120 fbk), (atd, aI K 120 ftd), (ase, aZ K 120 fse)] (by decide) rfl ?_
      refine lx_st (a' := 0) (b' := 0) [.int (bI true)] rfl rfl rfl ?_
      refine lx_if_eq F 48 dX4_setRest_44 rfl (fun h => absurd h (by decide)) (fun _ => ?_)
      exact lx_vret F hR dX4_setRest_47 ⟨rfl, by rw [show lm_oSetRest (nI k) f (c, w, u, rt, z) = (1, (c, w, u, rt, z)) by unfold lm_oSetRest; rw [lm_none_n hk, hnf]; rfl]; exact ⟨_, _, _, _, _, _, _, _, _, _, _, _, _, _, _, _, _, _, _, _, _, _, _, _, _, _, _, _, _, _, _, _, hh, hro, rfl⟩⟩
  · skip
    refine lx_iload_n F dX4_setRest_0 1 rfl ?_
    refine lx_cs F (zr_none2 (xl E) K r true hnr) cs_X4_102 [] [0, 1, 2, 3, 4, 5, 6, 7, 8, 9, 10, 11, 12, 13, 14] [(y, .inr (4, [.int th, .ref acd, .ref akd, .ref act, .int (nI u), .ref ark, .ref arr, .int z, .int kk, .long kc, .ref ali, .int mn, .ref ala, .ref anc, .ref ank, .ref ant, .int nx, .ref aag, .ref abk, .ref atd, .ref ase])), (acd, aI K 120 cd), (akd, aI K 120 kd), (act, aJ K 120 ct), (ark, aI K 10 rk1), (arr, aJ K 10 rr1), (ali, aI K 120 fl), (ala, aI K 120 fla), (anc, aI K 120 nc), (ank, aI K 120 nk), (ant, aJ K 120 nt), (aag, aI K 120 fag), (abk, aI K 120 fbk), (atd, aI K 120 ftd), (ase, aZ K 120 fse)] rfl rfl (by decide) rfl (st := []) rfl (Nat.le_of_ble_eq_true rfl) (by decide) ⟨by decide, by decide⟩ dX4_setRest_1 (fun v9 w9 h9 => ?_)
    obtain ⟨rfl, rfl⟩ := h9
    refine lx_perm [0, 1, 2, 3, 4, 5, 6, 7, 8, 9, 10, 11, 12, 13, 14] [(y, .inr (4, [.int th, .ref acd, .ref akd, .ref act, .int (nI u), .ref ark, .ref arr, .int z, .int kk, .long kc, .ref ali, .int mn, .ref ala, .ref anc, .ref ank, .ref ant, .int nx, .ref aag, .ref abk, .ref atd, .ref ase])), (acd, aI K 120 cd), (akd, aI K 120 kd), (act, aJ K 120 ct), (ark, aI K 10 rk1), (arr, aJ K 10 rr1), (ali, aI K 120 fl), (ala, aI K 120 fla), (anc, aI K 120 nc), (ank, aI K 120 nk), (ant, aJ K 120 nt), (aag, aI K 120 fag), (abk, aI K 120 fbk), (atd, aI K 120 ftd), (ase, aZ K 120 fse)] (by decide) rfl ?_
    refine lx_st (a' := 0) (b' := 0) [.int (bI true)] rfl rfl rfl ?_
    refine lx_if_ne F 14 dX4_setRest_4 rfl (fun _ => ?_) (fun h => absurd h (by decide))
    refine lx_iconst F dX4_setRest_14 kc_1 ?_
    refine lx_goto F 19 dX4_setRest_15 rfl ?_
    refine lx_istore_n F [(0, .ref y), (1, .int r), (2, .int f), (3, .int (nI 1))] [1, 2, 3, 0] dX4_setRest_19 rfl (by decide) ?_
    refine lx_aload_n F dX4_setRest_20 0 rfl ?_
    refine lx_iload_n F dX4_setRest_21 3 rfl ?_
    refine lx_iload_n F dX4_setRest_22 3 rfl ?_
    refine lx_ifN_ne F 40 (by omega) dX4_setRest_23 rfl (fun _ => ?_) (fun h => absurd h (by omega))
    refine lx_iconst F dX4_setRest_40 kc_0 ?_
    refine lx_cv F (zr_refuse (xl E) K y acd akd act ark arr ali ala anc ank ant aag abk atd ase th z kk kc mn nx (nI u) true false) cv_X4_110 0 rfl rfl [0] [1, 2, 3, 4, 5, 6, 7, 8, 9, 10, 11, 12, 13, 14] [(acd, aI K 120 cd), (akd, aI K 120 kd), (act, aJ K 120 ct), (ark, aI K 10 rk1), (arr, aJ K 10 rr1), (ali, aI K 120 fl), (ala, aI K 120 fla), (anc, aI K 120 nc), (ank, aI K 120 nk), (ant, aJ K 120 nt), (aag, aI K 120 fag), (abk, aI K 120 fbk), (atd, aI K 120 ftd), (ase, aZ K 120 fse)] rfl rfl (by decide) rfl (st := []) rfl (Nat.le_of_ble_eq_true rfl) (by decide) ⟨by decide, by decide⟩ dX4_setRest_41 (fun v9 w9 h9 => ?_)
    obtain ⟨rfl, rfl⟩ := h9
    refine lx_perm [14, 0, 1, 2, 3, 4, 5, 6, 7, 8, 9, 10, 11, 12, 13] [(y, .inr (4, [.int (nI (lm_rf true false)), .ref acd, .ref akd, .ref act, .int (nI u), .ref ark, .ref arr, .int z, .int kk, .long kc, .ref ali, .int mn, .ref ala, .ref anc, .ref ank, .ref ant, .int nx, .ref aag, .ref abk, .ref atd, .ref ase])), (acd, aI K 120 cd), (akd, aI K 120 kd), (act, aJ K 120 ct), (ark, aI K 10 rk1), (arr, aJ K 10 rr1), (ali, aI K 120 fl), (ala, aI K 120 fla), (anc, aI K 120 nc), (ank, aI K 120 nk), (ant, aJ K 120 nt), (aag, aI K 120 fag), (abk, aI K 120 fbk), (atd, aI K 120 ftd), (ase, aZ K 120 fse)] (by decide) rfl ?_
    refine lx_st (a' := 0) (b' := 0) [.int (bI true)] rfl rfl rfl ?_
    refine lx_if_eq F 48 dX4_setRest_44 rfl (fun h => absurd h (by decide)) (fun _ => ?_)
    exact lx_vret F hR dX4_setRest_47 ⟨rfl, by rw [show lm_oSetRest r f (c, w, u, rt, z) = (1, (c, w, u, rt, z)) by unfold lm_oSetRest; rw [hnr]; rfl]; exact ⟨_, _, _, _, _, _, _, _, _, _, _, _, _, _, _, _, _, _, _, _, _, _, _, _, _, _, _, _, _, _, _, _, hh, hro, rfl⟩⟩
