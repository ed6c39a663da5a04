set_option maxHeartbeats 4000000 in
set_option maxRecDepth 100000 in
theorem zr_cell2 (l : Launch) (K : lm_G) (y acd akd act ark arr ali ala anc ank ant aag abk atd ase : Nat) (th z kk : Int32) (kc : Int64) (mn nx : Int32) (us : Int32) (cd kd : Nat → Int32) (ct : Nat → Int64) (c : Nat → Nat) (w : Nat → lm_V) (u : Nat) (hw : lm_wf c w u) (hh : lm_mf cd kd ct c w u) (q : Nat) (hq : q < u) (hc : c q ≠ 3) : lm_C l K mX4_cell (rk 0) [.ref y, .long (jI ((q : Nat) : Int))] [(y, .inr (4, [.int th, .ref acd, .ref akd, .ref act, .int us, .ref ark, .ref arr, .int z, .int kk, .long kc, .ref ali, .int mn, .ref ala, .ref anc, .ref ank, .ref ant, .int nx, .ref aag, .ref abk, .ref atd, .ref ase])), (akd, aI K 120 kd), (act, aJ K 120 ct)] (fun v9 w9 => v9 = some (.int (nI (lm_cell w q))) ∧ w9 = [(y, .inr (4, [.int th, .ref acd, .ref akd, .ref act, .int us, .ref ark, .ref arr, .int z, .int kk, .long kc, .ref ali, .int mn, .ref ala, .ref anc, .ref ank, .ref ant, .int nx, .ref aag, .ref abk, .ref atd, .ref ase])), (akd, aI K 120 kd), (act, aJ K 120 ct)]) := by
  refine lx_met RX4 pn_X4 rfl (Nat.le_of_ble_eq_true rfl) (fun E hE hnm F hR => ?_)
  have F : lx_F K 4 E cX4_cell RX4 (some .int) (rk 0) := F
  show lx_W K 4 E 0 0 0 [(0, .ref y), (1, .long (jI ((q : Nat) : Int)))] [] [(y, .inr (4, [.int th, .ref acd, .ref akd, .ref act, .int us, .ref ark, .ref arr, .int z, .int kk, .long kc, .ref ali, .int mn, .ref ala, .ref anc, .ref ank, .ref ant, .int nx, .ref aag, .ref abk, .ref atd, .ref ase])), (akd, aI K 120 kd), (act, aJ K 120 ct)]
  have hu := hw.1
  have hk4 := lm_k4 hw hq
  have hcl := lm_cell_cl hw hq hc
  refine lx_lload_n F dX4_cell_0 1 rfl ?_
  refine lx_l2i F dX4_cell_1 (jI_l2i q) ?_
  refine lx_istore_n F [(0, .ref y), (1, .long (jI ((q : Nat) : Int))), (3, .int (nI q))] [1, 2, 0] dX4_cell_2 rfl (by decide) ?_
  refine lx_aload_n F dX4_cell_3 0 rfl ?_
  refine gf_X4_13 F 0 rfl rfl dX4_cell_4 ?_
  refine lx_iload_n F dX4_cell_7 2 rfl ?_
  refine lx_iald F 1 q dX4_cell_8 rfl (by omega) (by decide) ?_
  rw [(hh q hq).2.1]
  refine lx_iconst F dX4_cell_9 kc_3 ?_
  refine lx_icmpN_ne F 24 (by omega) (by omega) dX4_cell_10 rfl (fun h3 => ?_) (fun h3 => ?_)
  · skip
    refine lx_iload_n F dX4_cell_24 2 rfl ?_
    exact lx_iret F hR dX4_cell_25 ⟨by rw [lm_cell_n h3], rfl⟩
  · skip
    obtain ⟨r, hr, hr2⟩ := lm_cell_m hw hq h3
    rw [hr2] at hcl
    have hru := hcl.1
    have hk5 := hcl.2.2
    have hk6 := lm_k4 hw hru
    refine lx_aload_n F dX4_cell_13 0 rfl ?_
    refine gf_X4_16 F 0 rfl rfl dX4_cell_14 ?_
    refine lx_iload_n F dX4_cell_17 2 rfl ?_
    refine lx_lald F 2 q dX4_cell_18 rfl (by omega) (by decide) ?_
    rw [show ct q = jI ((r : Nat) : Int) by rw [(hh q hq).2.2, hr]]
    refine lx_l2i F dX4_cell_19 (jI_l2i r) ?_
    refine lx_istore_n F [(0, .ref y), (1, .long (jI ((q : Nat) : Int))), (3, .int (nI r))] [1, 2, 0] dX4_cell_20 rfl (by decide) ?_
    refine lx_goto F 3 dX4_cell_21 rfl ?_
    refine lx_aload_n F dX4_cell_3 0 rfl ?_
    refine gf_X4_13 F 0 rfl rfl dX4_cell_4 ?_
    refine lx_iload_n F dX4_cell_7 2 rfl ?_
    refine lx_iald F 1 r dX4_cell_8 rfl (by omega) (by decide) ?_
    rw [(hh r hru).2.1]
    refine lx_iconst F dX4_cell_9 kc_3 ?_
    refine lx_icmpN_ne F 24 (by omega) (by omega) dX4_cell_10 rfl (fun _ => ?_) (fun h => absurd h (by omega))
    refine lx_iload_n F dX4_cell_24 2 rfl ?_
    exact lx_iret F hR dX4_cell_25 ⟨by rw [hr2], rfl⟩

set_option maxHeartbeats 4000000 in
set_option maxRecDepth 100000 in
theorem zr_lookRest2 (l : Launch) (K : lm_G) (y acd akd act ark arr ali ala anc ank ant aag abk atd ase : Nat) (th z kk : Int32) (kc : Int64) (mn nx : Int32) (us : Int32) (cd kd : Nat → Int32) (ct : Nat → Int64) (c : Nat → Nat) (w : Nat → lm_V) (u : Nat) (hw : lm_wf c w u) (hh : lm_mf cd kd ct c w u) (p : Nat) (hp : lm_cl c w u p) : lm_C l K mX4_lookRest (rk 1) [.ref y, .int (nI p)] [(y, .inr (4, [.int th, .ref acd, .ref akd, .ref act, .int us, .ref ark, .ref arr, .int z, .int kk, .long kc, .ref ali, .int mn, .ref ala, .ref anc, .ref ank, .ref ant, .int nx, .ref aag, .ref abk, .ref atd, .ref ase])), (acd, aI K 120 cd), (akd, aI K 120 kd), (act, aJ K 120 ct)] (fun v9 w9 => v9 = none ∧ w9 = [(y, .inr (4, [.int th, .ref acd, .ref akd, .ref act, .int us, .ref ark, .ref arr, .int z, .int (nI ((lm_rest c w p).1)), .long (jI ((lm_rest c w p).2)), .ref ali, .int mn, .ref ala, .ref anc, .ref ank, .ref ant, .int nx, .ref aag, .ref abk, .ref atd, .ref ase])), (acd, aI K 120 cd), (akd, aI K 120 kd), (act, aJ K 120 ct)]) := by
  refine lx_met RX4 pn_X4 rfl (Nat.le_of_ble_eq_true rfl) (fun E hE hnm F hR => ?_)
  have F : lx_F K 2 E cX4_lookRest RX4 none (rk 1) := F
  show lx_W K 2 E 0 0 0 [(0, .ref y), (1, .int (nI p))] [] [(y, .inr (4, [.int th, .ref acd, .ref akd, .ref act, .int us, .ref ark, .ref arr, .int z, .int kk, .long kc, .ref ali, .int mn, .ref ala, .ref anc, .ref ank, .ref ant, .int nx, .ref aag, .ref abk, .ref atd, .ref ase])), (acd, aI K 120 cd), (akd, aI K 120 kd), (act, aJ K 120 ct)]
  have hu := hw.1
  have hp1 := hp.1
  have hc3 := hw.2.1 p hp.1
  have hc33 := hp.2.1
  refine lx_aload_n F dX4_lookRest_0 0 rfl ?_
  refine gf_X4_7 F 0 rfl rfl dX4_lookRest_1 ?_
  refine lx_iload_n F dX4_lookRest_4 1 rfl ?_
  refine lx_iald F 1 p dX4_lookRest_5 rfl (by omega) (by decide) ?_
  rw [(hh p hp1).1]
  refine lx_ifN_ne F 21 (by omega) dX4_lookRest_6 rfl (fun h0 => ?_) (fun h0 => ?_)
  · skip
    refine lx_aload_n F dX4_lookRest_21 0 rfl ?_
    refine gf_X4_7 F 0 rfl rfl dX4_lookRest_22 ?_
    refine lx_iload_n F dX4_lookRest_25 1 rfl ?_
    refine lx_iald F 1 p dX4_lookRest_26 rfl (by omega) (by decide) ?_
    rw [(hh p hp1).1]
    refine lx_iconst F dX4_lookRest_27 kc_1 ?_
    refine lx_icmpN_ne F 40 (by omega) (by omega) dX4_lookRest_28 rfl (fun h1 => ?_) (fun h1 => ?_)
    · skip
      have h2 : c p = 2 := by omega
      have hp2 := hw.2.2.2.1 p hp1 h2
      have hp3 := hp2.1
      refine lx_aload_n F dX4_lookRest_40 0 rfl ?_
      refine lx_aload_n F dX4_lookRest_41 0 rfl ?_
      refine gf_X4_13 F 0 rfl rfl dX4_lookRest_42 ?_
      refine lx_iload_n F dX4_lookRest_45 1 rfl ?_
      refine lx_iconst F dX4_lookRest_46 kc_1 ?_
      refine lx_iadd F dX4_lookRest_47 (nI_add _ _) ?_
      refine lx_iald F 2 (p + 1) dX4_lookRest_48 rfl (by omega) (by decide) ?_
      rw [(hh (p + 1) hp3).2.1]
      refine lx_aload_n F dX4_lookRest_49 0 rfl ?_
      refine gf_X4_16 F 0 rfl rfl dX4_lookRest_50 ?_
      refine lx_iload_n F dX4_lookRest_53 1 rfl ?_
      refine lx_iconst F dX4_lookRest_54 kc_1 ?_
      refine lx_iadd F dX4_lookRest_55 (nI_add _ _) ?_
      refine lx_lald F 3 (p + 1) dX4_lookRest_56 rfl (by omega) (by decide) ?_
      rw [(hh (p + 1) hp3).2.2]
      refine lx_cv F (zr_look (xl E) K y acd akd act ark arr ali ala anc ank ant aag abk atd ase th z kk kc mn nx us (nI (w (p + 1)).1) (jI (w (p + 1)).2)) cv_X4_69 0 rfl rfl [0] [1, 2, 3] [(acd, aI K 120 cd), (akd, aI K 120 kd), (act, aJ K 120 ct)] rfl rfl (by decide) rfl (st := []) rfl (Nat.le_of_ble_eq_true rfl) (by decide) ⟨by decide, by decide⟩ dX4_lookRest_57 (fun v9 w9 h9 => ?_)
      obtain ⟨rfl, rfl⟩ := h9
      refine lx_perm [3, 0, 1, 2] [(y, .inr (4, [.int th, .ref acd, .ref akd, .ref act, .int us, .ref ark, .ref arr, .int z, .int (nI ((w (p + 1)).1)), .long (jI ((w (p + 1)).2)), .ref ali, .int mn, .ref ala, .ref anc, .ref ank, .ref ant, .int nx, .ref aag, .ref abk, .ref atd, .ref ase])), (acd, aI K 120 cd), (akd, aI K 120 kd), (act, aJ K 120 ct)] (by decide) rfl ?_
      refine lx_st (a' := 0) (b' := 0) [] rfl rfl rfl ?_
      exact lx_vret F hR dX4_lookRest_60 ⟨rfl, by rw [lm_rest_2 h2]⟩
    · skip
      refine lx_aload_n F dX4_lookRest_31 0 rfl ?_
      refine lx_iconst F dX4_lookRest_32 kc_0 ?_
      refine lx_lconst F dX4_lookRest_33 kl_0 ?_
      refine lx_cv F (zr_look (xl E) K y acd akd act ark arr ali ala anc ank ant aag abk atd ase th z kk kc mn nx us (nI 0) (jI 0)) cv_X4_69 0 rfl rfl [0] [1, 2, 3] [(acd, aI K 120 cd), (akd, aI K 120 kd), (act, aJ K 120 ct)] rfl rfl (by decide) rfl (st := []) rfl (Nat.le_of_ble_eq_true rfl) (by decide) ⟨by decide, by decide⟩ dX4_lookRest_34 (fun v9 w9 h9 => ?_)
      obtain ⟨rfl, rfl⟩ := h9
      refine lx_perm [3, 0, 1, 2] [(y, .inr (4, [.int th, .ref acd, .ref akd, .ref act, .int us, .ref ark, .ref arr, .int z, .int (nI 0), .long (jI 0), .ref ali, .int mn, .ref ala, .ref anc, .ref ank, .ref ant, .int nx, .ref aag, .ref abk, .ref atd, .ref ase])), (acd, aI K 120 cd), (akd, aI K 120 kd), (act, aJ K 120 ct)] (by decide) rfl ?_
      refine lx_st (a' := 0) (b' := 0) [] rfl rfl rfl ?_
      refine lx_goto F 60 dX4_lookRest_37 rfl ?_
      exact lx_vret F hR dX4_lookRest_60 ⟨rfl, by rw [lm_rest_0 h0 (by omega)]⟩
  · skip
    refine lx_aload_n F dX4_lookRest_9 0 rfl ?_
    refine lx_iconst F dX4_lookRest_10 kc_2 ?_
    refine lx_iload_n F dX4_lookRest_11 1 rfl ?_
    refine lx_i2l F dX4_lookRest_12 (jI_i2l (by omega)) ?_
    refine lx_lconst F dX4_lookRest_13 kl_1 ?_
    refine lx_ladd F dX4_lookRest_14 (jI_add _ _) ?_
    refine lx_cv F (zr_look (xl E) K y acd akd act ark arr ali ala anc ank ant aag abk atd ase th z kk kc mn nx us (nI 2) (jI ((p + 1 : Nat) : Int))) cv_X4_69 0 rfl rfl [0] [1, 2, 3] [(acd, aI K 120 cd), (akd, aI K 120 kd), (act, aJ K 120 ct)] rfl rfl (by decide) rfl (st := []) rfl (Nat.le_of_ble_eq_true rfl) (by decide) ⟨by decide, by decide⟩ dX4_lookRest_15 (fun v9 w9 h9 => ?_)
    obtain ⟨rfl, rfl⟩ := h9
    refine lx_perm [3, 0, 1, 2] [(y, .inr (4, [.int th, .ref acd, .ref akd, .ref act, .int us, .ref ark, .ref arr, .int z, .int (nI 2), .long (jI ((p + 1 : Nat) : Int)), .ref ali, .int mn, .ref ala, .ref anc, .ref ank, .ref ant, .int nx, .ref aag, .ref abk, .ref atd, .ref ase])), (acd, aI K 120 cd), (akd, aI K 120 kd), (act, aJ K 120 ct)] (by decide) rfl ?_
    refine lx_st (a' := 0) (b' := 0) [] rfl rfl rfl ?_
    refine lx_goto F 60 dX4_lookRest_18 rfl ?_
    exact lx_vret F hR dX4_lookRest_60 ⟨rfl, by rw [lm_rest_n h0]⟩

set_option maxHeartbeats 4000000 in
set_option maxRecDepth 100000 in
theorem zR_append (l : Launch) (K : lm_G) (y : Nat) (c : Nat → Nat) (w : Nat → lm_V) (u : Nat) (rt : Nat → lm_V) (z : Int32) (hst : lm_st c w u rt) (th : Int32) (W : va_W) (hW : lm_mod K y (c, w, u, rt, z) th W) (r f t : Int32) : lm_C l K mX4_append (rk 5) [.ref y, .int r, .int f, .int t] W (fun v9 w9 => v9 = none ∧ lm_mod K y (lm_oAppend r f t (c, w, u, rt, z)).2 (nI (lm_oAppend r f t (c, w, u, rt, z)).1) w9) := by
  obtain ⟨acd, akd, act, ark, arr, ali, ala, anc, ank, ant, aag, abk, atd, ase, kk, kc, mn, nx, cd, kd, ct, rk1, rr1, fl, fla, nc, nk, nt, fag, fbk, ftd, fse, hh, hro, rfl⟩ := hW
  have hh : lm_mf cd kd ct c w u := hh
  have hro : ∀ r, r < 10 → rk1 r = nI (rt r).1 ∧ rr1 r = jI (rt r).2 := hro
  have hw := hst.1
  have hr9 := hst.2
  have hu := hw.1
  refine lx_met RX4 pn_X4 rfl (Nat.le_of_ble_eq_true rfl) (fun E hE hnm F hR => ?_)
  have F : lx_F K 11 E cX4_append RX4 none (rk 5) := F
  show lx_W K 11 E 0 0 0 [(0, .ref y), (1, .int r), (2, .int f), (3, .int t)] [] [(y, .inr (4, [.int th, .ref acd, .ref akd, .ref act, .int (nI u), .ref ark, .ref arr, .int z, .int kk, .long kc, .ref ali, .int mn, .ref ala, .ref anc, .ref ank, .ref ant, .int nx, .ref aag, .ref abk, .ref atd, .ref ase])), (acd, aI K 120 cd), (akd, aI K 120 kd), (act, aJ K 120 ct), (ark, aI K 10 rk1), (arr, aJ K 10 rr1), (ali, aI K 120 fl), (ala, aI K 120 fla), (anc, aI K 120 nc), (ank, aI K 120 nk), (ant, aJ K 120 nt), (aag, aI K 120 fag), (abk, aI K 120 fbk), (atd, aI K 120 ftd), (ase, aZ K 120 fse)]
  cases hnr : lm_none r
  · skip
    obtain ⟨k, hk, rfl⟩ := lm_none_f hnr
    cases hnf : lm_none f
    · skip
      obtain ⟨j, hj, rfl⟩ := lm_none_f hnf
      cases hnt : lm_none t
      · skip
        obtain ⟨i, hi, rfl⟩ := lm_none_f hnt
        by_cases hneg : lm_len c w 121 0 (rt j) < 0
        · skip
          refine lx_iload_n F dX4_append_0 1 rfl ?_
          refine lx_cs F (zr_none2 (xl E) K (nI k) false (lm_none_n hk)) cs_X4_102 [] [0, 1, 2, 3, 4, 5, 6, 7, 8, 9, 10, 11, 12, 13, 14] [(y, .inr (4, [.int th, .ref acd, .ref akd, .ref act, .int (nI u), .ref ark, .ref arr, .int z, .int kk, .long kc, .ref ali, .int mn, .ref ala, .ref anc, .ref ank, .ref ant, .int nx, .ref aag, .ref abk, .ref atd, .ref ase])), (acd, aI K 120 cd), (akd, aI K 120 kd), (act, aJ K 120 ct), (ark, aI K 10 rk1), (arr, aJ K 10 rr1), (ali, aI K 120 fl), (ala, aI K 120 fla), (anc, aI K 120 nc), (ank, aI K 120 nk), (ant, aJ K 120 nt), (aag, aI K 120 fag), (abk, aI K 120 fbk), (atd, aI K 120 ftd), (ase, aZ K 120 fse)] rfl rfl (by decide) rfl (st := []) rfl (Nat.le_of_ble_eq_true rfl) (by decide) ⟨by decide, by decide⟩ dX4_append_1 (fun v9 w9 h9 => ?_)
          obtain ⟨rfl, rfl⟩ := h9
          refine lx_perm [0, 1, 2, 3, 4, 5, 6, 7, 8, 9, 10, 11, 12, 13, 14] [(y, .inr (4, [.int th, .ref acd, .ref akd, .ref act, .int (nI u), .ref ark, .ref arr, .int z, .int kk, .long kc, .ref ali, .int mn, .ref ala, .ref anc, .ref ank, .ref ant, .int nx, .ref aag, .ref abk, .ref atd, .ref ase])), (acd, aI K 120 cd), (akd, aI K 120 kd), (act, aJ K 120 ct), (ark, aI K 10 rk1), (arr, aJ K 10 rr1), (ali, aI K 120 fl), (ala, aI K 120 fla), (anc, aI K 120 nc), (ank, aI K 120 nk), (ant, aJ K 120 nt), (aag, aI K 120 fag), (abk, aI K 120 fbk), (atd, aI K 120 ftd), (ase, aZ K 120 fse)] (by decide) rfl ?_
          refine lx_st (a' := 0) (b' := 0) [.int (bI false)] rfl rfl rfl ?_
          refine lx_if_ne F 21 dX4_append_4 rfl (fun h => absurd (by decide) h) (fun _ => ?_)
          refine lx_iload_n F dX4_append_7 2 rfl ?_
          refine lx_cs F (zr_none2 (xl E) K (nI j) false (lm_none_n hj)) cs_X4_102 [] [0, 1, 2, 3, 4, 5, 6, 7, 8, 9, 10, 11, 12, 13, 14] [(y, .inr (4, [.int th, .ref acd, .ref akd, .ref act, .int (nI u), .ref ark, .ref arr, .int z, .int kk, .long kc, .ref ali, .int mn, .ref ala, .ref anc, .ref ank, .ref ant, .int nx, .ref aag, .ref abk, .ref atd, .ref ase])), (acd, aI K 120 cd), (akd, aI K 120 kd), (act, aJ K 120 ct), (ark, aI K 10 rk1), (arr, aJ K 10 rr1), (ali, aI K 120 fl), (ala, aI K 120 fla), (anc, aI K 120 nc), (ank, aI K 120 nk), (ant, aJ K 120 nt), (aag, aI K 120 fag), (abk, aI K 120 fbk), (atd, aI K 120 ftd), (ase, aZ K 120 fse)] rfl rfl (by decide) rfl (st := []) rfl (Nat.le_of_ble_eq_true rfl) (by decide) ⟨by decide, by decide⟩ dX4_append_8 (fun v9 w9 h9 => ?_)
          obtain ⟨rfl, rfl⟩ := h9
          refine lx_perm [0, 1, 2, 3, 4, 5, 6, 7, 8, 9, 10, 11, 12, 13, 14] [(y, .inr (4, [.int th, .ref acd, .ref akd, .ref act, .int (nI u), .ref ark, .ref arr, .int z, .int kk, .long kc, .ref ali, .int mn, .ref ala, .ref anc, .ref ank, .ref ant, .int nx, .ref aag, .ref abk, .ref atd, .ref ase])), (acd, aI K 120 cd), (akd, aI K 120 kd), (act, aJ K 120 ct), (ark, aI K 10 rk1), (arr, aJ K 10 rr1), (ali, aI K 120 fl), (ala, aI K 120 fla), (anc, aI K 120 nc), (ank, aI K 120 nk), (ant, aJ K 120 nt), (aag, aI K 120 fag), (abk, aI K 120 fbk), (atd, aI K 120 ftd), (ase, aZ K 120 fse)] (by decide) rfl ?_
          refine lx_st (a' := 0) (b' := 0) [.int (bI false)] rfl rfl rfl ?_
          refine lx_if_ne F 21 dX4_append_11 rfl (fun h => absurd (by decide) h) (fun _ => ?_)
          refine lx_iload_n F dX4_append_14 3 rfl ?_
          refine lx_cs F (zr_none2 (xl E) K (nI i) false (lm_none_n hi)) cs_X4_102 [] [0, 1, 2, 3, 4, 5, 6, 7, 8, 9, 10, 11, 12, 13, 14] [(y, .inr (4, [.int th, .ref acd, .ref akd, .ref act, .int (nI u), .ref ark, .ref arr, .int z, .int kk, .long kc, .ref ali, .int mn, .ref ala, .ref anc, .ref ank, .ref ant, .int nx, .ref aag, .ref abk, .ref atd, .ref ase])), (acd, aI K 120 cd), (akd, aI K 120 kd), (act, aJ K 120 ct), (ark, aI K 10 rk1), (arr, aJ K 10 rr1), (ali, aI K 120 fl), (ala, aI K 120 fla), (anc, aI K 120 nc), (ank, aI K 120 nk), (ant, aJ K 120 nt), (aag, aI K 120 fag), (abk, aI K 120 fbk), (atd, aI K 120 ftd), (ase, aZ K 120 fse)] rfl rfl (by decide) rfl (st := []) rfl (Nat.le_of_ble_eq_true rfl) (by decide) ⟨by decide, by decide⟩ dX4_append_15 (fun v9 w9 h9 => ?_)
          obtain ⟨rfl, rfl⟩ := h9
          refine lx_perm [0, 1, 2, 3, 4, 5, 6, 7, 8, 9, 10, 11, 12, 13, 14] [(y, .inr (4, [.int th, .ref acd, .ref akd, .ref act, .int (nI u), .ref ark, .ref arr, .int z, .int kk, .long kc, .ref ali, .int mn, .ref ala, .ref anc, .ref ank, .ref ant, .int nx, .ref aag, .ref abk, .ref atd, .ref ase])), (acd, aI K 120 cd), (akd, aI K 120 kd), (act, aJ K 120 ct), (ark, aI K 10 rk1), (arr, aJ K 10 rr1), (ali, aI K 120 fl), (ala, aI K 120 fla), (anc, aI K 120 nc), (ank, aI K 120 nk), (ant, aJ K 120 nt), (aag, aI K 120 fag), (abk, aI K 120 fbk), (atd, aI K 120 ftd), (ase, aZ K 120 fse)] (by decide) rfl ?_
          refine lx_st (a' := 0) (b' := 0) [.int (bI false)] rfl rfl rfl ?_
          refine lx_if_eq F 25 dX4_append_18 rfl (fun _ => ?_) (fun h => absurd (by decide) h)
          refine lx_iconst F dX4_append_25 kc_0 ?_
          refine lx_istore F [(0, .ref y), (1, .int (nI k)), (2, .int (nI j)), (3, .int (nI i)), (4, .int (nI 0))] [1, 2, 3, 4, 0] dX4_append_26 rfl (by decide) ?_
          refine lx_iload F dX4_append_28 4 rfl ?_
          refine lx_ifN_eq F 37 (by omega) dX4_append_30 rfl (fun _ => ?_) (fun h => absurd h (by omega))
          refine lx_aload_n F dX4_append_37 0 rfl ?_
          refine lx_aload_n F dX4_append_38 0 rfl ?_
          refine gf_X4_20 F 0 rfl rfl dX4_append_39 ?_
          refine lx_iload_n F dX4_append_42 2 rfl ?_
          refine lx_iald F 4 j dX4_append_43 rfl (by omega) (by decide) ?_
          rw [(hro j hj).1]
          refine lx_aload_n F dX4_append_44 0 rfl ?_
          refine gf_X4_23 F 0 rfl rfl dX4_append_45 ?_
          refine lx_iload_n F dX4_append_48 2 rfl ?_
          refine lx_lald F 5 j dX4_append_49 rfl (by omega) (by decide) ?_
          rw [(hro j hj).2]
          refine lx_cv F (zr_lengthOf (xl E) K y acd akd act ark arr ali ala anc ank ant aag abk atd ase th z kk kc mn nx cd kd ct c w u hw hh (rt j) (hr9 j hj)) cv_X4_132 0 rfl rfl [0, 1, 2, 3] [4, 5, 6, 7, 8, 9, 10, 11, 12, 13, 14] [(ark, aI K 10 rk1), (arr, aJ K 10 rr1), (ali, aI K 120 fl), (ala, aI K 120 fla), (anc, aI K 120 nc), (ank, aI K 120 nk), (ant, aJ K 120 nt), (aag, aI K 120 fag), (abk, aI K 120 fbk), (atd, aI K 120 ftd), (ase, aZ K 120 fse)] rfl rfl (by decide) rfl (st := []) rfl (Nat.le_of_ble_eq_true rfl) (by decide) ⟨by decide, by decide⟩ dX4_append_50 (fun v9 w9 h9 => ?_)
          obtain ⟨rfl, kk2, kc2, rfl⟩ := h9
          refine lx_perm [11, 12, 13, 14, 0, 1, 2, 3, 4, 5, 6, 7, 8, 9, 10] [(y, .inr (4, [.int th, .ref acd, .ref akd, .ref act, .int (nI u), .ref ark, .ref arr, .int z, .int kk2, .long kc2, .ref ali, .int mn, .ref ala, .ref anc, .ref ank, .ref ant, .int nx, .ref aag, .ref abk, .ref atd, .ref ase])), (acd, aI K 120 cd), (akd, aI K 120 kd), (act, aJ K 120 ct), (ark, aI K 10 rk1), (arr, aJ K 10 rr1), (ali, aI K 120 fl), (ala, aI K 120 fla), (anc, aI K 120 nc), (ank, aI K 120 nk), (ant, aJ K 120 nt), (aag, aI K 120 fag), (abk, aI K 120 fbk), (atd, aI K 120 ftd), (ase, aZ K 120 fse)] (by decide) rfl ?_
          refine lx_st (a' := 0) (b' := 0) [.int (Int32.ofInt (lm_len c w 121 0 (rt j)))] rfl rfl rfl ?_
          refine lx_istore F [(0, .ref y), (1, .int (nI k)), (2, .int (nI j)), (3, .int (nI i)), (4, .int (nI 0)), (5, .int (Int32.ofInt (lm_len c w 121 0 (rt j))))] [1, 2, 3, 4, 5, 0] dX4_append_53 rfl (by decide) ?_
          refine lx_aload_n F dX4_append_55 0 rfl ?_
          refine lx_iload F dX4_append_56 4 rfl ?_
          refine lx_iload F dX4_append_58 5 rfl ?_
          refine lx_if_ge F 67 dX4_append_60 rfl (fun h => absurd h (lm_len_neg hneg (lm_len_ge 121 0 (rt j)))) (fun _ => ?_)
          refine lx_iconst F dX4_append_63 kc_1 ?_
          refine lx_goto F 68 dX4_append_64 rfl ?_
          refine lx_cv F (zr_refuse (xl E) K y acd akd act ark arr ali ala anc ank ant aag abk atd ase th z kk2 kc2 mn nx (nI u) false true) cv_X4_110 0 rfl rfl [0] [1, 2, 3, 4, 5, 6, 7, 8, 9, 10, 11, 12, 13, 14] [(acd, aI K 120 cd), (akd, aI K 120 kd), (act, aJ K 120 ct), (ark, aI K 10 rk1), (arr, aJ K 10 rr1), (ali, aI K 120 fl), (ala, aI K 120 fla), (anc, aI K 120 nc), (ank, aI K 120 nk), (ant, aJ K 120 nt), (aag, aI K 120 fag), (abk, aI K 120 fbk), (atd, aI K 120 ftd), (ase, aZ K 120 fse)] rfl rfl (by decide) rfl (st := []) rfl (Nat.le_of_ble_eq_true rfl) (by decide) ⟨by decide, by decide⟩ dX4_append_68 (fun v9 w9 h9 => ?_)
          obtain ⟨rfl, rfl⟩ := h9
          refine lx_perm [14, 0, 1, 2, 3, 4, 5, 6, 7, 8, 9, 10, 11, 12, 13] [(y, .inr (4, [.int (nI (lm_rf false true)), .ref acd, .ref akd, .ref act, .int (nI u), .ref ark, .ref arr, .int z, .int kk2, .long kc2, .ref ali, .int mn, .ref ala, .ref anc, .ref ank, .ref ant, .int nx, .ref aag, .ref abk, .ref atd, .ref ase])), (acd, aI K 120 cd), (akd, aI K 120 kd), (act, aJ K 120 ct), (ark, aI K 10 rk1), (arr, aJ K 10 rr1), (ali, aI K 120 fl), (ala, aI K 120 fla), (anc, aI K 120 nc), (ank, aI K 120 nk), (ant, aJ K 120 nt), (aag, aI K 120 fag), (abk, aI K 120 fbk), (atd, aI K 120 ftd), (ase, aZ K 120 fse)] (by decide) rfl ?_
          refine lx_st (a' := 0) (b' := 0) [.int (bI true)] rfl rfl rfl ?_
          refine lx_if_eq F 75 dX4_append_71 rfl (fun h => absurd h (by decide)) (fun _ => ?_)
          exact lx_vret F hR dX4_append_74 ⟨rfl, by rw [show lm_oAppend (nI k) (nI j) (nI i) (c, w, u, rt, z) = (2, (c, w, u, rt, z)) by unfold lm_oAppend; rw [lm_none_n hk, lm_none_n hj, lm_none_n hi, if_neg (by decide), lm_ix_n hj, if_pos hneg]]; exact ⟨_, _, _, _, _, _, _, _, _, _, _, _, _, _, _, _, _, _, _, _, _, _, _, _, _, _, _, _, _, _, _, _, hh, hro, rfl⟩⟩
        · skip
          obtain ⟨n, hlen, hn121, hisL0⟩ := lm_len_L 121 0 (rt j) hneg
          rw [Nat.zero_add] at hlen
          by_cases hn0 : n = 0
          · skip
            refine lx_iload_n F dX4_append_0 1 rfl ?_
            refine lx_cs F (zr_none2 (xl E) K (nI k) false (lm_none_n hk)) cs_X4_102 [] [0, 1, 2, 3, 4, 5, 6, 7, 8, 9, 10, 11, 12, 13, 14] [(y, .inr (4, [.int th, .ref acd, .ref akd, .ref act, .int (nI u), .ref ark, .ref arr, .int z, .int kk, .long kc, .ref ali, .int mn, .ref ala, .ref anc, .ref ank, .ref ant, .int nx, .ref aag, .ref abk, .ref atd, .ref ase])), (acd, aI K 120 cd), (akd, aI K 120 kd), (act, aJ K 120 ct), (ark, aI K 10 rk1), (arr, aJ K 10 rr1), (ali, aI K 120 fl), (ala, aI K 120 fla), (anc, aI K 120 nc), (ank, aI K 120 nk), (ant, aJ K 120 nt), (aag, aI K 120 fag), (abk, aI K 120 fbk), (atd, aI K 120 ftd), (ase, aZ K 120 fse)] rfl rfl (by decide) rfl (st := []) rfl (Nat.le_of_ble_eq_true rfl) (by decide) ⟨by decide, by decide⟩ dX4_append_1 (fun v9 w9 h9 => ?_)
            obtain ⟨rfl, rfl⟩ := h9
            refine lx_perm [0, 1, 2, 3, 4, 5, 6, 7, 8, 9, 10, 11, 12, 13, 14] [(y, .inr (4, [.int th, .ref acd, .ref akd, .ref act, .int (nI u), .ref ark, .ref arr, .int z, .int kk, .long kc, .ref ali, .int mn, .ref ala, .ref anc, .ref ank, .ref ant, .int nx, .ref aag, .ref abk, .ref atd, .ref ase])), (acd, aI K 120 cd), (akd, aI K 120 kd), (act, aJ K 120 ct), (ark, aI K 10 rk1), (arr, aJ K 10 rr1), (ali, aI K 120 fl), (ala, aI K 120 fla), (anc, aI K 120 nc), (ank, aI K 120 nk), (ant, aJ K 120 nt), (aag, aI K 120 fag), (abk, aI K 120 fbk), (atd, aI K 120 ftd), (ase, aZ K 120 fse)] (by decide) rfl ?_
            refine lx_st (a' := 0) (b' := 0) [.int (bI false)] rfl rfl rfl ?_
            refine lx_if_ne F 21 dX4_append_4 rfl (fun h => absurd (by decide) h) (fun _ => ?_)
            refine lx_iload_n F dX4_append_7 2 rfl ?_
            refine lx_cs F (zr_none2 (xl E) K (nI j) false (lm_none_n hj)) cs_X4_102 [] [0, 1, 2, 3, 4, 5, 6, 7, 8, 9, 10, 11, 12, 13, 14] [(y, .inr (4, [.int th, .ref acd, .ref akd, .ref act, .int (nI u), .ref ark, .ref arr, .int z, .int kk, .long kc, .ref ali, .int mn, .ref ala, .ref anc, .ref ank, .ref ant, .int nx, .ref aag, .ref abk, .ref atd, .ref ase])), (acd, aI K 120 cd), (akd, aI K 120 kd), (act, aJ K 120 ct), (ark, aI K 10 rk1), (arr, aJ K 10 rr1), (ali, aI K 120 fl), (ala, aI K 120 fla), (anc, aI K 120 nc), (ank, aI K 120 nk), (ant, aJ K 120 nt), (aag, aI K 120 fag), (abk, aI K 120 fbk), (atd, aI K 120 ftd), (ase, aZ K 120 fse)] rfl rfl (by decide) rfl (st := []) rfl (Nat.le_of_ble_eq_true rfl) (by decide) ⟨by decide, by decide⟩ dX4_append_8 (fun v9 w9 h9 => ?_)
            obtain ⟨rfl, rfl⟩ := h9
            refine lx_perm [0, 1, 2, 3, 4, 5, 6, 7, 8, 9, 10, 11, 12, 13, 14] [(y, .inr (4, [.int th, .ref acd, .ref akd, .ref act, .int (nI u), .ref ark, .ref arr, .int z, .int kk, .long kc, .ref ali, .int mn, .ref ala, .ref anc, .ref ank, .ref ant, .int nx, .ref aag, .ref abk, .ref atd, .ref ase])), (acd, aI K 120 cd), (akd, aI K 120 kd), (act, aJ K 120 ct), (ark, aI K 10 rk1), (arr, aJ K 10 rr1), (ali, aI K 120 fl), (ala, aI K 120 fla), (anc, aI K 120 nc), (ank, aI K 120 nk), (ant, aJ K 120 nt), (aag, aI K 120 fag), (abk, aI K 120 fbk), (atd, aI K 120 ftd), (ase, aZ K 120 fse)] (by decide) rfl ?_
            refine lx_st (a' := 0) (b' := 0) [.int (bI false)] rfl rfl rfl ?_
            refine lx_if_ne F 21 dX4_append_11 rfl (fun h => absurd (by decide) h) (fun _ => ?_)
            refine lx_iload_n F dX4_append_14 3 rfl ?_
            refine lx_cs F (zr_none2 (xl E) K (nI i) false (lm_none_n hi)) cs_X4_102 [] [0, 1, 2, 3, 4, 5, 6, 7, 8, 9, 10, 11, 12, 13, 14] [(y, .inr (4, [.int th, .ref acd, .ref akd, .ref act, .int (nI u), .ref ark, .ref arr, .int z, .int kk, .long kc, .ref ali, .int mn, .ref ala, .ref anc, .ref ank, .ref ant, .int nx, .ref aag, .ref abk, .ref atd, .ref ase])), (acd, aI K 120 cd), (akd, aI K 120 kd), (act, aJ K 120 ct), (ark, aI K 10 rk1), (arr, aJ K 10 rr1), (ali, aI K 120 fl), (ala, aI K 120 fla), (anc, aI K 120 nc), (ank, aI K 120 nk), (ant, aJ K 120 nt), (aag, aI K 120 fag), (abk, aI K 120 fbk), (atd, aI K 120 ftd), (ase, aZ K 120 fse)] rfl rfl (by decide) rfl (st := []) rfl (Nat.le_of_ble_eq_true rfl) (by decide) ⟨by decide, by decide⟩ dX4_append_15 (fun v9 w9 h9 => ?_)
            obtain ⟨rfl, rfl⟩ := h9
            refine lx_perm [0, 1, 2, 3, 4, 5, 6, 7, 8, 9, 10, 11, 12, 13, 14] [(y, .inr (4, [.int th, .ref acd, .ref akd, .ref act, .int (nI u), .ref ark, .ref arr, .int z, .int kk, .long kc, .ref ali, .int mn, .ref ala, .ref anc, .ref ank, .ref ant, .int nx, .ref aag, .ref abk, .ref atd, .ref ase])), (acd, aI K 120 cd), (akd, aI K 120 kd), (act, aJ K 120 ct), (ark, aI K 10 rk1), (arr, aJ K 10 rr1), (ali, aI K 120 fl), (ala, aI K 120 fla), (anc, aI K 120 nc), (ank, aI K 120 nk), (ant, aJ K 120 nt), (aag, aI K 120 fag), (abk, aI K 120 fbk), (atd, aI K 120 ftd), (ase, aZ K 120 fse)] (by decide) rfl ?_
            refine lx_st (a' := 0) (b' := 0) [.int (bI false)] rfl rfl rfl ?_
            refine lx_if_eq F 25 dX4_append_18 rfl (fun _ => ?_) (fun h => absurd (by decide) h)
            refine lx_iconst F dX4_append_25 kc_0 ?_
            refine lx_istore F [(0, .ref y), (1, .int (nI k)), (2, .int (nI j)), (3, .int (nI i)), (4, .int (nI 0))] [1, 2, 3, 4, 0] dX4_append_26 rfl (by decide) ?_
            refine lx_iload F dX4_append_28 4 rfl ?_
            refine lx_ifN_eq F 37 (by omega) dX4_append_30 rfl (fun _ => ?_) (fun h => absurd h (by omega))
            refine lx_aload_n F dX4_append_37 0 rfl ?_
            refine lx_aload_n F dX4_append_38 0 rfl ?_
            refine gf_X4_20 F 0 rfl rfl dX4_append_39 ?_
            refine lx_iload_n F dX4_append_42 2 rfl ?_
            refine lx_iald F 4 j dX4_append_43 rfl (by omega) (by decide) ?_
            rw [(hro j hj).1]
            refine lx_aload_n F dX4_append_44 0 rfl ?_
            refine gf_X4_23 F 0 rfl rfl dX4_append_45 ?_
            refine lx_iload_n F dX4_append_48 2 rfl ?_
            refine lx_lald F 5 j dX4_append_49 rfl (by omega) (by decide) ?_
            rw [(hro j hj).2]
            refine lx_cv F (zr_lengthOf (xl E) K y acd akd act ark arr ali ala anc ank ant aag abk atd ase th z kk kc mn nx cd kd ct c w u hw hh (rt j) (hr9 j hj)) cv_X4_132 0 rfl rfl [0, 1, 2, 3] [4, 5, 6, 7, 8, 9, 10, 11, 12, 13, 14] [(ark, aI K 10 rk1), (arr, aJ K 10 rr1), (ali, aI K 120 fl), (ala, aI K 120 fla), (anc, aI K 120 nc), (ank, aI K 120 nk), (ant, aJ K 120 nt), (aag, aI K 120 fag), (abk, aI K 120 fbk), (atd, aI K 120 ftd), (ase, aZ K 120 fse)] rfl rfl (by decide) rfl (st := []) rfl (Nat.le_of_ble_eq_true rfl) (by decide) ⟨by decide, by decide⟩ dX4_append_50 (fun v9 w9 h9 => ?_)
            obtain ⟨rfl, kk2, kc2, rfl⟩ := h9
            refine lx_perm [11, 12, 13, 14, 0, 1, 2, 3, 4, 5, 6, 7, 8, 9, 10] [(y, .inr (4, [.int th, .ref acd, .ref akd, .ref act, .int (nI u), .ref ark, .ref arr, .int z, .int kk2, .long kc2, .ref ali, .int mn, .ref ala, .ref anc, .ref ank, .ref ant, .int nx, .ref aag, .ref abk, .ref atd, .ref ase])), (acd, aI K 120 cd), (akd, aI K 120 kd), (act, aJ K 120 ct), (ark, aI K 10 rk1), (arr, aJ K 10 rr1), (ali, aI K 120 fl), (ala, aI K 120 fla), (anc, aI K 120 nc), (ank, aI K 120 nk), (ant, aJ K 120 nt), (aag, aI K 120 fag), (abk, aI K 120 fbk), (atd, aI K 120 ftd), (ase, aZ K 120 fse)] (by decide) rfl ?_
            refine lx_st (a' := 0) (b' := 0) [.int (Int32.ofInt (lm_len c w 121 0 (rt j)))] rfl rfl rfl ?_
            rw [show Int32.ofInt (lm_len c w 121 0 (rt j)) = nI n by rw [hlen]; rfl]
            refine lx_istore F [(0, .ref y), (1, .int (nI k)), (2, .int (nI j)), (3, .int (nI i)), (4, .int (nI 0)), (5, .int (nI n))] [1, 2, 3, 4, 5, 0] dX4_append_53 rfl (by decide) ?_
            refine lx_aload_n F dX4_append_55 0 rfl ?_
            refine lx_iload F dX4_append_56 4 rfl ?_
            refine lx_iload F dX4_append_58 5 rfl ?_
            refine lx_ifN_ge F 67 (by omega) dX4_append_60 rfl (fun _ => ?_) (fun h => absurd h (by omega))
            refine lx_iconst F dX4_append_67 kc_0 ?_
            refine lx_cv F (zr_refuse (xl E) K y acd akd act ark arr ali ala anc ank ant aag abk atd ase th z kk2 kc2 mn nx (nI u) false false) cv_X4_110 0 rfl rfl [0] [1, 2, 3, 4, 5, 6, 7, 8, 9, 10, 11, 12, 13, 14] [(acd, aI K 120 cd), (akd, aI K 120 kd), (act, aJ K 120 ct), (ark, aI K 10 rk1), (arr, aJ K 10 rr1), (ali, aI K 120 fl), (ala, aI K 120 fla), (anc, aI K 120 nc), (ank, aI K 120 nk), (ant, aJ K 120 nt), (aag, aI K 120 fag), (abk, aI K 120 fbk), (atd, aI K 120 ftd), (ase, aZ K 120 fse)] rfl rfl (by decide) rfl (st := []) rfl (Nat.le_of_ble_eq_true rfl) (by decide) ⟨by decide, by decide⟩ dX4_append_68 (fun v9 w9 h9 => ?_)
            obtain ⟨rfl, rfl⟩ := h9
            refine lx_perm [14, 0, 1, 2, 3, 4, 5, 6, 7, 8, 9, 10, 11, 12, 13] [(y, .inr (4, [.int (nI (lm_rf false false)), .ref acd, .ref akd, .ref act, .int (nI u), .ref ark, .ref arr, .int z, .int kk2, .long kc2, .ref ali, .int mn, .ref ala, .ref anc, .ref ank, .ref ant, .int nx, .ref aag, .ref abk, .ref atd, .ref ase])), (acd, aI K 120 cd), (akd, aI K 120 kd), (act, aJ K 120 ct), (ark, aI K 10 rk1), (arr, aJ K 10 rr1), (ali, aI K 120 fl), (ala, aI K 120 fla), (anc, aI K 120 nc), (ank, aI K 120 nk), (ant, aJ K 120 nt), (aag, aI K 120 fag), (abk, aI K 120 fbk), (atd, aI K 120 ftd), (ase, aZ K 120 fse)] (by decide) rfl ?_
            refine lx_st (a' := 0) (b' := 0) [.int (bI false)] rfl rfl rfl ?_
            refine lx_if_eq F 75 dX4_append_71 rfl (fun _ => ?_) (fun h => absurd (by decide) h)
            refine lx_iload F dX4_append_75 5 rfl ?_
            refine lx_ifN_ne F 98 (by omega) dX4_append_77 rfl (fun h => absurd h (by omega)) (fun _ => ?_)
            refine lx_aload_n F dX4_append_80 0 rfl ?_
            refine lx_iload_n F dX4_append_81 1 rfl ?_
            refine lx_aload_n F dX4_append_82 0 rfl ?_
            refine gf_X4_20 F 0 rfl rfl dX4_append_83 ?_
            refine lx_iload_n F dX4_append_86 3 rfl ?_
            refine lx_iald F 4 i dX4_append_87 rfl (by omega) (by decide) ?_
            rw [(hro i hi).1]
            refine lx_aload_n F dX4_append_88 0 rfl ?_
            refine gf_X4_23 F 0 rfl rfl dX4_append_89 ?_
            refine lx_iload_n F dX4_append_92 3 rfl ?_
            refine lx_lald F 5 i dX4_append_93 rfl (by omega) (by decide) ?_
            rw [(hro i hi).2]
            refine lx_cv F (zr_setRoot (xl E) K y acd akd act ark arr ali ala anc ank ant aag abk atd ase (nI (lm_rf false false)) z kk2 kc2 mn nx (nI u) rk1 rr1 k hk (nI (rt i).1) (jI (rt i).2)) cv_X4_114 0 rfl rfl [0, 4, 5] [1, 2, 3, 6, 7, 8, 9, 10, 11, 12, 13, 14] [(acd, aI K 120 cd), (akd, aI K 120 kd), (act, aJ K 120 ct), (ali, aI K 120 fl), (ala, aI K 120 fla), (anc, aI K 120 nc), (ank, aI K 120 nk), (ant, aJ K 120 nt), (aag, aI K 120 fag), (abk, aI K 120 fbk), (atd, aI K 120 ftd), (ase, aZ K 120 fse)] rfl rfl (by decide) rfl (st := []) rfl (Nat.le_of_ble_eq_true rfl) (by decide) ⟨by decide, by decide⟩ dX4_append_94 (fun v9 w9 h9 => ?_)
            obtain ⟨rfl, rfl⟩ := h9
            refine lx_perm [12, 0, 1, 2, 13, 14, 3, 4, 5, 6, 7, 8, 9, 10, 11] [(y, .inr (4, [.int (nI (lm_rf false false)), .ref acd, .ref akd, .ref act, .int (nI u), .ref ark, .ref arr, .int z, .int kk2, .long kc2, .ref ali, .int mn, .ref ala, .ref anc, .ref ank, .ref ant, .int nx, .ref aag, .ref abk, .ref atd, .ref ase])), (acd, aI K 120 cd), (akd, aI K 120 kd), (act, aJ K 120 ct), (ark, aI K 10 (lm_up rk1 k (nI (rt i).1))), (arr, aJ K 10 (lm_up rr1 k (jI (rt i).2))), (ali, aI K 120 fl), (ala, aI K 120 fla), (anc, aI K 120 nc), (ank, aI K 120 nk), (ant, aJ K 120 nt), (aag, aI K 120 fag), (abk, aI K 120 fbk), (atd, aI K 120 ftd), (ase, aZ K 120 fse)] (by decide) rfl ?_
            refine lx_st (a' := 0) (b' := 0) [] rfl rfl rfl ?_
            exact lx_vret F hR dX4_append_97 ⟨rfl, by rw [show lm_oAppend (nI k) (nI j) (nI i) (c, w, u, rt, z) = (0, lm_set (c, w, u, rt, z) k (rt i)) by unfold lm_oAppend; rw [lm_none_n hk, lm_none_n hj, lm_none_n hi, if_neg (by decide), lm_ix_n hj, if_neg hneg, if_pos (show lm_len c w 121 0 (rt j) = 0 by rw [hlen, hn0]; rfl), lm_ix_n hk, lm_ix_n hi]]; exact ⟨_, _, _, _, _, _, _, _, _, _, _, _, _, _, _, _, _, _, _, _, _, _, _, _, _, _, _, _, _, _, _, _, hh, (lm_ro_up (v := rt i) hro), rfl⟩⟩
          · skip
            obtain ⟨e0, he0⟩ : ∃ e0 : Nat, e0 = (if (rt i).1 = 0 then 0 else 1) := ⟨_, rfl⟩
            have han : lm_an n (rt i) = n + e0 := by rw [he0]; rfl
            have he1 : e0 ≤ 1 := by rw [he0]; split <;> omega
            have hlen0 : ¬ lm_len c w 121 0 (rt j) = 0 := by rw [hlen]; omega
            have hltn : (lm_len c w 121 0 (rt j)).toNat = n := by rw [hlen]; simp
            obtain ⟨c1, w1, u1, rt1, z1, hσ⟩ : ∃ c1 w1 u1 rt1 z1, lm_rm (n + e0) (c, w, u, rt, z) = (c1, w1, u1, rt1, z1) := ⟨_, _, _, _, _, rfl⟩
            have hst1 : lm_st c1 w1 u1 rt1 := by have h9 : lm_sx (lm_rm (n + e0) (c, w, u, rt, z)) := lm_sx_rm (n + e0) hst; rw [hσ] at h9; exact h9
            have hw1 := hst1.1
            have hu1 := hw1.1
            have tail : ∀ (kk2 : Int32) (kc2 : Int64), lx_W K 11 E 0 0 116 [(0, .ref y), (1, .int (nI k)), (2, .int (nI j)), (3, .int (nI i)), (5, .int (nI n))] [.int (nI (n + e0)), .ref y] [(y, .inr (4, [.int (nI (lm_rf false false)), .ref acd, .ref akd, .ref act, .int (nI u), .ref ark, .ref arr, .int z, .int kk2, .long kc2, .ref ali, .int mn, .ref ala, .ref anc, .ref ank, .ref ant, .int nx, .ref aag, .ref abk, .ref atd, .ref ase])), (acd, aI K 120 cd), (akd, aI K 120 kd), (act, aJ K 120 ct), (ark, aI K 10 rk1), (arr, aJ K 10 rr1), (ali, aI K 120 fl), (ala, aI K 120 fla), (anc, aI K 120 nc), (ank, aI K 120 nk), (ant, aJ K 120 nt), (aag, aI K 120 fag), (abk, aI K 120 fbk), (atd, aI K 120 ftd), (ase, aZ K 120 fse)] := by
              intro kk2 kc2
              by_cases hfit : u1 + (n + e0) ≤ 120
              · skip
                refine lx_cv F (zR_room (xl E) K y c w u rt z hst (nI (lm_rf false false)) _ ⟨_, _, _, _, _, _, _, _, _, _, _, _, _, _, _, _, _, _, _, _, _, _, _, _, _, _, _, _, _, _, _, _, hh, hro, rfl⟩ (n + e0) (by omega) (c1, w1, u1, rt1, z1) hσ true (decide_eq_true hfit)) cv_X4_117 0 rfl rfl [0, 1, 2, 3, 4, 5, 6, 7, 8, 9, 10, 11, 12, 13, 14] [] [] rfl rfl (by decide) rfl (st := []) rfl (Nat.le_of_ble_eq_true rfl) (by decide) ⟨by decide, by decide⟩ dX4_append_116 (fun v9 w9 h9 => ?_)
                obtain ⟨rfl, acd1, akd1, act1, ark1, arr1, ali1, ala1, anc1, ank1, ant1, aag1, abk1, atd1, ase1, kk1, kc1, mn1, nx1, cd1, kd1, ct1, rk11, rr11, fl1, fla1, nc1, nk1, nt1, fag1, fbk1, ftd1, fse1, hh1, hro1, rfl⟩ := h9
                refine lx_perm [0, 1, 2, 3, 4, 5, 6, 7, 8, 9, 10, 11, 12, 13, 14] [(y, .inr (4, [.int (nI (lm_rf false false)), .ref acd1, .ref akd1, .ref act1, .int (nI u1), .ref ark1, .ref arr1, .int z1, .int kk1, .long kc1, .ref ali1, .int mn1, .ref ala1, .ref anc1, .ref ank1, .ref ant1, .int nx1, .ref aag1, .ref abk1, .ref atd1, .ref ase1])), (acd1, aI K 120 cd1), (akd1, aI K 120 kd1), (act1, aJ K 120 ct1), (ark1, aI K 10 rk11), (arr1, aJ K 10 rr11), (ali1, aI K 120 fl1), (ala1, aI K 120 fla1), (anc1, aI K 120 nc1), (ank1, aI K 120 nk1), (ant1, aJ K 120 nt1), (aag1, aI K 120 fag1), (abk1, aI K 120 fbk1), (atd1, aI K 120 ftd1), (ase1, aZ K 120 fse1)] (by decide) rfl ?_
                refine lx_st (a' := 0) (b' := 0) [.int (bI true)] rfl rfl rfl ?_
                have hh1 : lm_mf cd1 kd1 ct1 c1 w1 u1 := hh1
                have hro1 : ∀ r, r < 10 → rk11 r = nI (rt1 r).1 ∧ rr11 r = jI (rt1 r).2 := hro1
                have hL1 := lm_isL_rm hst hσ hj hisL0
                refine lx_if_ne F 128 dX4_append_119 rfl (fun _ => ?_) (fun h => absurd h (by decide))
                refine lx_aload_n F dX4_append_128 0 rfl ?_
                refine gf_X4_73 F 0 rfl rfl dX4_append_129 ?_
                refine lx_istore F [(0, .ref y), (1, .int (nI k)), (2, .int (nI j)), (3, .int (nI i)), (5, .int (nI n)), (6, .int (nI u1))] [1, 2, 3, 4, 5, 0] dX4_append_132 rfl (by decide) ?_
                refine lx_aload_n F dX4_append_134 0 rfl ?_
                refine lx_aload_n F dX4_append_135 0 rfl ?_
                refine gf_X4_20 F 0 rfl rfl dX4_append_136 ?_
                refine lx_iload_n F dX4_append_139 2 rfl ?_
                refine lx_iald F 4 j dX4_append_140 rfl (by omega) (by decide) ?_
                rw [(hro1 j hj).1]
                refine lx_aload_n F dX4_append_141 0 rfl ?_
                refine gf_X4_23 F 0 rfl rfl dX4_append_142 ?_
                refine lx_iload_n F dX4_append_145 2 rfl ?_
                refine lx_lald F 5 j dX4_append_146 rfl (by omega) (by decide) ?_
                rw [(hro1 j hj).2]
                refine lx_cv F (zr_look (xl E) K y acd1 akd1 act1 ark1 arr1 ali1 ala1 anc1 ank1 ant1 aag1 abk1 atd1 ase1 (nI (lm_rf false false)) z1 kk1 kc1 mn1 nx1 (nI u1) (nI (rt1 j).1) (jI (rt1 j).2)) cv_X4_69 0 rfl rfl [0] [1, 2, 3, 4, 5, 6, 7, 8, 9, 10, 11, 12, 13, 14] [(acd1, aI K 120 cd1), (akd1, aI K 120 kd1), (act1, aJ K 120 ct1), (ark1, aI K 10 rk11), (arr1, aJ K 10 rr11), (ali1, aI K 120 fl1), (ala1, aI K 120 fla1), (anc1, aI K 120 nc1), (ank1, aI K 120 nk1), (ant1, aJ K 120 nt1), (aag1, aI K 120 fag1), (abk1, aI K 120 fbk1), (atd1, aI K 120 ftd1), (ase1, aZ K 120 fse1)] rfl rfl (by decide) rfl (st := []) rfl (Nat.le_of_ble_eq_true rfl) (by decide) ⟨by decide, by decide⟩ dX4_append_147 (fun v9 w9 h9 => ?_)
                obtain ⟨rfl, rfl⟩ := h9
                refine lx_perm [14, 0, 1, 2, 3, 4, 5, 6, 7, 8, 9, 10, 11, 12, 13] [(y, .inr (4, [.int (nI (lm_rf false false)), .ref acd1, .ref akd1, .ref act1, .int (nI u1), .ref ark1, .ref arr1, .int z1, .int (nI ((rt1 j).1)), .long (jI ((rt1 j).2)), .ref ali1, .int mn1, .ref ala1, .ref anc1, .ref ank1, .ref ant1, .int nx1, .ref aag1, .ref abk1, .ref atd1, .ref ase1])), (acd1, aI K 120 cd1), (akd1, aI K 120 kd1), (act1, aJ K 120 ct1), (ark1, aI K 10 rk11), (arr1, aJ K 10 rr11), (ali1, aI K 120 fl1), (ala1, aI K 120 fla1), (anc1, aI K 120 nc1), (ank1, aI K 120 nk1), (ant1, aJ K 120 nt1), (aag1, aI K 120 fag1), (abk1, aI K 120 fbk1), (atd1, aI K 120 ftd1), (ase1, aZ K 120 fse1)] (by decide) rfl ?_
                refine lx_st (a' := 0) (b' := 0) [] rfl rfl rfl ?_
                refine lx_iconst F dX4_append_150 kc_0 ?_
                refine lx_istore F [(0, .ref y), (1, .int (nI k)), (2, .int (nI j)), (3, .int (nI i)), (5, .int (nI n)), (6, .int (nI u1)), (7, .int (nI 0))] [1, 2, 3, 4, 5, 6, 0] dX4_append_151 rfl (by decide) ?_
                have loop : ∀ (n9 : Nat) (q : Nat) (v : lm_V) (Md : lm_O) (cd2 kd2 : Nat → Int32) (ct2 : Nat → Int64), q + n9 = n → lm_isL c1 w1 n9 v → lm_ok c1 u1 v → Md ++ lm_apK c1 w1 (decide ((rt1 i).1 = 0)) n9 v = lm_apK c1 w1 (decide ((rt1 i).1 = 0)) n (rt1 j) → Md.length = q → lm_mf cd2 kd2 ct2 (lm_ac c1 u1 Md) (lm_aw w1 u1 Md) (u1 + q) → lx_W K 11 E 0 0 153 [(0, .ref y), (1, .int (nI k)), (2, .int (nI j)), (3, .int (nI i)), (5, .int (nI n)), (6, .int (nI u1)), (7, .int (nI q))] [] [(y, .inr (4, [.int (nI (lm_rf false false)), .ref acd1, .ref akd1, .ref act1, .int (nI (u1 + q)), .ref ark1, .ref arr1, .int z1, .int (nI v.1), .long (jI v.2), .ref ali1, .int mn1, .ref ala1, .ref anc1, .ref ank1, .ref ant1, .int nx1, .ref aag1, .ref abk1, .ref atd1, .ref ase1])), (acd1, aI K 120 cd2), (akd1, aI K 120 kd2), (act1, aJ K 120 ct2), (ark1, aI K 10 rk11), (arr1, aJ K 10 rr11), (ali1, aI K 120 fl1), (ala1, aI K 120 fla1), (anc1, aI K 120 nc1), (ank1, aI K 120 nk1), (ant1, aJ K 120 nt1), (aag1, aI K 120 fag1), (abk1, aI K 120 fbk1), (atd1, aI K 120 ftd1), (ase1, aZ K 120 fse1)] := by
                  intro n9
                  induction n9 with
                  | zero =>
                    intro q v Md cd2 kd2 ct2 hq hisL hv hM hMi hmf
                    have hM0 : lm_apK c1 w1 (decide ((rt1 i).1 = 0)) n (rt1 j) = Md := by rw [← hM]; simp [lm_apK]
                    obtain ⟨n8, hn1⟩ : ∃ n8, n = n8 + 1 := ⟨n - 1, by omega⟩
                    have hzi := lm_ok_kind (hst1.2 i hi)
                    refine lx_iload F dX4_append_153 6 rfl ?_
                    refine lx_iload F dX4_append_155 4 rfl ?_
                    refine lx_icmpN_ge F 241 (by omega) (by omega) dX4_append_157 rfl (fun _ => ?_) (fun h => absurd h (by omega))
                    refine lx_aload_n F dX4_append_241 0 rfl ?_
                    refine gf_X4_20 F 0 rfl rfl dX4_append_242 ?_
                    refine lx_iload_n F dX4_append_245 3 rfl ?_
                    refine lx_iald F 4 i dX4_append_246 rfl (by omega) (by decide) ?_
                    rw [(hro1 i hi).1]
                    refine lx_ifN_eq F 269 (by omega) dX4_append_247 rfl (fun hz => ?_) (fun hz => ?_)
                    · skip
                      have hfin : lm_apM c1 w1 n (rt1 j) (rt1 i) = Md := by rw [hn1, lm_apK_M, ← hn1, hM0, if_pos hz, List.append_nil]
                      refine lx_aload_n F dX4_append_269 0 rfl ?_
                      refine lx_iload_n F dX4_append_270 1 rfl ?_
                      refine lx_iconst F dX4_append_271 kc_2 ?_
                      refine lx_iload F dX4_append_272 5 rfl ?_
                      refine lx_i2l F dX4_append_274 (jI_i2l (by omega)) ?_
                      refine lx_cv F (zr_setRoot (xl E) K y acd1 akd1 act1 ark1 arr1 ali1 ala1 anc1 ank1 ant1 aag1 abk1 atd1 ase1 (nI (lm_rf false false)) z1 (nI v.1) (jI v.2) mn1 nx1 (nI (u1 + q)) rk11 rr11 k hk (nI 2) (jI ((u1 : Nat) : Int))) cv_X4_114 0 rfl rfl [0, 4, 5] [1, 2, 3, 6, 7, 8, 9, 10, 11, 12, 13, 14] [(acd1, aI K 120 cd2), (akd1, aI K 120 kd2), (act1, aJ K 120 ct2), (ali1, aI K 120 fl1), (ala1, aI K 120 fla1), (anc1, aI K 120 nc1), (ank1, aI K 120 nk1), (ant1, aJ K 120 nt1), (aag1, aI K 120 fag1), (abk1, aI K 120 fbk1), (atd1, aI K 120 ftd1), (ase1, aZ K 120 fse1)] rfl rfl (by decide) rfl (st := []) rfl (Nat.le_of_ble_eq_true rfl) (by decide) ⟨by decide, by decide⟩ dX4_append_275 (fun v9 w9 h9 => ?_)
                      obtain ⟨rfl, rfl⟩ := h9
                      refine lx_perm [12, 0, 1, 2, 13, 14, 3, 4, 5, 6, 7, 8, 9, 10, 11] [(y, .inr (4, [.int (nI (lm_rf false false)), .ref acd1, .ref akd1, .ref act1, .int (nI (u1 + q)), .ref ark1, .ref arr1, .int z1, .int (nI v.1), .long (jI v.2), .ref ali1, .int mn1, .ref ala1, .ref anc1, .ref ank1, .ref ant1, .int nx1, .ref aag1, .ref abk1, .ref atd1, .ref ase1])), (acd1, aI K 120 cd2), (akd1, aI K 120 kd2), (act1, aJ K 120 ct2), (ark1, aI K 10 (lm_up rk11 k (nI 2))), (arr1, aJ K 10 (lm_up rr11 k (jI ((u1 : Nat) : Int)))), (ali1, aI K 120 fl1), (ala1, aI K 120 fla1), (anc1, aI K 120 nc1), (ank1, aI K 120 nk1), (ant1, aJ K 120 nt1), (aag1, aI K 120 fag1), (abk1, aI K 120 fbk1), (atd1, aI K 120 ftd1), (ase1, aZ K 120 fse1)] (by decide) rfl ?_
                      refine lx_st (a' := 0) (b' := 0) [] rfl rfl rfl ?_
                      rw [← hMi]
                      exact lx_vret F hR dX4_append_278 ⟨rfl, by rw [show lm_oAppend (nI k) (nI j) (nI i) (c, w, u, rt, z) = (0, lm_set (lm_ap (c1, w1, u1, rt1, z1) Md) k (2, ((u1 : Nat) : Int))) by unfold lm_oAppend; rw [lm_none_n hk, lm_none_n hj, lm_none_n hi, if_neg (by decide), lm_ix_n hj, lm_ix_n hi, lm_ix_n hk, if_neg hneg, if_neg hlen0, hltn, han, hσ, if_pos hfit, hfin]]; exact ⟨_, _, _, _, _, _, _, _, _, _, _, _, _, _, _, _, _, _, _, _, _, _, _, _, _, _, _, _, _, _, _, _, (by show lm_mf _ _ _ (lm_ac c1 u1 Md) (lm_aw w1 u1 Md) (u1 + Md.length); rw [hMi]; exact hmf), (lm_ro_up (v := (2, ((u1 : Nat) : Int))) hro1), rfl⟩⟩
                    · skip
                      have hfin : lm_apM c1 w1 n (rt1 j) (rt1 i) = Md ++ [(3, rt1 i)] := by rw [hn1, lm_apK_M, ← hn1, hM0, if_neg hz]
                      have hmf3 := lm_mf_app (k := 3) (x := rt1 i) hmf hMi
                      have he2 : e0 = 1 := by rw [he0, if_neg (by rw [← lm_rm_k2 (k := i) hσ]; exact hz)]
                      refine lx_aload_n F dX4_append_250 0 rfl ?_
                      refine lx_iconst F dX4_append_251 kc_3 ?_
                      refine lx_aload_n F dX4_append_252 0 rfl ?_
                      refine gf_X4_20 F 0 rfl rfl dX4_append_253 ?_
                      refine lx_iload_n F dX4_append_256 3 rfl ?_
                      refine lx_iald F 4 i dX4_append_257 rfl (by omega) (by decide) ?_
                      rw [(hro1 i hi).1]
                      refine lx_aload_n F dX4_append_258 0 rfl ?_
                      refine gf_X4_23 F 0 rfl rfl dX4_append_259 ?_
                      refine lx_iload_n F dX4_append_262 3 rfl ?_
                      refine lx_lald F 5 i dX4_append_263 rfl (by omega) (by decide) ?_
                      rw [(hro1 i hi).2]
                      refine lx_cv F (zr_put (xl E) K y acd1 akd1 act1 ark1 arr1 ali1 ala1 anc1 ank1 ant1 aag1 abk1 atd1 ase1 (nI (lm_rf false false)) z1 (nI v.1) (jI v.2) mn1 nx1 cd2 kd2 ct2 (u1 + q) (by omega) (nI 3) (nI (rt1 i).1) (jI (rt1 i).2)) cv_X4_120 0 rfl rfl [0, 1, 2, 3] [4, 5, 6, 7, 8, 9, 10, 11, 12, 13, 14] [(ark1, aI K 10 rk11), (arr1, aJ K 10 rr11), (ali1, aI K 120 fl1), (ala1, aI K 120 fla1), (anc1, aI K 120 nc1), (ank1, aI K 120 nk1), (ant1, aJ K 120 nt1), (aag1, aI K 120 fag1), (abk1, aI K 120 fbk1), (atd1, aI K 120 ftd1), (ase1, aZ K 120 fse1)] rfl rfl (by decide) rfl (st := []) rfl (Nat.le_of_ble_eq_true rfl) (by decide) ⟨by decide, by decide⟩ dX4_append_264 (fun v9 w9 h9 => ?_)
                      obtain ⟨rfl, rfl⟩ := h9
                      refine lx_perm [11, 12, 13, 14, 0, 1, 2, 3, 4, 5, 6, 7, 8, 9, 10] [(y, .inr (4, [.int (nI (lm_rf false false)), .ref acd1, .ref akd1, .ref act1, .int (nI (u1 + q + 1)), .ref ark1, .ref arr1, .int z1, .int (nI v.1), .long (jI v.2), .ref ali1, .int mn1, .ref ala1, .ref anc1, .ref ank1, .ref ant1, .int nx1, .ref aag1, .ref abk1, .ref atd1, .ref ase1])), (acd1, aI K 120 (lm_up cd2 (u1 + q) (nI 3))), (akd1, aI K 120 (lm_up kd2 (u1 + q) (nI (rt1 i).1))), (act1, aJ K 120 (lm_up ct2 (u1 + q) (jI (rt1 i).2))), (ark1, aI K 10 rk11), (arr1, aJ K 10 rr11), (ali1, aI K 120 fl1), (ala1, aI K 120 fla1), (anc1, aI K 120 nc1), (ank1, aI K 120 nk1), (ant1, aJ K 120 nt1), (aag1, aI K 120 fag1), (abk1, aI K 120 fbk1), (atd1, aI K 120 ftd1), (ase1, aZ K 120 fse1)] (by decide) rfl ?_
                      refine lx_st (a' := 0) (b' := 0) [.int (nI (u1 + q))] rfl rfl rfl ?_
                      refine lx_istore F [(0, .ref y), (1, .int (nI k)), (2, .int (nI j)), (3, .int (nI i)), (5, .int (nI n)), (6, .int (nI u1)), (7, .int (nI (u1 + q)))] [1, 2, 3, 4, 5, 6, 0] dX4_append_267 rfl (by decide) ?_
                      refine lx_aload_n F dX4_append_269 0 rfl ?_
                      refine lx_iload_n F dX4_append_270 1 rfl ?_
                      refine lx_iconst F dX4_append_271 kc_2 ?_
                      refine lx_iload F dX4_append_272 5 rfl ?_
                      refine lx_i2l F dX4_append_274 (jI_i2l (by omega)) ?_
                      refine lx_cv F (zr_setRoot (xl E) K y acd1 akd1 act1 ark1 arr1 ali1 ala1 anc1 ank1 ant1 aag1 abk1 atd1 ase1 (nI (lm_rf false false)) z1 (nI v.1) (jI v.2) mn1 nx1 (nI (u1 + q + 1)) rk11 rr11 k hk (nI 2) (jI ((u1 : Nat) : Int))) cv_X4_114 0 rfl rfl [0, 4, 5] [1, 2, 3, 6, 7, 8, 9, 10, 11, 12, 13, 14] [(acd1, aI K 120 (lm_up cd2 (u1 + q) (nI 3))), (akd1, aI K 120 (lm_up kd2 (u1 + q) (nI (rt1 i).1))), (act1, aJ K 120 (lm_up ct2 (u1 + q) (jI (rt1 i).2))), (ali1, aI K 120 fl1), (ala1, aI K 120 fla1), (anc1, aI K 120 nc1), (ank1, aI K 120 nk1), (ant1, aJ K 120 nt1), (aag1, aI K 120 fag1), (abk1, aI K 120 fbk1), (atd1, aI K 120 ftd1), (ase1, aZ K 120 fse1)] rfl rfl (by decide) rfl (st := []) rfl (Nat.le_of_ble_eq_true rfl) (by decide) ⟨by decide, by decide⟩ dX4_append_275 (fun v9 w9 h9 => ?_)
                      obtain ⟨rfl, rfl⟩ := h9
                      refine lx_perm [12, 0, 1, 2, 13, 14, 3, 4, 5, 6, 7, 8, 9, 10, 11] [(y, .inr (4, [.int (nI (lm_rf false false)), .ref acd1, .ref akd1, .ref act1, .int (nI (u1 + q + 1)), .ref ark1, .ref arr1, .int z1, .int (nI v.1), .long (jI v.2), .ref ali1, .int mn1, .ref ala1, .ref anc1, .ref ank1, .ref ant1, .int nx1, .ref aag1, .ref abk1, .ref atd1, .ref ase1])), (acd1, aI K 120 (lm_up cd2 (u1 + q) (nI 3))), (akd1, aI K 120 (lm_up kd2 (u1 + q) (nI (rt1 i).1))), (act1, aJ K 120 (lm_up ct2 (u1 + q) (jI (rt1 i).2))), (ark1, aI K 10 (lm_up rk11 k (nI 2))), (arr1, aJ K 10 (lm_up rr11 k (jI ((u1 : Nat) : Int)))), (ali1, aI K 120 fl1), (ala1, aI K 120 fla1), (anc1, aI K 120 nc1), (ank1, aI K 120 nk1), (ant1, aJ K 120 nt1), (aag1, aI K 120 fag1), (abk1, aI K 120 fbk1), (atd1, aI K 120 ftd1), (ase1, aZ K 120 fse1)] (by decide) rfl ?_
                      refine lx_st (a' := 0) (b' := 0) [] rfl rfl rfl ?_
                      rw [← hMi, Nat.add_assoc u1 Md.length 1, lm_ln1 Md (3, rt1 i)]
                      exact lx_vret F hR dX4_append_278 ⟨rfl, by rw [show lm_oAppend (nI k) (nI j) (nI i) (c, w, u, rt, z) = (0, lm_set (lm_ap (c1, w1, u1, rt1, z1) (Md ++ [(3, rt1 i)])) k (2, ((u1 : Nat) : Int))) by unfold lm_oAppend; rw [lm_none_n hk, lm_none_n hj, lm_none_n hi, if_neg (by decide), lm_ix_n hj, lm_ix_n hi, lm_ix_n hk, if_neg hneg, if_neg hlen0, hltn, han, hσ, if_pos hfit, hfin]]; exact ⟨_, _, _, _, _, _, _, _, _, _, _, _, _, _, _, _, _, _, _, _, _, _, _, _, _, _, _, _, _, _, _, _, (by show lm_mf _ _ _ (lm_ac c1 u1 (Md ++ [(3, rt1 i)])) (lm_aw w1 u1 (Md ++ [(3, rt1 i)])) (u1 + (Md ++ [(3, rt1 i)]).length); rw [← lm_ln1, hMi, ← Nat.add_assoc]; exact hmf3), (lm_ro_up (v := (2, ((u1 : Nat) : Int))) hro1), rfl⟩⟩
                  | succ n9 ih =>
                    intro q v Md cd2 kd2 ct2 hq hisL hv hM hMi hmf
                    have h2e := hisL.1
                    obtain ⟨qa, ea, la, na⟩ := lm_ok_p hv h2e
                    have ta : lm_to w1 v = lm_cell w1 qa := lm_to_q ea
                    have hcv : lm_cl c1 w1 u1 (lm_cell w1 qa) := lm_cell_cl hw1 la na
                    have hp2 := hcv.1
                    have hzi := lm_ok_kind (hst1.2 i hi)
                    refine lx_iload F dX4_append_153 6 rfl ?_
                    refine lx_iload F dX4_append_155 4 rfl ?_
                    refine lx_icmpN_ge F 241 (by omega) (by omega) dX4_append_157 rfl (fun h => absurd h (by omega)) (fun _ => ?_)
                    refine lx_aload_n F dX4_append_160 0 rfl ?_
                    refine lx_aload_n F dX4_append_161 0 rfl ?_
                    refine gf_X4_61 F 0 rfl rfl dX4_append_162 ?_
                    refine lx_st (a' := 0) (b' := 0) [.long (jI ((qa : Nat) : Int)), .ref y] rfl rfl (by rw [ea]) ?_
                    refine lx_cv F (zr_cell2 (xl E) K y acd1 akd1 act1 ark1 arr1 ali1 ala1 anc1 ank1 ant1 aag1 abk1 atd1 ase1 (nI (lm_rf false false)) z1 (nI v.1) (jI v.2) mn1 nx1 (nI (u1 + q)) cd2 kd2 ct2 c1 w1 u1 hw1 (lm_mf_le hmf (by omega)) qa la na) cv_X4_65 0 rfl rfl [0, 2, 3] [1, 4, 5, 6, 7, 8, 9, 10, 11, 12, 13, 14] [(acd1, aI K 120 cd2), (ark1, aI K 10 rk11), (arr1, aJ K 10 rr11), (ali1, aI K 120 fl1), (ala1, aI K 120 fla1), (anc1, aI K 120 nc1), (ank1, aI K 120 nk1), (ant1, aJ K 120 nt1), (aag1, aI K 120 fag1), (abk1, aI K 120 fbk1), (atd1, aI K 120 ftd1), (ase1, aZ K 120 fse1)] rfl rfl (by decide) rfl (st := []) rfl (Nat.le_of_ble_eq_true rfl) (by decide) ⟨by decide, by decide⟩ dX4_append_165 (fun v9 w9 h9 => ?_)
                    obtain ⟨rfl, rfl⟩ := h9
                    refine lx_perm [12, 0, 13, 14, 1, 2, 3, 4, 5, 6, 7, 8, 9, 10, 11] [(y, .inr (4, [.int (nI (lm_rf false false)), .ref acd1, .ref akd1, .ref act1, .int (nI (u1 + q)), .ref ark1, .ref arr1, .int z1, .int (nI v.1), .long (jI v.2), .ref ali1, .int mn1, .ref ala1, .ref anc1, .ref ank1, .ref ant1, .int nx1, .ref aag1, .ref abk1, .ref atd1, .ref ase1])), (acd1, aI K 120 cd2), (akd1, aI K 120 kd2), (act1, aJ K 120 ct2), (ark1, aI K 10 rk11), (arr1, aJ K 10 rr11), (ali1, aI K 120 fl1), (ala1, aI K 120 fla1), (anc1, aI K 120 nc1), (ank1, aI K 120 nk1), (ant1, aJ K 120 nt1), (aag1, aI K 120 fag1), (abk1, aI K 120 fbk1), (atd1, aI K 120 ftd1), (ase1, aZ K 120 fse1)] (by decide) rfl ?_
                    refine lx_st (a' := 0) (b' := 0) [.int (nI (lm_cell w1 qa))] rfl rfl rfl ?_
                    refine lx_istore F [(0, .ref y), (1, .int (nI k)), (2, .int (nI j)), (3, .int (nI i)), (5, .int (nI n)), (6, .int (nI u1)), (7, .int (nI q)), (8, .int (nI (lm_cell w1 qa)))] [1, 2, 3, 4, 5, 6, 7, 0] dX4_append_168 rfl (by decide) ?_
                    by_cases hlast : n9 = 0
                    · skip
                      subst hlast
                      refine lx_iload F dX4_append_170 6 rfl ?_
                      refine lx_iload F dX4_append_172 4 rfl ?_
                      refine lx_iconst F dX4_append_174 kc_1 ?_
                      refine lx_isub F dX4_append_175 (pk_sub (by omega)) ?_
                      refine lx_icmpN_ne F 183 (by omega) (by omega) dX4_append_176 rfl (fun h => absurd h (by omega)) (fun _ => ?_)
                      refine lx_iconst F dX4_append_179 kc_1 ?_
                      refine lx_goto F 184 dX4_append_180 rfl ?_
                      refine lx_istore F [(0, .ref y), (1, .int (nI k)), (2, .int (nI j)), (3, .int (nI i)), (5, .int (nI n)), (6, .int (nI u1)), (7, .int (nI q)), (8, .int (nI (lm_cell w1 qa))), (9, .int (nI 1))] [1, 2, 3, 4, 5, 6, 7, 8, 0] dX4_append_184 rfl (by decide) ?_
                      refine lx_aload_n F dX4_append_186 0 rfl ?_
                      refine lx_iload F dX4_append_187 8 rfl ?_
                      refine lx_ifN_ne F 196 (by omega) dX4_append_189 rfl (fun _ => ?_) (fun h => absurd h (by omega))
                      refine lx_aload_n F dX4_append_196 0 rfl ?_
                      refine gf_X4_20 F 0 rfl rfl dX4_append_197 ?_
                      refine lx_iload_n F dX4_append_200 3 rfl ?_
                      refine lx_iald F 4 i dX4_append_201 rfl (by omega) (by decide) ?_
                      rw [(hro1 i hi).1]
                      refine lx_ifN_ne F 209 (by omega) dX4_append_202 rfl (fun hz => ?_) (fun hz => ?_)
                      · skip
                        have hA : lm_apK c1 w1 (decide ((rt1 i).1 = 0)) (0 + 1) v = [(2, w1 (lm_cell w1 qa))] := by rw [← ta]; simp [lm_apK, hz]
                        have hmf2 := lm_mf_app (k := 2) (x := w1 (lm_cell w1 qa)) hmf hMi
                        refine lx_iconst F dX4_append_209 kc_2 ?_
                        refine lx_aload_n F dX4_append_210 0 rfl ?_
                        refine gf_X4_13 F 0 rfl rfl dX4_append_211 ?_
                        refine lx_iload F dX4_append_214 7 rfl ?_
                        refine lx_iald F 2 (lm_cell w1 qa) dX4_append_216 rfl (by omega) (by decide) ?_
                        rw [((lm_mf_le hmf (by omega)) _ hp2).2.1]
                        refine lx_aload_n F dX4_append_217 0 rfl ?_
                        refine gf_X4_16 F 0 rfl rfl dX4_append_218 ?_
                        refine lx_iload F dX4_append_221 7 rfl ?_
                        refine lx_lald F 3 (lm_cell w1 qa) dX4_append_223 rfl (by omega) (by decide) ?_
                        rw [((lm_mf_le hmf (by omega)) _ hp2).2.2]
                        refine lx_cv F (zr_put (xl E) K y acd1 akd1 act1 ark1 arr1 ali1 ala1 anc1 ank1 ant1 aag1 abk1 atd1 ase1 (nI (lm_rf false false)) z1 (nI v.1) (jI v.2) mn1 nx1 cd2 kd2 ct2 (u1 + q) (by omega) (nI 2) (nI (w1 (lm_cell w1 qa)).1) (jI (w1 (lm_cell w1 qa)).2)) cv_X4_120 0 rfl rfl [0, 1, 2, 3] [4, 5, 6, 7, 8, 9, 10, 11, 12, 13, 14] [(ark1, aI K 10 rk11), (arr1, aJ K 10 rr11), (ali1, aI K 120 fl1), (ala1, aI K 120 fla1), (anc1, aI K 120 nc1), (ank1, aI K 120 nk1), (ant1, aJ K 120 nt1), (aag1, aI K 120 fag1), (abk1, aI K 120 fbk1), (atd1, aI K 120 ftd1), (ase1, aZ K 120 fse1)] rfl rfl (by decide) rfl (st := []) rfl (Nat.le_of_ble_eq_true rfl) (by decide) ⟨by decide, by decide⟩ dX4_append_224 (fun v9 w9 h9 => ?_)
                        obtain ⟨rfl, rfl⟩ := h9
                        refine lx_perm [11, 12, 13, 14, 0, 1, 2, 3, 4, 5, 6, 7, 8, 9, 10] [(y, .inr (4, [.int (nI (lm_rf false false)), .ref acd1, .ref akd1, .ref act1, .int (nI (u1 + q + 1)), .ref ark1, .ref arr1, .int z1, .int (nI v.1), .long (jI v.2), .ref ali1, .int mn1, .ref ala1, .ref anc1, .ref ank1, .ref ant1, .int nx1, .ref aag1, .ref abk1, .ref atd1, .ref ase1])), (acd1, aI K 120 (lm_up cd2 (u1 + q) (nI 2))), (akd1, aI K 120 (lm_up kd2 (u1 + q) (nI (w1 (lm_cell w1 qa)).1))), (act1, aJ K 120 (lm_up ct2 (u1 + q) (jI (w1 (lm_cell w1 qa)).2))), (ark1, aI K 10 rk11), (arr1, aJ K 10 rr11), (ali1, aI K 120 fl1), (ala1, aI K 120 fla1), (anc1, aI K 120 nc1), (ank1, aI K 120 nk1), (ant1, aJ K 120 nt1), (aag1, aI K 120 fag1), (abk1, aI K 120 fbk1), (atd1, aI K 120 ftd1), (ase1, aZ K 120 fse1)] (by decide) rfl ?_
                        refine lx_st (a' := 0) (b' := 0) [.int (nI (u1 + q))] rfl rfl rfl ?_
                        refine lx_istore F [(0, .ref y), (1, .int (nI k)), (2, .int (nI j)), (3, .int (nI i)), (5, .int (nI n)), (6, .int (nI u1)), (7, .int (nI q)), (8, .int (nI (lm_cell w1 qa))), (9, .int (nI 1)), (10, .int (nI (u1 + q)))] [1, 2, 3, 4, 5, 6, 7, 8, 9, 0] dX4_append_227 rfl (by decide) ?_
                        refine lx_aload_n F dX4_append_229 0 rfl ?_
                        refine lx_iload F dX4_append_230 7 rfl ?_
                        refine lx_cv F (zr_lookRest2 (xl E) K y acd1 akd1 act1 ark1 arr1 ali1 ala1 anc1 ank1 ant1 aag1 abk1 atd1 ase1 (nI (lm_rf false false)) z1 (nI v.1) (jI v.2) mn1 nx1 (nI (u1 + q + 1)) (lm_up cd2 (u1 + q) (nI 2)) (lm_up kd2 (u1 + q) (nI (w1 (lm_cell w1 qa)).1)) (lm_up ct2 (u1 + q) (jI (w1 (lm_cell w1 qa)).2)) c1 w1 u1 hw1 (lm_mf_le hmf2 (by omega)) (lm_cell w1 qa) hcv) cv_X4_85 0 rfl rfl [0, 1, 2, 3] [4, 5, 6, 7, 8, 9, 10, 11, 12, 13, 14] [(ark1, aI K 10 rk11), (arr1, aJ K 10 rr11), (ali1, aI K 120 fl1), (ala1, aI K 120 fla1), (anc1, aI K 120 nc1), (ank1, aI K 120 nk1), (ant1, aJ K 120 nt1), (aag1, aI K 120 fag1), (abk1, aI K 120 fbk1), (atd1, aI K 120 ftd1), (ase1, aZ K 120 fse1)] rfl rfl (by decide) rfl (st := []) rfl (Nat.le_of_ble_eq_true rfl) (by decide) ⟨by decide, by decide⟩ dX4_append_232 (fun v9 w9 h9 => ?_)
                        obtain ⟨rfl, rfl⟩ := h9
                        refine lx_perm [11, 12, 13, 14, 0, 1, 2, 3, 4, 5, 6, 7, 8, 9, 10] [(y, .inr (4, [.int (nI (lm_rf false false)), .ref acd1, .ref akd1, .ref act1, .int (nI (u1 + q + 1)), .ref ark1, .ref arr1, .int z1, .int (nI ((lm_rest c1 w1 (lm_cell w1 qa)).1)), .long (jI ((lm_rest c1 w1 (lm_cell w1 qa)).2)), .ref ali1, .int mn1, .ref ala1, .ref anc1, .ref ank1, .ref ant1, .int nx1, .ref aag1, .ref abk1, .ref atd1, .ref ase1])), (acd1, aI K 120 (lm_up cd2 (u1 + q) (nI 2))), (akd1, aI K 120 (lm_up kd2 (u1 + q) (nI (w1 (lm_cell w1 qa)).1))), (act1, aJ K 120 (lm_up ct2 (u1 + q) (jI (w1 (lm_cell w1 qa)).2))), (ark1, aI K 10 rk11), (arr1, aJ K 10 rr11), (ali1, aI K 120 fl1), (ala1, aI K 120 fla1), (anc1, aI K 120 nc1), (ank1, aI K 120 nk1), (ant1, aJ K 120 nt1), (aag1, aI K 120 fag1), (abk1, aI K 120 fbk1), (atd1, aI K 120 ftd1), (ase1, aZ K 120 fse1)] (by decide) rfl ?_
                        refine lx_st (a' := 0) (b' := 0) [] rfl rfl rfl ?_
                        refine lx_iinc F [(0, .ref y), (1, .int (nI k)), (2, .int (nI j)), (3, .int (nI i)), (5, .int (nI n)), (6, .int (nI u1)), (7, .int (nI (q + 1))), (8, .int (nI (lm_cell w1 qa))), (9, .int (nI 1)), (10, .int (nI (u1 + q)))] 6 [1, 2, 3, 4, 5, 6, 0, 7, 8, 9] dX4_append_235 rfl (k_inc _) rfl (by decide) ?_
                        refine lx_goto F 153 dX4_append_238 rfl ?_
                        refine lx_lv [0, 1, 2, 3, 4, 5, 6] [(0, .ref y), (1, .int (nI k)), (2, .int (nI j)), (3, .int (nI i)), (5, .int (nI n)), (6, .int (nI u1)), (7, .int (nI (q + 1)))] rfl ?_
                        exact ih (q + 1) _ (Md ++ [(2, w1 (lm_cell w1 qa))]) _ _ _ (by omega) (by rw [← ta]; exact hisL.2) (lm_rest_ok hw1 hcv) (by rw [← hM, hA]; simp [lm_apK]) (by simp [hMi]) hmf2
                      · skip
                        have hA : lm_apK c1 w1 (decide ((rt1 i).1 = 0)) (0 + 1) v = [(1, w1 (lm_cell w1 qa))] := by rw [← ta]; simp [lm_apK, hz]
                        have hmf2 := lm_mf_app (k := 1) (x := w1 (lm_cell w1 qa)) hmf hMi
                        refine lx_iconst F dX4_append_205 kc_1 ?_
                        refine lx_goto F 210 dX4_append_206 rfl ?_
                        refine lx_aload_n F dX4_append_210 0 rfl ?_
                        refine gf_X4_13 F 0 rfl rfl dX4_append_211 ?_
                        refine lx_iload F dX4_append_214 7 rfl ?_
                        refine lx_iald F 2 (lm_cell w1 qa) dX4_append_216 rfl (by omega) (by decide) ?_
                        rw [((lm_mf_le hmf (by omega)) _ hp2).2.1]
                        refine lx_aload_n F dX4_append_217 0 rfl ?_
                        refine gf_X4_16 F 0 rfl rfl dX4_append_218 ?_
                        refine lx_iload F dX4_append_221 7 rfl ?_
                        refine lx_lald F 3 (lm_cell w1 qa) dX4_append_223 rfl (by omega) (by decide) ?_
                        rw [((lm_mf_le hmf (by omega)) _ hp2).2.2]
                        refine lx_cv F (zr_put (xl E) K y acd1 akd1 act1 ark1 arr1 ali1 ala1 anc1 ank1 ant1 aag1 abk1 atd1 ase1 (nI (lm_rf false false)) z1 (nI v.1) (jI v.2) mn1 nx1 cd2 kd2 ct2 (u1 + q) (by omega) (nI 1) (nI (w1 (lm_cell w1 qa)).1) (jI (w1 (lm_cell w1 qa)).2)) cv_X4_120 0 rfl rfl [0, 1, 2, 3] [4, 5, 6, 7, 8, 9, 10, 11, 12, 13, 14] [(ark1, aI K 10 rk11), (arr1, aJ K 10 rr11), (ali1, aI K 120 fl1), (ala1, aI K 120 fla1), (anc1, aI K 120 nc1), (ank1, aI K 120 nk1), (ant1, aJ K 120 nt1), (aag1, aI K 120 fag1), (abk1, aI K 120 fbk1), (atd1, aI K 120 ftd1), (ase1, aZ K 120 fse1)] rfl rfl (by decide) rfl (st := []) rfl (Nat.le_of_ble_eq_true rfl) (by decide) ⟨by decide, by decide⟩ dX4_append_224 (fun v9 w9 h9 => ?_)
                        obtain ⟨rfl, rfl⟩ := h9
                        refine lx_perm [11, 12, 13, 14, 0, 1, 2, 3, 4, 5, 6, 7, 8, 9, 10] [(y, .inr (4, [.int (nI (lm_rf false false)), .ref acd1, .ref akd1, .ref act1, .int (nI (u1 + q + 1)), .ref ark1, .ref arr1, .int z1, .int (nI v.1), .long (jI v.2), .ref ali1, .int mn1, .ref ala1, .ref anc1, .ref ank1, .ref ant1, .int nx1, .ref aag1, .ref abk1, .ref atd1, .ref ase1])), (acd1, aI K 120 (lm_up cd2 (u1 + q) (nI 1))), (akd1, aI K 120 (lm_up kd2 (u1 + q) (nI (w1 (lm_cell w1 qa)).1))), (act1, aJ K 120 (lm_up ct2 (u1 + q) (jI (w1 (lm_cell w1 qa)).2))), (ark1, aI K 10 rk11), (arr1, aJ K 10 rr11), (ali1, aI K 120 fl1), (ala1, aI K 120 fla1), (anc1, aI K 120 nc1), (ank1, aI K 120 nk1), (ant1, aJ K 120 nt1), (aag1, aI K 120 fag1), (abk1, aI K 120 fbk1), (atd1, aI K 120 ftd1), (ase1, aZ K 120 fse1)] (by decide) rfl ?_
                        refine lx_st (a' := 0) (b' := 0) [.int (nI (u1 + q))] rfl rfl rfl ?_
                        refine lx_istore F [(0, .ref y), (1, .int (nI k)), (2, .int (nI j)), (3, .int (nI i)), (5, .int (nI n)), (6, .int (nI u1)), (7, .int (nI q)), (8, .int (nI (lm_cell w1 qa))), (9, .int (nI 1)), (10, .int (nI (u1 + q)))] [1, 2, 3, 4, 5, 6, 7, 8, 9, 0] dX4_append_227 rfl (by decide) ?_
                        refine lx_aload_n F dX4_append_229 0 rfl ?_
                        refine lx_iload F dX4_append_230 7 rfl ?_
                        refine lx_cv F (zr_lookRest2 (xl E) K y acd1 akd1 act1 ark1 arr1 ali1 ala1 anc1 ank1 ant1 aag1 abk1 atd1 ase1 (nI (lm_rf false false)) z1 (nI v.1) (jI v.2) mn1 nx1 (nI (u1 + q + 1)) (lm_up cd2 (u1 + q) (nI 1)) (lm_up kd2 (u1 + q) (nI (w1 (lm_cell w1 qa)).1)) (lm_up ct2 (u1 + q) (jI (w1 (lm_cell w1 qa)).2)) c1 w1 u1 hw1 (lm_mf_le hmf2 (by omega)) (lm_cell w1 qa) hcv) cv_X4_85 0 rfl rfl [0, 1, 2, 3] [4, 5, 6, 7, 8, 9, 10, 11, 12, 13, 14] [(ark1, aI K 10 rk11), (arr1, aJ K 10 rr11), (ali1, aI K 120 fl1), (ala1, aI K 120 fla1), (anc1, aI K 120 nc1), (ank1, aI K 120 nk1), (ant1, aJ K 120 nt1), (aag1, aI K 120 fag1), (abk1, aI K 120 fbk1), (atd1, aI K 120 ftd1), (ase1, aZ K 120 fse1)] rfl rfl (by decide) rfl (st := []) rfl (Nat.le_of_ble_eq_true rfl) (by decide) ⟨by decide, by decide⟩ dX4_append_232 (fun v9 w9 h9 => ?_)
                        obtain ⟨rfl, rfl⟩ := h9
                        refine lx_perm [11, 12, 13, 14, 0, 1, 2, 3, 4, 5, 6, 7, 8, 9, 10] [(y, .inr (4, [.int (nI (lm_rf false false)), .ref acd1, .ref akd1, .ref act1, .int (nI (u1 + q + 1)), .ref ark1, .ref arr1, .int z1, .int (nI ((lm_rest c1 w1 (lm_cell w1 qa)).1)), .long (jI ((lm_rest c1 w1 (lm_cell w1 qa)).2)), .ref ali1, .int mn1, .ref ala1, .ref anc1, .ref ank1, .ref ant1, .int nx1, .ref aag1, .ref abk1, .ref atd1, .ref ase1])), (acd1, aI K 120 (lm_up cd2 (u1 + q) (nI 1))), (akd1, aI K 120 (lm_up kd2 (u1 + q) (nI (w1 (lm_cell w1 qa)).1))), (act1, aJ K 120 (lm_up ct2 (u1 + q) (jI (w1 (lm_cell w1 qa)).2))), (ark1, aI K 10 rk11), (arr1, aJ K 10 rr11), (ali1, aI K 120 fl1), (ala1, aI K 120 fla1), (anc1, aI K 120 nc1), (ank1, aI K 120 nk1), (ant1, aJ K 120 nt1), (aag1, aI K 120 fag1), (abk1, aI K 120 fbk1), (atd1, aI K 120 ftd1), (ase1, aZ K 120 fse1)] (by decide) rfl ?_
                        refine lx_st (a' := 0) (b' := 0) [] rfl rfl rfl ?_
                        refine lx_iinc F [(0, .ref y), (1, .int (nI k)), (2, .int (nI j)), (3, .int (nI i)), (5, .int (nI n)), (6, .int (nI u1)), (7, .int (nI (q + 1))), (8, .int (nI (lm_cell w1 qa))), (9, .int (nI 1)), (10, .int (nI (u1 + q)))] 6 [1, 2, 3, 4, 5, 6, 0, 7, 8, 9] dX4_append_235 rfl (k_inc _) rfl (by decide) ?_
                        refine lx_goto F 153 dX4_append_238 rfl ?_
                        refine lx_lv [0, 1, 2, 3, 4, 5, 6] [(0, .ref y), (1, .int (nI k)), (2, .int (nI j)), (3, .int (nI i)), (5, .int (nI n)), (6, .int (nI u1)), (7, .int (nI (q + 1)))] rfl ?_
                        exact ih (q + 1) _ (Md ++ [(1, w1 (lm_cell w1 qa))]) _ _ _ (by omega) (by rw [← ta]; exact hisL.2) (lm_rest_ok hw1 hcv) (by rw [← hM, hA]; simp [lm_apK]) (by simp [hMi]) hmf2
                    · skip
                      have hA : lm_apK c1 w1 (decide ((rt1 i).1 = 0)) (n9 + 1) v = (0, w1 (lm_cell w1 qa)) :: lm_apK c1 w1 (decide ((rt1 i).1 = 0)) n9 (lm_rest c1 w1 (lm_cell w1 qa)) := by rw [← ta]; simp [lm_apK, hlast]
                      have hmf2 := lm_mf_app (k := 0) (x := w1 (lm_cell w1 qa)) hmf hMi
                      refine lx_iload F dX4_append_170 6 rfl ?_
                      refine lx_iload F dX4_append_172 4 rfl ?_
                      refine lx_iconst F dX4_append_174 kc_1 ?_
                      refine lx_isub F dX4_append_175 (pk_sub (by omega)) ?_
                      refine lx_icmpN_ne F 183 (by omega) (by omega) dX4_append_176 rfl (fun _ => ?_) (fun h => absurd h (by omega))
                      refine lx_iconst F dX4_append_183 kc_0 ?_
                      refine lx_istore F [(0, .ref y), (1, .int (nI k)), (2, .int (nI j)), (3, .int (nI i)), (5, .int (nI n)), (6, .int (nI u1)), (7, .int (nI q)), (8, .int (nI (lm_cell w1 qa))), (9, .int (nI 0))] [1, 2, 3, 4, 5, 6, 7, 8, 0] dX4_append_184 rfl (by decide) ?_
                      refine lx_aload_n F dX4_append_186 0 rfl ?_
                      refine lx_iload F dX4_append_187 8 rfl ?_
                      refine lx_ifN_ne F 196 (by omega) dX4_append_189 rfl (fun h => absurd h (by omega)) (fun _ => ?_)
                      refine lx_iconst F dX4_append_192 kc_0 ?_
                      refine lx_goto F 210 dX4_append_193 rfl ?_
                      refine lx_aload_n F dX4_append_210 0 rfl ?_
                      refine gf_X4_13 F 0 rfl rfl dX4_append_211 ?_
                      refine lx_iload F dX4_append_214 7 rfl ?_
                      refine lx_iald F 2 (lm_cell w1 qa) dX4_append_216 rfl (by omega) (by decide) ?_
                      rw [((lm_mf_le hmf (by omega)) _ hp2).2.1]
                      refine lx_aload_n F dX4_append_217 0 rfl ?_
                      refine gf_X4_16 F 0 rfl rfl dX4_append_218 ?_
                      refine lx_iload F dX4_append_221 7 rfl ?_
                      refine lx_lald F 3 (lm_cell w1 qa) dX4_append_223 rfl (by omega) (by decide) ?_
                      rw [((lm_mf_le hmf (by omega)) _ hp2).2.2]
                      refine lx_cv F (zr_put (xl E) K y acd1 akd1 act1 ark1 arr1 ali1 ala1 anc1 ank1 ant1 aag1 abk1 atd1 ase1 (nI (lm_rf false false)) z1 (nI v.1) (jI v.2) mn1 nx1 cd2 kd2 ct2 (u1 + q) (by omega) (nI 0) (nI (w1 (lm_cell w1 qa)).1) (jI (w1 (lm_cell w1 qa)).2)) cv_X4_120 0 rfl rfl [0, 1, 2, 3] [4, 5, 6, 7, 8, 9, 10, 11, 12, 13, 14] [(ark1, aI K 10 rk11), (arr1, aJ K 10 rr11), (ali1, aI K 120 fl1), (ala1, aI K 120 fla1), (anc1, aI K 120 nc1), (ank1, aI K 120 nk1), (ant1, aJ K 120 nt1), (aag1, aI K 120 fag1), (abk1, aI K 120 fbk1), (atd1, aI K 120 ftd1), (ase1, aZ K 120 fse1)] rfl rfl (by decide) rfl (st := []) rfl (Nat.le_of_ble_eq_true rfl) (by decide) ⟨by decide, by decide⟩ dX4_append_224 (fun v9 w9 h9 => ?_)
                      obtain ⟨rfl, rfl⟩ := h9
                      refine lx_perm [11, 12, 13, 14, 0, 1, 2, 3, 4, 5, 6, 7, 8, 9, 10] [(y, .inr (4, [.int (nI (lm_rf false false)), .ref acd1, .ref akd1, .ref act1, .int (nI (u1 + q + 1)), .ref ark1, .ref arr1, .int z1, .int (nI v.1), .long (jI v.2), .ref ali1, .int mn1, .ref ala1, .ref anc1, .ref ank1, .ref ant1, .int nx1, .ref aag1, .ref abk1, .ref atd1, .ref ase1])), (acd1, aI K 120 (lm_up cd2 (u1 + q) (nI 0))), (akd1, aI K 120 (lm_up kd2 (u1 + q) (nI (w1 (lm_cell w1 qa)).1))), (act1, aJ K 120 (lm_up ct2 (u1 + q) (jI (w1 (lm_cell w1 qa)).2))), (ark1, aI K 10 rk11), (arr1, aJ K 10 rr11), (ali1, aI K 120 fl1), (ala1, aI K 120 fla1), (anc1, aI K 120 nc1), (ank1, aI K 120 nk1), (ant1, aJ K 120 nt1), (aag1, aI K 120 fag1), (abk1, aI K 120 fbk1), (atd1, aI K 120 ftd1), (ase1, aZ K 120 fse1)] (by decide) rfl ?_
                      refine lx_st (a' := 0) (b' := 0) [.int (nI (u1 + q))] rfl rfl rfl ?_
                      refine lx_istore F [(0, .ref y), (1, .int (nI k)), (2, .int (nI j)), (3, .int (nI i)), (5, .int (nI n)), (6, .int (nI u1)), (7, .int (nI q)), (8, .int (nI (lm_cell w1 qa))), (9, .int (nI 0)), (10, .int (nI (u1 + q)))] [1, 2, 3, 4, 5, 6, 7, 8, 9, 0] dX4_append_227 rfl (by decide) ?_
                      refine lx_aload_n F dX4_append_229 0 rfl ?_
                      refine lx_iload F dX4_append_230 7 rfl ?_
                      refine lx_cv F (zr_lookRest2 (xl E) K y acd1 akd1 act1 ark1 arr1 ali1 ala1 anc1 ank1 ant1 aag1 abk1 atd1 ase1 (nI (lm_rf false false)) z1 (nI v.1) (jI v.2) mn1 nx1 (nI (u1 + q + 1)) (lm_up cd2 (u1 + q) (nI 0)) (lm_up kd2 (u1 + q) (nI (w1 (lm_cell w1 qa)).1)) (lm_up ct2 (u1 + q) (jI (w1 (lm_cell w1 qa)).2)) c1 w1 u1 hw1 (lm_mf_le hmf2 (by omega)) (lm_cell w1 qa) hcv) cv_X4_85 0 rfl rfl [0, 1, 2, 3] [4, 5, 6, 7, 8, 9, 10, 11, 12, 13, 14] [(ark1, aI K 10 rk11), (arr1, aJ K 10 rr11), (ali1, aI K 120 fl1), (ala1, aI K 120 fla1), (anc1, aI K 120 nc1), (ank1, aI K 120 nk1), (ant1, aJ K 120 nt1), (aag1, aI K 120 fag1), (abk1, aI K 120 fbk1), (atd1, aI K 120 ftd1), (ase1, aZ K 120 fse1)] rfl rfl (by decide) rfl (st := []) rfl (Nat.le_of_ble_eq_true rfl) (by decide) ⟨by decide, by decide⟩ dX4_append_232 (fun v9 w9 h9 => ?_)
                      obtain ⟨rfl, rfl⟩ := h9
                      refine lx_perm [11, 12, 13, 14, 0, 1, 2, 3, 4, 5, 6, 7, 8, 9, 10] [(y, .inr (4, [.int (nI (lm_rf false false)), .ref acd1, .ref akd1, .ref act1, .int (nI (u1 + q + 1)), .ref ark1, .ref arr1, .int z1, .int (nI ((lm_rest c1 w1 (lm_cell w1 qa)).1)), .long (jI ((lm_rest c1 w1 (lm_cell w1 qa)).2)), .ref ali1, .int mn1, .ref ala1, .ref anc1, .ref ank1, .ref ant1, .int nx1, .ref aag1, .ref abk1, .ref atd1, .ref ase1])), (acd1, aI K 120 (lm_up cd2 (u1 + q) (nI 0))), (akd1, aI K 120 (lm_up kd2 (u1 + q) (nI (w1 (lm_cell w1 qa)).1))), (act1, aJ K 120 (lm_up ct2 (u1 + q) (jI (w1 (lm_cell w1 qa)).2))), (ark1, aI K 10 rk11), (arr1, aJ K 10 rr11), (ali1, aI K 120 fl1), (ala1, aI K 120 fla1), (anc1, aI K 120 nc1), (ank1, aI K 120 nk1), (ant1, aJ K 120 nt1), (aag1, aI K 120 fag1), (abk1, aI K 120 fbk1), (atd1, aI K 120 ftd1), (ase1, aZ K 120 fse1)] (by decide) rfl ?_
                      refine lx_st (a' := 0) (b' := 0) [] rfl rfl rfl ?_
                      refine lx_iinc F [(0, .ref y), (1, .int (nI k)), (2, .int (nI j)), (3, .int (nI i)), (5, .int (nI n)), (6, .int (nI u1)), (7, .int (nI (q + 1))), (8, .int (nI (lm_cell w1 qa))), (9, .int (nI 0)), (10, .int (nI (u1 + q)))] 6 [1, 2, 3, 4, 5, 6, 0, 7, 8, 9] dX4_append_235 rfl (k_inc _) rfl (by decide) ?_
                      refine lx_goto F 153 dX4_append_238 rfl ?_
                      refine lx_lv [0, 1, 2, 3, 4, 5, 6] [(0, .ref y), (1, .int (nI k)), (2, .int (nI j)), (3, .int (nI i)), (5, .int (nI n)), (6, .int (nI u1)), (7, .int (nI (q + 1)))] rfl ?_
                      exact ih (q + 1) _ (Md ++ [(0, w1 (lm_cell w1 qa))]) _ _ _ (by omega) (by rw [← ta]; exact hisL.2) (lm_rest_ok hw1 hcv) (by rw [← hM, hA]; simp) (by simp [hMi]) hmf2
                exact loop n 0 (rt1 j) [] cd1 kd1 ct1 (by omega) hL1 (hst1.2 j hj) rfl rfl (lm_mf_0 hh1)
              · skip
                refine lx_cv F (zR_room (xl E) K y c w u rt z hst (nI (lm_rf false false)) _ ⟨_, _, _, _, _, _, _, _, _, _, _, _, _, _, _, _, _, _, _, _, _, _, _, _, _, _, _, _, _, _, _, _, hh, hro, rfl⟩ (n + e0) (by omega) (c1, w1, u1, rt1, z1) hσ false (decide_eq_false hfit)) cv_X4_117 0 rfl rfl [0, 1, 2, 3, 4, 5, 6, 7, 8, 9, 10, 11, 12, 13, 14] [] [] rfl rfl (by decide) rfl (st := []) rfl (Nat.le_of_ble_eq_true rfl) (by decide) ⟨by decide, by decide⟩ dX4_append_116 (fun v9 w9 h9 => ?_)
                obtain ⟨rfl, acd1, akd1, act1, ark1, arr1, ali1, ala1, anc1, ank1, ant1, aag1, abk1, atd1, ase1, kk1, kc1, mn1, nx1, cd1, kd1, ct1, rk11, rr11, fl1, fla1, nc1, nk1, nt1, fag1, fbk1, ftd1, fse1, hh1, hro1, rfl⟩ := h9
                refine lx_perm [0, 1, 2, 3, 4, 5, 6, 7, 8, 9, 10, 11, 12, 13, 14] [(y, .inr (4, [.int (nI (lm_rf false false)), .ref acd1, .ref akd1, .ref act1, .int (nI u1), .ref ark1, .ref arr1, .int z1, .int kk1, .long kc1, .ref ali1, .int mn1, .ref ala1, .ref anc1, .ref ank1, .ref ant1, .int nx1, .ref aag1, .ref abk1, .ref atd1, .ref ase1])), (acd1, aI K 120 cd1), (akd1, aI K 120 kd1), (act1, aJ K 120 ct1), (ark1, aI K 10 rk11), (arr1, aJ K 10 rr11), (ali1, aI K 120 fl1), (ala1, aI K 120 fla1), (anc1, aI K 120 nc1), (ank1, aI K 120 nk1), (ant1, aJ K 120 nt1), (aag1, aI K 120 fag1), (abk1, aI K 120 fbk1), (atd1, aI K 120 ftd1), (ase1, aZ K 120 fse1)] (by decide) rfl ?_
                refine lx_st (a' := 0) (b' := 0) [.int (bI false)] rfl rfl rfl ?_
                have hh1 : lm_mf cd1 kd1 ct1 c1 w1 u1 := hh1
                have hro1 : ∀ r, r < 10 → rk11 r = nI (rt1 r).1 ∧ rr11 r = jI (rt1 r).2 := hro1
                refine lx_if_ne F 128 dX4_append_119 rfl (fun h => absurd (by decide) h) (fun _ => ?_)
                refine lx_aload_n F dX4_append_122 0 rfl ?_
                refine lx_iconst F dX4_append_123 kc_3 ?_
                refine pf_X4_54 F 0 [(y, .inr (4, [.int (nI 3), .ref acd1, .ref akd1, .ref act1, .int (nI u1), .ref ark1, .ref arr1, .int z1, .int kk1, .long kc1, .ref ali1, .int mn1, .ref ala1, .ref anc1, .ref ank1, .ref ant1, .int nx1, .ref aag1, .ref abk1, .ref atd1, .ref ase1])), (acd1, aI K 120 cd1), (akd1, aI K 120 kd1), (act1, aJ K 120 ct1), (ark1, aI K 10 rk11), (arr1, aJ K 10 rr11), (ali1, aI K 120 fl1), (ala1, aI K 120 fla1), (anc1, aI K 120 nc1), (ank1, aI K 120 nk1), (ant1, aJ K 120 nt1), (aag1, aI K 120 fag1), (abk1, aI K 120 fbk1), (atd1, aI K 120 ftd1), (ase1, aZ K 120 fse1)] rfl rfl dX4_append_124 rfl ?_
                exact lx_vret F hR dX4_append_127 ⟨rfl, by rw [show lm_oAppend (nI k) (nI j) (nI i) (c, w, u, rt, z) = (3, (c1, w1, u1, rt1, z1)) by unfold lm_oAppend; rw [lm_none_n hk, lm_none_n hj, lm_none_n hi, if_neg (by decide), lm_ix_n hj, lm_ix_n hi, lm_ix_n hk, if_neg hneg, if_neg hlen0, hltn, han, hσ, if_neg hfit]]; exact ⟨_, _, _, _, _, _, _, _, _, _, _, _, _, _, _, _, _, _, _, _, _, _, _, _, _, _, _, _, _, _, _, _, hh1, hro1, rfl⟩⟩
            refine lx_iload_n F dX4_append_0 1 rfl ?_
            refine lx_cs F (zr_none2 (xl E) K (nI k) false (lm_none_n hk)) cs_X4_102 [] [0, 1, 2, 3, 4, 5, 6, 7, 8, 9, 10, 11, 12, 13, 14] [(y, .inr (4, [.int th, .ref acd, .ref akd, .ref act, .int (nI u), .ref ark, .ref arr, .int z, .int kk, .long kc, .ref ali, .int mn, .ref ala, .ref anc, .ref ank, .ref ant, .int nx, .ref aag, .ref abk, .ref atd, .ref ase])), (acd, aI K 120 cd), (akd, aI K 120 kd), (act, aJ K 120 ct), (ark, aI K 10 rk1), (arr, aJ K 10 rr1), (ali, aI K 120 fl), (ala, aI K 120 fla), (anc, aI K 120 nc), (ank, aI K 120 nk), (ant, aJ K 120 nt), (aag, aI K 120 fag), (abk, aI K 120 fbk), (atd, aI K 120 ftd), (ase, aZ K 120 fse)] rfl rfl (by decide) rfl (st := []) rfl (Nat.le_of_ble_eq_true rfl) (by decide) ⟨by decide, by decide⟩ dX4_append_1 (fun v9 w9 h9 => ?_)
            obtain ⟨rfl, rfl⟩ := h9
            refine lx_perm [0, 1, 2, 3, 4, 5, 6, 7, 8, 9, 10, 11, 12, 13, 14] [(y, .inr (4, [.int th, .ref acd, .ref akd, .ref act, .int (nI u), .ref ark, .ref arr, .int z, .int kk, .long kc, .ref ali, .int mn, .ref ala, .ref anc, .ref ank, .ref ant, .int nx, .ref aag, .ref abk, .ref atd, .ref ase])), (acd, aI K 120 cd), (akd, aI K 120 kd), (act, aJ K 120 ct), (ark, aI K 10 rk1), (arr, aJ K 10 rr1), (ali, aI K 120 fl), (ala, aI K 120 fla), (anc, aI K 120 nc), (ank, aI K 120 nk), (ant, aJ K 120 nt), (aag, aI K 120 fag), (abk, aI K 120 fbk), (atd, aI K 120 ftd), (ase, aZ K 120 fse)] (by decide) rfl ?_
            refine lx_st (a' := 0) (b' := 0) [.int (bI false)] rfl rfl rfl ?_
            refine lx_if_ne F 21 dX4_append_4 rfl (fun h => absurd (by decide) h) (fun _ => ?_)
            refine lx_iload_n F dX4_append_7 2 rfl ?_
            refine lx_cs F (zr_none2 (xl E) K (nI j) false (lm_none_n hj)) cs_X4_102 [] [0, 1, 2, 3, 4, 5, 6, 7, 8, 9, 10, 11, 12, 13, 14] [(y, .inr (4, [.int th, .ref acd, .ref akd, .ref act, .int (nI u), .ref ark, .ref arr, .int z, .int kk, .long kc, .ref ali, .int mn, .ref ala, .ref anc, .ref ank, .ref ant, .int nx, .ref aag, .ref abk, .ref atd, .ref ase])), (acd, aI K 120 cd), (akd, aI K 120 kd), (act, aJ K 120 ct), (ark, aI K 10 rk1), (arr, aJ K 10 rr1), (ali, aI K 120 fl), (ala, aI K 120 fla), (anc, aI K 120 nc), (ank, aI K 120 nk), (ant, aJ K 120 nt), (aag, aI K 120 fag), (abk, aI K 120 fbk), (atd, aI K 120 ftd), (ase, aZ K 120 fse)] rfl rfl (by decide) rfl (st := []) rfl (Nat.le_of_ble_eq_true rfl) (by decide) ⟨by decide, by decide⟩ dX4_append_8 (fun v9 w9 h9 => ?_)
            obtain ⟨rfl, rfl⟩ := h9
            refine lx_perm [0, 1, 2, 3, 4, 5, 6, 7, 8, 9, 10, 11, 12, 13, 14] [(y, .inr (4, [.int th, .ref acd, .ref akd, .ref act, .int (nI u), .ref ark, .ref arr, .int z, .int kk, .long kc, .ref ali, .int mn, .ref ala, .ref anc, .ref ank, .ref ant, .int nx, .ref aag, .ref abk, .ref atd, .ref ase])), (acd, aI K 120 cd), (akd, aI K 120 kd), (act, aJ K 120 ct), (ark, aI K 10 rk1), (arr, aJ K 10 rr1), (ali, aI K 120 fl), (ala, aI K 120 fla), (anc, aI K 120 nc), (ank, aI K 120 nk), (ant, aJ K 120 nt), (aag, aI K 120 fag), (abk, aI K 120 fbk), (atd, aI K 120 ftd), (ase, aZ K 120 fse)] (by decide) rfl ?_
            refine lx_st (a' := 0) (b' := 0) [.int (bI false)] rfl rfl rfl ?_
            refine lx_if_ne F 21 dX4_append_11 rfl (fun h => absurd (by decide) h) (fun _ => ?_)
            refine lx_iload_n F dX4_append_14 3 rfl ?_
            refine lx_cs F (zr_none2 (xl E) K (nI i) false (lm_none_n hi)) cs_X4_102 [] [0, 1, 2, 3, 4, 5, 6, 7, 8, 9, 10, 11, 12, 13, 14] [(y, .inr (4, [.int th, .ref acd, .ref akd, .ref act, .int (nI u), .ref ark, .ref arr, .int z, .int kk, .long kc, .ref ali, .int mn, .ref ala, .ref anc, .ref ank, .ref ant, .int nx, .ref aag, .ref abk, .ref atd, .ref ase])), (acd, aI K 120 cd), (akd, aI K 120 kd), (act, aJ K 120 ct), (ark, aI K 10 rk1), (arr, aJ K 10 rr1), (ali, aI K 120 fl), (ala, aI K 120 fla), (anc, aI K 120 nc), (ank, aI K 120 nk), (ant, aJ K 120 nt), (aag, aI K 120 fag), (abk, aI K 120 fbk), (atd, aI K 120 ftd), (ase, aZ K 120 fse)] rfl rfl (by decide) rfl (st := []) rfl (Nat.le_of_ble_eq_true rfl) (by decide) ⟨by decide, by decide⟩ dX4_append_15 (fun v9 w9 h9 => ?_)
            obtain ⟨rfl, rfl⟩ := h9
            refine lx_perm [0, 1, 2, 3, 4, 5, 6, 7, 8, 9, 10, 11, 12, 13, 14] [(y, .inr (4, [.int th, .ref acd, .ref akd, .ref act, .int (nI u), .ref ark, .ref arr, .int z, .int kk, .long kc, .ref ali, .int mn, .ref ala, .ref anc, .ref ank, .ref ant, .int nx, .ref aag, .ref abk, .ref atd, .ref ase])), (acd, aI K 120 cd), (akd, aI K 120 kd), (act, aJ K 120 ct), (ark, aI K 10 rk1), (arr, aJ K 10 rr1), (ali, aI K 120 fl), (ala, aI K 120 fla), (anc, aI K 120 nc), (ank, aI K 120 nk), (ant, aJ K 120 nt), (aag, aI K 120 fag), (abk, aI K 120 fbk), (atd, aI K 120 ftd), (ase, aZ K 120 fse)] (by decide) rfl ?_
            refine lx_st (a' := 0) (b' := 0) [.int (bI false)] rfl rfl rfl ?_
            refine lx_if_eq F 25 dX4_append_18 rfl (fun _ => ?_) (fun h => absurd (by decide) h)
            refine lx_iconst F dX4_append_25 kc_0 ?_
            refine lx_istore F [(0, .ref y), (1, .int (nI k)), (2, .int (nI j)), (3, .int (nI i)), (4, .int (nI 0))] [1, 2, 3, 4, 0] dX4_append_26 rfl (by decide) ?_
            refine lx_iload F dX4_append_28 4 rfl ?_
            refine lx_ifN_eq F 37 (by omega) dX4_append_30 rfl (fun _ => ?_) (fun h => absurd h (by omega))
            refine lx_aload_n F dX4_append_37 0 rfl ?_
            refine lx_aload_n F dX4_append_38 0 rfl ?_
            refine gf_X4_20 F 0 rfl rfl dX4_append_39 ?_
            refine lx_iload_n F dX4_append_42 2 rfl ?_
            refine lx_iald F 4 j dX4_append_43 rfl (by omega) (by decide) ?_
            rw [(hro j hj).1]
            refine lx_aload_n F dX4_append_44 0 rfl ?_
            refine gf_X4_23 F 0 rfl rfl dX4_append_45 ?_
            refine lx_iload_n F dX4_append_48 2 rfl ?_
            refine lx_lald F 5 j dX4_append_49 rfl (by omega) (by decide) ?_
            rw [(hro j hj).2]
            refine lx_cv F (zr_lengthOf (xl E) K y acd akd act ark arr ali ala anc ank ant aag abk atd ase th z kk kc mn nx cd kd ct c w u hw hh (rt j) (hr9 j hj)) cv_X4_132 0 rfl rfl [0, 1, 2, 3] [4, 5, 6, 7, 8, 9, 10, 11, 12, 13, 14] [(ark, aI K 10 rk1), (arr, aJ K 10 rr1), (ali, aI K 120 fl), (ala, aI K 120 fla), (anc, aI K 120 nc), (ank, aI K 120 nk), (ant, aJ K 120 nt), (aag, aI K 120 fag), (abk, aI K 120 fbk), (atd, aI K 120 ftd), (ase, aZ K 120 fse)] rfl rfl (by decide) rfl (st := []) rfl (Nat.le_of_ble_eq_true rfl) (by decide) ⟨by decide, by decide⟩ dX4_append_50 (fun v9 w9 h9 => ?_)
            obtain ⟨rfl, kk2, kc2, rfl⟩ := h9
            refine lx_perm [11, 12, 13, 14, 0, 1, 2, 3, 4, 5, 6, 7, 8, 9, 10] [(y, .inr (4, [.int th, .ref acd, .ref akd, .ref act, .int (nI u), .ref ark, .ref arr, .int z, .int kk2, .long kc2, .ref ali, .int mn, .ref ala, .ref anc, .ref ank, .ref ant, .int nx, .ref aag, .ref abk, .ref atd, .ref ase])), (acd, aI K 120 cd), (akd, aI K 120 kd), (act, aJ K 120 ct), (ark, aI K 10 rk1), (arr, aJ K 10 rr1), (ali, aI K 120 fl), (ala, aI K 120 fla), (anc, aI K 120 nc), (ank, aI K 120 nk), (ant, aJ K 120 nt), (aag, aI K 120 fag), (abk, aI K 120 fbk), (atd, aI K 120 ftd), (ase, aZ K 120 fse)] (by decide) rfl ?_
            refine lx_st (a' := 0) (b' := 0) [.int (Int32.ofInt (lm_len c w 121 0 (rt j)))] rfl rfl rfl ?_
            rw [show Int32.ofInt (lm_len c w 121 0 (rt j)) = nI n by rw [hlen]; rfl]
            refine lx_istore F [(0, .ref y), (1, .int (nI k)), (2, .int (nI j)), (3, .int (nI i)), (4, .int (nI 0)), (5, .int (nI n))] [1, 2, 3, 4, 5, 0] dX4_append_53 rfl (by decide) ?_
            refine lx_aload_n F dX4_append_55 0 rfl ?_
            refine lx_iload F dX4_append_56 4 rfl ?_
            refine lx_iload F dX4_append_58 5 rfl ?_
            refine lx_ifN_ge F 67 (by omega) dX4_append_60 rfl (fun _ => ?_) (fun h => absurd h (by omega))
            refine lx_iconst F dX4_append_67 kc_0 ?_
            refine lx_cv F (zr_refuse (xl E) K y acd akd act ark arr ali ala anc ank ant aag abk atd ase th z kk2 kc2 mn nx (nI u) false false) cv_X4_110 0 rfl rfl [0] [1, 2, 3, 4, 5, 6, 7, 8, 9, 10, 11, 12, 13, 14] [(acd, aI K 120 cd), (akd, aI K 120 kd), (act, aJ K 120 ct), (ark, aI K 10 rk1), (arr, aJ K 10 rr1), (ali, aI K 120 fl), (ala, aI K 120 fla), (anc, aI K 120 nc), (ank, aI K 120 nk), (ant, aJ K 120 nt), (aag, aI K 120 fag), (abk, aI K 120 fbk), (atd, aI K 120 ftd), (ase, aZ K 120 fse)] rfl rfl (by decide) rfl (st := []) rfl (Nat.le_of_ble_eq_true rfl) (by decide) ⟨by decide, by decide⟩ dX4_append_68 (fun v9 w9 h9 => ?_)
            obtain ⟨rfl, rfl⟩ := h9
            refine lx_perm [14, 0, 1, 2, 3, 4, 5, 6, 7, 8, 9, 10, 11, 12, 13] [(y, .inr (4, [.int (nI (lm_rf false false)), .ref acd, .ref akd, .ref act, .int (nI u), .ref ark, .ref arr, .int z, .int kk2, .long kc2, .ref ali, .int mn, .ref ala, .ref anc, .ref ank, .ref ant, .int nx, .ref aag, .ref abk, .ref atd, .ref ase])), (acd, aI K 120 cd), (akd, aI K 120 kd), (act, aJ K 120 ct), (ark, aI K 10 rk1), (arr, aJ K 10 rr1), (ali, aI K 120 fl), (ala, aI K 120 fla), (anc, aI K 120 nc), (ank, aI K 120 nk), (ant, aJ K 120 nt), (aag, aI K 120 fag), (abk, aI K 120 fbk), (atd, aI K 120 ftd), (ase, aZ K 120 fse)] (by decide) rfl ?_
            refine lx_st (a' := 0) (b' := 0) [.int (bI false)] rfl rfl rfl ?_
            refine lx_if_eq F 75 dX4_append_71 rfl (fun _ => ?_) (fun h => absurd (by decide) h)
            refine lx_iload F dX4_append_75 5 rfl ?_
            refine lx_ifN_ne F 98 (by omega) dX4_append_77 rfl (fun _ => ?_) (fun h => absurd h (by omega))
            refine lx_aload_n F dX4_append_98 0 rfl ?_
            refine lx_iload F dX4_append_99 5 rfl ?_
            refine lx_aload_n F dX4_append_101 0 rfl ?_
            refine gf_X4_20 F 0 rfl rfl dX4_append_102 ?_
            refine lx_iload_n F dX4_append_105 3 rfl ?_
            have hzi := lm_ok_kind (hr9 i hi)
            refine lx_iald F 4 i dX4_append_106 rfl (by omega) (by decide) ?_
            rw [(hro i hi).1]
            refine lx_ifN_ne F 114 (by omega) dX4_append_107 rfl (fun hz => ?_) (fun hz => ?_)
            · skip
              refine lx_iconst F dX4_append_114 kc_1 ?_
              refine lx_iadd F dX4_append_115 (nI_add _ _) ?_
              refine lx_lv [0, 1, 2, 3, 5] [(0, .ref y), (1, .int (nI k)), (2, .int (nI j)), (3, .int (nI i)), (5, .int (nI n))] rfl ?_
              rw [show n + 1 = n + e0 by rw [he0, if_neg hz]]
              exact tail kk2 kc2
            · skip
              refine lx_iconst F dX4_append_110 kc_0 ?_
              refine lx_goto F 115 dX4_append_111 rfl ?_
              refine lx_iadd F dX4_append_115 (nI_add _ _) ?_
              refine lx_lv [0, 1, 2, 3, 5] [(0, .ref y), (1, .int (nI k)), (2, .int (nI j)), (3, .int (nI i)), (5, .int (nI n))] rfl ?_
              rw [show n + 0 = n + e0 by rw [he0, if_pos hz]]
              exact tail kk2 kc2
      · skip
        refine lx_iload_n F dX4_append_0 1 rfl ?_
        refine lx_cs F (zr_none2 (xl E) K (nI k) false (lm_none_n hk)) cs_X4_102 [] [0, 1, 2, 3, 4, 5, 6, 7, 8, 9, 10, 11, 12, 13, 14] [(y, .inr (4, [.int th, .ref acd, .ref akd, .ref act, .int (nI u), .ref ark, .ref arr, .int z, .int kk, .long kc, .ref ali, .int mn, .ref ala, .ref anc, .ref ank, .ref ant, .int nx, .ref aag, .ref abk, .ref atd, .ref ase])), (acd, aI K 120 cd), (akd, aI K 120 kd), (act, aJ K 120 ct), (ark, aI K 10 rk1), (arr, aJ K 10 rr1), (ali, aI K 120 fl), (ala, aI K 120 fla), (anc, aI K 120 nc), (ank, aI K 120 nk), (ant, aJ K 120 nt), (aag, aI K 120 fag), (abk, aI K 120 fbk), (atd, aI K 120 ftd), (ase, aZ K 120 fse)] rfl rfl (by decide) rfl (st := []) rfl (Nat.le_of_ble_eq_true rfl) (by decide) ⟨by decide, by decide⟩ dX4_append_1 (fun v9 w9 h9 => ?_)
        obtain ⟨rfl, rfl⟩ := h9
        refine lx_perm [0, 1, 2, 3, 4, 5, 6, 7, 8, 9, 10, 11, 12, 13, 14] [(y, .inr (4, [.int th, .ref acd, .ref akd, .ref act, .int (nI u), .ref ark, .ref arr, .int z, .int kk, .long kc, .ref ali, .int mn, .ref ala, .ref anc, .ref ank, .ref ant, .int nx, .ref aag, .ref abk, .ref atd, .ref ase])), (acd, aI K 120 cd), (akd, aI K 120 kd), (act, aJ K 120 ct), (ark, aI K 10 rk1), (arr, aJ K 10 rr1), (ali, aI K 120 fl), (ala, aI K 120 fla), (anc, aI K 120 nc), (ank, aI K 120 nk), (ant, aJ K 120 nt), (aag, aI K 120 fag), (abk, aI K 120 fbk), (atd, aI K 120 ftd), (ase, aZ K 120 fse)] (by decide) rfl ?_
        refine lx_st (a' := 0) (b' := 0) [.int (bI false)] rfl rfl rfl ?_
        refine lx_if_ne F 21 dX4_append_4 rfl (fun h => absurd (by decide) h) (fun _ => ?_)
        refine lx_iload_n F dX4_append_7 2 rfl ?_
        refine lx_cs F (zr_none2 (xl E) K (nI j) false (lm_none_n hj)) cs_X4_102 [] [0, 1, 2, 3, 4, 5, 6, 7, 8, 9, 10, 11, 12, 13, 14] [(y, .inr (4, [.int th, .ref acd, .ref akd, .ref act, .int (nI u), .ref ark, .ref arr, .int z, .int kk, .long kc, .ref ali, .int mn, .ref ala, .ref anc, .ref ank, .ref ant, .int nx, .ref aag, .ref abk, .ref atd, .ref ase])), (acd, aI K 120 cd), (akd, aI K 120 kd), (act, aJ K 120 ct), (ark, aI K 10 rk1), (arr, aJ K 10 rr1), (ali, aI K 120 fl), (ala, aI K 120 fla), (anc, aI K 120 nc), (ank, aI K 120 nk), (ant, aJ K 120 nt), (aag, aI K 120 fag), (abk, aI K 120 fbk), (atd, aI K 120 ftd), (ase, aZ K 120 fse)] rfl rfl (by decide) rfl (st := []) rfl (Nat.le_of_ble_eq_true rfl) (by decide) ⟨by decide, by decide⟩ dX4_append_8 (fun v9 w9 h9 => ?_)
        obtain ⟨rfl, rfl⟩ := h9
        refine lx_perm [0, 1, 2, 3, 4, 5, 6, 7, 8, 9, 10, 11, 12, 13, 14] [(y, .inr (4, [.int th, .ref acd, .ref akd, .ref act, .int (nI u), .ref ark, .ref arr, .int z, .int kk, .long kc, .ref ali, .int mn, .ref ala, .ref anc, .ref ank, .ref ant, .int nx, .ref aag, .ref abk, .ref atd, .ref ase])), (acd, aI K 120 cd), (akd, aI K 120 kd), (act, aJ K 120 ct), (ark, aI K 10 rk1), (arr, aJ K 10 rr1), (ali, aI K 120 fl), (ala, aI K 120 fla), (anc, aI K 120 nc), (ank, aI K 120 nk), (ant, aJ K 120 nt), (aag, aI K 120 fag), (abk, aI K 120 fbk), (atd, aI K 120 ftd), (ase, aZ K 120 fse)] (by decide) rfl ?_
        refine lx_st (a' := 0) (b' := 0) [.int (bI false)] rfl rfl rfl ?_
        refine lx_if_ne F 21 dX4_append_11 rfl (fun h => absurd (by decide) h) (fun _ => ?_)
        refine lx_iload_n F dX4_append_14 3 rfl ?_
        refine lx_cs F (zr_none2 (xl E) K t true hnt) cs_X4_102 [] [0, 1, 2, 3, 4, 5, 6, 7, 8, 9, 10, 11, 12, 13, 14] [(y, .inr (4, [.int th, .ref acd, .ref akd, .ref act, .int (nI u), .ref ark, .ref arr, .int z, .int kk, .long kc, .ref ali, .int mn, .ref ala, .ref anc, .ref ank, .ref ant, .int nx, .ref aag, .ref abk, .ref atd, .ref ase])), (acd, aI K 120 cd), (akd, aI K 120 kd), (act, aJ K 120 ct), (ark, aI K 10 rk1), (arr, aJ K 10 rr1), (ali, aI K 120 fl), (ala, aI K 120 fla), (anc, aI K 120 nc), (ank, aI K 120 nk), (ant, aJ K 120 nt), (aag, aI K 120 fag), (abk, aI K 120 fbk), (atd, aI K 120 ftd), (ase, aZ K 120 fse)] rfl rfl (by decide) rfl (st := []) rfl (Nat.le_of_ble_eq_true rfl) (by decide) ⟨by decide, by decide⟩ dX4_append_15 (fun v9 w9 h9 => ?_)
        obtain ⟨rfl, rfl⟩ := h9
        refine lx_perm [0, 1, 2, 3, 4, 5, 6, 7, 8, 9, 10, 11, 12, 13, 14] [(y, .inr (4, [.int th, .ref acd, .ref akd, .ref act, .int (nI u), .ref ark, .ref arr, .int z, .int kk, .long kc, .ref ali, .int mn, .ref ala, .ref anc, .ref ank, .ref ant, .int nx, .ref aag, .ref abk, .ref atd, .ref ase])), (acd, aI K 120 cd), (akd, aI K 120 kd), (act, aJ K 120 ct), (ark, aI K 10 rk1), (arr, aJ K 10 rr1), (ali, aI K 120 fl), (ala, aI K 120 fla), (anc, aI K 120 nc), (ank, aI K 120 nk), (ant, aJ K 120 nt), (aag, aI K 120 fag), (abk, aI K 120 fbk), (atd, aI K 120 ftd), (ase, aZ K 120 fse)] (by decide) rfl ?_
        refine lx_st (a' := 0) (b' := 0) [.int (bI true)] rfl rfl rfl ?_
        refine lx_if_eq F 25 dX4_append_18 rfl (fun h => absurd h (by decide)) (fun _ => ?_)
        refine lx_iconst F dX4_append_21 kc_1 ?_
        refine lx_goto F 26 dX4_append_22 rfl ?_
        refine lx_istore F [(0, .ref y), (1, .int (nI k)), (2, .int (nI j)), (3, .int t), (4, .int (nI 1))] [1, 2, 3, 4, 0] dX4_append_26 rfl (by decide) ?_
        refine lx_iload F dX4_append_28 4 rfl ?_
        refine lx_ifN_eq F 37 (by omega) dX4_append_30 rfl (fun h => absurd h (by omega)) (fun _ => ?_)
        refine lx_iconst F dX4_append_33 kc_0 ?_
        refine lx_goto F 53 dX4_append_34 rfl ?_
        refine lx_istore F [(0, .ref y), (1, .int (nI k)), (2, .int (nI j)), (3, .int t), (4, .int (nI 1)), (5, .int (nI 0))] [1, 2, 3, 4, 5, 0] dX4_append_53 rfl (by decide) ?_
        refine lx_aload_n F dX4_append_55 0 rfl ?_
        refine lx_iload F dX4_append_56 4 rfl ?_
        refine lx_iload F dX4_append_58 5 rfl ?_
        refine lx_ifN_ge F 67 (by omega) dX4_append_60 rfl (fun _ => ?_) (fun h => absurd h (by omega))
        refine lx_iconst F dX4_append_67 kc_0 ?_
        refine lx_cv F (zr_refuse (xl E) K y acd akd act ark arr ali ala anc ank ant aag abk atd ase th z kk kc mn nx (nI u) true false) cv_X4_110 0 rfl rfl [0] [1, 2, 3, 4, 5, 6, 7, 8, 9, 10, 11, 12, 13, 14] [(acd, aI K 120 cd), (akd, aI K 120 kd), (act, aJ K 120 ct), (ark, aI K 10 rk1), (arr, aJ K 10 rr1), (ali, aI K 120 fl), (ala, aI K 120 fla), (anc, aI K 120 nc), (ank, aI K 120 nk), (ant, aJ K 120 nt), (aag, aI K 120 fag), (abk, aI K 120 fbk), (atd, aI K 120 ftd), (ase, aZ K 120 fse)] rfl rfl (by decide) rfl (st := []) rfl (Nat.le_of_ble_eq_true rfl) (by decide) ⟨by decide, by decide⟩ dX4_append_68 (fun v9 w9 h9 => ?_)
        obtain ⟨rfl, rfl⟩ := h9
        refine lx_perm [14, 0, 1, 2, 3, 4, 5, 6, 7, 8, 9, 10, 11, 12, 13] [(y, .inr (4, [.int (nI (lm_rf true false)), .ref acd, .ref akd, .ref act, .int (nI u), .ref ark, .ref arr, .int z, .int kk, .long kc, .ref ali, .int mn, .ref ala, .ref anc, .ref ank, .ref ant, .int nx, .ref aag, .ref abk, .ref atd, .ref ase])), (acd, aI K 120 cd), (akd, aI K 120 kd), (act, aJ K 120 ct), (ark, aI K 10 rk1), (arr, aJ K 10 rr1), (ali, aI K 120 fl), (ala, aI K 120 fla), (anc, aI K 120 nc), (ank, aI K 120 nk), (ant, aJ K 120 nt), (aag, aI K 120 fag), (abk, aI K 120 fbk), (atd, aI K 120 ftd), (ase, aZ K 120 fse)] (by decide) rfl ?_
        refine lx_st (a' := 0) (b' := 0) [.int (bI true)] rfl rfl rfl ?_
        refine lx_if_eq F 75 dX4_append_71 rfl (fun h => absurd h (by decide)) (fun _ => ?_)
        exact lx_vret F hR dX4_append_74 ⟨rfl, by rw [show lm_oAppend (nI k) (nI j) t (c, w, u, rt, z) = (1, (c, w, u, rt, z)) by unfold lm_oAppend; rw [lm_none_n hk, lm_none_n hj, hnt]; rfl]; exact ⟨_, _, _, _, _, _, _, _, _, _, _, _, _, _, _, _, _, _, _, _, _, _, _, _, _, _, _, _, _, _, _, _, hh, hro, rfl⟩⟩
    · skip
      refine lx_iload_n F dX4_append_0 1 rfl ?_
      refine lx_cs F (zr_none2 (xl E) K (nI k) false (lm_none_n hk)) cs_X4_102 [] [0, 1, 2, 3, 4, 5, 6, 7, 8, 9, 10, 11, 12, 13, 14] [(y, .inr (4, [.int th, .ref acd, .ref akd, .ref act, .int (nI u), .ref ark, .ref arr, .int z, .int kk, .long kc, .ref ali, .int mn, .ref ala, .ref anc, .ref ank, .ref ant, .int nx, .ref aag, .ref abk, .ref atd, .ref ase])), (acd, aI K 120 cd), (akd, aI K 120 kd), (act, aJ K 120 ct), (ark, aI K 10 rk1), (arr, aJ K 10 rr1), (ali, aI K 120 fl), (ala, aI K 120 fla), (anc, aI K 120 nc), (ank, aI K 120 nk), (ant, aJ K 120 nt), (aag, aI K 120 fag), (abk, aI K 120 fbk), (atd, aI K 120 ftd), (ase, aZ K 120 fse)] rfl rfl (by decide) rfl (st := []) rfl (Nat.le_of_ble_eq_true rfl) (by decide) ⟨by decide, by decide⟩ dX4_append_1 (fun v9 w9 h9 => ?_)
      obtain ⟨rfl, rfl⟩ := h9
      refine lx_perm [0, 1, 2, 3, 4, 5, 6, 7, 8, 9, 10, 11, 12, 13, 14] [(y, .inr (4, [.int th, .ref acd, .ref akd, .ref act, .int (nI u), .ref ark, .ref arr, .int z, .int kk, .long kc, .ref ali, .int mn, .ref ala, .ref anc, .ref ank, .ref ant, .int nx, .ref aag, .ref abk, .ref atd, .ref ase])), (acd, aI K 120 cd), (akd, aI K 120 kd), (act, aJ K 120 ct), (ark, aI K 10 rk1), (arr, aJ K 10 rr1), (ali, aI K 120 fl), (ala, aI K 120 fla), (anc, aI K 120 nc), (ank, aI K 120 nk), (ant, aJ K 120 nt), (aag, aI K 120 fag), (abk, aI K 120 fbk), (atd, aI K 120 ftd), (ase, aZ K 120 fse)] (by decide) rfl ?_
      refine lx_st (a' := 0) (b' := 0) [.int (bI false)] rfl rfl rfl ?_
      refine lx_if_ne F 21 dX4_append_4 rfl (fun h => absurd (by decide) h) (fun _ => ?_)
      refine lx_iload_n F dX4_append_7 2 rfl ?_
      refine lx_cs F (zr_none2 (xl E) K f true hnf) cs_X4_102 [] [0, 1, 2, 3, 4, 5, 6, 7, 8, 9, 10, 11, 12, 13, 14] [(y, .inr (4, [.int th, .ref acd, .ref akd, .ref act, .int (nI u), .ref ark, .ref arr, .int z, .int kk, .long kc, .ref ali, .int mn, .ref ala, .ref anc, .ref ank, .ref ant, .int nx, .ref aag, .ref abk, .ref atd, .ref ase])), (acd, aI K 120 cd), (akd, aI K 120 kd), (act, aJ K 120 ct), (ark, aI K 10 rk1), (arr, aJ K 10 rr1), (ali, aI K 120 fl), (ala, aI K 120 fla), (anc, aI K 120 nc), (ank, aI K 120 nk), (ant, aJ K 120 nt), (aag, aI K 120 fag), (abk, aI K 120 fbk), (atd, aI K 120 ftd), (ase, aZ K 120 fse)] rfl rfl (by decide) rfl (st := []) rfl (Nat.le_of_ble_eq_true rfl) (by decide) ⟨by decide, by decide⟩ dX4_append_8 (fun v9 w9 h9 => ?_)
      obtain ⟨rfl, rfl⟩ := h9
      refine lx_perm [0, 1, 2, 3, 4, 5, 6, 7, 8, 9, 10, 11, 12, 13, 14] [(y, .inr (4, [.int th, .ref acd, .ref akd, .ref act, .int (nI u), .ref ark, .ref arr, .int z, .int kk, .long kc, .ref ali, .int mn, .ref ala, .ref anc, .ref ank, .ref ant, .int nx, .ref aag, .ref abk, .ref atd, .ref ase])), (acd, aI K 120 cd), (akd, aI K 120 kd), (act, aJ K 120 ct), (ark, aI K 10 rk1), (arr, aJ K 10 rr1), (ali, aI K 120 fl), (ala, aI K 120 fla), (anc, aI K 120 nc), (ank, aI K 120 nk), (ant, aJ K 120 nt), (aag, aI K 120 fag), (abk, aI K 120 fbk), (atd, aI K 120 ftd), (ase, aZ K 120 fse)] (by decide) rfl ?_
      refine lx_st (a' := 0) (b' := 0) [.int (bI true)] rfl rfl rfl ?_
      refine lx_if_ne F 21 dX4_append_11 rfl (fun _ => ?_) (fun h => absurd h (by decide))
      refine lx_iconst F dX4_append_21 kc_1 ?_
      refine lx_goto F 26 dX4_append_22 rfl ?_
      refine lx_istore F [(0, .ref y), (1, .int (nI k)), (2, .int f), (3, .int t), (4, .int (nI 1))] [1, 2, 3, 4, 0] dX4_append_26 rfl (by decide) ?_
      refine lx_iload F dX4_append_28 4 rfl ?_
      refine lx_ifN_eq F 37 (by omega) dX4_append_30 rfl (fun h => absurd h (by omega)) (fun _ => ?_)
      refine lx_iconst F dX4_append_33 kc_0 ?_
      refine lx_goto F 53 dX4_append_34 rfl ?_
      refine lx_istore F [(0, .ref y), (1, .int (nI k)), (2, .int f), (3, .int t), (4, .int (nI 1)), (5, .int (nI 0))] [1, 2, 3, 4, 5, 0] dX4_append_53 rfl (by decide) ?_
      refine lx_aload_n F dX4_append_55 0 rfl ?_
      refine lx_iload F dX4_append_56 4 rfl ?_
      refine lx_iload F dX4_append_58 5 rfl ?_
      refine lx_ifN_ge F 67 (by omega) dX4_append_60 rfl (fun _ => ?_) (fun h => absurd h (by omega))
      refine lx_iconst F dX4_append_67 kc_0 ?_
      refine lx_cv F (zr_refuse (xl E) K y acd akd act ark arr ali ala anc ank ant aag abk atd ase th z kk kc mn nx (nI u) true false) cv_X4_110 0 rfl rfl [0] [1, 2, 3, 4, 5, 6, 7, 8, 9, 10, 11, 12, 13, 14] [(acd, aI K 120 cd), (akd, aI K 120 kd), (act, aJ K 120 ct), (ark, aI K 10 rk1), (arr, aJ K 10 rr1), (ali, aI K 120 fl), (ala, aI K 120 fla), (anc, aI K 120 nc), (ank, aI K 120 nk), (ant, aJ K 120 nt), (aag, aI K 120 fag), (abk, aI K 120 fbk), (atd, aI K 120 ftd), (ase, aZ K 120 fse)] rfl rfl (by decide) rfl (st := []) rfl (Nat.le_of_ble_eq_true rfl) (by decide) ⟨by decide, by decide⟩ dX4_append_68 (fun v9 w9 h9 => ?_)
      obtain ⟨rfl, rfl⟩ := h9
      refine lx_perm [14, 0, 1, 2, 3, 4, 5, 6, 7, 8, 9, 10, 11, 12, 13] [(y, .inr (4, [.int (nI (lm_rf true false)), .ref acd, .ref akd, .ref act, .int (nI u), .ref ark, .ref arr, .int z, .int kk, .long kc, .ref ali, .int mn, .ref ala, .ref anc, .ref ank, .ref ant, .int nx, .ref aag, .ref abk, .ref atd, .ref ase])), (acd, aI K 120 cd), (akd, aI K 120 kd), (act, aJ K 120 ct), (ark, aI K 10 rk1), (arr, aJ K 10 rr1), (ali, aI K 120 fl), (ala, aI K 120 fla), (anc, aI K 120 nc), (ank, aI K 120 nk), (ant, aJ K 120 nt), (aag, aI K 120 fag), (abk, aI K 120 fbk), (atd, aI K 120 ftd), (ase, aZ K 120 fse)] (by decide) rfl ?_
      refine lx_st (a' := 0) (b' := 0) [.int (bI true)] rfl rfl rfl ?_
      refine lx_if_eq F 75 dX4_append_71 rfl (fun h => absurd h (by decide)) (fun _ => ?_)
      exact lx_vret F hR dX4_append_74 ⟨rfl, by rw [show lm_oAppend (nI k) f t (c, w, u, rt, z) = (1, (c, w, u, rt, z)) by unfold lm_oAppend; rw [lm_none_n hk, hnf]; rfl]; exact ⟨_, _, _, _, _, _, _, _, _, _, _, _, _, _, _, _, _, _, _, _, _, _, _, _, _, _, _, _, _, _, _, _, hh, hro, rfl⟩⟩
  · skip
    refine lx_iload_n F dX4_append_0 1 rfl ?_
    refine lx_cs F (zr_none2 (xl E) K r true hnr) cs_X4_102 [] [0, 1, 2, 3, 4, 5, 6, 7, 8, 9, 10, 11, 12, 13, 14] [(y, .inr (4, [.int th, .ref acd, .ref akd, .ref act, .int (nI u), .ref ark, .ref arr, .int z, .int kk, .long kc, .ref ali, .int mn, .ref ala, .ref anc, .ref ank, .ref ant, .int nx, .ref aag, .ref abk, .ref atd, .ref ase])), (acd, aI K 120 cd), (akd, aI K 120 kd), (act, aJ K 120 ct), (ark, aI K 10 rk1), (arr, aJ K 10 rr1), (ali, aI K 120 fl), (ala, aI K 120 fla), (anc, aI K 120 nc), (ank, aI K 120 nk), (ant, aJ K 120 nt), (aag, aI K 120 fag), (abk, aI K 120 fbk), (atd, aI K 120 ftd), (ase, aZ K 120 fse)] rfl rfl (by decide) rfl (st := []) rfl (Nat.le_of_ble_eq_true rfl) (by decide) ⟨by decide, by decide⟩ dX4_append_1 (fun v9 w9 h9 => ?_)
    obtain ⟨rfl, rfl⟩ := h9
    refine lx_perm [0, 1, 2, 3, 4, 5, 6, 7, 8, 9, 10, 11, 12, 13, 14] [(y, .inr (4, [.int th, .ref acd, .ref akd, .ref act, .int (nI u), .ref ark, .ref arr, .int z, .int kk, .long kc, .ref ali, .int mn, .ref ala, .ref anc, .ref ank, .ref ant, .int nx, .ref aag, .ref abk, .ref atd, .ref ase])), (acd, aI K 120 cd), (akd, aI K 120 kd), (act, aJ K 120 ct), (ark, aI K 10 rk1), (arr, aJ K 10 rr1), (ali, aI K 120 fl), (ala, aI K 120 fla), (anc, aI K 120 nc), (ank, aI K 120 nk), (ant, aJ K 120 nt), (aag, aI K 120 fag), (abk, aI K 120 fbk), (atd, aI K 120 ftd), (ase, aZ K 120 fse)] (by decide) rfl ?_
    refine lx_st (a' := 0) (b' := 0) [.int (bI true)] rfl rfl rfl ?_
    refine lx_if_ne F 21 dX4_append_4 rfl (fun _ => ?_) (fun h => absurd h (by decide))
    refine lx_iconst F dX4_append_21 kc_1 ?_
    refine lx_goto F 26 dX4_append_22 rfl ?_
    refine lx_istore F [(0, .ref y), (1, .int r), (2, .int f), (3, .int t), (4, .int (nI 1))] [1, 2, 3, 4, 0] dX4_append_26 rfl (by decide) ?_
    refine lx_iload F dX4_append_28 4 rfl ?_
    refine lx_ifN_eq F 37 (by omega) dX4_append_30 rfl (fun h => absurd h (by omega)) (fun _ => ?_)
    refine lx_iconst F dX4_append_33 kc_0 ?_
    refine lx_goto F 53 dX4_append_34 rfl ?_
    refine lx_istore F [(0, .ref y), (1, .int r), (2, .int f), (3, .int t), (4, .int (nI 1)), (5, .int (nI 0))] [1, 2, 3, 4, 5, 0] dX4_append_53 rfl (by decide) ?_
    refine lx_aload_n F dX4_append_55 0 rfl ?_
    refine lx_iload F dX4_append_56 4 rfl ?_
    refine lx_iload F dX4_append_58 5 rfl ?_
    refine lx_ifN_ge F 67 (by omega) dX4_append_60 rfl (fun _ => ?_) (fun h => absurd h (by omega))
    refine lx_iconst F dX4_append_67 kc_0 ?_
    refine lx_cv F (zr_refuse (xl E) K y acd akd act ark arr ali ala anc ank ant aag abk atd ase th z kk kc mn nx (nI u) true false) cv_X4_110 0 rfl rfl [0] [1, 2, 3, 4, 5, 6, 7, 8, 9, 10, 11, 12, 13, 14] [(acd, aI K 120 cd), (akd, aI K 120 kd), (act, aJ K 120 ct), (ark, aI K 10 rk1), (arr, aJ K 10 rr1), (ali, aI K 120 fl), (ala, aI K 120 fla), (anc, aI K 120 nc), (ank, aI K 120 nk), (ant, aJ K 120 nt), (aag, aI K 120 fag), (abk, aI K 120 fbk), (atd, aI K 120 ftd), (ase, aZ K 120 fse)] rfl rfl (by decide) rfl (st := []) rfl (Nat.le_of_ble_eq_true rfl) (by decide) ⟨by decide, by decide⟩ dX4_append_68 (fun v9 w9 h9 => ?_)
    obtain ⟨rfl, rfl⟩ := h9
    refine lx_perm [14, 0, 1, 2, 3, 4, 5, 6, 7, 8, 9, 10, 11, 12, 13] [(y, .inr (4, [.int (nI (lm_rf true false)), .ref acd, .ref akd, .ref act, .int (nI u), .ref ark, .ref arr, .int z, .int kk, .long kc, .ref ali, .int mn, .ref ala, .ref anc, .ref ank, .ref ant, .int nx, .ref aag, .ref abk, .ref atd, .ref ase])), (acd, aI K 120 cd), (akd, aI K 120 kd), (act, aJ K 120 ct), (ark, aI K 10 rk1), (arr, aJ K 10 rr1), (ali, aI K 120 fl), (ala, aI K 120 fla), (anc, aI K 120 nc), (ank, aI K 120 nk), (ant, aJ K 120 nt), (aag, aI K 120 fag), (abk, aI K 120 fbk), (atd, aI K 120 ftd), (ase, aZ K 120 fse)] (by decide) rfl ?_
    refine lx_st (a' := 0) (b' := 0) [.int (bI true)] rfl rfl rfl ?_
    refine lx_if_eq F 75 dX4_append_71 rfl (fun h => absurd h (by decide)) (fun _ => ?_)
    exact lx_vret F hR dX4_append_74 ⟨rfl, by rw [show lm_oAppend r f t (c, w, u, rt, z) = (1, (c, w, u, rt, z)) by unfold lm_oAppend; rw [hnr]; rfl]; exact ⟨_, _, _, _, _, _, _, _, _, _, _, _, _, _, _, _, _, _, _, _, _, _, _, _, _, _, _, _, _, _, _, _, hh, hro, rfl⟩⟩
