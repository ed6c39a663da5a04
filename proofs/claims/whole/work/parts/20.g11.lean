set_option maxHeartbeats 4000000 in
set_option maxRecDepth 100000 in
theorem zR_room (l : Launch) (K : lm_G) (y : Nat) (c : Nat → Nat) (w : Nat → lm_V) (u : Nat) (rt : Nat → lm_V) (z : Int32) (hst : lm_st c w u rt) (th : Int32) (W : va_W) (hW : lm_mod K y (c, w, u, rt, z) th W) (n : Nat) (hn : n ≤ 200) (σ : lm_X) (hσ : lm_rm n (c, w, u, rt, z) = σ) (b : Bool) (hb : decide (σ.2.2.1 + n ≤ 120) = b) : lm_C l K mX4_room (rk 4) [.ref y, .int (nI n)] W (fun v9 w9 => v9 = some (.int (bI b)) ∧ lm_mod K y σ th w9) := by
  obtain ⟨acd, akd, act, ark, arr, ali, ala, anc, ank, ant, aag, abk, atd, ase, kk, kc, mn, nx, cd, kd, ct, rk1, rr1, fl, fla, nc, nk, nt, fag, fbk, ftd, fse, hh, hro, rfl⟩ := hW
  have hh : lm_mf cd kd ct c w u := hh
  have hro : ∀ r, r < 10 → rk1 r = nI (rt r).1 ∧ rr1 r = jI (rt r).2 := hro
  have hu := hst.1.1
  subst hσ
  refine lx_met RX4 pn_X4 rfl (Nat.le_of_ble_eq_true rfl) (fun E hE hnm F hR => ?_)
  have F : lx_F K 2 E cX4_room RX4 (some .boolean) (rk 4) := F
  show lx_W K 2 E 0 0 0 [(0, .ref y), (1, .int (nI n))] [] [(y, .inr (4, [.int th, .ref acd, .ref akd, .ref act, .int (nI u), .ref ark, .ref arr, .int z, .int kk, .long kc, .ref ali, .int mn, .ref ala, .ref anc, .ref ank, .ref ant, .int nx, .ref aag, .ref abk, .ref atd, .ref ase])), (acd, aI K 120 cd), (akd, aI K 120 kd), (act, aJ K 120 ct), (ark, aI K 10 rk1), (arr, aJ K 10 rr1), (ali, aI K 120 fl), (ala, aI K 120 fla), (anc, aI K 120 nc), (ank, aI K 120 nk), (ant, aJ K 120 nt), (aag, aI K 120 fag), (abk, aI K 120 fbk), (atd, aI K 120 ftd), (ase, aZ K 120 fse)]
  refine lx_aload_n F dX4_room_0 0 rfl ?_
  refine gf_X4_73 F 0 rfl rfl dX4_room_1 ?_
  refine lx_iload_n F dX4_room_4 1 rfl ?_
  refine lx_iadd F dX4_room_5 (nI_add _ _) ?_
  refine lx_bipush F dX4_room_6 kb_120 ?_
  refine lx_icmpN_le F 15 (by omega) (by omega) dX4_room_8 rfl (fun h1 => ?_) (fun h1 => ?_)
  · skip
    have hrm := lm_rm_y (σ := (c, w, u, rt, z)) h1
    refine lx_aload_n F dX4_room_15 0 rfl ?_
    refine gf_X4_73 F 0 rfl rfl dX4_room_16 ?_
    refine lx_iload_n F dX4_room_19 1 rfl ?_
    refine lx_iadd F dX4_room_20 (nI_add _ _) ?_
    refine lx_bipush F dX4_room_21 kb_120 ?_
    refine lx_icmpN_gt F 30 (by omega) (by omega) dX4_room_23 rfl (fun h => absurd h (by omega)) (fun _ => ?_)
    refine lx_iconst F dX4_room_26 kc_1 ?_
    refine lx_goto F 31 dX4_room_27 rfl ?_
    exact lx_zret F hR (by first | rfl | decide) dX4_room_31 ⟨by rw [← hb, hrm, decide_eq_true (show _ from h1)]; rfl, by rw [hrm]; exact ⟨_, _, _, _, _, _, _, _, _, _, _, _, _, _, _, _, _, _, _, _, _, _, _, _, _, _, _, _, _, _, _, _, hh, hro, rfl⟩⟩
  · skip
    have hrm := lm_rm_n (σ := (c, w, u, rt, z)) (n := n) (by show ¬ u + n ≤ 120; omega)
    have hg := (lm_gather_st hst).2.1
    refine lx_aload_n F dX4_room_11 0 rfl ?_
    refine lx_cv F (zr_gather (xl E) K y acd akd act ark arr ali ala anc ank ant aag abk atd ase th z kk kc mn nx cd kd ct rk1 rr1 fl fla nc nk nt fse c w u rt hst hh hro) cv_X4_76 0 rfl rfl [0, 1, 2, 3, 4, 5, 6, 7, 8, 9, 10, 14] [11, 12, 13] [(aag, aI K 120 fag), (abk, aI K 120 fbk), (atd, aI K 120 ftd)] rfl rfl (by decide) rfl (st := []) rfl (Nat.le_of_ble_eq_true rfl) (by decide) ⟨by decide, by decide⟩ dX4_room_12 (fun v9 w9 h9 => ?_)
    obtain ⟨rfl, cd2, kd2, ct2, rr2, fl2, fla2, nc2, nk2, nt2, fse2, kk2, kc2, mn2, nx2, hh2, hro2, rfl⟩ := h9
    refine lx_perm [3, 4, 5, 6, 7, 8, 9, 10, 11, 12, 13, 0, 1, 2, 14] [(y, .inr (4, [.int th, .ref acd, .ref akd, .ref act, .int (nI (lm_gu c w rt)), .ref ark, .ref arr, .int (z + nI 1), .int kk2, .long kc2, .ref ali, .int mn2, .ref ala, .ref anc, .ref ank, .ref ant, .int nx2, .ref aag, .ref abk, .ref atd, .ref ase])), (acd, aI K 120 cd2), (akd, aI K 120 kd2), (act, aJ K 120 ct2), (ark, aI K 10 rk1), (arr, aJ K 10 rr2), (ali, aI K 120 fl2), (ala, aI K 120 fla2), (anc, aI K 120 nc2), (ank, aI K 120 nk2), (ant, aJ K 120 nt2), (aag, aI K 120 fag), (abk, aI K 120 fbk), (atd, aI K 120 ftd), (ase, aZ K 120 fse2)] (by decide) rfl ?_
    refine lx_st (a' := 0) (b' := 0) [] rfl rfl rfl ?_
    refine lx_aload_n F dX4_room_15 0 rfl ?_
    refine gf_X4_73 F 0 rfl rfl dX4_room_16 ?_
    refine lx_iload_n F dX4_room_19 1 rfl ?_
    refine lx_iadd F dX4_room_20 (nI_add _ _) ?_
    refine lx_bipush F dX4_room_21 kb_120 ?_
    refine lx_icmpN_gt F 30 (by omega) (by omega) dX4_room_23 rfl (fun h2 => ?_) (fun h2 => ?_)
    · skip
      refine lx_iconst F dX4_room_30 kc_0 ?_
      exact lx_zret F hR (by first | rfl | decide) dX4_room_31 ⟨by rw [← hb, hrm, decide_eq_false (show ¬ (lm_col (c, w, u, rt, z)).2.2.1 + n ≤ 120 by show ¬ lm_gu c w rt + n ≤ 120; omega)]; rfl, by rw [hrm]; exact ⟨_, _, _, _, _, _, _, _, _, _, _, _, _, _, _, _, _, _, _, _, _, _, _, _, _, _, _, _, _, _, _, _, hh2, hro2, rfl⟩⟩
    · skip
      refine lx_iconst F dX4_room_26 kc_1 ?_
      refine lx_goto F 31 dX4_room_27 rfl ?_
      exact lx_zret F hR (by first | rfl | decide) dX4_room_31 ⟨by rw [← hb, hrm, decide_eq_true (show (lm_col (c, w, u, rt, z)).2.2.1 + n ≤ 120 from h2)]; rfl, by rw [hrm]; exact ⟨_, _, _, _, _, _, _, _, _, _, _, _, _, _, _, _, _, _, _, _, _, _, _, _, _, _, _, _, _, _, _, _, hh2, hro2, rfl⟩⟩

set_option maxHeartbeats 4000000 in
set_option maxRecDepth 100000 in
theorem zR_kind (l : Launch) (K : lm_G) (y : Nat) (c : Nat → Nat) (w : Nat → lm_V) (u : Nat) (rt : Nat → lm_V) (z : Int32) (hst : lm_st c w u rt) (th : Int32) (W : va_W) (hW : lm_mod K y (c, w, u, rt, z) th W) (r : Int32) : lm_C l K mX4_kind (rk 3) [.ref y, .int r] W (fun v9 w9 => v9 = some (.int (if lm_none r = true then nI 0 else nI (rt (lm_ix r)).1)) ∧ lm_mod K y (lm_q1 r (c, w, u, rt, z)).2 (nI (lm_q1 r (c, w, u, rt, z)).1) w9) := by
  obtain ⟨acd, akd, act, ark, arr, ali, ala, anc, ank, ant, aag, abk, atd, ase, kk, kc, mn, nx, cd, kd, ct, rk1, rr1, fl, fla, nc, nk, nt, fag, fbk, ftd, fse, hh, hro, rfl⟩ := hW
  have hh : lm_mf cd kd ct c w u := hh
  have hro : ∀ r, r < 10 → rk1 r = nI (rt r).1 ∧ rr1 r = jI (rt r).2 := hro
  have hw := hst.1
  have hr9 := hst.2
  have hu := hw.1
  refine lx_met RX4 pn_X4 rfl (Nat.le_of_ble_eq_true rfl) (fun E hE hnm F hR => ?_)
  have F : lx_F K 2 E cX4_kind RX4 (some .int) (rk 3) := F
  show lx_W K 2 E 0 0 0 [(0, .ref y), (1, .int r)] [] [(y, .inr (4, [.int th, .ref acd, .ref akd, .ref act, .int (nI u), .ref ark, .ref arr, .int z, .int kk, .long kc, .ref ali, .int mn, .ref ala, .ref anc, .ref ank, .ref ant, .int nx, .ref aag, .ref abk, .ref atd, .ref ase])), (acd, aI K 120 cd), (akd, aI K 120 kd), (act, aJ K 120 ct), (ark, aI K 10 rk1), (arr, aJ K 10 rr1), (ali, aI K 120 fl), (ala, aI K 120 fla), (anc, aI K 120 nc), (ank, aI K 120 nk), (ant, aJ K 120 nt), (aag, aI K 120 fag), (abk, aI K 120 fbk), (atd, aI K 120 ftd), (ase, aZ K 120 fse)]
  cases hnr : lm_none r
  · skip
    obtain ⟨k, hk, rfl⟩ := lm_none_f hnr
    refine lx_aload_n F dX4_kind_0 0 rfl ?_
    refine lx_iload_n F dX4_kind_1 1 rfl ?_
    refine lx_cs F (zr_none2 (xl E) K (nI k) false (lm_none_n hk)) cs_X4_102 [] [0, 1, 2, 3, 4, 5, 6, 7, 8, 9, 10, 11, 12, 13, 14] [(y, .inr (4, [.int th, .ref acd, .ref akd, .ref act, .int (nI u), .ref ark, .ref arr, .int z, .int kk, .long kc, .ref ali, .int mn, .ref ala, .ref anc, .ref ank, .ref ant, .int nx, .ref aag, .ref abk, .ref atd, .ref ase])), (acd, aI K 120 cd), (akd, aI K 120 kd), (act, aJ K 120 ct), (ark, aI K 10 rk1), (arr, aJ K 10 rr1), (ali, aI K 120 fl), (ala, aI K 120 fla), (anc, aI K 120 nc), (ank, aI K 120 nk), (ant, aJ K 120 nt), (aag, aI K 120 fag), (abk, aI K 120 fbk), (atd, aI K 120 ftd), (ase, aZ K 120 fse)] rfl rfl (by decide) rfl (st := [.ref y]) rfl (Nat.le_of_ble_eq_true rfl) (by decide) ⟨by decide, by decide⟩ dX4_kind_2 (fun v9 w9 h9 => ?_)
    obtain ⟨rfl, rfl⟩ := h9
    refine lx_perm [0, 1, 2, 3, 4, 5, 6, 7, 8, 9, 10, 11, 12, 13, 14] [(y, .inr (4, [.int th, .ref acd, .ref akd, .ref act, .int (nI u), .ref ark, .ref arr, .int z, .int kk, .long kc, .ref ali, .int mn, .ref ala, .ref anc, .ref ank, .ref ant, .int nx, .ref aag, .ref abk, .ref atd, .ref ase])), (acd, aI K 120 cd), (akd, aI K 120 kd), (act, aJ K 120 ct), (ark, aI K 10 rk1), (arr, aJ K 10 rr1), (ali, aI K 120 fl), (ala, aI K 120 fla), (anc, aI K 120 nc), (ank, aI K 120 nk), (ant, aJ K 120 nt), (aag, aI K 120 fag), (abk, aI K 120 fbk), (atd, aI K 120 ftd), (ase, aZ K 120 fse)] (by decide) rfl ?_
    refine lx_st (a' := 0) (b' := 0) [.int (bI false), .ref y] rfl rfl rfl ?_
    refine lx_iconst F dX4_kind_5 kc_0 ?_
    refine lx_cv F (zr_refuse (xl E) K y acd akd act ark arr ali ala anc ank ant aag abk atd ase th z kk kc mn nx (nI u) false false) cv_X4_110 0 rfl rfl [0] [1, 2, 3, 4, 5, 6, 7, 8, 9, 10, 11, 12, 13, 14] [(acd, aI K 120 cd), (akd, aI K 120 kd), (act, aJ K 120 ct), (ark, aI K 10 rk1), (arr, aJ K 10 rr1), (ali, aI K 120 fl), (ala, aI K 120 fla), (anc, aI K 120 nc), (ank, aI K 120 nk), (ant, aJ K 120 nt), (aag, aI K 120 fag), (abk, aI K 120 fbk), (atd, aI K 120 ftd), (ase, aZ K 120 fse)] rfl rfl (by decide) rfl (st := []) rfl (Nat.le_of_ble_eq_true rfl) (by decide) ⟨by decide, by decide⟩ dX4_kind_6 (fun v9 w9 h9 => ?_)
    obtain ⟨rfl, rfl⟩ := h9
    refine lx_perm [14, 0, 1, 2, 3, 4, 5, 6, 7, 8, 9, 10, 11, 12, 13] [(y, .inr (4, [.int (nI (lm_rf false false)), .ref acd, .ref akd, .ref act, .int (nI u), .ref ark, .ref arr, .int z, .int kk, .long kc, .ref ali, .int mn, .ref ala, .ref anc, .ref ank, .ref ant, .int nx, .ref aag, .ref abk, .ref atd, .ref ase])), (acd, aI K 120 cd), (akd, aI K 120 kd), (act, aJ K 120 ct), (ark, aI K 10 rk1), (arr, aJ K 10 rr1), (ali, aI K 120 fl), (ala, aI K 120 fla), (anc, aI K 120 nc), (ank, aI K 120 nk), (ant, aJ K 120 nt), (aag, aI K 120 fag), (abk, aI K 120 fbk), (atd, aI K 120 ftd), (ase, aZ K 120 fse)] (by decide) rfl ?_
    refine lx_st (a' := 0) (b' := 0) [.int (bI false)] rfl rfl rfl ?_
    refine lx_if_eq F 14 dX4_kind_9 rfl (fun _ => ?_) (fun h => absurd (by decide) h)
    refine lx_aload_n F dX4_kind_14 0 rfl ?_
    refine gf_X4_20 F 0 rfl rfl dX4_kind_15 ?_
    refine lx_iload_n F dX4_kind_18 1 rfl ?_
    refine lx_iald F 4 k dX4_kind_19 rfl (by omega) (by decide) ?_
    rw [(hro k hk).1]
    exact lx_iret F hR dX4_kind_20 ⟨by rw [lm_none_n hk, if_neg (by decide), lm_ix_n hk], by rw [show lm_q1 (nI k) (c, w, u, rt, z) = (0, (c, w, u, rt, z)) by unfold lm_q1; rw [lm_none_n hk]; rfl]; exact ⟨_, _, _, _, _, _, _, _, _, _, _, _, _, _, _, _, _, _, _, _, _, _, _, _, _, _, _, _, _, _, _, _, hh, hro, rfl⟩⟩
  · skip
    refine lx_aload_n F dX4_kind_0 0 rfl ?_
    refine lx_iload_n F dX4_kind_1 1 rfl ?_
    refine lx_cs F (zr_none2 (xl E) K r true hnr) cs_X4_102 [] [0, 1, 2, 3, 4, 5, 6, 7, 8, 9, 10, 11, 12, 13, 14] [(y, .inr (4, [.int th, .ref acd, .ref akd, .ref act, .int (nI u), .ref ark, .ref arr, .int z, .int kk, .long kc, .ref ali, .int mn, .ref ala, .ref anc, .ref ank, .ref ant, .int nx, .ref aag, .ref abk, .ref atd, .ref ase])), (acd, aI K 120 cd), (akd, aI K 120 kd), (act, aJ K 120 ct), (ark, aI K 10 rk1), (arr, aJ K 10 rr1), (ali, aI K 120 fl), (ala, aI K 120 fla), (anc, aI K 120 nc), (ank, aI K 120 nk), (ant, aJ K 120 nt), (aag, aI K 120 fag), (abk, aI K 120 fbk), (atd, aI K 120 ftd), (ase, aZ K 120 fse)] rfl rfl (by decide) rfl (st := [.ref y]) rfl (Nat.le_of_ble_eq_true rfl) (by decide) ⟨by decide, by decide⟩ dX4_kind_2 (fun v9 w9 h9 => ?_)
    obtain ⟨rfl, rfl⟩ := h9
    refine lx_perm [0, 1, 2, 3, 4, 5, 6, 7, 8, 9, 10, 11, 12, 13, 14] [(y, .inr (4, [.int th, .ref acd, .ref akd, .ref act, .int (nI u), .ref ark, .ref arr, .int z, .int kk, .long kc, .ref ali, .int mn, .ref ala, .ref anc, .ref ank, .ref ant, .int nx, .ref aag, .ref abk, .ref atd, .ref ase])), (acd, aI K 120 cd), (akd, aI K 120 kd), (act, aJ K 120 ct), (ark, aI K 10 rk1), (arr, aJ K 10 rr1), (ali, aI K 120 fl), (ala, aI K 120 fla), (anc, aI K 120 nc), (ank, aI K 120 nk), (ant, aJ K 120 nt), (aag, aI K 120 fag), (abk, aI K 120 fbk), (atd, aI K 120 ftd), (ase, aZ K 120 fse)] (by decide) rfl ?_
    refine lx_st (a' := 0) (b' := 0) [.int (bI true), .ref y] rfl rfl rfl ?_
    refine lx_iconst F dX4_kind_5 kc_0 ?_
    refine lx_cv F (zr_refuse (xl E) K y acd akd act ark arr ali ala anc ank ant aag abk atd ase th z kk kc mn nx (nI u) true false) cv_X4_110 0 rfl rfl [0] [1, 2, 3, 4, 5, 6, 7, 8, 9, 10, 11, 12, 13, 14] [(acd, aI K 120 cd), (akd, aI K 120 kd), (act, aJ K 120 ct), (ark, aI K 10 rk1), (arr, aJ K 10 rr1), (ali, aI K 120 fl), (ala, aI K 120 fla), (anc, aI K 120 nc), (ank, aI K 120 nk), (ant, aJ K 120 nt), (aag, aI K 120 fag), (abk, aI K 120 fbk), (atd, aI K 120 ftd), (ase, aZ K 120 fse)] rfl rfl (by decide) rfl (st := []) rfl (Nat.le_of_ble_eq_true rfl) (by decide) ⟨by decide, by decide⟩ dX4_kind_6 (fun v9 w9 h9 => ?_)
    obtain ⟨rfl, rfl⟩ := h9
    refine lx_perm [14, 0, 1, 2, 3, 4, 5, 6, 7, 8, 9, 10, 11, 12, 13] [(y, .inr (4, [.int (nI (lm_rf true false)), .ref acd, .ref akd, .ref act, .int (nI u), .ref ark, .ref arr, .int z, .int kk, .long kc, .ref ali, .int mn, .ref ala, .ref anc, .ref ank, .ref ant, .int nx, .ref aag, .ref abk, .ref atd, .ref ase])), (acd, aI K 120 cd), (akd, aI K 120 kd), (act, aJ K 120 ct), (ark, aI K 10 rk1), (arr, aJ K 10 rr1), (ali, aI K 120 fl), (ala, aI K 120 fla), (anc, aI K 120 nc), (ank, aI K 120 nk), (ant, aJ K 120 nt), (aag, aI K 120 fag), (abk, aI K 120 fbk), (atd, aI K 120 ftd), (ase, aZ K 120 fse)] (by decide) rfl ?_
    refine lx_st (a' := 0) (b' := 0) [.int (bI true)] rfl rfl rfl ?_
    refine lx_if_eq F 14 dX4_kind_9 rfl (fun h => absurd h (by decide)) (fun _ => ?_)
    refine lx_iconst F dX4_kind_12 kc_0 ?_
    exact lx_iret F hR dX4_kind_13 ⟨by rw [if_pos hnr], by rw [show lm_q1 r (c, w, u, rt, z) = (1, (c, w, u, rt, z)) by unfold lm_q1; rw [if_pos hnr]]; exact ⟨_, _, _, _, _, _, _, _, _, _, _, _, _, _, _, _, _, _, _, _, _, _, _, _, _, _, _, _, _, _, _, _, hh, hro, rfl⟩⟩

set_option maxHeartbeats 4000000 in
set_option maxRecDepth 100000 in
theorem zr_lengthOf (l : Launch) (K : lm_G) (y acd akd act ark arr ali ala anc ank ant aag abk atd ase : Nat) (th z kk : Int32) (kc : Int64) (mn nx : Int32) (cd kd : Nat → Int32) (ct : Nat → Int64) (c : Nat → Nat) (w : Nat → lm_V) (u : Nat) (hw : lm_wf c w u) (hh : lm_mf cd kd ct c w u) (v0 : lm_V) (hv0 : lm_ok c u v0) : lm_C l K mX4_lengthOf (rk 2) [.ref y, .int (nI v0.1), .long (jI v0.2)] [(y, .inr (4, [.int th, .ref acd, .ref akd, .ref act, .int (nI u), .ref ark, .ref arr, .int z, .int kk, .long kc, .ref ali, .int mn, .ref ala, .ref anc, .ref ank, .ref ant, .int nx, .ref aag, .ref abk, .ref atd, .ref ase])), (acd, aI K 120 cd), (akd, aI K 120 kd), (act, aJ K 120 ct)] (fun v9 w9 => v9 = some (.int (Int32.ofInt (lm_len c w 121 0 v0))) ∧ ∃ (kk2 : Int32) (kc2 : Int64), w9 = [(y, .inr (4, [.int th, .ref acd, .ref akd, .ref act, .int (nI u), .ref ark, .ref arr, .int z, .int kk2, .long kc2, .ref ali, .int mn, .ref ala, .ref anc, .ref ank, .ref ant, .int nx, .ref aag, .ref abk, .ref atd, .ref ase])), (acd, aI K 120 cd), (akd, aI K 120 kd), (act, aJ K 120 ct)]) := by
  refine lx_met RX4 pn_X4 rfl (Nat.le_of_ble_eq_true rfl) (fun E hE hnm F hR => ?_)
  have F : lx_F K 5 E cX4_lengthOf RX4 (some .int) (rk 2) := F
  show lx_W K 5 E 0 0 0 [(0, .ref y), (1, .int (nI v0.1)), (2, .long (jI v0.2))] [] [(y, .inr (4, [.int th, .ref acd, .ref akd, .ref act, .int (nI u), .ref ark, .ref arr, .int z, .int kk, .long kc, .ref ali, .int mn, .ref ala, .ref anc, .ref ank, .ref ant, .int nx, .ref aag, .ref abk, .ref atd, .ref ase])), (acd, aI K 120 cd), (akd, aI K 120 kd), (act, aJ K 120 ct)]
  have hu := hw.1
  refine lx_aload_n F dX4_lengthOf_0 0 rfl ?_
  refine lx_iload_n F dX4_lengthOf_1 1 rfl ?_
  refine lx_lload_n F dX4_lengthOf_2 2 rfl ?_
  refine lx_cv F (zr_look (xl E) K y acd akd act ark arr ali ala anc ank ant aag abk atd ase th z kk kc mn nx (nI u) (nI v0.1) (jI v0.2)) cv_X4_69 0 rfl rfl [0] [1, 2, 3] [(acd, aI K 120 cd), (akd, aI K 120 kd), (act, aJ K 120 ct)] rfl rfl (by decide) rfl (st := []) rfl (Nat.le_of_ble_eq_true rfl) (by decide) ⟨by decide, by decide⟩ dX4_lengthOf_3 (fun v9 w9 h9 => ?_)
  obtain ⟨rfl, rfl⟩ := h9
  refine lx_perm [3, 0, 1, 2] [(y, .inr (4, [.int th, .ref acd, .ref akd, .ref act, .int (nI u), .ref ark, .ref arr, .int z, .int (nI v0.1), .long (jI v0.2), .ref ali, .int mn, .ref ala, .ref anc, .ref ank, .ref ant, .int nx, .ref aag, .ref abk, .ref atd, .ref ase])), (acd, aI K 120 cd), (akd, aI K 120 kd), (act, aJ K 120 ct)] (by decide) rfl ?_
  refine lx_st (a' := 0) (b' := 0) [] rfl rfl rfl ?_
  refine lx_iconst F dX4_lengthOf_6 kc_0 ?_
  refine lx_istore F [(0, .ref y), (1, .int (nI v0.1)), (2, .long (jI v0.2)), (4, .int (nI 0))] [1, 2, 3, 0] dX4_lengthOf_7 rfl (by decide) ?_
  have loop : ∀ (n9 : Nat) (m : Nat) (v : lm_V), m + n9 = 121 → lm_ok c u v → lm_len c w n9 m v = lm_len c w 121 0 v0 → lx_W K 5 E 0 0 9 [(0, .ref y), (1, .int (nI v0.1)), (2, .long (jI v0.2)), (4, .int (nI m))] [] [(y, .inr (4, [.int th, .ref acd, .ref akd, .ref act, .int (nI u), .ref ark, .ref arr, .int z, .int (nI v.1), .long (jI v.2), .ref ali, .int mn, .ref ala, .ref anc, .ref ank, .ref ant, .int nx, .ref aag, .ref abk, .ref atd, .ref ase])), (acd, aI K 120 cd), (akd, aI K 120 kd), (act, aJ K 120 ct)] := by
    intro n9
    induction n9 with
    | zero =>
      intro m v hm hv hl
      have hv3 := lm_ok_kind hv
      refine lx_aload_n F dX4_lengthOf_9 0 rfl ?_
      refine gf_X4_58 F 0 rfl rfl dX4_lengthOf_10 ?_
      refine lx_iconst F dX4_lengthOf_13 kc_2 ?_
      refine lx_icmpN_ne F 42 (by omega) (by omega) dX4_lengthOf_14 rfl (fun h2 => ?_) (fun h2 => ?_)
      · skip
        refine lx_iload F dX4_lengthOf_42 3 rfl ?_
        refine lx_bipush F dX4_lengthOf_44 kb_120 ?_
        refine lx_icmpN_le F 54 (by omega) (by omega) dX4_lengthOf_46 rfl (fun h => absurd h (by omega)) (fun _ => ?_)
        refine lx_bipush F dX4_lengthOf_49 kb_m2 ?_
        refine lx_goto F 68 dX4_lengthOf_51 rfl ?_
        exact lx_iret F hR dX4_lengthOf_68 ⟨by rw [← hl]; rfl, _, _, rfl⟩
      · skip
        refine lx_iload F dX4_lengthOf_17 3 rfl ?_
        refine lx_bipush F dX4_lengthOf_19 kb_120 ?_
        refine lx_icmpN_gt F 42 (by omega) (by omega) dX4_lengthOf_21 rfl (fun _ => ?_) (fun h => absurd h (by omega))
        refine lx_iload F dX4_lengthOf_42 3 rfl ?_
        refine lx_bipush F dX4_lengthOf_44 kb_120 ?_
        refine lx_icmpN_le F 54 (by omega) (by omega) dX4_lengthOf_46 rfl (fun h => absurd h (by omega)) (fun _ => ?_)
        refine lx_bipush F dX4_lengthOf_49 kb_m2 ?_
        refine lx_goto F 68 dX4_lengthOf_51 rfl ?_
        exact lx_iret F hR dX4_lengthOf_68 ⟨by rw [← hl]; rfl, _, _, rfl⟩
    | succ n9 ih =>
      intro m v hm hv hl
      have hv3 := lm_ok_kind hv
      refine lx_aload_n F dX4_lengthOf_9 0 rfl ?_
      refine gf_X4_58 F 0 rfl rfl dX4_lengthOf_10 ?_
      refine lx_iconst F dX4_lengthOf_13 kc_2 ?_
      refine lx_icmpN_ne F 42 (by omega) (by omega) dX4_lengthOf_14 rfl (fun h2 => ?_) (fun h2 => ?_)
      · skip
        refine lx_iload F dX4_lengthOf_42 3 rfl ?_
        refine lx_bipush F dX4_lengthOf_44 kb_120 ?_
        refine lx_icmpN_le F 54 (by omega) (by omega) dX4_lengthOf_46 rfl (fun _ => ?_) (fun h => absurd h (by omega))
        refine lx_aload_n F dX4_lengthOf_54 0 rfl ?_
        refine gf_X4_58 F 0 rfl rfl dX4_lengthOf_55 ?_
        refine lx_iconst F dX4_lengthOf_58 kc_1 ?_
        refine lx_icmpN_ne F 66 (by omega) (by omega) dX4_lengthOf_59 rfl (fun h1 => ?_) (fun h1 => ?_)
        · skip
          refine lx_iload F dX4_lengthOf_66 3 rfl ?_
          exact lx_iret F hR dX4_lengthOf_68 ⟨by rw [← hl, lm_len_0 (by omega)]; rfl, _, _, rfl⟩
        · skip
          refine lx_iconst F dX4_lengthOf_62 kc_m1 ?_
          refine lx_goto F 68 dX4_lengthOf_63 rfl ?_
          exact lx_iret F hR dX4_lengthOf_68 ⟨by rw [← hl, lm_len_1 h2 (by omega)]; rfl, _, _, rfl⟩
      · skip
        have hcv := lm_to_cl hw hv h2
        obtain ⟨qa, ea, la, na⟩ := lm_ok_p hv h2
        have ta : lm_to w v = lm_cell w qa := lm_to_q ea
        rw [ta] at hcv
        refine lx_iload F dX4_lengthOf_17 3 rfl ?_
        refine lx_bipush F dX4_lengthOf_19 kb_120 ?_
        refine lx_icmpN_gt F 42 (by omega) (by omega) dX4_lengthOf_21 rfl (fun h => absurd h (by omega)) (fun _ => ?_)
        refine lx_iinc F [(0, .ref y), (1, .int (nI v0.1)), (2, .long (jI v0.2)), (4, .int (nI (m + 1)))] 3 [1, 2, 3, 0] dX4_lengthOf_24 rfl (k_inc _) rfl (by decide) ?_
        refine lx_aload_n F dX4_lengthOf_27 0 rfl ?_
        refine lx_aload_n F dX4_lengthOf_28 0 rfl ?_
        refine lx_aload_n F dX4_lengthOf_29 0 rfl ?_
        refine gf_X4_61 F 0 rfl rfl dX4_lengthOf_30 ?_
        refine lx_st (a' := 0) (b' := 0) [.long (jI ((qa : Nat) : Int)), .ref y, .ref y] rfl rfl (by rw [ea]) ?_
        refine lx_cv F (zr_cell (xl E) K y acd akd act ark arr ali ala anc ank ant aag abk atd ase th z (nI v.1) (jI v.2) mn nx cd kd ct c w u hw hh qa la na) cv_X4_65 0 rfl rfl [0, 2, 3] [1] [(acd, aI K 120 cd)] rfl rfl (by decide) rfl (st := [.ref y]) rfl (Nat.le_of_ble_eq_true rfl) (by decide) ⟨by decide, by decide⟩ dX4_lengthOf_33 (fun v9 w9 h9 => ?_)
        obtain ⟨rfl, rfl⟩ := h9
        refine lx_perm [1, 0, 2, 3] [(y, .inr (4, [.int th, .ref acd, .ref akd, .ref act, .int (nI u), .ref ark, .ref arr, .int z, .int (nI v.1), .long (jI v.2), .ref ali, .int mn, .ref ala, .ref anc, .ref ank, .ref ant, .int nx, .ref aag, .ref abk, .ref atd, .ref ase])), (acd, aI K 120 cd), (akd, aI K 120 kd), (act, aJ K 120 ct)] (by decide) rfl ?_
        refine lx_st (a' := 0) (b' := 0) [.int (nI (lm_cell w qa)), .ref y] rfl rfl rfl ?_
        refine lx_cv F (zr_lookRest (xl E) K y acd akd act ark arr ali ala anc ank ant aag abk atd ase th z (nI v.1) (jI v.2) mn nx cd kd ct c w u hw hh (lm_cell w qa) hcv) cv_X4_85 0 rfl rfl [0, 1, 2, 3] [] [] rfl rfl (by decide) rfl (st := []) rfl (Nat.le_of_ble_eq_true rfl) (by decide) ⟨by decide, by decide⟩ dX4_lengthOf_36 (fun v9 w9 h9 => ?_)
        obtain ⟨rfl, rfl⟩ := h9
        refine lx_perm [0, 1, 2, 3] [(y, .inr (4, [.int th, .ref acd, .ref akd, .ref act, .int (nI u), .ref ark, .ref arr, .int z, .int (nI ((lm_rest c w (lm_cell w qa)).1)), .long (jI ((lm_rest c w (lm_cell w qa)).2)), .ref ali, .int mn, .ref ala, .ref anc, .ref ank, .ref ant, .int nx, .ref aag, .ref abk, .ref atd, .ref ase])), (acd, aI K 120 cd), (akd, aI K 120 kd), (act, aJ K 120 ct)] (by decide) rfl ?_
        refine lx_st (a' := 0) (b' := 0) [] rfl rfl rfl ?_
        refine lx_goto F 9 dX4_lengthOf_39 rfl ?_
        exact ih (m + 1) _ (by omega) (lm_rest_ok hw hcv) (by rw [← hl, lm_len_2 h2, ta])
  exact loop 121 0 v0 (by omega) hv0 rfl

set_option maxHeartbeats 4000000 in
set_option maxRecDepth 100000 in
theorem zR_length (l : Launch) (K : lm_G) (y : Nat) (c : Nat → Nat) (w : Nat → lm_V) (u : Nat) (rt : Nat → lm_V) (z : Int32) (hst : lm_st c w u rt) (th : Int32) (W : va_W) (hW : lm_mod K y (c, w, u, rt, z) th W) (r : Int32) : lm_C l K mX4_length (rk 3) [.ref y, .int r] W (fun v9 w9 => v9 = some (.int (if lm_none r = true then nI 0 else Int32.ofInt (lm_len c w 121 0 (rt (lm_ix r))))) ∧ lm_mod K y (lm_q1 r (c, w, u, rt, z)).2 (nI (lm_q1 r (c, w, u, rt, z)).1) w9) := by
  obtain ⟨acd, akd, act, ark, arr, ali, ala, anc, ank, ant, aag, abk, atd, ase, kk, kc, mn, nx, cd, kd, ct, rk1, rr1, fl, fla, nc, nk, nt, fag, fbk, ftd, fse, hh, hro, rfl⟩ := hW
  have hh : lm_mf cd kd ct c w u := hh
  have hro : ∀ r, r < 10 → rk1 r = nI (rt r).1 ∧ rr1 r = jI (rt r).2 := hro
  have hw := hst.1
  have hr9 := hst.2
  have hu := hw.1
  refine lx_met RX4 pn_X4 rfl (Nat.le_of_ble_eq_true rfl) (fun E hE hnm F hR => ?_)
  have F : lx_F K 2 E cX4_length RX4 (some .int) (rk 3) := F
  show lx_W K 2 E 0 0 0 [(0, .ref y), (1, .int r)] [] [(y, .inr (4, [.int th, .ref acd, .ref akd, .ref act, .int (nI u), .ref ark, .ref arr, .int z, .int kk, .long kc, .ref ali, .int mn, .ref ala, .ref anc, .ref ank, .ref ant, .int nx, .ref aag, .ref abk, .ref atd, .ref ase])), (acd, aI K 120 cd), (akd, aI K 120 kd), (act, aJ K 120 ct), (ark, aI K 10 rk1), (arr, aJ K 10 rr1), (ali, aI K 120 fl), (ala, aI K 120 fla), (anc, aI K 120 nc), (ank, aI K 120 nk), (ant, aJ K 120 nt), (aag, aI K 120 fag), (abk, aI K 120 fbk), (atd, aI K 120 ftd), (ase, aZ K 120 fse)]
  cases hnr : lm_none r
  · skip
    obtain ⟨k, hk, rfl⟩ := lm_none_f hnr
    refine lx_aload_n F dX4_length_0 0 rfl ?_
    refine lx_iload_n F dX4_length_1 1 rfl ?_
    refine lx_cs F (zr_none2 (xl E) K (nI k) false (lm_none_n hk)) cs_X4_102 [] [0, 1, 2, 3, 4, 5, 6, 7, 8, 9, 10, 11, 12, 13, 14] [(y, .inr (4, [.int th, .ref acd, .ref akd, .ref act, .int (nI u), .ref ark, .ref arr, .int z, .int kk, .long kc, .ref ali, .int mn, .ref ala, .ref anc, .ref ank, .ref ant, .int nx, .ref aag, .ref abk, .ref atd, .ref ase])), (acd, aI K 120 cd), (akd, aI K 120 kd), (act, aJ K 120 ct), (ark, aI K 10 rk1), (arr, aJ K 10 rr1), (ali, aI K 120 fl), (ala, aI K 120 fla), (anc, aI K 120 nc), (ank, aI K 120 nk), (ant, aJ K 120 nt), (aag, aI K 120 fag), (abk, aI K 120 fbk), (atd, aI K 120 ftd), (ase, aZ K 120 fse)] rfl rfl (by decide) rfl (st := [.ref y]) rfl (Nat.le_of_ble_eq_true rfl) (by decide) ⟨by decide, by decide⟩ dX4_length_2 (fun v9 w9 h9 => ?_)
    obtain ⟨rfl, rfl⟩ := h9
    refine lx_perm [0, 1, 2, 3, 4, 5, 6, 7, 8, 9, 10, 11, 12, 13, 14] [(y, .inr (4, [.int th, .ref acd, .ref akd, .ref act, .int (nI u), .ref ark, .ref arr, .int z, .int kk, .long kc, .ref ali, .int mn, .ref ala, .ref anc, .ref ank, .ref ant, .int nx, .ref aag, .ref abk, .ref atd, .ref ase])), (acd, aI K 120 cd), (akd, aI K 120 kd), (act, aJ K 120 ct), (ark, aI K 10 rk1), (arr, aJ K 10 rr1), (ali, aI K 120 fl), (ala, aI K 120 fla), (anc, aI K 120 nc), (ank, aI K 120 nk), (ant, aJ K 120 nt), (aag, aI K 120 fag), (abk, aI K 120 fbk), (atd, aI K 120 ftd), (ase, aZ K 120 fse)] (by decide) rfl ?_
    refine lx_st (a' := 0) (b' := 0) [.int (bI false), .ref y] rfl rfl rfl ?_
    refine lx_iconst F dX4_length_5 kc_0 ?_
    refine lx_cv F (zr_refuse (xl E) K y acd akd act ark arr ali ala anc ank ant aag abk atd ase th z kk kc mn nx (nI u) false false) cv_X4_110 0 rfl rfl [0] [1, 2, 3, 4, 5, 6, 7, 8, 9, 10, 11, 12, 13, 14] [(acd, aI K 120 cd), (akd, aI K 120 kd), (act, aJ K 120 ct), (ark, aI K 10 rk1), (arr, aJ K 10 rr1), (ali, aI K 120 fl), (ala, aI K 120 fla), (anc, aI K 120 nc), (ank, aI K 120 nk), (ant, aJ K 120 nt), (aag, aI K 120 fag), (abk, aI K 120 fbk), (atd, aI K 120 ftd), (ase, aZ K 120 fse)] rfl rfl (by decide) rfl (st := []) rfl (Nat.le_of_ble_eq_true rfl) (by decide) ⟨by decide, by decide⟩ dX4_length_6 (fun v9 w9 h9 => ?_)
    obtain ⟨rfl, rfl⟩ := h9
    refine lx_perm [14, 0, 1, 2, 3, 4, 5, 6, 7, 8, 9, 10, 11, 12, 13] [(y, .inr (4, [.int (nI (lm_rf false false)), .ref acd, .ref akd, .ref act, .int (nI u), .ref ark, .ref arr, .int z, .int kk, .long kc, .ref ali, .int mn, .ref ala, .ref anc, .ref ank, .ref ant, .int nx, .ref aag, .ref abk, .ref atd, .ref ase])), (acd, aI K 120 cd), (akd, aI K 120 kd), (act, aJ K 120 ct), (ark, aI K 10 rk1), (arr, aJ K 10 rr1), (ali, aI K 120 fl), (ala, aI K 120 fla), (anc, aI K 120 nc), (ank, aI K 120 nk), (ant, aJ K 120 nt), (aag, aI K 120 fag), (abk, aI K 120 fbk), (atd, aI K 120 ftd), (ase, aZ K 120 fse)] (by decide) rfl ?_
    refine lx_st (a' := 0) (b' := 0) [.int (bI false)] rfl rfl rfl ?_
    refine lx_if_eq F 14 dX4_length_9 rfl (fun _ => ?_) (fun h => absurd (by decide) h)
    refine lx_aload_n F dX4_length_14 0 rfl ?_
    refine lx_aload_n F dX4_length_15 0 rfl ?_
    refine gf_X4_20 F 0 rfl rfl dX4_length_16 ?_
    refine lx_iload_n F dX4_length_19 1 rfl ?_
    refine lx_iald F 4 k dX4_length_20 rfl (by omega) (by decide) ?_
    rw [(hro k hk).1]
    refine lx_aload_n F dX4_length_21 0 rfl ?_
    refine gf_X4_23 F 0 rfl rfl dX4_length_22 ?_
    refine lx_iload_n F dX4_length_25 1 rfl ?_
    refine lx_lald F 5 k dX4_length_26 rfl (by omega) (by decide) ?_
    rw [(hro k hk).2]
    refine lx_cv F (zr_lengthOf (xl E) K y acd akd act ark arr ali ala anc ank ant aag abk atd ase (nI (lm_rf false false)) z kk kc mn nx cd kd ct c w u hw hh (rt k) (hr9 k hk)) cv_X4_132 0 rfl rfl [0, 1, 2, 3] [4, 5, 6, 7, 8, 9, 10, 11, 12, 13, 14] [(ark, aI K 10 rk1), (arr, aJ K 10 rr1), (ali, aI K 120 fl), (ala, aI K 120 fla), (anc, aI K 120 nc), (ank, aI K 120 nk), (ant, aJ K 120 nt), (aag, aI K 120 fag), (abk, aI K 120 fbk), (atd, aI K 120 ftd), (ase, aZ K 120 fse)] rfl rfl (by decide) rfl (st := []) rfl (Nat.le_of_ble_eq_true rfl) (by decide) ⟨by decide, by decide⟩ dX4_length_27 (fun v9 w9 h9 => ?_)
    obtain ⟨rfl, kk2, kc2, rfl⟩ := h9
    refine lx_perm [11, 12, 13, 14, 0, 1, 2, 3, 4, 5, 6, 7, 8, 9, 10] [(y, .inr (4, [.int (nI (lm_rf false false)), .ref acd, .ref akd, .ref act, .int (nI u), .ref ark, .ref arr, .int z, .int kk2, .long kc2, .ref ali, .int mn, .ref ala, .ref anc, .ref ank, .ref ant, .int nx, .ref aag, .ref abk, .ref atd, .ref ase])), (acd, aI K 120 cd), (akd, aI K 120 kd), (act, aJ K 120 ct), (ark, aI K 10 rk1), (arr, aJ K 10 rr1), (ali, aI K 120 fl), (ala, aI K 120 fla), (anc, aI K 120 nc), (ank, aI K 120 nk), (ant, aJ K 120 nt), (aag, aI K 120 fag), (abk, aI K 120 fbk), (atd, aI K 120 ftd), (ase, aZ K 120 fse)] (by decide) rfl ?_
    refine lx_st (a' := 0) (b' := 0) [.int (Int32.ofInt (lm_len c w 121 0 (rt k)))] rfl rfl rfl ?_
    exact lx_iret F hR dX4_length_30 ⟨by rw [lm_none_n hk, if_neg (by decide), lm_ix_n hk], by rw [show lm_q1 (nI k) (c, w, u, rt, z) = (0, (c, w, u, rt, z)) by unfold lm_q1; rw [lm_none_n hk]; rfl]; exact ⟨_, _, _, _, _, _, _, _, _, _, _, _, _, _, _, _, _, _, _, _, _, _, _, _, _, _, _, _, _, _, _, _, hh, hro, rfl⟩⟩
  · skip
    refine lx_aload_n F dX4_length_0 0 rfl ?_
    refine lx_iload_n F dX4_length_1 1 rfl ?_
    refine lx_cs F (zr_none2 (xl E) K r true hnr) cs_X4_102 [] [0, 1, 2, 3, 4, 5, 6, 7, 8, 9, 10, 11, 12, 13, 14] [(y, .inr (4, [.int th, .ref acd, .ref akd, .ref act, .int (nI u), .ref ark, .ref arr, .int z, .int kk, .long kc, .ref ali, .int mn, .ref ala, .ref anc, .ref ank, .ref ant, .int nx, .ref aag, .ref abk, .ref atd, .ref ase])), (acd, aI K 120 cd), (akd, aI K 120 kd), (act, aJ K 120 ct), (ark, aI K 10 rk1), (arr, aJ K 10 rr1), (ali, aI K 120 fl), (ala, aI K 120 fla), (anc, aI K 120 nc), (ank, aI K 120 nk), (ant, aJ K 120 nt), (aag, aI K 120 fag), (abk, aI K 120 fbk), (atd, aI K 120 ftd), (ase, aZ K 120 fse)] rfl rfl (by decide) rfl (st := [.ref y]) rfl (Nat.le_of_ble_eq_true rfl) (by decide) ⟨by decide, by decide⟩ dX4_length_2 (fun v9 w9 h9 => ?_)
    obtain ⟨rfl, rfl⟩ := h9
    refine lx_perm [0, 1, 2, 3, 4, 5, 6, 7, 8, 9, 10, 11, 12, 13, 14] [(y, .inr (4, [.int th, .ref acd, .ref akd, .ref act, .int (nI u), .ref ark, .ref arr, .int z, .int kk, .long kc, .ref ali, .int mn, .ref ala, .ref anc, .ref ank, .ref ant, .int nx, .ref aag, .ref abk, .ref atd, .ref ase])), (acd, aI K 120 cd), (akd, aI K 120 kd), (act, aJ K 120 ct), (ark, aI K 10 rk1), (arr, aJ K 10 rr1), (ali, aI K 120 fl), (ala, aI K 120 fla), (anc, aI K 120 nc), (ank, aI K 120 nk), (ant, aJ K 120 nt), (aag, aI K 120 fag), (abk, aI K 120 fbk), (atd, aI K 120 ftd), (ase, aZ K 120 fse)] (by decide) rfl ?_
    refine lx_st (a' := 0) (b' := 0) [.int (bI true), .ref y] rfl rfl rfl ?_
    refine lx_iconst F dX4_length_5 kc_0 ?_
    refine lx_cv F (zr_refuse (xl E) K y acd akd act ark arr ali ala anc ank ant aag abk atd ase th z kk kc mn nx (nI u) true false) cv_X4_110 0 rfl rfl [0] [1, 2, 3, 4, 5, 6, 7, 8, 9, 10, 11, 12, 13, 14] [(acd, aI K 120 cd), (akd, aI K 120 kd), (act, aJ K 120 ct), (ark, aI K 10 rk1), (arr, aJ K 10 rr1), (ali, aI K 120 fl), (ala, aI K 120 fla), (anc, aI K 120 nc), (ank, aI K 120 nk), (ant, aJ K 120 nt), (aag, aI K 120 fag), (abk, aI K 120 fbk), (atd, aI K 120 ftd), (ase, aZ K 120 fse)] rfl rfl (by decide) rfl (st := []) rfl (Nat.le_of_ble_eq_true rfl) (by decide) ⟨by decide, by decide⟩ dX4_length_6 (fun v9 w9 h9 => ?_)
    obtain ⟨rfl, rfl⟩ := h9
    refine lx_perm [14, 0, 1, 2, 3, 4, 5, 6, 7, 8, 9, 10, 11, 12, 13] [(y, .inr (4, [.int (nI (lm_rf true false)), .ref acd, .ref akd, .ref act, .int (nI u), .ref ark, .ref arr, .int z, .int kk, .long kc, .ref ali, .int mn, .ref ala, .ref anc, .ref ank, .ref ant, .int nx, .ref aag, .ref abk, .ref atd, .ref ase])), (acd, aI K 120 cd), (akd, aI K 120 kd), (act, aJ K 120 ct), (ark, aI K 10 rk1), (arr, aJ K 10 rr1), (ali, aI K 120 fl), (ala, aI K 120 fla), (anc, aI K 120 nc), (ank, aI K 120 nk), (ant, aJ K 120 nt), (aag, aI K 120 fag), (abk, aI K 120 fbk), (atd, aI K 120 ftd), (ase, aZ K 120 fse)] (by decide) rfl ?_
    refine lx_st (a' := 0) (b' := 0) [.int (bI true)] rfl rfl rfl ?_
    refine lx_if_eq F 14 dX4_length_9 rfl (fun h => absurd h (by decide)) (fun _ => ?_)
    refine lx_iconst F dX4_length_12 kc_0 ?_
    exact lx_iret F hR dX4_length_13 ⟨by rw [if_pos hnr], by rw [show lm_q1 r (c, w, u, rt, z) = (1, (c, w, u, rt, z)) by unfold lm_q1; rw [if_pos hnr]]; exact ⟨_, _, _, _, _, _, _, _, _, _, _, _, _, _, _, _, _, _, _, _, _, _, _, _, _, _, _, _, _, _, _, _, hh, hro, rfl⟩⟩

set_option maxHeartbeats 4000000 in
set_option maxRecDepth 100000 in
theorem zR_value (l : Launch) (K : lm_G) (y : Nat) (c : Nat → Nat) (w : Nat → lm_V) (u : Nat) (rt : Nat → lm_V) (z : Int32) (hst : lm_st c w u rt) (th : Int32) (W : va_W) (hW : lm_mod K y (c, w, u, rt, z) th W) (r : Int32) : lm_C l K mX4_value (rk 1) [.ref y, .int r] W (fun v9 w9 => v9 = some (.long (if lm_none r = true then jI 0 else if (rt (lm_ix r)).1 ≠ 1 then jI 0 else jI (rt (lm_ix r)).2)) ∧ lm_mod K y (lm_qv r (c, w, u, rt, z)).2 (nI (lm_qv r (c, w, u, rt, z)).1) w9) := by
  obtain ⟨acd, akd, act, ark, arr, ali, ala, anc, ank, ant, aag, abk, atd, ase, kk, kc, mn, nx, cd, kd, ct, rk1, rr1, fl, fla, nc, nk, nt, fag, fbk, ftd, fse, hh, hro, rfl⟩ := hW
  have hh : lm_mf cd kd ct c w u := hh
  have hro : ∀ r, r < 10 → rk1 r = nI (rt r).1 ∧ rr1 r = jI (rt r).2 := hro
  have hw := hst.1
  have hr9 := hst.2
  have hu := hw.1
  refine lx_met RX4 pn_X4 rfl (Nat.le_of_ble_eq_true rfl) (fun E hE hnm F hR => ?_)
  have F : lx_F K 2 E cX4_value RX4 (some .long) (rk 1) := F
  show lx_W K 2 E 0 0 0 [(0, .ref y), (1, .int r)] [] [(y, .inr (4, [.int th, .ref acd, .ref akd, .ref act, .int (nI u), .ref ark, .ref arr, .int z, .int kk, .long kc, .ref ali, .int mn, .ref ala, .ref anc, .ref ank, .ref ant, .int nx, .ref aag, .ref abk, .ref atd, .ref ase])), (acd, aI K 120 cd), (akd, aI K 120 kd), (act, aJ K 120 ct), (ark, aI K 10 rk1), (arr, aJ K 10 rr1), (ali, aI K 120 fl), (ala, aI K 120 fla), (anc, aI K 120 nc), (ank, aI K 120 nk), (ant, aJ K 120 nt), (aag, aI K 120 fag), (abk, aI K 120 fbk), (atd, aI K 120 ftd), (ase, aZ K 120 fse)]
  cases hnr : lm_none r
  · skip
    obtain ⟨k, hk, rfl⟩ := lm_none_f hnr
    refine lx_aload_n F dX4_value_0 0 rfl ?_
    refine lx_iload_n F dX4_value_1 1 rfl ?_
    refine lx_cs F (zr_none2 (xl E) K (nI k) false (lm_none_n hk)) cs_X4_102 [] [0, 1, 2, 3, 4, 5, 6, 7, 8, 9, 10, 11, 12, 13, 14] [(y, .inr (4, [.int th, .ref acd, .ref akd, .ref act, .int (nI u), .ref ark, .ref arr, .int z, .int kk, .long kc, .ref ali, .int mn, .ref ala, .ref anc, .ref ank, .ref ant, .int nx, .ref aag, .ref abk, .ref atd, .ref ase])), (acd, aI K 120 cd), (akd, aI K 120 kd), (act, aJ K 120 ct), (ark, aI K 10 rk1), (arr, aJ K 10 rr1), (ali, aI K 120 fl), (ala, aI K 120 fla), (anc, aI K 120 nc), (ank, aI K 120 nk), (ant, aJ K 120 nt), (aag, aI K 120 fag), (abk, aI K 120 fbk), (atd, aI K 120 ftd), (ase, aZ K 120 fse)] rfl rfl (by decide) rfl (st := [.ref y]) rfl (Nat.le_of_ble_eq_true rfl) (by decide) ⟨by decide, by decide⟩ dX4_value_2 (fun v9 w9 h9 => ?_)
    obtain ⟨rfl, rfl⟩ := h9
    refine lx_perm [0, 1, 2, 3, 4, 5, 6, 7, 8, 9, 10, 11, 12, 13, 14] [(y, .inr (4, [.int th, .ref acd, .ref akd, .ref act, .int (nI u), .ref ark, .ref arr, .int z, .int kk, .long kc, .ref ali, .int mn, .ref ala, .ref anc, .ref ank, .ref ant, .int nx, .ref aag, .ref abk, .ref atd, .ref ase])), (acd, aI K 120 cd), (akd, aI K 120 kd), (act, aJ K 120 ct), (ark, aI K 10 rk1), (arr, aJ K 10 rr1), (ali, aI K 120 fl), (ala, aI K 120 fla), (anc, aI K 120 nc), (ank, aI K 120 nk), (ant, aJ K 120 nt), (aag, aI K 120 fag), (abk, aI K 120 fbk), (atd, aI K 120 ftd), (ase, aZ K 120 fse)] (by decide) rfl ?_
    refine lx_st (a' := 0) (b' := 0) [.int (bI false), .ref y] rfl rfl rfl ?_
    refine lx_iload_n F dX4_value_5 1 rfl ?_
    refine lx_cs F (zr_none2 (xl E) K (nI k) false (lm_none_n hk)) cs_X4_102 [] [0, 1, 2, 3, 4, 5, 6, 7, 8, 9, 10, 11, 12, 13, 14] [(y, .inr (4, [.int th, .ref acd, .ref akd, .ref act, .int (nI u), .ref ark, .ref arr, .int z, .int kk, .long kc, .ref ali, .int mn, .ref ala, .ref anc, .ref ank, .ref ant, .int nx, .ref aag, .ref abk, .ref atd, .ref ase])), (acd, aI K 120 cd), (akd, aI K 120 kd), (act, aJ K 120 ct), (ark, aI K 10 rk1), (arr, aJ K 10 rr1), (ali, aI K 120 fl), (ala, aI K 120 fla), (anc, aI K 120 nc), (ank, aI K 120 nk), (ant, aJ K 120 nt), (aag, aI K 120 fag), (abk, aI K 120 fbk), (atd, aI K 120 ftd), (ase, aZ K 120 fse)] rfl rfl (by decide) rfl (st := [.int (bI false), .ref y]) rfl (Nat.le_of_ble_eq_true rfl) (by decide) ⟨by decide, by decide⟩ dX4_value_6 (fun v9 w9 h9 => ?_)
    obtain ⟨rfl, rfl⟩ := h9
    refine lx_perm [0, 1, 2, 3, 4, 5, 6, 7, 8, 9, 10, 11, 12, 13, 14] [(y, .inr (4, [.int th, .ref acd, .ref akd, .ref act, .int (nI u), .ref ark, .ref arr, .int z, .int kk, .long kc, .ref ali, .int mn, .ref ala, .ref anc, .ref ank, .ref ant, .int nx, .ref aag, .ref abk, .ref atd, .ref ase])), (acd, aI K 120 cd), (akd, aI K 120 kd), (act, aJ K 120 ct), (ark, aI K 10 rk1), (arr, aJ K 10 rr1), (ali, aI K 120 fl), (ala, aI K 120 fla), (anc, aI K 120 nc), (ank, aI K 120 nk), (ant, aJ K 120 nt), (aag, aI K 120 fag), (abk, aI K 120 fbk), (atd, aI K 120 ftd), (ase, aZ K 120 fse)] (by decide) rfl ?_
    refine lx_st (a' := 0) (b' := 0) [.int (bI false), .int (bI false), .ref y] rfl rfl rfl ?_
    refine lx_if_ne F 26 dX4_value_9 rfl (fun h => absurd (by decide) h) (fun _ => ?_)
    have hk3 := lm_ok_kind (hr9 k hk)
    refine lx_aload_n F dX4_value_12 0 rfl ?_
    refine gf_X4_20 F 0 rfl rfl dX4_value_13 ?_
    refine lx_iload_n F dX4_value_16 1 rfl ?_
    refine lx_iald F 4 k dX4_value_17 rfl (by omega) (by decide) ?_
    rw [(hro k hk).1]
    refine lx_iconst F dX4_value_18 kc_1 ?_
    refine lx_icmpN_eq F 26 (by omega) (by omega) dX4_value_19 rfl (fun h1 => ?_) (fun h1 => ?_)
    · skip
      refine lx_iconst F dX4_value_26 kc_0 ?_
      refine lx_cv F (zr_refuse (xl E) K y acd akd act ark arr ali ala anc ank ant aag abk atd ase th z kk kc mn nx (nI u) false false) cv_X4_110 0 rfl rfl [0] [1, 2, 3, 4, 5, 6, 7, 8, 9, 10, 11, 12, 13, 14] [(acd, aI K 120 cd), (akd, aI K 120 kd), (act, aJ K 120 ct), (ark, aI K 10 rk1), (arr, aJ K 10 rr1), (ali, aI K 120 fl), (ala, aI K 120 fla), (anc, aI K 120 nc), (ank, aI K 120 nk), (ant, aJ K 120 nt), (aag, aI K 120 fag), (abk, aI K 120 fbk), (atd, aI K 120 ftd), (ase, aZ K 120 fse)] rfl rfl (by decide) rfl (st := []) rfl (Nat.le_of_ble_eq_true rfl) (by decide) ⟨by decide, by decide⟩ dX4_value_27 (fun v9 w9 h9 => ?_)
      obtain ⟨rfl, rfl⟩ := h9
      refine lx_perm [14, 0, 1, 2, 3, 4, 5, 6, 7, 8, 9, 10, 11, 12, 13] [(y, .inr (4, [.int (nI (lm_rf false false)), .ref acd, .ref akd, .ref act, .int (nI u), .ref ark, .ref arr, .int z, .int kk, .long kc, .ref ali, .int mn, .ref ala, .ref anc, .ref ank, .ref ant, .int nx, .ref aag, .ref abk, .ref atd, .ref ase])), (acd, aI K 120 cd), (akd, aI K 120 kd), (act, aJ K 120 ct), (ark, aI K 10 rk1), (arr, aJ K 10 rr1), (ali, aI K 120 fl), (ala, aI K 120 fla), (anc, aI K 120 nc), (ank, aI K 120 nk), (ant, aJ K 120 nt), (aag, aI K 120 fag), (abk, aI K 120 fbk), (atd, aI K 120 ftd), (ase, aZ K 120 fse)] (by decide) rfl ?_
      refine lx_st (a' := 0) (b' := 0) [.int (bI false)] rfl rfl rfl ?_
      refine lx_if_eq F 35 dX4_value_30 rfl (fun _ => ?_) (fun h => absurd (by decide) h)
      refine lx_aload_n F dX4_value_35 0 rfl ?_
      refine gf_X4_23 F 0 rfl rfl dX4_value_36 ?_
      refine lx_iload_n F dX4_value_39 1 rfl ?_
      refine lx_lald F 5 k dX4_value_40 rfl (by omega) (by decide) ?_
      rw [(hro k hk).2]
      exact lx_lret F hR dX4_value_41 ⟨by rw [lm_none_n hk, if_neg (by decide), lm_ix_n hk, if_neg (show ¬ (rt k).1 ≠ 1 from fun z9 => z9 h1)], by rw [show lm_qv (nI k) (c, w, u, rt, z) = (0, (c, w, u, rt, z)) by unfold lm_qv; rw [lm_none_n hk, if_neg (by decide), lm_ix_n hk, if_neg (show ¬ (rt k).1 ≠ 1 from fun z9 => z9 h1)]]; exact ⟨_, _, _, _, _, _, _, _, _, _, _, _, _, _, _, _, _, _, _, _, _, _, _, _, _, _, _, _, _, _, _, _, hh, hro, rfl⟩⟩
    · skip
      refine lx_iconst F dX4_value_22 kc_1 ?_
      refine lx_goto F 27 dX4_value_23 rfl ?_
      refine lx_cv F (zr_refuse (xl E) K y acd akd act ark arr ali ala anc ank ant aag abk atd ase th z kk kc mn nx (nI u) false true) cv_X4_110 0 rfl rfl [0] [1, 2, 3, 4, 5, 6, 7, 8, 9, 10, 11, 12, 13, 14] [(acd, aI K 120 cd), (akd, aI K 120 kd), (act, aJ K 120 ct), (ark, aI K 10 rk1), (arr, aJ K 10 rr1), (ali, aI K 120 fl), (ala, aI K 120 fla), (anc, aI K 120 nc), (ank, aI K 120 nk), (ant, aJ K 120 nt), (aag, aI K 120 fag), (abk, aI K 120 fbk), (atd, aI K 120 ftd), (ase, aZ K 120 fse)] rfl rfl (by decide) rfl (st := []) rfl (Nat.le_of_ble_eq_true rfl) (by decide) ⟨by decide, by decide⟩ dX4_value_27 (fun v9 w9 h9 => ?_)
      obtain ⟨rfl, rfl⟩ := h9
      refine lx_perm [14, 0, 1, 2, 3, 4, 5, 6, 7, 8, 9, 10, 11, 12, 13] [(y, .inr (4, [.int (nI (lm_rf false true)), .ref acd, .ref akd, .ref act, .int (nI u), .ref ark, .ref arr, .int z, .int kk, .long kc, .ref ali, .int mn, .ref ala, .ref anc, .ref ank, .ref ant, .int nx, .ref aag, .ref abk, .ref atd, .ref ase])), (acd, aI K 120 cd), (akd, aI K 120 kd), (act, aJ K 120 ct), (ark, aI K 10 rk1), (arr, aJ K 10 rr1), (ali, aI K 120 fl), (ala, aI K 120 fla), (anc, aI K 120 nc), (ank, aI K 120 nk), (ant, aJ K 120 nt), (aag, aI K 120 fag), (abk, aI K 120 fbk), (atd, aI K 120 ftd), (ase, aZ K 120 fse)] (by decide) rfl ?_
      refine lx_st (a' := 0) (b' := 0) [.int (bI true)] rfl rfl rfl ?_
      refine lx_if_eq F 35 dX4_value_30 rfl (fun h => absurd h (by decide)) (fun _ => ?_)
      refine lx_lconst F dX4_value_33 kl_0 ?_
      exact lx_lret F hR dX4_value_34 ⟨by rw [lm_none_n hk, if_neg (by decide), lm_ix_n hk, if_pos h1], by rw [show lm_qv (nI k) (c, w, u, rt, z) = (2, (c, w, u, rt, z)) by unfold lm_qv; rw [lm_none_n hk, if_neg (by decide), lm_ix_n hk, if_pos h1]]; exact ⟨_, _, _, _, _, _, _, _, _, _, _, _, _, _, _, _, _, _, _, _, _, _, _, _, _, _, _, _, _, _, _, _, hh, hro, rfl⟩⟩
  · skip
    refine lx_aload_n F dX4_value_0 0 rfl ?_
    refine lx_iload_n F dX4_value_1 1 rfl ?_
    refine lx_cs F (zr_none2 (xl E) K r true hnr) cs_X4_102 [] [0, 1, 2, 3, 4, 5, 6, 7, 8, 9, 10, 11, 12, 13, 14] [(y, .inr (4, [.int th, .ref acd, .ref akd, .ref act, .int (nI u), .ref ark, .ref arr, .int z, .int kk, .long kc, .ref ali, .int mn, .ref ala, .ref anc, .ref ank, .ref ant, .int nx, .ref aag, .ref abk, .ref atd, .ref ase])), (acd, aI K 120 cd), (akd, aI K 120 kd), (act, aJ K 120 ct), (ark, aI K 10 rk1), (arr, aJ K 10 rr1), (ali, aI K 120 fl), (ala, aI K 120 fla), (anc, aI K 120 nc), (ank, aI K 120 nk), (ant, aJ K 120 nt), (aag, aI K 120 fag), (abk, aI K 120 fbk), (atd, aI K 120 ftd), (ase, aZ K 120 fse)] rfl rfl (by decide) rfl (st := [.ref y]) rfl (Nat.le_of_ble_eq_true rfl) (by decide) ⟨by decide, by decide⟩ dX4_value_2 (fun v9 w9 h9 => ?_)
    obtain ⟨rfl, rfl⟩ := h9
    refine lx_perm [0, 1, 2, 3, 4, 5, 6, 7, 8, 9, 10, 11, 12, 13, 14] [(y, .inr (4, [.int th, .ref acd, .ref akd, .ref act, .int (nI u), .ref ark, .ref arr, .int z, .int kk, .long kc, .ref ali, .int mn, .ref ala, .ref anc, .ref ank, .ref ant, .int nx, .ref aag, .ref abk, .ref atd, .ref ase])), (acd, aI K 120 cd), (akd, aI K 120 kd), (act, aJ K 120 ct), (ark, aI K 10 rk1), (arr, aJ K 10 rr1), (ali, aI K 120 fl), (ala, aI K 120 fla), (anc, aI K 120 nc), (ank, aI K 120 nk), (ant, aJ K 120 nt), (aag, aI K 120 fag), (abk, aI K 120 fbk), (atd, aI K 120 ftd), (ase, aZ K 120 fse)] (by decide) rfl ?_
    refine lx_st (a' := 0) (b' := 0) [.int (bI true), .ref y] rfl rfl rfl ?_
    refine lx_iload_n F dX4_value_5 1 rfl ?_
    refine lx_cs F (zr_none2 (xl E) K r true hnr) cs_X4_102 [] [0, 1, 2, 3, 4, 5, 6, 7, 8, 9, 10, 11, 12, 13, 14] [(y, .inr (4, [.int th, .ref acd, .ref akd, .ref act, .int (nI u), .ref ark, .ref arr, .int z, .int kk, .long kc, .ref ali, .int mn, .ref ala, .ref anc, .ref ank, .ref ant, .int nx, .ref aag, .ref abk, .ref atd, .ref ase])), (acd, aI K 120 cd), (akd, aI K 120 kd), (act, aJ K 120 ct), (ark, aI K 10 rk1), (arr, aJ K 10 rr1), (ali, aI K 120 fl), (ala, aI K 120 fla), (anc, aI K 120 nc), (ank, aI K 120 nk), (ant, aJ K 120 nt), (aag, aI K 120 fag), (abk, aI K 120 fbk), (atd, aI K 120 ftd), (ase, aZ K 120 fse)] rfl rfl (by decide) rfl (st := [.int (bI true), .ref y]) rfl (Nat.le_of_ble_eq_true rfl) (by decide) ⟨by decide, by decide⟩ dX4_value_6 (fun v9 w9 h9 => ?_)
    obtain ⟨rfl, rfl⟩ := h9
    refine lx_perm [0, 1, 2, 3, 4, 5, 6, 7, 8, 9, 10, 11, 12, 13, 14] [(y, .inr (4, [.int th, .ref acd, .ref akd, .ref act, .int (nI u), .ref ark, .ref arr, .int z, .int kk, .long kc, .ref ali, .int mn, .ref ala, .ref anc, .ref ank, .ref ant, .int nx, .ref aag, .ref abk, .ref atd, .ref ase])), (acd, aI K 120 cd), (akd, aI K 120 kd), (act, aJ K 120 ct), (ark, aI K 10 rk1), (arr, aJ K 10 rr1), (ali, aI K 120 fl), (ala, aI K 120 fla), (anc, aI K 120 nc), (ank, aI K 120 nk), (ant, aJ K 120 nt), (aag, aI K 120 fag), (abk, aI K 120 fbk), (atd, aI K 120 ftd), (ase, aZ K 120 fse)] (by decide) rfl ?_
    refine lx_st (a' := 0) (b' := 0) [.int (bI true), .int (bI true), .ref y] rfl rfl rfl ?_
    refine lx_if_ne F 26 dX4_value_9 rfl (fun _ => ?_) (fun h => absurd h (by decide))
    refine lx_iconst F dX4_value_26 kc_0 ?_
    refine lx_cv F (zr_refuse (xl E) K y acd akd act ark arr ali ala anc ank ant aag abk atd ase th z kk kc mn nx (nI u) true false) cv_X4_110 0 rfl rfl [0] [1, 2, 3, 4, 5, 6, 7, 8, 9, 10, 11, 12, 13, 14] [(acd, aI K 120 cd), (akd, aI K 120 kd), (act, aJ K 120 ct), (ark, aI K 10 rk1), (arr, aJ K 10 rr1), (ali, aI K 120 fl), (ala, aI K 120 fla), (anc, aI K 120 nc), (ank, aI K 120 nk), (ant, aJ K 120 nt), (aag, aI K 120 fag), (abk, aI K 120 fbk), (atd, aI K 120 ftd), (ase, aZ K 120 fse)] rfl rfl (by decide) rfl (st := []) rfl (Nat.le_of_ble_eq_true rfl) (by decide) ⟨by decide, by decide⟩ dX4_value_27 (fun v9 w9 h9 => ?_)
    obtain ⟨rfl, rfl⟩ := h9
    refine lx_perm [14, 0, 1, 2, 3, 4, 5, 6, 7, 8, 9, 10, 11, 12, 13] [(y, .inr (4, [.int (nI (lm_rf true false)), .ref acd, .ref akd, .ref act, .int (nI u), .ref ark, .ref arr, .int z, .int kk, .long kc, .ref ali, .int mn, .ref ala, .ref anc, .ref ank, .ref ant, .int nx, .ref aag, .ref abk, .ref atd, .ref ase])), (acd, aI K 120 cd), (akd, aI K 120 kd), (act, aJ K 120 ct), (ark, aI K 10 rk1), (arr, aJ K 10 rr1), (ali, aI K 120 fl), (ala, aI K 120 fla), (anc, aI K 120 nc), (ank, aI K 120 nk), (ant, aJ K 120 nt), (aag, aI K 120 fag), (abk, aI K 120 fbk), (atd, aI K 120 ftd), (ase, aZ K 120 fse)] (by decide) rfl ?_
    refine lx_st (a' := 0) (b' := 0) [.int (bI true)] rfl rfl rfl ?_
    refine lx_if_eq F 35 dX4_value_30 rfl (fun h => absurd h (by decide)) (fun _ => ?_)
    refine lx_lconst F dX4_value_33 kl_0 ?_
    exact lx_lret F hR dX4_value_34 ⟨by rw [if_pos hnr], by rw [show lm_qv r (c, w, u, rt, z) = (1, (c, w, u, rt, z)) by unfold lm_qv; rw [if_pos hnr]]; exact ⟨_, _, _, _, _, _, _, _, _, _, _, _, _, _, _, _, _, _, _, _, _, _, _, _, _, _, _, _, _, _, _, _, hh, hro, rfl⟩⟩

set_option maxHeartbeats 4000000 in
set_option maxRecDepth 100000 in
theorem zR_same (l : Launch) (K : lm_G) (y : Nat) (c : Nat → Nat) (w : Nat → lm_V) (u : Nat) (rt : Nat → lm_V) (z : Int32) (hst : lm_st c w u rt) (th : Int32) (W : va_W) (hW : lm_mod K y (c, w, u, rt, z) th W) (r f : Int32) : lm_C l K mX4_same (rk 3) [.ref y, .int r, .int f] W (fun v9 w9 => v9 = some (.int (if (lm_none r || lm_none f) = true then nI 0 else bI (lm_same w (rt (lm_ix r)) (rt (lm_ix f))))) ∧ lm_mod K y (lm_q2 r f (c, w, u, rt, z)).2 (nI (lm_q2 r f (c, w, u, rt, z)).1) w9) := by
  obtain ⟨acd, akd, act, ark, arr, ali, ala, anc, ank, ant, aag, abk, atd, ase, kk, kc, mn, nx, cd, kd, ct, rk1, rr1, fl, fla, nc, nk, nt, fag, fbk, ftd, fse, hh, hro, rfl⟩ := hW
  have hh : lm_mf cd kd ct c w u := hh
  have hro : ∀ r, r < 10 → rk1 r = nI (rt r).1 ∧ rr1 r = jI (rt r).2 := hro
  have hw := hst.1
  have hr9 := hst.2
  have hu := hw.1
  refine lx_met RX4 pn_X4 rfl (Nat.le_of_ble_eq_true rfl) (fun E hE hnm F hR => ?_)
  have F : lx_F K 3 E cX4_same RX4 (some .boolean) (rk 3) := F
  show lx_W K 3 E 0 0 0 [(0, .ref y), (1, .int r), (2, .int f)] [] [(y, .inr (4, [.int th, .ref acd, .ref akd, .ref act, .int (nI u), .ref ark, .ref arr, .int z, .int kk, .long kc, .ref ali, .int mn, .ref ala, .ref anc, .ref ank, .ref ant, .int nx, .ref aag, .ref abk, .ref atd, .ref ase])), (acd, aI K 120 cd), (akd, aI K 120 kd), (act, aJ K 120 ct), (ark, aI K 10 rk1), (arr, aJ K 10 rr1), (ali, aI K 120 fl), (ala, aI K 120 fla), (anc, aI K 120 nc), (ank, aI K 120 nk), (ant, aJ K 120 nt), (aag, aI K 120 fag), (abk, aI K 120 fbk), (atd, aI K 120 ftd), (ase, aZ K 120 fse)]
  cases hnr : lm_none r
  · skip
    obtain ⟨k, hk, rfl⟩ := lm_none_f hnr
    cases hnf : lm_none f
    · skip
      obtain ⟨j, hj, rfl⟩ := lm_none_f hnf
      refine lx_aload_n F dX4_same_0 0 rfl ?_
      refine lx_iload_n F dX4_same_1 1 rfl ?_
      refine lx_cs F (zr_none2 (xl E) K (nI k) false (lm_none_n hk)) cs_X4_102 [] [0, 1, 2, 3, 4, 5, 6, 7, 8, 9, 10, 11, 12, 13, 14] [(y, .inr (4, [.int th, .ref acd, .ref akd, .ref act, .int (nI u), .ref ark, .ref arr, .int z, .int kk, .long kc, .ref ali, .int mn, .ref ala, .ref anc, .ref ank, .ref ant, .int nx, .ref aag, .ref abk, .ref atd, .ref ase])), (acd, aI K 120 cd), (akd, aI K 120 kd), (act, aJ K 120 ct), (ark, aI K 10 rk1), (arr, aJ K 10 rr1), (ali, aI K 120 fl), (ala, aI K 120 fla), (anc, aI K 120 nc), (ank, aI K 120 nk), (ant, aJ K 120 nt), (aag, aI K 120 fag), (abk, aI K 120 fbk), (atd, aI K 120 ftd), (ase, aZ K 120 fse)] rfl rfl (by decide) rfl (st := [.ref y]) rfl (Nat.le_of_ble_eq_true rfl) (by decide) ⟨by decide, by decide⟩ dX4_same_2 (fun v9 w9 h9 => ?_)
      obtain ⟨rfl, rfl⟩ := h9
      refine lx_perm [0, 1, 2, 3, 4, 5, 6, 7, 8, 9, 10, 11, 12, 13, 14] [(y, .inr (4, [.int th, .ref acd, .ref akd, .ref act, .int (nI u), .ref ark, .ref arr, .int z, .int kk, .long kc, .ref ali, .int mn, .ref ala, .ref anc, .ref ank, .ref ant, .int nx, .ref aag, .ref abk, .ref atd, .ref ase])), (acd, aI K 120 cd), (akd, aI K 120 kd), (act, aJ K 120 ct), (ark, aI K 10 rk1), (arr, aJ K 10 rr1), (ali, aI K 120 fl), (ala, aI K 120 fla), (anc, aI K 120 nc), (ank, aI K 120 nk), (ant, aJ K 120 nt), (aag, aI K 120 fag), (abk, aI K 120 fbk), (atd, aI K 120 ftd), (ase, aZ K 120 fse)] (by decide) rfl ?_
      refine lx_st (a' := 0) (b' := 0) [.int (bI false), .ref y] rfl rfl rfl ?_
      refine lx_if_ne F 15 dX4_same_5 rfl (fun h => absurd (by decide) h) (fun _ => ?_)
      refine lx_iload_n F dX4_same_8 2 rfl ?_
      refine lx_cs F (zr_none2 (xl E) K (nI j) false (lm_none_n hj)) cs_X4_102 [] [0, 1, 2, 3, 4, 5, 6, 7, 8, 9, 10, 11, 12, 13, 14] [(y, .inr (4, [.int th, .ref acd, .ref akd, .ref act, .int (nI u), .ref ark, .ref arr, .int z, .int kk, .long kc, .ref ali, .int mn, .ref ala, .ref anc, .ref ank, .ref ant, .int nx, .ref aag, .ref abk, .ref atd, .ref ase])), (acd, aI K 120 cd), (akd, aI K 120 kd), (act, aJ K 120 ct), (ark, aI K 10 rk1), (arr, aJ K 10 rr1), (ali, aI K 120 fl), (ala, aI K 120 fla), (anc, aI K 120 nc), (ank, aI K 120 nk), (ant, aJ K 120 nt), (aag, aI K 120 fag), (abk, aI K 120 fbk), (atd, aI K 120 ftd), (ase, aZ K 120 fse)] rfl rfl (by decide) rfl (st := [.ref y]) rfl (Nat.le_of_ble_eq_true rfl) (by decide) ⟨by decide, by decide⟩ dX4_same_9 (fun v9 w9 h9 => ?_)
      obtain ⟨rfl, rfl⟩ := h9
      refine lx_perm [0, 1, 2, 3, 4, 5, 6, 7, 8, 9, 10, 11, 12, 13, 14] [(y, .inr (4, [.int th, .ref acd, .ref akd, .ref act, .int (nI u), .ref ark, .ref arr, .int z, .int kk, .long kc, .ref ali, .int mn, .ref ala, .ref anc, .ref ank, .ref ant, .int nx, .ref aag, .ref abk, .ref atd, .ref ase])), (acd, aI K 120 cd), (akd, aI K 120 kd), (act, aJ K 120 ct), (ark, aI K 10 rk1), (arr, aJ K 10 rr1), (ali, aI K 120 fl), (ala, aI K 120 fla), (anc, aI K 120 nc), (ank, aI K 120 nk), (ant, aJ K 120 nt), (aag, aI K 120 fag), (abk, aI K 120 fbk), (atd, aI K 120 ftd), (ase, aZ K 120 fse)] (by decide) rfl ?_
      refine lx_st (a' := 0) (b' := 0) [.int (bI false), .ref y] rfl rfl rfl ?_
      refine lx_if_eq F 19 dX4_same_12 rfl (fun _ => ?_) (fun h => absurd (by decide) h)
      refine lx_iconst F dX4_same_19 kc_0 ?_
      refine lx_iconst F dX4_same_20 kc_0 ?_
      refine lx_cv F (zr_refuse (xl E) K y acd akd act ark arr ali ala anc ank ant aag abk atd ase th z kk kc mn nx (nI u) false false) cv_X4_110 0 rfl rfl [0] [1, 2, 3, 4, 5, 6, 7, 8, 9, 10, 11, 12, 13, 14] [(acd, aI K 120 cd), (akd, aI K 120 kd), (act, aJ K 120 ct), (ark, aI K 10 rk1), (arr, aJ K 10 rr1), (ali, aI K 120 fl), (ala, aI K 120 fla), (anc, aI K 120 nc), (ank, aI K 120 nk), (ant, aJ K 120 nt), (aag, aI K 120 fag), (abk, aI K 120 fbk), (atd, aI K 120 ftd), (ase, aZ K 120 fse)] rfl rfl (by decide) rfl (st := []) rfl (Nat.le_of_ble_eq_true rfl) (by decide) ⟨by decide, by decide⟩ dX4_same_21 (fun v9 w9 h9 => ?_)
      obtain ⟨rfl, rfl⟩ := h9
      refine lx_perm [14, 0, 1, 2, 3, 4, 5, 6, 7, 8, 9, 10, 11, 12, 13] [(y, .inr (4, [.int (nI (lm_rf false false)), .ref acd, .ref akd, .ref act, .int (nI u), .ref ark, .ref arr, .int z, .int kk, .long kc, .ref ali, .int mn, .ref ala, .ref anc, .ref ank, .ref ant, .int nx, .ref aag, .ref abk, .ref atd, .ref ase])), (acd, aI K 120 cd), (akd, aI K 120 kd), (act, aJ K 120 ct), (ark, aI K 10 rk1), (arr, aJ K 10 rr1), (ali, aI K 120 fl), (ala, aI K 120 fla), (anc, aI K 120 nc), (ank, aI K 120 nk), (ant, aJ K 120 nt), (aag, aI K 120 fag), (abk, aI K 120 fbk), (atd, aI K 120 ftd), (ase, aZ K 120 fse)] (by decide) rfl ?_
      refine lx_st (a' := 0) (b' := 0) [.int (bI false)] rfl rfl rfl ?_
      refine lx_if_eq F 29 dX4_same_24 rfl (fun _ => ?_) (fun h => absurd (by decide) h)
      refine lx_aload_n F dX4_same_29 0 rfl ?_
      refine lx_aload_n F dX4_same_30 0 rfl ?_
      refine gf_X4_20 F 0 rfl rfl dX4_same_31 ?_
      refine lx_iload_n F dX4_same_34 1 rfl ?_
      refine lx_iald F 4 k dX4_same_35 rfl (by omega) (by decide) ?_
      rw [(hro k hk).1]
      refine lx_aload_n F dX4_same_36 0 rfl ?_
      refine gf_X4_23 F 0 rfl rfl dX4_same_37 ?_
      refine lx_iload_n F dX4_same_40 1 rfl ?_
      refine lx_lald F 5 k dX4_same_41 rfl (by omega) (by decide) ?_
      rw [(hro k hk).2]
      refine lx_aload_n F dX4_same_42 0 rfl ?_
      refine gf_X4_20 F 0 rfl rfl dX4_same_43 ?_
      refine lx_iload_n F dX4_same_46 2 rfl ?_
      refine lx_iald F 4 j dX4_same_47 rfl (by omega) (by decide) ?_
      rw [(hro j hj).1]
      refine lx_aload_n F dX4_same_48 0 rfl ?_
      refine gf_X4_23 F 0 rfl rfl dX4_same_49 ?_
      refine lx_iload_n F dX4_same_52 2 rfl ?_
      refine lx_lald F 5 j dX4_same_53 rfl (by omega) (by decide) ?_
      rw [(hro j hj).2]
      refine lx_cv F (zr_isSame (xl E) K y acd akd act ark arr ali ala anc ank ant aag abk atd ase (nI (lm_rf false false)) z kk kc mn nx cd kd ct c w u hw hh (rt k) (rt j) (hr9 k hk) (hr9 j hj)) cv_X4_128 0 rfl rfl [0, 2, 3] [1, 4, 5, 6, 7, 8, 9, 10, 11, 12, 13, 14] [(acd, aI K 120 cd), (ark, aI K 10 rk1), (arr, aJ K 10 rr1), (ali, aI K 120 fl), (ala, aI K 120 fla), (anc, aI K 120 nc), (ank, aI K 120 nk), (ant, aJ K 120 nt), (aag, aI K 120 fag), (abk, aI K 120 fbk), (atd, aI K 120 ftd), (ase, aZ K 120 fse)] rfl rfl (by decide) rfl (st := []) rfl (Nat.le_of_ble_eq_true rfl) (by decide) ⟨by decide, by decide⟩ dX4_same_54 (fun v9 w9 h9 => ?_)
      obtain ⟨rfl, rfl⟩ := h9
      refine lx_perm [12, 0, 13, 14, 1, 2, 3, 4, 5, 6, 7, 8, 9, 10, 11] [(y, .inr (4, [.int (nI (lm_rf false false)), .ref acd, .ref akd, .ref act, .int (nI u), .ref ark, .ref arr, .int z, .int kk, .long kc, .ref ali, .int mn, .ref ala, .ref anc, .ref ank, .ref ant, .int nx, .ref aag, .ref abk, .ref atd, .ref ase])), (acd, aI K 120 cd), (akd, aI K 120 kd), (act, aJ K 120 ct), (ark, aI K 10 rk1), (arr, aJ K 10 rr1), (ali, aI K 120 fl), (ala, aI K 120 fla), (anc, aI K 120 nc), (ank, aI K 120 nk), (ant, aJ K 120 nt), (aag, aI K 120 fag), (abk, aI K 120 fbk), (atd, aI K 120 ftd), (ase, aZ K 120 fse)] (by decide) rfl ?_
      refine lx_st (a' := 0) (b' := 0) [.int (bI (lm_same w (rt k) (rt j)))] rfl rfl rfl ?_
      exact lx_zret F hR (bI_nar _) dX4_same_57 ⟨by rw [lm_none_n hk, lm_none_n hj, if_neg (by decide), lm_ix_n hk, lm_ix_n hj], by rw [show lm_q2 (nI k) (nI j) (c, w, u, rt, z) = (0, (c, w, u, rt, z)) by unfold lm_q2; rw [lm_none_n hk, lm_none_n hj]; rfl]; exact ⟨_, _, _, _, _, _, _, _, _, _, _, _, _, _, _, _, _, _, _, _, _, _, _, _, _, _, _, _, _, _, _, _, hh, hro, rfl⟩⟩
    · skip
      refine lx_aload_n F dX4_same_0 0 rfl ?_
      refine lx_iload_n F dX4_same_1 1 rfl ?_
      refine lx_cs F (zr_none2 (xl E) K (nI k) false (lm_none_n hk)) cs_X4_102 [] [0, 1, 2, 3, 4, 5, 6, 7, 8, 9, 10, 11, 12, 13, 14] [(y, .inr (4, [.int th, .ref acd, .ref akd, .ref act, .int (nI u), .ref ark, .ref arr, .int z, .int kk, .long kc, .ref ali, .int mn, .ref ala, .ref anc, .ref ank, .ref ant, .int nx, .ref aag, .ref abk, .ref atd, .ref ase])), (acd, aI K 120 cd), (akd, aI K 120 kd), (act, aJ K 120 ct), (ark, aI K 10 rk1), (arr, aJ K 10 rr1), (ali, aI K 120 fl), (ala, aI K 120 fla), (anc, aI K 120 nc), (ank, aI K 120 nk), (ant, aJ K 120 nt), (aag, aI K 120 fag), (abk, aI K 120 fbk), (atd, aI K 120 ftd), (ase, aZ K 120 fse)] rfl rfl (by decide) rfl (st := [.ref y]) rfl (Nat.le_of_ble_eq_true rfl) (by decide) ⟨by decide, by decide⟩ dX4_same_2 (fun v9 w9 h9 => ?_)
      obtain ⟨rfl, rfl⟩ := h9
      refine lx_perm [0, 1, 2, 3, 4, 5, 6, 7, 8, 9, 10, 11, 12, 13, 14] [(y, .inr (4, [.int th, .ref acd, .ref akd, .ref act, .int (nI u), .ref ark, .ref arr, .int z, .int kk, .long kc, .ref ali, .int mn, .ref ala, .ref anc, .ref ank, .ref ant, .int nx, .ref aag, .ref abk, .ref atd, .ref ase])), (acd, aI K 120 cd), (akd, aI K 120 kd), (act, aJ K 120 ct), (ark, aI K 10 rk1), (arr, aJ K 10 rr1), (ali, aI K 120 fl), (ala, aI K 120 fla), (anc, aI K 120 nc), (ank, aI K 120 nk), (ant, aJ K 120 nt), (aag, aI K 120 fag), (abk, aI K 120 fbk), (atd, aI K 120 ftd), (ase, aZ K 120 fse)] (by decide) rfl ?_
      refine lx_st (a' := 0) (b' := 0) [.int (bI false), .ref y] rfl rfl rfl ?_
      refine lx_if_ne F 15 dX4_same_5 rfl (fun h => absurd (by decide) h) (fun _ => ?_)
      refine lx_iload_n F dX4_same_8 2 rfl ?_
      refine lx_cs F (zr_none2 (xl E) K f true hnf) cs_X4_102 [] [0, 1, 2, 3, 4, 5, 6, 7, 8, 9, 10, 11, 12, 13, 14] [(y, .inr (4, [.int th, .ref acd, .ref akd, .ref act, .int (nI u), .ref ark, .ref arr, .int z, .int kk, .long kc, .ref ali, .int mn, .ref ala, .ref anc, .ref ank, .ref ant, .int nx, .ref aag, .ref abk, .ref atd, .ref ase])), (acd, aI K 120 cd), (akd, aI K 120 kd), (act, aJ K 120 ct), (ark, aI K 10 rk1), (arr, aJ K 10 rr1), (ali, aI K 120 fl), (ala, aI K 120 fla), (anc, aI K 120 nc), (ank, aI K 120 nk), (ant, aJ K 120 nt), (aag, aI K 120 fag), (abk, aI K 120 fbk), (atd, aI K 120 ftd), (ase, aZ K 120 fse)] rfl rfl (by decide) rfl (st := [.ref y]) rfl (Nat.le_of_ble_eq_true rfl) (by decide) ⟨by decide, by decide⟩ dX4_same_9 (fun v9 w9 h9 => ?_)
      obtain ⟨rfl, rfl⟩ := h9
      refine lx_perm [0, 1, 2, 3, 4, 5, 6, 7, 8, 9, 10, 11, 12, 13, 14] [(y, .inr (4, [.int th, .ref acd, .ref akd, .ref act, .int (nI u), .ref ark, .ref arr, .int z, .int kk, .long kc, .ref ali, .int mn, .ref ala, .ref anc, .ref ank, .ref ant, .int nx, .ref aag, .ref abk, .ref atd, .ref ase])), (acd, aI K 120 cd), (akd, aI K 120 kd), (act, aJ K 120 ct), (ark, aI K 10 rk1), (arr, aJ K 10 rr1), (ali, aI K 120 fl), (ala, aI K 120 fla), (anc, aI K 120 nc), (ank, aI K 120 nk), (ant, aJ K 120 nt), (aag, aI K 120 fag), (abk, aI K 120 fbk), (atd, aI K 120 ftd), (ase, aZ K 120 fse)] (by decide) rfl ?_
      refine lx_st (a' := 0) (b' := 0) [.int (bI true), .ref y] rfl rfl rfl ?_
      refine lx_if_eq F 19 dX4_same_12 rfl (fun h => absurd h (by decide)) (fun _ => ?_)
      refine lx_iconst F dX4_same_15 kc_1 ?_
      refine lx_goto F 20 dX4_same_16 rfl ?_
      refine lx_iconst F dX4_same_20 kc_0 ?_
      refine lx_cv F (zr_refuse (xl E) K y acd akd act ark arr ali ala anc ank ant aag abk atd ase th z kk kc mn nx (nI u) true false) cv_X4_110 0 rfl rfl [0] [1, 2, 3, 4, 5, 6, 7, 8, 9, 10, 11, 12, 13, 14] [(acd, aI K 120 cd), (akd, aI K 120 kd), (act, aJ K 120 ct), (ark, aI K 10 rk1), (arr, aJ K 10 rr1), (ali, aI K 120 fl), (ala, aI K 120 fla), (anc, aI K 120 nc), (ank, aI K 120 nk), (ant, aJ K 120 nt), (aag, aI K 120 fag), (abk, aI K 120 fbk), (atd, aI K 120 ftd), (ase, aZ K 120 fse)] rfl rfl (by decide) rfl (st := []) rfl (Nat.le_of_ble_eq_true rfl) (by decide) ⟨by decide, by decide⟩ dX4_same_21 (fun v9 w9 h9 => ?_)
      obtain ⟨rfl, rfl⟩ := h9
      refine lx_perm [14, 0, 1, 2, 3, 4, 5, 6, 7, 8, 9, 10, 11, 12, 13] [(y, .inr (4, [.int (nI (lm_rf true false)), .ref acd, .ref akd, .ref act, .int (nI u), .ref ark, .ref arr, .int z, .int kk, .long kc, .ref ali, .int mn, .ref ala, .ref anc, .ref ank, .ref ant, .int nx, .ref aag, .ref abk, .ref atd, .ref ase])), (acd, aI K 120 cd), (akd, aI K 120 kd), (act, aJ K 120 ct), (ark, aI K 10 rk1), (arr, aJ K 10 rr1), (ali, aI K 120 fl), (ala, aI K 120 fla), (anc, aI K 120 nc), (ank, aI K 120 nk), (ant, aJ K 120 nt), (aag, aI K 120 fag), (abk, aI K 120 fbk), (atd, aI K 120 ftd), (ase, aZ K 120 fse)] (by decide) rfl ?_
      refine lx_st (a' := 0) (b' := 0) [.int (bI true)] rfl rfl rfl ?_
      refine lx_if_eq F 29 dX4_same_24 rfl (fun h => absurd h (by decide)) (fun _ => ?_)
      refine lx_iconst F dX4_same_27 kc_0 ?_
      exact lx_zret F hR (by first | rfl | decide) dX4_same_28 ⟨by first | rw [hnr]; rfl | rw [lm_none_n hk, hnf]; rfl, by rw [show lm_q2 (nI k) f (c, w, u, rt, z) = (1, (c, w, u, rt, z)) by unfold lm_q2; rw [lm_none_n hk, hnf]; rfl]; exact ⟨_, _, _, _, _, _, _, _, _, _, _, _, _, _, _, _, _, _, _, _, _, _, _, _, _, _, _, _, _, _, _, _, hh, hro, rfl⟩⟩
  · skip
    refine lx_aload_n F dX4_same_0 0 rfl ?_
    refine lx_iload_n F dX4_same_1 1 rfl ?_
    refine lx_cs F (zr_none2 (xl E) K r true hnr) cs_X4_102 [] [0, 1, 2, 3, 4, 5, 6, 7, 8, 9, 10, 11, 12, 13, 14] [(y, .inr (4, [.int th, .ref acd, .ref akd, .ref act, .int (nI u), .ref ark, .ref arr, .int z, .int kk, .long kc, .ref ali, .int mn, .ref ala, .ref anc, .ref ank, .ref ant, .int nx, .ref aag, .ref abk, .ref atd, .ref ase])), (acd, aI K 120 cd), (akd, aI K 120 kd), (act, aJ K 120 ct), (ark, aI K 10 rk1), (arr, aJ K 10 rr1), (ali, aI K 120 fl), (ala, aI K 120 fla), (anc, aI K 120 nc), (ank, aI K 120 nk), (ant, aJ K 120 nt), (aag, aI K 120 fag), (abk, aI K 120 fbk), (atd, aI K 120 ftd), (ase, aZ K 120 fse)] rfl rfl (by decide) rfl (st := [.ref y]) rfl (Nat.le_of_ble_eq_true rfl) (by decide) ⟨by decide, by decide⟩ dX4_same_2 (fun v9 w9 h9 => ?_)
    obtain ⟨rfl, rfl⟩ := h9
    refine lx_perm [0, 1, 2, 3, 4, 5, 6, 7, 8, 9, 10, 11, 12, 13, 14] [(y, .inr (4, [.int th, .ref acd, .ref akd, .ref act, .int (nI u), .ref ark, .ref arr, .int z, .int kk, .long kc, .ref ali, .int mn, .ref ala, .ref anc, .ref ank, .ref ant, .int nx, .ref aag, .ref abk, .ref atd, .ref ase])), (acd, aI K 120 cd), (akd, aI K 120 kd), (act, aJ K 120 ct), (ark, aI K 10 rk1), (arr, aJ K 10 rr1), (ali, aI K 120 fl), (ala, aI K 120 fla), (anc, aI K 120 nc), (ank, aI K 120 nk), (ant, aJ K 120 nt), (aag, aI K 120 fag), (abk, aI K 120 fbk), (atd, aI K 120 ftd), (ase, aZ K 120 fse)] (by decide) rfl ?_
    refine lx_st (a' := 0) (b' := 0) [.int (bI true), .ref y] rfl rfl rfl ?_
    refine lx_if_ne F 15 dX4_same_5 rfl (fun _ => ?_) (fun h => absurd h (by decide))
    refine lx_iconst F dX4_same_15 kc_1 ?_
    refine lx_goto F 20 dX4_same_16 rfl ?_
    refine lx_iconst F dX4_same_20 kc_0 ?_
    refine lx_cv F (zr_refuse (xl E) K y acd akd act ark arr ali ala anc ank ant aag abk atd ase th z kk kc mn nx (nI u) true false) cv_X4_110 0 rfl rfl [0] [1, 2, 3, 4, 5, 6, 7, 8, 9, 10, 11, 12, 13, 14] [(acd, aI K 120 cd), (akd, aI K 120 kd), (act, aJ K 120 ct), (ark, aI K 10 rk1), (arr, aJ K 10 rr1), (ali, aI K 120 fl), (ala, aI K 120 fla), (anc, aI K 120 nc), (ank, aI K 120 nk), (ant, aJ K 120 nt), (aag, aI K 120 fag), (abk, aI K 120 fbk), (atd, aI K 120 ftd), (ase, aZ K 120 fse)] rfl rfl (by decide) rfl (st := []) rfl (Nat.le_of_ble_eq_true rfl) (by decide) ⟨by decide, by decide⟩ dX4_same_21 (fun v9 w9 h9 => ?_)
    obtain ⟨rfl, rfl⟩ := h9
    refine lx_perm [14, 0, 1, 2, 3, 4, 5, 6, 7, 8, 9, 10, 11, 12, 13] [(y, .inr (4, [.int (nI (lm_rf true false)), .ref acd, .ref akd, .ref act, .int (nI u), .ref ark, .ref arr, .int z, .int kk, .long kc, .ref ali, .int mn, .ref ala, .ref anc, .ref ank, .ref ant, .int nx, .ref aag, .ref abk, .ref atd, .ref ase])), (acd, aI K 120 cd), (akd, aI K 120 kd), (act, aJ K 120 ct), (ark, aI K 10 rk1), (arr, aJ K 10 rr1), (ali, aI K 120 fl), (ala, aI K 120 fla), (anc, aI K 120 nc), (ank, aI K 120 nk), (ant, aJ K 120 nt), (aag, aI K 120 fag), (abk, aI K 120 fbk), (atd, aI K 120 ftd), (ase, aZ K 120 fse)] (by decide) rfl ?_
    refine lx_st (a' := 0) (b' := 0) [.int (bI true)] rfl rfl rfl ?_
    refine lx_if_eq F 29 dX4_same_24 rfl (fun h => absurd h (by decide)) (fun _ => ?_)
    refine lx_iconst F dX4_same_27 kc_0 ?_
    exact lx_zret F hR (by first | rfl | decide) dX4_same_28 ⟨by first | rw [hnr]; rfl | rw [lm_none_n hk, hnf]; rfl, by rw [show lm_q2 r f (c, w, u, rt, z) = (1, (c, w, u, rt, z)) by unfold lm_q2; rw [hnr]; rfl]; exact ⟨_, _, _, _, _, _, _, _, _, _, _, _, _, _, _, _, _, _, _, _, _, _, _, _, _, _, _, _, _, _, _, _, hh, hro, rfl⟩⟩

set_option maxHeartbeats 4000000 in
set_option maxRecDepth 100000 in
theorem zR_collect (l : Launch) (K : lm_G) (y : Nat) (c : Nat → Nat) (w : Nat → lm_V) (u : Nat) (rt : Nat → lm_V) (z : Int32) (hst : lm_st c w u rt) (th : Int32) (W : va_W) (hW : lm_mod K y (c, w, u, rt, z) th W)  : lm_C l K mX4_collect (rk 4) [.ref y] W (fun v9 w9 => v9 = some (.int (nI (lm_gu c w rt))) ∧ lm_mod K y (lm_qc (c, w, u, rt, z)).2 (nI (lm_qc (c, w, u, rt, z)).1) w9) := by
  obtain ⟨acd, akd, act, ark, arr, ali, ala, anc, ank, ant, aag, abk, atd, ase, kk, kc, mn, nx, cd, kd, ct, rk1, rr1, fl, fla, nc, nk, nt, fag, fbk, ftd, fse, hh, hro, rfl⟩ := hW
  have hh : lm_mf cd kd ct c w u := hh
  have hro : ∀ r, r < 10 → rk1 r = nI (rt r).1 ∧ rr1 r = jI (rt r).2 := hro
  have hw := hst.1
  have hr9 := hst.2
  have hu := hw.1
  refine lx_met RX4 pn_X4 rfl (Nat.le_of_ble_eq_true rfl) (fun E hE hnm F hR => ?_)
  have F : lx_F K 1 E cX4_collect RX4 (some .int) (rk 4) := F
  show lx_W K 1 E 0 0 0 [(0, .ref y)] [] [(y, .inr (4, [.int th, .ref acd, .ref akd, .ref act, .int (nI u), .ref ark, .ref arr, .int z, .int kk, .long kc, .ref ali, .int mn, .ref ala, .ref anc, .ref ank, .ref ant, .int nx, .ref aag, .ref abk, .ref atd, .ref ase])), (acd, aI K 120 cd), (akd, aI K 120 kd), (act, aJ K 120 ct), (ark, aI K 10 rk1), (arr, aJ K 10 rr1), (ali, aI K 120 fl), (ala, aI K 120 fla), (anc, aI K 120 nc), (ank, aI K 120 nk), (ant, aJ K 120 nt), (aag, aI K 120 fag), (abk, aI K 120 fbk), (atd, aI K 120 ftd), (ase, aZ K 120 fse)]
  refine lx_aload_n F dX4_collect_0 0 rfl ?_
  refine lx_iconst F dX4_collect_1 kc_0 ?_
  refine pf_X4_54 F 0 [(y, .inr (4, [.int (nI 0), .ref acd, .ref akd, .ref act, .int (nI u), .ref ark, .ref arr, .int z, .int kk, .long kc, .ref ali, .int mn, .ref ala, .ref anc, .ref ank, .ref ant, .int nx, .ref aag, .ref abk, .ref atd, .ref ase])), (acd, aI K 120 cd), (akd, aI K 120 kd), (act, aJ K 120 ct), (ark, aI K 10 rk1), (arr, aJ K 10 rr1), (ali, aI K 120 fl), (ala, aI K 120 fla), (anc, aI K 120 nc), (ank, aI K 120 nk), (ant, aJ K 120 nt), (aag, aI K 120 fag), (abk, aI K 120 fbk), (atd, aI K 120 ftd), (ase, aZ K 120 fse)] rfl rfl dX4_collect_2 rfl ?_
  refine lx_aload_n F dX4_collect_5 0 rfl ?_
  refine lx_cv F (zr_gather (xl E) K y acd akd act ark arr ali ala anc ank ant aag abk atd ase (nI 0) z kk kc mn nx cd kd ct rk1 rr1 fl fla nc nk nt fse c w u rt hst hh hro) cv_X4_76 0 rfl rfl [0, 1, 2, 3, 4, 5, 6, 7, 8, 9, 10, 14] [11, 12, 13] [(aag, aI K 120 fag), (abk, aI K 120 fbk), (atd, aI K 120 ftd)] rfl rfl (by decide) rfl (st := []) rfl (Nat.le_of_ble_eq_true rfl) (by decide) ⟨by decide, by decide⟩ dX4_collect_6 (fun v9 w9 h9 => ?_)
  obtain ⟨rfl, cd2, kd2, ct2, rr2, fl2, fla2, nc2, nk2, nt2, fse2, kk2, kc2, mn2, nx2, hh2, hro2, rfl⟩ := h9
  refine lx_perm [3, 4, 5, 6, 7, 8, 9, 10, 11, 12, 13, 0, 1, 2, 14] [(y, .inr (4, [.int (nI 0), .ref acd, .ref akd, .ref act, .int (nI (lm_gu c w rt)), .ref ark, .ref arr, .int (z + nI 1), .int kk2, .long kc2, .ref ali, .int mn2, .ref ala, .ref anc, .ref ank, .ref ant, .int nx2, .ref aag, .ref abk, .ref atd, .ref ase])), (acd, aI K 120 cd2), (akd, aI K 120 kd2), (act, aJ K 120 ct2), (ark, aI K 10 rk1), (arr, aJ K 10 rr2), (ali, aI K 120 fl2), (ala, aI K 120 fla2), (anc, aI K 120 nc2), (ank, aI K 120 nk2), (ant, aJ K 120 nt2), (aag, aI K 120 fag), (abk, aI K 120 fbk), (atd, aI K 120 ftd), (ase, aZ K 120 fse2)] (by decide) rfl ?_
  refine lx_st (a' := 0) (b' := 0) [] rfl rfl rfl ?_
  refine lx_aload_n F dX4_collect_9 0 rfl ?_
  refine gf_X4_73 F 0 rfl rfl dX4_collect_10 ?_
  exact lx_iret F hR dX4_collect_13 ⟨rfl, by rw [show lm_qc (c, w, u, rt, z) = (0, lm_col (c, w, u, rt, z)) from rfl]; exact ⟨_, _, _, _, _, _, _, _, _, _, _, _, _, _, _, _, _, _, _, _, _, _, _, _, _, _, _, _, _, _, _, _, hh2, hro2, rfl⟩⟩

set_option maxHeartbeats 4000000 in
set_option maxRecDepth 100000 in
theorem zR_about (l : Launch) (K : lm_G) (y : Nat) (c : Nat → Nat) (w : Nat → lm_V) (u : Nat) (rt : Nat → lm_V) (z : Int32) (hst : lm_st c w u rt) (th : Int32) (W : va_W) (hW : lm_mod K y (c, w, u, rt, z) th W) (what : Int32) : lm_C l K mX4_about (rk 0) [.ref y, .int what] W (fun v9 w9 => v9 = some (.int (lm_ab w u z what)) ∧ lm_mod K y (lm_q0 (c, w, u, rt, z)).2 (nI (lm_q0 (c, w, u, rt, z)).1) w9) := by
  obtain ⟨acd, akd, act, ark, arr, ali, ala, anc, ank, ant, aag, abk, atd, ase, kk, kc, mn, nx, cd, kd, ct, rk1, rr1, fl, fla, nc, nk, nt, fag, fbk, ftd, fse, hh, hro, rfl⟩ := hW
  have hh : lm_mf cd kd ct c w u := hh
  have hro : ∀ r, r < 10 → rk1 r = nI (rt r).1 ∧ rr1 r = jI (rt r).2 := hro
  have hw := hst.1
  have hr9 := hst.2
  have hu := hw.1
  refine lx_met RX4 pn_X4 rfl (Nat.le_of_ble_eq_true rfl) (fun E hE hnm F hR => ?_)
  have F : lx_F K 4 E cX4_about RX4 (some .int) (rk 0) := F
  show lx_W K 4 E 0 0 0 [(0, .ref y), (1, .int what)] [] [(y, .inr (4, [.int th, .ref acd, .ref akd, .ref act, .int (nI u), .ref ark, .ref arr, .int z, .int kk, .long kc, .ref ali, .int mn, .ref ala, .ref anc, .ref ank, .ref ant, .int nx, .ref aag, .ref abk, .ref atd, .ref ase])), (acd, aI K 120 cd), (akd, aI K 120 kd), (act, aJ K 120 ct), (ark, aI K 10 rk1), (arr, aJ K 10 rr1), (ali, aI K 120 fl), (ala, aI K 120 fla), (anc, aI K 120 nc), (ank, aI K 120 nk), (ant, aJ K 120 nt), (aag, aI K 120 fag), (abk, aI K 120 fbk), (atd, aI K 120 ftd), (ase, aZ K 120 fse)]
  refine lx_aload_n F dX4_about_0 0 rfl ?_
  refine lx_iconst F dX4_about_1 kc_0 ?_
  refine pf_X4_54 F 0 [(y, .inr (4, [.int (nI 0), .ref acd, .ref akd, .ref act, .int (nI u), .ref ark, .ref arr, .int z, .int kk, .long kc, .ref ali, .int mn, .ref ala, .ref anc, .ref ank, .ref ant, .int nx, .ref aag, .ref abk, .ref atd, .ref ase])), (acd, aI K 120 cd), (akd, aI K 120 kd), (act, aJ K 120 ct), (ark, aI K 10 rk1), (arr, aJ K 10 rr1), (ali, aI K 120 fl), (ala, aI K 120 fla), (anc, aI K 120 nc), (ank, aI K 120 nk), (ant, aJ K 120 nt), (aag, aI K 120 fag), (abk, aI K 120 fbk), (atd, aI K 120 ftd), (ase, aZ K 120 fse)] rfl rfl dX4_about_2 rfl ?_
  refine lx_iconst F dX4_about_5 kc_0 ?_
  refine lx_istore_n F [(0, .ref y), (1, .int what), (2, .int (nI 0))] [1, 2, 0] dX4_about_6 rfl (by decide) ?_
  refine lx_iconst F dX4_about_7 kc_0 ?_
  refine lx_istore_n F [(0, .ref y), (1, .int what), (2, .int (nI 0)), (3, .int (nI 0))] [1, 2, 3, 0] dX4_about_8 rfl (by decide) ?_
  have loop : ∀ (n9 : Nat) (i m : Nat), i + n9 = u → m = lm_cnt w i → lx_W K 4 E 0 0 9 [(0, .ref y), (1, .int what), (2, .int (nI m)), (3, .int (nI i))] [] [(y, .inr (4, [.int (nI 0), .ref acd, .ref akd, .ref act, .int (nI u), .ref ark, .ref arr, .int z, .int kk, .long kc, .ref ali, .int mn, .ref ala, .ref anc, .ref ank, .ref ant, .int nx, .ref aag, .ref abk, .ref atd, .ref ase])), (acd, aI K 120 cd), (akd, aI K 120 kd), (act, aJ K 120 ct), (ark, aI K 10 rk1), (arr, aJ K 10 rr1), (ali, aI K 120 fl), (ala, aI K 120 fla), (anc, aI K 120 nc), (ank, aI K 120 nk), (ant, aJ K 120 nt), (aag, aI K 120 fag), (abk, aI K 120 fbk), (atd, aI K 120 ftd), (ase, aZ K 120 fse)] := by
    intro n9
    induction n9 with
    | zero =>
      intro i m hi hm
      have hle : m ≤ i := by rw [hm]; exact lm_cnt_le w i
      refine lx_iload_n F dX4_about_9 3 rfl ?_
      refine lx_aload_n F dX4_about_10 0 rfl ?_
      refine gf_X4_73 F 0 rfl rfl dX4_about_11 ?_
      refine lx_icmpN_ge F 41 (by omega) (by omega) dX4_about_14 rfl (fun _ => ?_) (fun h => absurd h (by omega))
      refine lx_iload_n F dX4_about_41 1 rfl ?_
      refine lx_if_ne F 52 dX4_about_42 rfl (fun h0 => ?_) (fun h0 => ?_)
      · skip
        refine lx_iload_n F dX4_about_52 1 rfl ?_
        refine lx_iconst F dX4_about_53 kc_1 ?_
        refine lx_icmp_ne F 61 dX4_about_54 rfl (fun h1 => ?_) (fun h1 => ?_)
        · skip
          refine lx_iload_n F dX4_about_61 1 rfl ?_
          refine lx_iconst F dX4_about_62 kc_2 ?_
          refine lx_icmp_ne F 73 dX4_about_63 rfl (fun h2 => ?_) (fun h2 => ?_)
          · skip
            refine lx_iconst F dX4_about_73 kc_m1 ?_
            exact lx_iret F hR dX4_about_74 ⟨by rw [lm_ab_e3 h0 h1 h2], by rw [show lm_q0 (c, w, u, rt, z) = (0, (c, w, u, rt, z)) from rfl]; exact ⟨_, _, _, _, _, _, _, _, _, _, _, _, _, _, _, _, _, _, _, _, _, _, _, _, _, _, _, _, _, _, _, _, hh, hro, rfl⟩⟩
          · skip
            refine lx_aload_n F dX4_about_66 0 rfl ?_
            refine gf_X4_93 F 0 rfl rfl dX4_about_67 ?_
            refine lx_goto F 74 dX4_about_70 rfl ?_
            exact lx_iret F hR dX4_about_74 ⟨by rw [lm_ab_e2 h2], by rw [show lm_q0 (c, w, u, rt, z) = (0, (c, w, u, rt, z)) from rfl]; exact ⟨_, _, _, _, _, _, _, _, _, _, _, _, _, _, _, _, _, _, _, _, _, _, _, _, _, _, _, _, _, _, _, _, hh, hro, rfl⟩⟩
        · skip
          refine lx_iload_n F dX4_about_57 2 rfl ?_
          refine lx_goto F 74 dX4_about_58 rfl ?_
          exact lx_iret F hR dX4_about_74 ⟨by rw [lm_ab_e1 h1, hm, show i = u by omega], by rw [show lm_q0 (c, w, u, rt, z) = (0, (c, w, u, rt, z)) from rfl]; exact ⟨_, _, _, _, _, _, _, _, _, _, _, _, _, _, _, _, _, _, _, _, _, _, _, _, _, _, _, _, _, _, _, _, hh, hro, rfl⟩⟩
      · skip
        refine lx_aload_n F dX4_about_45 0 rfl ?_
        refine gf_X4_73 F 0 rfl rfl dX4_about_46 ?_
        refine lx_goto F 74 dX4_about_49 rfl ?_
        exact lx_iret F hR dX4_about_74 ⟨by rw [lm_ab_e0 h0], by rw [show lm_q0 (c, w, u, rt, z) = (0, (c, w, u, rt, z)) from rfl]; exact ⟨_, _, _, _, _, _, _, _, _, _, _, _, _, _, _, _, _, _, _, _, _, _, _, _, _, _, _, _, _, _, _, _, hh, hro, rfl⟩⟩
    | succ n9 ih =>
      intro i m hi hm
      have hle : m ≤ i := by rw [hm]; exact lm_cnt_le w i
      refine lx_iload_n F dX4_about_9 3 rfl ?_
      refine lx_aload_n F dX4_about_10 0 rfl ?_
      refine gf_X4_73 F 0 rfl rfl dX4_about_11 ?_
      refine lx_icmpN_ge F 41 (by omega) (by omega) dX4_about_14 rfl (fun h => absurd h (by omega)) (fun _ => ?_)
      refine lx_iload_n F dX4_about_17 2 rfl ?_
      refine lx_aload_n F dX4_about_18 0 rfl ?_
      refine gf_X4_13 F 0 rfl rfl dX4_about_19 ?_
      refine lx_iload_n F dX4_about_22 3 rfl ?_
      have hk4 := lm_k4 hw (show i < u by omega)
      refine lx_iald F 2 i dX4_about_23 rfl (by omega) (by decide) ?_
      rw [(hh i (by omega)).2.1]
      refine lx_iconst F dX4_about_24 kc_3 ?_
      refine lx_icmpN_ne F 32 (by omega) (by omega) dX4_about_25 rfl (fun h3 => ?_) (fun h3 => ?_)
      · skip
        refine lx_iconst F dX4_about_32 kc_0 ?_
        refine lx_iadd F dX4_about_33 (nI_add _ _) ?_
        refine lx_istore_n F [(0, .ref y), (1, .int what), (2, .int (nI (m + 0))), (3, .int (nI i))] [1, 2, 0, 3] dX4_about_34 rfl (by decide) ?_
        refine lx_iinc F [(0, .ref y), (1, .int what), (2, .int (nI (m + 0))), (3, .int (nI (i + 1)))] 3 [1, 2, 3, 0] dX4_about_35 rfl (k_inc _) rfl (by decide) ?_
        refine lx_goto F 9 dX4_about_38 rfl ?_
        exact ih (i + 1) (m + 0) (by omega) (by rw [hm]; simp [lm_cnt, h3])
      · skip
        refine lx_iconst F dX4_about_28 kc_1 ?_
        refine lx_goto F 33 dX4_about_29 rfl ?_
        refine lx_iadd F dX4_about_33 (nI_add _ _) ?_
        refine lx_istore_n F [(0, .ref y), (1, .int what), (2, .int (nI (m + 1))), (3, .int (nI i))] [1, 2, 0, 3] dX4_about_34 rfl (by decide) ?_
        refine lx_iinc F [(0, .ref y), (1, .int what), (2, .int (nI (m + 1))), (3, .int (nI (i + 1)))] 3 [1, 2, 3, 0] dX4_about_35 rfl (k_inc _) rfl (by decide) ?_
        refine lx_goto F 9 dX4_about_38 rfl ?_
        exact ih (i + 1) (m + 1) (by omega) (by rw [hm]; simp [lm_cnt, h3])
  exact loop u 0 0 (by omega) rfl

set_option maxHeartbeats 4000000 in
set_option maxRecDepth 100000 in
theorem zR_word (l : Launch) (K : lm_G) (y : Nat) (c : Nat → Nat) (w : Nat → lm_V) (u : Nat) (rt : Nat → lm_V) (z : Int32) (hst : lm_st c w u rt) (th : Int32) (W : va_W) (hW : lm_mod K y (c, w, u, rt, z) th W) (p what : Int32) : lm_C l K mX4_word (rk 1) [.ref y, .int p, .int what] W (fun v9 w9 => v9 = some (.long (lm_wd c w u p what)) ∧ lm_mod K y (lm_qw p what (c, w, u, rt, z)).2 (nI (lm_qw p what (c, w, u, rt, z)).1) w9) := by
  obtain ⟨acd, akd, act, ark, arr, ali, ala, anc, ank, ant, aag, abk, atd, ase, kk, kc, mn, nx, cd, kd, ct, rk1, rr1, fl, fla, nc, nk, nt, fag, fbk, ftd, fse, hh, hro, rfl⟩ := hW
  have hh : lm_mf cd kd ct c w u := hh
  have hro : ∀ r, r < 10 → rk1 r = nI (rt r).1 ∧ rr1 r = jI (rt r).2 := hro
  have hw := hst.1
  have hr9 := hst.2
  have hu := hw.1
  refine lx_met RX4 pn_X4 rfl (Nat.le_of_ble_eq_true rfl) (fun E hE hnm F hR => ?_)
  have F : lx_F K 4 E cX4_word RX4 (some .long) (rk 1) := F
  show lx_W K 4 E 0 0 0 [(0, .ref y), (1, .int p), (2, .int what)] [] [(y, .inr (4, [.int th, .ref acd, .ref akd, .ref act, .int (nI u), .ref ark, .ref arr, .int z, .int kk, .long kc, .ref ali, .int mn, .ref ala, .ref anc, .ref ank, .ref ant, .int nx, .ref aag, .ref abk, .ref atd, .ref ase])), (acd, aI K 120 cd), (akd, aI K 120 kd), (act, aJ K 120 ct), (ark, aI K 10 rk1), (arr, aJ K 10 rr1), (ali, aI K 120 fl), (ala, aI K 120 fla), (anc, aI K 120 nc), (ank, aI K 120 nk), (ant, aJ K 120 nt), (aag, aI K 120 fag), (abk, aI K 120 fbk), (atd, aI K 120 ftd), (ase, aZ K 120 fse)]
  cases hp : decide (0 ≤ p.toInt ∧ p.toInt < (u : Int))
  · skip
    refine lx_iload_n F dX4_word_0 1 rfl ?_
    refine lx_if_lt F 12 dX4_word_1 rfl (fun h8 => ?_) (fun h8 => ?_)
    · skip
      refine lx_iconst F dX4_word_12 kc_1 ?_
      refine lx_goto F 17 dX4_word_13 rfl ?_
      refine lx_istore_n F [(0, .ref y), (1, .int p), (2, .int what), (3, .int (nI 1))] [1, 2, 3, 0] dX4_word_17 rfl (by decide) ?_
      refine lx_aload_n F dX4_word_18 0 rfl ?_
      refine lx_iload_n F dX4_word_19 3 rfl ?_
      refine lx_iload_n F dX4_word_20 2 rfl ?_
      refine lx_if_lt F 29 dX4_word_21 rfl (fun h1 => ?_) (fun h1 => ?_)
      · skip
        refine lx_iconst F dX4_word_29 kc_1 ?_
        refine lx_goto F 34 dX4_word_30 rfl ?_
        refine lx_cv F (zr_refuse (xl E) K y acd akd act ark arr ali ala anc ank ant aag abk atd ase th z kk kc mn nx (nI u) true true) cv_X4_110 0 rfl rfl [0] [1, 2, 3, 4, 5, 6, 7, 8, 9, 10, 11, 12, 13, 14] [(acd, aI K 120 cd), (akd, aI K 120 kd), (act, aJ K 120 ct), (ark, aI K 10 rk1), (arr, aJ K 10 rr1), (ali, aI K 120 fl), (ala, aI K 120 fla), (anc, aI K 120 nc), (ank, aI K 120 nk), (ant, aJ K 120 nt), (aag, aI K 120 fag), (abk, aI K 120 fbk), (atd, aI K 120 ftd), (ase, aZ K 120 fse)] rfl rfl (by decide) rfl (st := []) rfl (Nat.le_of_ble_eq_true rfl) (by decide) ⟨by decide, by decide⟩ dX4_word_34 (fun v9 w9 h9 => ?_)
        obtain ⟨rfl, rfl⟩ := h9
        refine lx_perm [14, 0, 1, 2, 3, 4, 5, 6, 7, 8, 9, 10, 11, 12, 13] [(y, .inr (4, [.int (nI (lm_rf true true)), .ref acd, .ref akd, .ref act, .int (nI u), .ref ark, .ref arr, .int z, .int kk, .long kc, .ref ali, .int mn, .ref ala, .ref anc, .ref ank, .ref ant, .int nx, .ref aag, .ref abk, .ref atd, .ref ase])), (acd, aI K 120 cd), (akd, aI K 120 kd), (act, aJ K 120 ct), (ark, aI K 10 rk1), (arr, aJ K 10 rr1), (ali, aI K 120 fl), (ala, aI K 120 fla), (anc, aI K 120 nc), (ank, aI K 120 nk), (ant, aJ K 120 nt), (aag, aI K 120 fag), (abk, aI K 120 fbk), (atd, aI K 120 ftd), (ase, aZ K 120 fse)] (by decide) rfl ?_
        refine lx_st (a' := 0) (b' := 0) [.int (bI true)] rfl rfl rfl ?_
        refine lx_if_eq F 42 dX4_word_37 rfl (fun h => absurd h (by decide)) (fun _ => ?_)
        refine lx_lconst F dX4_word_40 kl_0 ?_
        exact lx_lret F hR dX4_word_41 ⟨by rw [lm_wd_1 hp], by rw [show lm_qw p what (c, w, u, rt, z) = (1, (c, w, u, rt, z)) by exact lm_qw_1 hp]; exact ⟨_, _, _, _, _, _, _, _, _, _, _, _, _, _, _, _, _, _, _, _, _, _, _, _, _, _, _, _, _, _, _, _, hh, hro, rfl⟩⟩
      · skip
        refine lx_iload_n F dX4_word_24 2 rfl ?_
        refine lx_iconst F dX4_word_25 kc_2 ?_
        refine lx_icmp_le F 33 dX4_word_26 rfl (fun h2 => ?_) (fun h2 => ?_)
        · skip
          refine lx_iconst F dX4_word_33 kc_0 ?_
          refine lx_cv F (zr_refuse (xl E) K y acd akd act ark arr ali ala anc ank ant aag abk atd ase th z kk kc mn nx (nI u) true false) cv_X4_110 0 rfl rfl [0] [1, 2, 3, 4, 5, 6, 7, 8, 9, 10, 11, 12, 13, 14] [(acd, aI K 120 cd), (akd, aI K 120 kd), (act, aJ K 120 ct), (ark, aI K 10 rk1), (arr, aJ K 10 rr1), (ali, aI K 120 fl), (ala, aI K 120 fla), (anc, aI K 120 nc), (ank, aI K 120 nk), (ant, aJ K 120 nt), (aag, aI K 120 fag), (abk, aI K 120 fbk), (atd, aI K 120 ftd), (ase, aZ K 120 fse)] rfl rfl (by decide) rfl (st := []) rfl (Nat.le_of_ble_eq_true rfl) (by decide) ⟨by decide, by decide⟩ dX4_word_34 (fun v9 w9 h9 => ?_)
          obtain ⟨rfl, rfl⟩ := h9
          refine lx_perm [14, 0, 1, 2, 3, 4, 5, 6, 7, 8, 9, 10, 11, 12, 13] [(y, .inr (4, [.int (nI (lm_rf true false)), .ref acd, .ref akd, .ref act, .int (nI u), .ref ark, .ref arr, .int z, .int kk, .long kc, .ref ali, .int mn, .ref ala, .ref anc, .ref ank, .ref ant, .int nx, .ref aag, .ref abk, .ref atd, .ref ase])), (acd, aI K 120 cd), (akd, aI K 120 kd), (act, aJ K 120 ct), (ark, aI K 10 rk1), (arr, aJ K 10 rr1), (ali, aI K 120 fl), (ala, aI K 120 fla), (anc, aI K 120 nc), (ank, aI K 120 nk), (ant, aJ K 120 nt), (aag, aI K 120 fag), (abk, aI K 120 fbk), (atd, aI K 120 ftd), (ase, aZ K 120 fse)] (by decide) rfl ?_
          refine lx_st (a' := 0) (b' := 0) [.int (bI true)] rfl rfl rfl ?_
          refine lx_if_eq F 42 dX4_word_37 rfl (fun h => absurd h (by decide)) (fun _ => ?_)
          refine lx_lconst F dX4_word_40 kl_0 ?_
          exact lx_lret F hR dX4_word_41 ⟨by rw [lm_wd_1 hp], by rw [show lm_qw p what (c, w, u, rt, z) = (1, (c, w, u, rt, z)) by exact lm_qw_1 hp]; exact ⟨_, _, _, _, _, _, _, _, _, _, _, _, _, _, _, _, _, _, _, _, _, _, _, _, _, _, _, _, _, _, _, _, hh, hro, rfl⟩⟩
        · skip
          refine lx_iconst F dX4_word_29 kc_1 ?_
          refine lx_goto F 34 dX4_word_30 rfl ?_
          refine lx_cv F (zr_refuse (xl E) K y acd akd act ark arr ali ala anc ank ant aag abk atd ase th z kk kc mn nx (nI u) true true) cv_X4_110 0 rfl rfl [0] [1, 2, 3, 4, 5, 6, 7, 8, 9, 10, 11, 12, 13, 14] [(acd, aI K 120 cd), (akd, aI K 120 kd), (act, aJ K 120 ct), (ark, aI K 10 rk1), (arr, aJ K 10 rr1), (ali, aI K 120 fl), (ala, aI K 120 fla), (anc, aI K 120 nc), (ank, aI K 120 nk), (ant, aJ K 120 nt), (aag, aI K 120 fag), (abk, aI K 120 fbk), (atd, aI K 120 ftd), (ase, aZ K 120 fse)] rfl rfl (by decide) rfl (st := []) rfl (Nat.le_of_ble_eq_true rfl) (by decide) ⟨by decide, by decide⟩ dX4_word_34 (fun v9 w9 h9 => ?_)
          obtain ⟨rfl, rfl⟩ := h9
          refine lx_perm [14, 0, 1, 2, 3, 4, 5, 6, 7, 8, 9, 10, 11, 12, 13] [(y, .inr (4, [.int (nI (lm_rf true true)), .ref acd, .ref akd, .ref act, .int (nI u), .ref ark, .ref arr, .int z, .int kk, .long kc, .ref ali, .int mn, .ref ala, .ref anc, .ref ank, .ref ant, .int nx, .ref aag, .ref abk, .ref atd, .ref ase])), (acd, aI K 120 cd), (akd, aI K 120 kd), (act, aJ K 120 ct), (ark, aI K 10 rk1), (arr, aJ K 10 rr1), (ali, aI K 120 fl), (ala, aI K 120 fla), (anc, aI K 120 nc), (ank, aI K 120 nk), (ant, aJ K 120 nt), (aag, aI K 120 fag), (abk, aI K 120 fbk), (atd, aI K 120 ftd), (ase, aZ K 120 fse)] (by decide) rfl ?_
          refine lx_st (a' := 0) (b' := 0) [.int (bI true)] rfl rfl rfl ?_
          refine lx_if_eq F 42 dX4_word_37 rfl (fun h => absurd h (by decide)) (fun _ => ?_)
          refine lx_lconst F dX4_word_40 kl_0 ?_
          exact lx_lret F hR dX4_word_41 ⟨by rw [lm_wd_1 hp], by rw [show lm_qw p what (c, w, u, rt, z) = (1, (c, w, u, rt, z)) by exact lm_qw_1 hp]; exact ⟨_, _, _, _, _, _, _, _, _, _, _, _, _, _, _, _, _, _, _, _, _, _, _, _, _, _, _, _, _, _, _, _, hh, hro, rfl⟩⟩
    · skip
      refine lx_iload_n F dX4_word_4 1 rfl ?_
      refine lx_aload_n F dX4_word_5 0 rfl ?_
      refine gf_X4_73 F 0 rfl rfl dX4_word_6 ?_
      refine lx_icmp_lt F 16 dX4_word_9 rfl (fun h => absurd h (lm_us_n (by omega) hp h8)) (fun _ => ?_)
      refine lx_iconst F dX4_word_12 kc_1 ?_
      refine lx_goto F 17 dX4_word_13 rfl ?_
      refine lx_istore_n F [(0, .ref y), (1, .int p), (2, .int what), (3, .int (nI 1))] [1, 2, 3, 0] dX4_word_17 rfl (by decide) ?_
      refine lx_aload_n F dX4_word_18 0 rfl ?_
      refine lx_iload_n F dX4_word_19 3 rfl ?_
      refine lx_iload_n F dX4_word_20 2 rfl ?_
      refine lx_if_lt F 29 dX4_word_21 rfl (fun h1 => ?_) (fun h1 => ?_)
      · skip
        refine lx_iconst F dX4_word_29 kc_1 ?_
        refine lx_goto F 34 dX4_word_30 rfl ?_
        refine lx_cv F (zr_refuse (xl E) K y acd akd act ark arr ali ala anc ank ant aag abk atd ase th z kk kc mn nx (nI u) true true) cv_X4_110 0 rfl rfl [0] [1, 2, 3, 4, 5, 6, 7, 8, 9, 10, 11, 12, 13, 14] [(acd, aI K 120 cd), (akd, aI K 120 kd), (act, aJ K 120 ct), (ark, aI K 10 rk1), (arr, aJ K 10 rr1), (ali, aI K 120 fl), (ala, aI K 120 fla), (anc, aI K 120 nc), (ank, aI K 120 nk), (ant, aJ K 120 nt), (aag, aI K 120 fag), (abk, aI K 120 fbk), (atd, aI K 120 ftd), (ase, aZ K 120 fse)] rfl rfl (by decide) rfl (st := []) rfl (Nat.le_of_ble_eq_true rfl) (by decide) ⟨by decide, by decide⟩ dX4_word_34 (fun v9 w9 h9 => ?_)
        obtain ⟨rfl, rfl⟩ := h9
        refine lx_perm [14, 0, 1, 2, 3, 4, 5, 6, 7, 8, 9, 10, 11, 12, 13] [(y, .inr (4, [.int (nI (lm_rf true true)), .ref acd, .ref akd, .ref act, .int (nI u), .ref ark, .ref arr, .int z, .int kk, .long kc, .ref ali, .int mn, .ref ala, .ref anc, .ref ank, .ref ant, .int nx, .ref aag, .ref abk, .ref atd, .ref ase])), (acd, aI K 120 cd), (akd, aI K 120 kd), (act, aJ K 120 ct), (ark, aI K 10 rk1), (arr, aJ K 10 rr1), (ali, aI K 120 fl), (ala, aI K 120 fla), (anc, aI K 120 nc), (ank, aI K 120 nk), (ant, aJ K 120 nt), (aag, aI K 120 fag), (abk, aI K 120 fbk), (atd, aI K 120 ftd), (ase, aZ K 120 fse)] (by decide) rfl ?_
        refine lx_st (a' := 0) (b' := 0) [.int (bI true)] rfl rfl rfl ?_
        refine lx_if_eq F 42 dX4_word_37 rfl (fun h => absurd h (by decide)) (fun _ => ?_)
        refine lx_lconst F dX4_word_40 kl_0 ?_
        exact lx_lret F hR dX4_word_41 ⟨by rw [lm_wd_1 hp], by rw [show lm_qw p what (c, w, u, rt, z) = (1, (c, w, u, rt, z)) by exact lm_qw_1 hp]; exact ⟨_, _, _, _, _, _, _, _, _, _, _, _, _, _, _, _, _, _, _, _, _, _, _, _, _, _, _, _, _, _, _, _, hh, hro, rfl⟩⟩
      · skip
        refine lx_iload_n F dX4_word_24 2 rfl ?_
        refine lx_iconst F dX4_word_25 kc_2 ?_
        refine lx_icmp_le F 33 dX4_word_26 rfl (fun h2 => ?_) (fun h2 => ?_)
        · skip
          refine lx_iconst F dX4_word_33 kc_0 ?_
          refine lx_cv F (zr_refuse (xl E) K y acd akd act ark arr ali ala anc ank ant aag abk atd ase th z kk kc mn nx (nI u) true false) cv_X4_110 0 rfl rfl [0] [1, 2, 3, 4, 5, 6, 7, 8, 9, 10, 11, 12, 13, 14] [(acd, aI K 120 cd), (akd, aI K 120 kd), (act, aJ K 120 ct), (ark, aI K 10 rk1), (arr, aJ K 10 rr1), (ali, aI K 120 fl), (ala, aI K 120 fla), (anc, aI K 120 nc), (ank, aI K 120 nk), (ant, aJ K 120 nt), (aag, aI K 120 fag), (abk, aI K 120 fbk), (atd, aI K 120 ftd), (ase, aZ K 120 fse)] rfl rfl (by decide) rfl (st := []) rfl (Nat.le_of_ble_eq_true rfl) (by decide) ⟨by decide, by decide⟩ dX4_word_34 (fun v9 w9 h9 => ?_)
          obtain ⟨rfl, rfl⟩ := h9
          refine lx_perm [14, 0, 1, 2, 3, 4, 5, 6, 7, 8, 9, 10, 11, 12, 13] [(y, .inr (4, [.int (nI (lm_rf true false)), .ref acd, .ref akd, .ref act, .int (nI u), .ref ark, .ref arr, .int z, .int kk, .long kc, .ref ali, .int mn, .ref ala, .ref anc, .ref ank, .ref ant, .int nx, .ref aag, .ref abk, .ref atd, .ref ase])), (acd, aI K 120 cd), (akd, aI K 120 kd), (act, aJ K 120 ct), (ark, aI K 10 rk1), (arr, aJ K 10 rr1), (ali, aI K 120 fl), (ala, aI K 120 fla), (anc, aI K 120 nc), (ank, aI K 120 nk), (ant, aJ K 120 nt), (aag, aI K 120 fag), (abk, aI K 120 fbk), (atd, aI K 120 ftd), (ase, aZ K 120 fse)] (by decide) rfl ?_
          refine lx_st (a' := 0) (b' := 0) [.int (bI true)] rfl rfl rfl ?_
          refine lx_if_eq F 42 dX4_word_37 rfl (fun h => absurd h (by decide)) (fun _ => ?_)
          refine lx_lconst F dX4_word_40 kl_0 ?_
          exact lx_lret F hR dX4_word_41 ⟨by rw [lm_wd_1 hp], by rw [show lm_qw p what (c, w, u, rt, z) = (1, (c, w, u, rt, z)) by exact lm_qw_1 hp]; exact ⟨_, _, _, _, _, _, _, _, _, _, _, _, _, _, _, _, _, _, _, _, _, _, _, _, _, _, _, _, _, _, _, _, hh, hro, rfl⟩⟩
        · skip
          refine lx_iconst F dX4_word_29 kc_1 ?_
          refine lx_goto F 34 dX4_word_30 rfl ?_
          refine lx_cv F (zr_refuse (xl E) K y acd akd act ark arr ali ala anc ank ant aag abk atd ase th z kk kc mn nx (nI u) true true) cv_X4_110 0 rfl rfl [0] [1, 2, 3, 4, 5, 6, 7, 8, 9, 10, 11, 12, 13, 14] [(acd, aI K 120 cd), (akd, aI K 120 kd), (act, aJ K 120 ct), (ark, aI K 10 rk1), (arr, aJ K 10 rr1), (ali, aI K 120 fl), (ala, aI K 120 fla), (anc, aI K 120 nc), (ank, aI K 120 nk), (ant, aJ K 120 nt), (aag, aI K 120 fag), (abk, aI K 120 fbk), (atd, aI K 120 ftd), (ase, aZ K 120 fse)] rfl rfl (by decide) rfl (st := []) rfl (Nat.le_of_ble_eq_true rfl) (by decide) ⟨by decide, by decide⟩ dX4_word_34 (fun v9 w9 h9 => ?_)
          obtain ⟨rfl, rfl⟩ := h9
          refine lx_perm [14, 0, 1, 2, 3, 4, 5, 6, 7, 8, 9, 10, 11, 12, 13] [(y, .inr (4, [.int (nI (lm_rf true true)), .ref acd, .ref akd, .ref act, .int (nI u), .ref ark, .ref arr, .int z, .int kk, .long kc, .ref ali, .int mn, .ref ala, .ref anc, .ref ank, .ref ant, .int nx, .ref aag, .ref abk, .ref atd, .ref ase])), (acd, aI K 120 cd), (akd, aI K 120 kd), (act, aJ K 120 ct), (ark, aI K 10 rk1), (arr, aJ K 10 rr1), (ali, aI K 120 fl), (ala, aI K 120 fla), (anc, aI K 120 nc), (ank, aI K 120 nk), (ant, aJ K 120 nt), (aag, aI K 120 fag), (abk, aI K 120 fbk), (atd, aI K 120 ftd), (ase, aZ K 120 fse)] (by decide) rfl ?_
          refine lx_st (a' := 0) (b' := 0) [.int (bI true)] rfl rfl rfl ?_
          refine lx_if_eq F 42 dX4_word_37 rfl (fun h => absurd h (by decide)) (fun _ => ?_)
          refine lx_lconst F dX4_word_40 kl_0 ?_
          exact lx_lret F hR dX4_word_41 ⟨by rw [lm_wd_1 hp], by rw [show lm_qw p what (c, w, u, rt, z) = (1, (c, w, u, rt, z)) by exact lm_qw_1 hp]; exact ⟨_, _, _, _, _, _, _, _, _, _, _, _, _, _, _, _, _, _, _, _, _, _, _, _, _, _, _, _, _, _, _, _, hh, hro, rfl⟩⟩
  · skip
    obtain ⟨q, hq, rfl⟩ := lm_us_q (by omega) hp
    refine lx_iload_n F dX4_word_0 1 rfl ?_
    refine lx_ifN_lt F 12 (by omega) dX4_word_1 rfl (fun h => absurd h (by omega)) (fun _ => ?_)
    refine lx_iload_n F dX4_word_4 1 rfl ?_
    refine lx_aload_n F dX4_word_5 0 rfl ?_
    refine gf_X4_73 F 0 rfl rfl dX4_word_6 ?_
    refine lx_icmpN_lt F 16 (by omega) (by omega) dX4_word_9 rfl (fun _ => ?_) (fun h => absurd h (by omega))
    refine lx_iconst F dX4_word_16 kc_0 ?_
    refine lx_istore_n F [(0, .ref y), (1, .int (nI q)), (2, .int what), (3, .int (nI 0))] [1, 2, 3, 0] dX4_word_17 rfl (by decide) ?_
    refine lx_aload_n F dX4_word_18 0 rfl ?_
    refine lx_iload_n F dX4_word_19 3 rfl ?_
    refine lx_iload_n F dX4_word_20 2 rfl ?_
    refine lx_if_lt F 29 dX4_word_21 rfl (fun h1 => ?_) (fun h1 => ?_)
    · skip
      have hwh := lm_wh_1 h1
      refine lx_iconst F dX4_word_29 kc_1 ?_
      refine lx_goto F 34 dX4_word_30 rfl ?_
      refine lx_cv F (zr_refuse (xl E) K y acd akd act ark arr ali ala anc ank ant aag abk atd ase th z kk kc mn nx (nI u) false true) cv_X4_110 0 rfl rfl [0] [1, 2, 3, 4, 5, 6, 7, 8, 9, 10, 11, 12, 13, 14] [(acd, aI K 120 cd), (akd, aI K 120 kd), (act, aJ K 120 ct), (ark, aI K 10 rk1), (arr, aJ K 10 rr1), (ali, aI K 120 fl), (ala, aI K 120 fla), (anc, aI K 120 nc), (ank, aI K 120 nk), (ant, aJ K 120 nt), (aag, aI K 120 fag), (abk, aI K 120 fbk), (atd, aI K 120 ftd), (ase, aZ K 120 fse)] rfl rfl (by decide) rfl (st := []) rfl (Nat.le_of_ble_eq_true rfl) (by decide) ⟨by decide, by decide⟩ dX4_word_34 (fun v9 w9 h9 => ?_)
      obtain ⟨rfl, rfl⟩ := h9
      refine lx_perm [14, 0, 1, 2, 3, 4, 5, 6, 7, 8, 9, 10, 11, 12, 13] [(y, .inr (4, [.int (nI (lm_rf false true)), .ref acd, .ref akd, .ref act, .int (nI u), .ref ark, .ref arr, .int z, .int kk, .long kc, .ref ali, .int mn, .ref ala, .ref anc, .ref ank, .ref ant, .int nx, .ref aag, .ref abk, .ref atd, .ref ase])), (acd, aI K 120 cd), (akd, aI K 120 kd), (act, aJ K 120 ct), (ark, aI K 10 rk1), (arr, aJ K 10 rr1), (ali, aI K 120 fl), (ala, aI K 120 fla), (anc, aI K 120 nc), (ank, aI K 120 nk), (ant, aJ K 120 nt), (aag, aI K 120 fag), (abk, aI K 120 fbk), (atd, aI K 120 ftd), (ase, aZ K 120 fse)] (by decide) rfl ?_
      refine lx_st (a' := 0) (b' := 0) [.int (bI true)] rfl rfl rfl ?_
      refine lx_if_eq F 42 dX4_word_37 rfl (fun h => absurd h (by decide)) (fun _ => ?_)
      refine lx_lconst F dX4_word_40 kl_0 ?_
      exact lx_lret F hR dX4_word_41 ⟨by rw [lm_wd_2 hwh], by rw [show lm_qw (nI q) what (c, w, u, rt, z) = (2, (c, w, u, rt, z)) by exact lm_qw_2 hq hu hwh]; exact ⟨_, _, _, _, _, _, _, _, _, _, _, _, _, _, _, _, _, _, _, _, _, _, _, _, _, _, _, _, _, _, _, _, hh, hro, rfl⟩⟩
    · skip
      refine lx_iload_n F dX4_word_24 2 rfl ?_
      refine lx_iconst F dX4_word_25 kc_2 ?_
      refine lx_icmp_le F 33 dX4_word_26 rfl (fun h2 => ?_) (fun h2 => ?_)
      · skip
        have hwh := lm_wh_3 h1 h2
        refine lx_iconst F dX4_word_33 kc_0 ?_
        refine lx_cv F (zr_refuse (xl E) K y acd akd act ark arr ali ala anc ank ant aag abk atd ase th z kk kc mn nx (nI u) false false) cv_X4_110 0 rfl rfl [0] [1, 2, 3, 4, 5, 6, 7, 8, 9, 10, 11, 12, 13, 14] [(acd, aI K 120 cd), (akd, aI K 120 kd), (act, aJ K 120 ct), (ark, aI K 10 rk1), (arr, aJ K 10 rr1), (ali, aI K 120 fl), (ala, aI K 120 fla), (anc, aI K 120 nc), (ank, aI K 120 nk), (ant, aJ K 120 nt), (aag, aI K 120 fag), (abk, aI K 120 fbk), (atd, aI K 120 ftd), (ase, aZ K 120 fse)] rfl rfl (by decide) rfl (st := []) rfl (Nat.le_of_ble_eq_true rfl) (by decide) ⟨by decide, by decide⟩ dX4_word_34 (fun v9 w9 h9 => ?_)
        obtain ⟨rfl, rfl⟩ := h9
        refine lx_perm [14, 0, 1, 2, 3, 4, 5, 6, 7, 8, 9, 10, 11, 12, 13] [(y, .inr (4, [.int (nI (lm_rf false false)), .ref acd, .ref akd, .ref act, .int (nI u), .ref ark, .ref arr, .int z, .int kk, .long kc, .ref ali, .int mn, .ref ala, .ref anc, .ref ank, .ref ant, .int nx, .ref aag, .ref abk, .ref atd, .ref ase])), (acd, aI K 120 cd), (akd, aI K 120 kd), (act, aJ K 120 ct), (ark, aI K 10 rk1), (arr, aJ K 10 rr1), (ali, aI K 120 fl), (ala, aI K 120 fla), (anc, aI K 120 nc), (ank, aI K 120 nk), (ant, aJ K 120 nt), (aag, aI K 120 fag), (abk, aI K 120 fbk), (atd, aI K 120 ftd), (ase, aZ K 120 fse)] (by decide) rfl ?_
        refine lx_st (a' := 0) (b' := 0) [.int (bI false)] rfl rfl rfl ?_
        refine lx_if_eq F 42 dX4_word_37 rfl (fun _ => ?_) (fun h => absurd (by decide) h)
        refine lx_iload_n F dX4_word_42 2 rfl ?_
        refine lx_if_ne F 56 dX4_word_43 rfl (fun h3 => ?_) (fun h3 => ?_)
        · skip
          refine lx_iload_n F dX4_word_56 2 rfl ?_
          refine lx_iconst F dX4_word_57 kc_1 ?_
          refine lx_icmp_ne F 71 dX4_word_58 rfl (fun h4 => ?_) (fun h4 => ?_)
          · skip
            have hk4 := lm_k4 hw hq
            refine lx_aload_n F dX4_word_71 0 rfl ?_
            refine gf_X4_13 F 0 rfl rfl dX4_word_72 ?_
            refine lx_iload_n F dX4_word_75 1 rfl ?_
            refine lx_iald F 2 q dX4_word_76 rfl (by omega) (by decide) ?_
            rw [(hh q hq).2.1]
            refine lx_ifN_ne F 84 (by omega) dX4_word_77 rfl (fun h5 => ?_) (fun h5 => ?_)
            · skip
              refine lx_aload_n F dX4_word_84 0 rfl ?_
              refine gf_X4_16 F 0 rfl rfl dX4_word_85 ?_
              refine lx_iload_n F dX4_word_88 1 rfl ?_
              refine lx_lald F 3 q dX4_word_89 rfl (by omega) (by decide) ?_
              rw [(hh q hq).2.2]
              exact lx_lret F hR dX4_word_90 ⟨by rw [lm_wd_d hq hu hwh h3 h4], by rw [show lm_qw (nI q) what (c, w, u, rt, z) = (0, (c, w, u, rt, z)) by exact lm_qw_0 hq hu hwh]; exact ⟨_, _, _, _, _, _, _, _, _, _, _, _, _, _, _, _, _, _, _, _, _, _, _, _, _, _, _, _, _, _, _, _, hh, hro, rfl⟩⟩
            · skip
              refine lx_lconst F dX4_word_80 kl_0 ?_
              refine lx_goto F 90 dX4_word_81 rfl ?_
              exact lx_lret F hR dX4_word_90 ⟨by rw [lm_wd_z hw hq hwh h3 h4 h5], by rw [show lm_qw (nI q) what (c, w, u, rt, z) = (0, (c, w, u, rt, z)) by exact lm_qw_0 hq hu hwh]; exact ⟨_, _, _, _, _, _, _, _, _, _, _, _, _, _, _, _, _, _, _, _, _, _, _, _, _, _, _, _, _, _, _, _, hh, hro, rfl⟩⟩
          · skip
            have hk4 := lm_k4 hw hq
            refine lx_aload_n F dX4_word_61 0 rfl ?_
            refine gf_X4_13 F 0 rfl rfl dX4_word_62 ?_
            refine lx_iload_n F dX4_word_65 1 rfl ?_
            refine lx_iald F 2 q dX4_word_66 rfl (by omega) (by decide) ?_
            rw [(hh q hq).2.1]
            refine lx_i2l F dX4_word_67 (jI_i2l (by omega)) ?_
            refine lx_goto F 90 dX4_word_68 rfl ?_
            exact lx_lret F hR dX4_word_90 ⟨by rw [lm_wd_k hq hu hwh h4], by rw [show lm_qw (nI q) what (c, w, u, rt, z) = (0, (c, w, u, rt, z)) by exact lm_qw_0 hq hu hwh]; exact ⟨_, _, _, _, _, _, _, _, _, _, _, _, _, _, _, _, _, _, _, _, _, _, _, _, _, _, _, _, _, _, _, _, hh, hro, rfl⟩⟩
        · skip
          have hc3 := hw.2.1 q hq
          refine lx_aload_n F dX4_word_46 0 rfl ?_
          refine gf_X4_7 F 0 rfl rfl dX4_word_47 ?_
          refine lx_iload_n F dX4_word_50 1 rfl ?_
          refine lx_iald F 1 q dX4_word_51 rfl (by omega) (by decide) ?_
          rw [(hh q hq).1]
          refine lx_i2l F dX4_word_52 (jI_i2l (by omega)) ?_
          refine lx_goto F 90 dX4_word_53 rfl ?_
          exact lx_lret F hR dX4_word_90 ⟨by rw [lm_wd_c hq hu hwh h3], by rw [show lm_qw (nI q) what (c, w, u, rt, z) = (0, (c, w, u, rt, z)) by exact lm_qw_0 hq hu hwh]; exact ⟨_, _, _, _, _, _, _, _, _, _, _, _, _, _, _, _, _, _, _, _, _, _, _, _, _, _, _, _, _, _, _, _, hh, hro, rfl⟩⟩
      · skip
        have hwh := lm_wh_2 h2
        refine lx_iconst F dX4_word_29 kc_1 ?_
        refine lx_goto F 34 dX4_word_30 rfl ?_
        refine lx_cv F (zr_refuse (xl E) K y acd akd act ark arr ali ala anc ank ant aag abk atd ase th z kk kc mn nx (nI u) false true) cv_X4_110 0 rfl rfl [0] [1, 2, 3, 4, 5, 6, 7, 8, 9, 10, 11, 12, 13, 14] [(acd, aI K 120 cd), (akd, aI K 120 kd), (act, aJ K 120 ct), (ark, aI K 10 rk1), (arr, aJ K 10 rr1), (ali, aI K 120 fl), (ala, aI K 120 fla), (anc, aI K 120 nc), (ank, aI K 120 nk), (ant, aJ K 120 nt), (aag, aI K 120 fag), (abk, aI K 120 fbk), (atd, aI K 120 ftd), (ase, aZ K 120 fse)] rfl rfl (by decide) rfl (st := []) rfl (Nat.le_of_ble_eq_true rfl) (by decide) ⟨by decide, by decide⟩ dX4_word_34 (fun v9 w9 h9 => ?_)
        obtain ⟨rfl, rfl⟩ := h9
        refine lx_perm [14, 0, 1, 2, 3, 4, 5, 6, 7, 8, 9, 10, 11, 12, 13] [(y, .inr (4, [.int (nI (lm_rf false true)), .ref acd, .ref akd, .ref act, .int (nI u), .ref ark, .ref arr, .int z, .int kk, .long kc, .ref ali, .int mn, .ref ala, .ref anc, .ref ank, .ref ant, .int nx, .ref aag, .ref abk, .ref atd, .ref ase])), (acd, aI K 120 cd), (akd, aI K 120 kd), (act, aJ K 120 ct), (ark, aI K 10 rk1), (arr, aJ K 10 rr1), (ali, aI K 120 fl), (ala, aI K 120 fla), (anc, aI K 120 nc), (ank, aI K 120 nk), (ant, aJ K 120 nt), (aag, aI K 120 fag), (abk, aI K 120 fbk), (atd, aI K 120 ftd), (ase, aZ K 120 fse)] (by decide) rfl ?_
        refine lx_st (a' := 0) (b' := 0) [.int (bI true)] rfl rfl rfl ?_
        refine lx_if_eq F 42 dX4_word_37 rfl (fun h => absurd h (by decide)) (fun _ => ?_)
        refine lx_lconst F dX4_word_40 kl_0 ?_
        exact lx_lret F hR dX4_word_41 ⟨by rw [lm_wd_2 hwh], by rw [show lm_qw (nI q) what (c, w, u, rt, z) = (2, (c, w, u, rt, z)) by exact lm_qw_2 hq hu hwh]; exact ⟨_, _, _, _, _, _, _, _, _, _, _, _, _, _, _, _, _, _, _, _, _, _, _, _, _, _, _, _, _, _, _, _, hh, hro, rfl⟩⟩
