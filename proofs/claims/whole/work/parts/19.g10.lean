/-- the reference's object y holds the state σ; th: what its last call told -/
def lm_mod (K : lm_G) (y : Nat) (σ : lm_X) (th : Int32) (W : va_W) : Prop := ∃ (acd akd act ark arr ali ala anc ank ant aag abk atd ase : Nat) (kk : Int32) (kc : Int64) (mn nx : Int32) (cd kd : Nat → Int32) (ct : Nat → Int64) (rk1 : Nat → Int32) (rr1 : Nat → Int64) (fl fla nc nk : Nat → Int32) (nt : Nat → Int64) (fag fbk ftd fse : Nat → Int32), lm_mf cd kd ct σ.1 σ.2.1 σ.2.2.1 ∧ (∀ r, r < 10 → rk1 r = nI (σ.2.2.2.1 r).1 ∧ rr1 r = jI (σ.2.2.2.1 r).2) ∧ W = [(y, .inr (4, [.int th, .ref acd, .ref akd, .ref act, .int (nI σ.2.2.1), .ref ark, .ref arr, .int σ.2.2.2.2, .int kk, .long kc, .ref ali, .int mn, .ref ala, .ref anc, .ref ank, .ref ant, .int nx, .ref aag, .ref abk, .ref atd, .ref ase])), (acd, aI K 120 cd), (akd, aI K 120 kd), (act, aJ K 120 ct), (ark, aI K 10 rk1), (arr, aJ K 10 rr1), (ali, aI K 120 fl), (ala, aI K 120 fla), (anc, aI K 120 nc), (ank, aI K 120 nk), (ant, aJ K 120 nt), (aag, aI K 120 fag), (abk, aI K 120 fbk), (atd, aI K 120 ftd), (ase, aZ K 120 fse)]

theorem zr_none2 (l : Launch) (K : lm_G) (r : Int32) (b : Bool) (hb : lm_none r = b) : lm_C l K mX4_none (rk 0) [.int r] [] (fun v9 w9 => v9 = some (.int (bI b)) ∧ w9 = []) := by
  subst hb; exact zr_none l K r

set_option maxHeartbeats 4000000 in
set_option maxRecDepth 100000 in
theorem zR_number (l : Launch) (K : lm_G) (y : Nat) (c : Nat → Nat) (w : Nat → lm_V) (u : Nat) (rt : Nat → lm_V) (z : Int32) (hst : lm_st c w u rt) (th : Int32) (W : va_W) (hW : lm_mod K y (c, w, u, rt, z) th W) (r : Int32) (x : Int64) : lm_C l K mX4_number (rk 1) [.ref y, .int r, .long x] W (fun v9 w9 => v9 = none ∧ lm_mod K y (lm_oNumber r x (c, w, u, rt, z)).2 (nI (lm_oNumber r x (c, w, u, rt, z)).1) w9) := by
  obtain ⟨acd, akd, act, ark, arr, ali, ala, anc, ank, ant, aag, abk, atd, ase, kk, kc, mn, nx, cd, kd, ct, rk1, rr1, fl, fla, nc, nk, nt, fag, fbk, ftd, fse, hh, hro, rfl⟩ := hW
  have hh : lm_mf cd kd ct c w u := hh
  have hro : ∀ r, r < 10 → rk1 r = nI (rt r).1 ∧ rr1 r = jI (rt r).2 := hro
  have hw := hst.1
  have hr9 := hst.2
  have hu := hw.1
  refine lx_met RX4 pn_X4 rfl (Nat.le_of_ble_eq_true rfl) (fun E hE hnm F hR => ?_)
  have F : lx_F K 4 E cX4_number RX4 none (rk 1) := F
  show lx_W K 4 E 0 0 0 [(0, .ref y), (1, .int r), (2, .long x)] [] [(y, .inr (4, [.int th, .ref acd, .ref akd, .ref act, .int (nI u), .ref ark, .ref arr, .int z, .int kk, .long kc, .ref ali, .int mn, .ref ala, .ref anc, .ref ank, .ref ant, .int nx, .ref aag, .ref abk, .ref atd, .ref ase])), (acd, aI K 120 cd), (akd, aI K 120 kd), (act, aJ K 120 ct), (ark, aI K 10 rk1), (arr, aJ K 10 rr1), (ali, aI K 120 fl), (ala, aI K 120 fla), (anc, aI K 120 nc), (ank, aI K 120 nk), (ant, aJ K 120 nt), (aag, aI K 120 fag), (abk, aI K 120 fbk), (atd, aI K 120 ftd), (ase, aZ K 120 fse)]
  cases hnr : lm_none r
  · skip
    obtain ⟨k, hk, rfl⟩ := lm_none_f hnr
    refine lx_aload_n F dX4_number_0 0 rfl ?_
    refine lx_iload_n F dX4_number_1 1 rfl ?_
    refine lx_cs F (zr_none2 (xl E) K (nI k) false (lm_none_n hk)) cs_X4_102 [] [0, 1, 2, 3, 4, 5, 6, 7, 8, 9, 10, 11, 12, 13, 14] [(y, .inr (4, [.int th, .ref acd, .ref akd, .ref act, .int (nI u), .ref ark, .ref arr, .int z, .int kk, .long kc, .ref ali, .int mn, .ref ala, .ref anc, .ref ank, .ref ant, .int nx, .ref aag, .ref abk, .ref atd, .ref ase])), (acd, aI K 120 cd), (akd, aI K 120 kd), (act, aJ K 120 ct), (ark, aI K 10 rk1), (arr, aJ K 10 rr1), (ali, aI K 120 fl), (ala, aI K 120 fla), (anc, aI K 120 nc), (ank, aI K 120 nk), (ant, aJ K 120 nt), (aag, aI K 120 fag), (abk, aI K 120 fbk), (atd, aI K 120 ftd), (ase, aZ K 120 fse)] rfl rfl (by decide) rfl (st := [.ref y]) rfl (Nat.le_of_ble_eq_true rfl) (by decide) ⟨by decide, by decide⟩ dX4_number_2 (fun v9 w9 h9 => ?_)
    obtain ⟨rfl, rfl⟩ := h9
    refine lx_perm [0, 1, 2, 3, 4, 5, 6, 7, 8, 9, 10, 11, 12, 13, 14] [(y, .inr (4, [.int th, .ref acd, .ref akd, .ref act, .int (nI u), .ref ark, .ref arr, .int z, .int kk, .long kc, .ref ali, .int mn, .ref ala, .ref anc, .ref ank, .ref ant, .int nx, .ref aag, .ref abk, .ref atd, .ref ase])), (acd, aI K 120 cd), (akd, aI K 120 kd), (act, aJ K 120 ct), (ark, aI K 10 rk1), (arr, aJ K 10 rr1), (ali, aI K 120 fl), (ala, aI K 120 fla), (anc, aI K 120 nc), (ank, aI K 120 nk), (ant, aJ K 120 nt), (aag, aI K 120 fag), (abk, aI K 120 fbk), (atd, aI K 120 ftd), (ase, aZ K 120 fse)] (by decide) rfl ?_
    refine lx_st (a' := 0) (b' := 0) [.int (bI false), .ref y] rfl rfl rfl ?_
    refine lx_lload_n F dX4_number_5 2 rfl ?_
    refine lx_ldc2 F dX4_number_6 kj_X4_106 ?_
    refine lx_lcmp_iflt F 21 dX4_number_9 dX4_number_10 rfl (fun h1 => ?_) (fun h1 => ?_)
    · skip
      have hrg : lm_rg x = true := lm_rg_1 h1
      refine lx_iconst F dX4_number_21 kc_1 ?_
      refine lx_goto F 26 dX4_number_22 rfl ?_
      refine lx_cv F (zr_refuse (xl E) K y acd akd act ark arr ali ala anc ank ant aag abk atd ase th z kk kc mn nx (nI u) false true) cv_X4_110 0 rfl rfl [0] [1, 2, 3, 4, 5, 6, 7, 8, 9, 10, 11, 12, 13, 14] [(acd, aI K 120 cd), (akd, aI K 120 kd), (act, aJ K 120 ct), (ark, aI K 10 rk1), (arr, aJ K 10 rr1), (ali, aI K 120 fl), (ala, aI K 120 fla), (anc, aI K 120 nc), (ank, aI K 120 nk), (ant, aJ K 120 nt), (aag, aI K 120 fag), (abk, aI K 120 fbk), (atd, aI K 120 ftd), (ase, aZ K 120 fse)] rfl rfl (by decide) rfl (st := []) rfl (Nat.le_of_ble_eq_true rfl) (by decide) ⟨by decide, by decide⟩ dX4_number_26 (fun v9 w9 h9 => ?_)
      obtain ⟨rfl, rfl⟩ := h9
      refine lx_perm [14, 0, 1, 2, 3, 4, 5, 6, 7, 8, 9, 10, 11, 12, 13] [(y, .inr (4, [.int (nI (lm_rf false true)), .ref acd, .ref akd, .ref act, .int (nI u), .ref ark, .ref arr, .int z, .int kk, .long kc, .ref ali, .int mn, .ref ala, .ref anc, .ref ank, .ref ant, .int nx, .ref aag, .ref abk, .ref atd, .ref ase])), (acd, aI K 120 cd), (akd, aI K 120 kd), (act, aJ K 120 ct), (ark, aI K 10 rk1), (arr, aJ K 10 rr1), (ali, aI K 120 fl), (ala, aI K 120 fla), (anc, aI K 120 nc), (ank, aI K 120 nk), (ant, aJ K 120 nt), (aag, aI K 120 fag), (abk, aI K 120 fbk), (atd, aI K 120 ftd), (ase, aZ K 120 fse)] (by decide) rfl ?_
      refine lx_st (a' := 0) (b' := 0) [.int (bI true)] rfl rfl rfl ?_
      refine lx_if_ne F 39 dX4_number_29 rfl (fun _ => ?_) (fun h => absurd h (by decide))
      exact lx_vret F hR dX4_number_39 ⟨rfl, by rw [show lm_oNumber (nI k) x (c, w, u, rt, z) = (2, (c, w, u, rt, z)) by unfold lm_oNumber; rw [lm_none_n hk, if_neg (by decide), if_pos hrg]]; exact ⟨_, _, _, _, _, _, _, _, _, _, _, _, _, _, _, _, _, _, _, _, _, _, _, _, _, _, _, _, _, _, _, _, hh, hro, rfl⟩⟩
    · skip
      refine lx_lload_n F dX4_number_13 2 rfl ?_
      refine lx_ldc2 F dX4_number_14 kj_X4_108 ?_
      refine lx_lcmp_ifle F 25 dX4_number_17 dX4_number_18 rfl (fun h2 => ?_) (fun h2 => ?_)
      · skip
        have hrg : lm_rg x = false := lm_rg_3 h1 h2
        refine lx_iconst F dX4_number_25 kc_0 ?_
        refine lx_cv F (zr_refuse (xl E) K y acd akd act ark arr ali ala anc ank ant aag abk atd ase th z kk kc mn nx (nI u) false false) cv_X4_110 0 rfl rfl [0] [1, 2, 3, 4, 5, 6, 7, 8, 9, 10, 11, 12, 13, 14] [(acd, aI K 120 cd), (akd, aI K 120 kd), (act, aJ K 120 ct), (ark, aI K 10 rk1), (arr, aJ K 10 rr1), (ali, aI K 120 fl), (ala, aI K 120 fla), (anc, aI K 120 nc), (ank, aI K 120 nk), (ant, aJ K 120 nt), (aag, aI K 120 fag), (abk, aI K 120 fbk), (atd, aI K 120 ftd), (ase, aZ K 120 fse)] rfl rfl (by decide) rfl (st := []) rfl (Nat.le_of_ble_eq_true rfl) (by decide) ⟨by decide, by decide⟩ dX4_number_26 (fun v9 w9 h9 => ?_)
        obtain ⟨rfl, rfl⟩ := h9
        refine lx_perm [14, 0, 1, 2, 3, 4, 5, 6, 7, 8, 9, 10, 11, 12, 13] [(y, .inr (4, [.int (nI (lm_rf false false)), .ref acd, .ref akd, .ref act, .int (nI u), .ref ark, .ref arr, .int z, .int kk, .long kc, .ref ali, .int mn, .ref ala, .ref anc, .ref ank, .ref ant, .int nx, .ref aag, .ref abk, .ref atd, .ref ase])), (acd, aI K 120 cd), (akd, aI K 120 kd), (act, aJ K 120 ct), (ark, aI K 10 rk1), (arr, aJ K 10 rr1), (ali, aI K 120 fl), (ala, aI K 120 fla), (anc, aI K 120 nc), (ank, aI K 120 nk), (ant, aJ K 120 nt), (aag, aI K 120 fag), (abk, aI K 120 fbk), (atd, aI K 120 ftd), (ase, aZ K 120 fse)] (by decide) rfl ?_
        refine lx_st (a' := 0) (b' := 0) [.int (bI false)] rfl rfl rfl ?_
        refine lx_if_ne F 39 dX4_number_29 rfl (fun h => absurd (by decide) h) (fun _ => ?_)
        refine lx_aload_n F dX4_number_32 0 rfl ?_
        refine lx_iload_n F dX4_number_33 1 rfl ?_
        refine lx_iconst F dX4_number_34 kc_1 ?_
        refine lx_lload_n F dX4_number_35 2 rfl ?_
        refine lx_cv F (zr_setRoot (xl E) K y acd akd act ark arr ali ala anc ank ant aag abk atd ase (nI (lm_rf false false)) z kk kc mn nx (nI u) rk1 rr1 k hk (nI 1) x) cv_X4_114 0 rfl rfl [0, 4, 5] [1, 2, 3, 6, 7, 8, 9, 10, 11, 12, 13, 14] [(acd, aI K 120 cd), (akd, aI K 120 kd), (act, aJ K 120 ct), (ali, aI K 120 fl), (ala, aI K 120 fla), (anc, aI K 120 nc), (ank, aI K 120 nk), (ant, aJ K 120 nt), (aag, aI K 120 fag), (abk, aI K 120 fbk), (atd, aI K 120 ftd), (ase, aZ K 120 fse)] rfl rfl (by decide) rfl (st := []) rfl (Nat.le_of_ble_eq_true rfl) (by decide) ⟨by decide, by decide⟩ dX4_number_36 (fun v9 w9 h9 => ?_)
        obtain ⟨rfl, rfl⟩ := h9
        refine lx_perm [12, 0, 1, 2, 13, 14, 3, 4, 5, 6, 7, 8, 9, 10, 11] [(y, .inr (4, [.int (nI (lm_rf false false)), .ref acd, .ref akd, .ref act, .int (nI u), .ref ark, .ref arr, .int z, .int kk, .long kc, .ref ali, .int mn, .ref ala, .ref anc, .ref ank, .ref ant, .int nx, .ref aag, .ref abk, .ref atd, .ref ase])), (acd, aI K 120 cd), (akd, aI K 120 kd), (act, aJ K 120 ct), (ark, aI K 10 (lm_up rk1 k (nI 1))), (arr, aJ K 10 (lm_up rr1 k x)), (ali, aI K 120 fl), (ala, aI K 120 fla), (anc, aI K 120 nc), (ank, aI K 120 nk), (ant, aJ K 120 nt), (aag, aI K 120 fag), (abk, aI K 120 fbk), (atd, aI K 120 ftd), (ase, aZ K 120 fse)] (by decide) rfl ?_
        refine lx_st (a' := 0) (b' := 0) [] rfl rfl rfl ?_
        exact lx_vret F hR dX4_number_39 ⟨rfl, by rw [show lm_oNumber (nI k) x (c, w, u, rt, z) = (0, lm_set (c, w, u, rt, z) k (1, x.toInt)) by unfold lm_oNumber; rw [lm_none_n hk, if_neg (by decide), hrg, if_neg (by decide), lm_ix_n hk]]; exact ⟨_, _, _, _, _, _, _, _, _, _, _, _, _, _, _, _, _, _, _, _, _, _, _, _, _, _, _, _, _, _, _, _, hh, (fun r hr => by have h9 := lm_ro_up (k := k) (v := (1, x.toInt)) hro r hr; rw [show jI (1, x.toInt).2 = x from jI_toInt x] at h9; exact h9), rfl⟩⟩
      · skip
        have hrg : lm_rg x = true := lm_rg_2 h2
        refine lx_iconst F dX4_number_21 kc_1 ?_
        refine lx_goto F 26 dX4_number_22 rfl ?_
        refine lx_cv F (zr_refuse (xl E) K y acd akd act ark arr ali ala anc ank ant aag abk atd ase th z kk kc mn nx (nI u) false true) cv_X4_110 0 rfl rfl [0] [1, 2, 3, 4, 5, 6, 7, 8, 9, 10, 11, 12, 13, 14] [(acd, aI K 120 cd), (akd, aI K 120 kd), (act, aJ K 120 ct), (ark, aI K 10 rk1), (arr, aJ K 10 rr1), (ali, aI K 120 fl), (ala, aI K 120 fla), (anc, aI K 120 nc), (ank, aI K 120 nk), (ant, aJ K 120 nt), (aag, aI K 120 fag), (abk, aI K 120 fbk), (atd, aI K 120 ftd), (ase, aZ K 120 fse)] rfl rfl (by decide) rfl (st := []) rfl (Nat.le_of_ble_eq_true rfl) (by decide) ⟨by decide, by decide⟩ dX4_number_26 (fun v9 w9 h9 => ?_)
        obtain ⟨rfl, rfl⟩ := h9
        refine lx_perm [14, 0, 1, 2, 3, 4, 5, 6, 7, 8, 9, 10, 11, 12, 13] [(y, .inr (4, [.int (nI (lm_rf false true)), .ref acd, .ref akd, .ref act, .int (nI u), .ref ark, .ref arr, .int z, .int kk, .long kc, .ref ali, .int mn, .ref ala, .ref anc, .ref ank, .ref ant, .int nx, .ref aag, .ref abk, .ref atd, .ref ase])), (acd, aI K 120 cd), (akd, aI K 120 kd), (act, aJ K 120 ct), (ark, aI K 10 rk1), (arr, aJ K 10 rr1), (ali, aI K 120 fl), (ala, aI K 120 fla), (anc, aI K 120 nc), (ank, aI K 120 nk), (ant, aJ K 120 nt), (aag, aI K 120 fag), (abk, aI K 120 fbk), (atd, aI K 120 ftd), (ase, aZ K 120 fse)] (by decide) rfl ?_
        refine lx_st (a' := 0) (b' := 0) [.int (bI true)] rfl rfl rfl ?_
        refine lx_if_ne F 39 dX4_number_29 rfl (fun _ => ?_) (fun h => absurd h (by decide))
        exact lx_vret F hR dX4_number_39 ⟨rfl, by rw [show lm_oNumber (nI k) x (c, w, u, rt, z) = (2, (c, w, u, rt, z)) by unfold lm_oNumber; rw [lm_none_n hk, if_neg (by decide), if_pos hrg]]; exact ⟨_, _, _, _, _, _, _, _, _, _, _, _, _, _, _, _, _, _, _, _, _, _, _, _, _, _, _, _, _, _, _, _, hh, hro, rfl⟩⟩
  · skip
    refine lx_aload_n F dX4_number_0 0 rfl ?_
    refine lx_iload_n F dX4_number_1 1 rfl ?_
    refine lx_cs F (zr_none2 (xl E) K r true hnr) cs_X4_102 [] [0, 1, 2, 3, 4, 5, 6, 7, 8, 9, 10, 11, 12, 13, 14] [(y, .inr (4, [.int th, .ref acd, .ref akd, .ref act, .int (nI u), .ref ark, .ref arr, .int z, .int kk, .long kc, .ref ali, .int mn, .ref ala, .ref anc, .ref ank, .ref ant, .int nx, .ref aag, .ref abk, .ref atd, .ref ase])), (acd, aI K 120 cd), (akd, aI K 120 kd), (act, aJ K 120 ct), (ark, aI K 10 rk1), (arr, aJ K 10 rr1), (ali, aI K 120 fl), (ala, aI K 120 fla), (anc, aI K 120 nc), (ank, aI K 120 nk), (ant, aJ K 120 nt), (aag, aI K 120 fag), (abk, aI K 120 fbk), (atd, aI K 120 ftd), (ase, aZ K 120 fse)] rfl rfl (by decide) rfl (st := [.ref y]) rfl (Nat.le_of_ble_eq_true rfl) (by decide) ⟨by decide, by decide⟩ dX4_number_2 (fun v9 w9 h9 => ?_)
    obtain ⟨rfl, rfl⟩ := h9
    refine lx_perm [0, 1, 2, 3, 4, 5, 6, 7, 8, 9, 10, 11, 12, 13, 14] [(y, .inr (4, [.int th, .ref acd, .ref akd, .ref act, .int (nI u), .ref ark, .ref arr, .int z, .int kk, .long kc, .ref ali, .int mn, .ref ala, .ref anc, .ref ank, .ref ant, .int nx, .ref aag, .ref abk, .ref atd, .ref ase])), (acd, aI K 120 cd), (akd, aI K 120 kd), (act, aJ K 120 ct), (ark, aI K 10 rk1), (arr, aJ K 10 rr1), (ali, aI K 120 fl), (ala, aI K 120 fla), (anc, aI K 120 nc), (ank, aI K 120 nk), (ant, aJ K 120 nt), (aag, aI K 120 fag), (abk, aI K 120 fbk), (atd, aI K 120 ftd), (ase, aZ K 120 fse)] (by decide) rfl ?_
    refine lx_st (a' := 0) (b' := 0) [.int (bI true), .ref y] rfl rfl rfl ?_
    refine lx_lload_n F dX4_number_5 2 rfl ?_
    refine lx_ldc2 F dX4_number_6 kj_X4_106 ?_
    refine lx_lcmp_iflt F 21 dX4_number_9 dX4_number_10 rfl (fun h1 => ?_) (fun h1 => ?_)
    · skip
      refine lx_iconst F dX4_number_21 kc_1 ?_
      refine lx_goto F 26 dX4_number_22 rfl ?_
      refine lx_cv F (zr_refuse (xl E) K y acd akd act ark arr ali ala anc ank ant aag abk atd ase th z kk kc mn nx (nI u) true true) cv_X4_110 0 rfl rfl [0] [1, 2, 3, 4, 5, 6, 7, 8, 9, 10, 11, 12, 13, 14] [(acd, aI K 120 cd), (akd, aI K 120 kd), (act, aJ K 120 ct), (ark, aI K 10 rk1), (arr, aJ K 10 rr1), (ali, aI K 120 fl), (ala, aI K 120 fla), (anc, aI K 120 nc), (ank, aI K 120 nk), (ant, aJ K 120 nt), (aag, aI K 120 fag), (abk, aI K 120 fbk), (atd, aI K 120 ftd), (ase, aZ K 120 fse)] rfl rfl (by decide) rfl (st := []) rfl (Nat.le_of_ble_eq_true rfl) (by decide) ⟨by decide, by decide⟩ dX4_number_26 (fun v9 w9 h9 => ?_)
      obtain ⟨rfl, rfl⟩ := h9
      refine lx_perm [14, 0, 1, 2, 3, 4, 5, 6, 7, 8, 9, 10, 11, 12, 13] [(y, .inr (4, [.int (nI (lm_rf true true)), .ref acd, .ref akd, .ref act, .int (nI u), .ref ark, .ref arr, .int z, .int kk, .long kc, .ref ali, .int mn, .ref ala, .ref anc, .ref ank, .ref ant, .int nx, .ref aag, .ref abk, .ref atd, .ref ase])), (acd, aI K 120 cd), (akd, aI K 120 kd), (act, aJ K 120 ct), (ark, aI K 10 rk1), (arr, aJ K 10 rr1), (ali, aI K 120 fl), (ala, aI K 120 fla), (anc, aI K 120 nc), (ank, aI K 120 nk), (ant, aJ K 120 nt), (aag, aI K 120 fag), (abk, aI K 120 fbk), (atd, aI K 120 ftd), (ase, aZ K 120 fse)] (by decide) rfl ?_
      refine lx_st (a' := 0) (b' := 0) [.int (bI true)] rfl rfl rfl ?_
      refine lx_if_ne F 39 dX4_number_29 rfl (fun _ => ?_) (fun h => absurd h (by decide))
      exact lx_vret F hR dX4_number_39 ⟨rfl, by rw [show lm_oNumber r x (c, w, u, rt, z) = (1, (c, w, u, rt, z)) from if_pos hnr]; exact ⟨_, _, _, _, _, _, _, _, _, _, _, _, _, _, _, _, _, _, _, _, _, _, _, _, _, _, _, _, _, _, _, _, hh, hro, rfl⟩⟩
    · skip
      refine lx_lload_n F dX4_number_13 2 rfl ?_
      refine lx_ldc2 F dX4_number_14 kj_X4_108 ?_
      refine lx_lcmp_ifle F 25 dX4_number_17 dX4_number_18 rfl (fun h2 => ?_) (fun h2 => ?_)
      · skip
        refine lx_iconst F dX4_number_25 kc_0 ?_
        refine lx_cv F (zr_refuse (xl E) K y acd akd act ark arr ali ala anc ank ant aag abk atd ase th z kk kc mn nx (nI u) true false) cv_X4_110 0 rfl rfl [0] [1, 2, 3, 4, 5, 6, 7, 8, 9, 10, 11, 12, 13, 14] [(acd, aI K 120 cd), (akd, aI K 120 kd), (act, aJ K 120 ct), (ark, aI K 10 rk1), (arr, aJ K 10 rr1), (ali, aI K 120 fl), (ala, aI K 120 fla), (anc, aI K 120 nc), (ank, aI K 120 nk), (ant, aJ K 120 nt), (aag, aI K 120 fag), (abk, aI K 120 fbk), (atd, aI K 120 ftd), (ase, aZ K 120 fse)] rfl rfl (by decide) rfl (st := []) rfl (Nat.le_of_ble_eq_true rfl) (by decide) ⟨by decide, by decide⟩ dX4_number_26 (fun v9 w9 h9 => ?_)
        obtain ⟨rfl, rfl⟩ := h9
        refine lx_perm [14, 0, 1, 2, 3, 4, 5, 6, 7, 8, 9, 10, 11, 12, 13] [(y, .inr (4, [.int (nI (lm_rf true false)), .ref acd, .ref akd, .ref act, .int (nI u), .ref ark, .ref arr, .int z, .int kk, .long kc, .ref ali, .int mn, .ref ala, .ref anc, .ref ank, .ref ant, .int nx, .ref aag, .ref abk, .ref atd, .ref ase])), (acd, aI K 120 cd), (akd, aI K 120 kd), (act, aJ K 120 ct), (ark, aI K 10 rk1), (arr, aJ K 10 rr1), (ali, aI K 120 fl), (ala, aI K 120 fla), (anc, aI K 120 nc), (ank, aI K 120 nk), (ant, aJ K 120 nt), (aag, aI K 120 fag), (abk, aI K 120 fbk), (atd, aI K 120 ftd), (ase, aZ K 120 fse)] (by decide) rfl ?_
        refine lx_st (a' := 0) (b' := 0) [.int (bI true)] rfl rfl rfl ?_
        refine lx_if_ne F 39 dX4_number_29 rfl (fun _ => ?_) (fun h => absurd h (by decide))
        exact lx_vret F hR dX4_number_39 ⟨rfl, by rw [show lm_oNumber r x (c, w, u, rt, z) = (1, (c, w, u, rt, z)) from if_pos hnr]; exact ⟨_, _, _, _, _, _, _, _, _, _, _, _, _, _, _, _, _, _, _, _, _, _, _, _, _, _, _, _, _, _, _, _, hh, hro, rfl⟩⟩
      · skip
        refine lx_iconst F dX4_number_21 kc_1 ?_
        refine lx_goto F 26 dX4_number_22 rfl ?_
        refine lx_cv F (zr_refuse (xl E) K y acd akd act ark arr ali ala anc ank ant aag abk atd ase th z kk kc mn nx (nI u) true true) cv_X4_110 0 rfl rfl [0] [1, 2, 3, 4, 5, 6, 7, 8, 9, 10, 11, 12, 13, 14] [(acd, aI K 120 cd), (akd, aI K 120 kd), (act, aJ K 120 ct), (ark, aI K 10 rk1), (arr, aJ K 10 rr1), (ali, aI K 120 fl), (ala, aI K 120 fla), (anc, aI K 120 nc), (ank, aI K 120 nk), (ant, aJ K 120 nt), (aag, aI K 120 fag), (abk, aI K 120 fbk), (atd, aI K 120 ftd), (ase, aZ K 120 fse)] rfl rfl (by decide) rfl (st := []) rfl (Nat.le_of_ble_eq_true rfl) (by decide) ⟨by decide, by decide⟩ dX4_number_26 (fun v9 w9 h9 => ?_)
        obtain ⟨rfl, rfl⟩ := h9
        refine lx_perm [14, 0, 1, 2, 3, 4, 5, 6, 7, 8, 9, 10, 11, 12, 13] [(y, .inr (4, [.int (nI (lm_rf true true)), .ref acd, .ref akd, .ref act, .int (nI u), .ref ark, .ref arr, .int z, .int kk, .long kc, .ref ali, .int mn, .ref ala, .ref anc, .ref ank, .ref ant, .int nx, .ref aag, .ref abk, .ref atd, .ref ase])), (acd, aI K 120 cd), (akd, aI K 120 kd), (act, aJ K 120 ct), (ark, aI K 10 rk1), (arr, aJ K 10 rr1), (ali, aI K 120 fl), (ala, aI K 120 fla), (anc, aI K 120 nc), (ank, aI K 120 nk), (ant, aJ K 120 nt), (aag, aI K 120 fag), (abk, aI K 120 fbk), (atd, aI K 120 ftd), (ase, aZ K 120 fse)] (by decide) rfl ?_
        refine lx_st (a' := 0) (b' := 0) [.int (bI true)] rfl rfl rfl ?_
        refine lx_if_ne F 39 dX4_number_29 rfl (fun _ => ?_) (fun h => absurd h (by decide))
        exact lx_vret F hR dX4_number_39 ⟨rfl, by rw [show lm_oNumber r x (c, w, u, rt, z) = (1, (c, w, u, rt, z)) from if_pos hnr]; exact ⟨_, _, _, _, _, _, _, _, _, _, _, _, _, _, _, _, _, _, _, _, _, _, _, _, _, _, _, _, _, _, _, _, hh, hro, rfl⟩⟩

set_option maxHeartbeats 4000000 in
set_option maxRecDepth 100000 in
theorem zR_drop (l : Launch) (K : lm_G) (y : Nat) (c : Nat → Nat) (w : Nat → lm_V) (u : Nat) (rt : Nat → lm_V) (z : Int32) (hst : lm_st c w u rt) (th : Int32) (W : va_W) (hW : lm_mod K y (c, w, u, rt, z) th W) (r : Int32) : lm_C l K mX4_drop (rk 1) [.ref y, .int r] W (fun v9 w9 => v9 = none ∧ lm_mod K y (lm_oDrop r (c, w, u, rt, z)).2 (nI (lm_oDrop r (c, w, u, rt, z)).1) w9) := by
  obtain ⟨acd, akd, act, ark, arr, ali, ala, anc, ank, ant, aag, abk, atd, ase, kk, kc, mn, nx, cd, kd, ct, rk1, rr1, fl, fla, nc, nk, nt, fag, fbk, ftd, fse, hh, hro, rfl⟩ := hW
  have hh : lm_mf cd kd ct c w u := hh
  have hro : ∀ r, r < 10 → rk1 r = nI (rt r).1 ∧ rr1 r = jI (rt r).2 := hro
  have hw := hst.1
  have hr9 := hst.2
  have hu := hw.1
  refine lx_met RX4 pn_X4 rfl (Nat.le_of_ble_eq_true rfl) (fun E hE hnm F hR => ?_)
  have F : lx_F K 2 E cX4_drop RX4 none (rk 1) := F
  show lx_W K 2 E 0 0 0 [(0, .ref y), (1, .int r)] [] [(y, .inr (4, [.int th, .ref acd, .ref akd, .ref act, .int (nI u), .ref ark, .ref arr, .int z, .int kk, .long kc, .ref ali, .int mn, .ref ala, .ref anc, .ref ank, .ref ant, .int nx, .ref aag, .ref abk, .ref atd, .ref ase])), (acd, aI K 120 cd), (akd, aI K 120 kd), (act, aJ K 120 ct), (ark, aI K 10 rk1), (arr, aJ K 10 rr1), (ali, aI K 120 fl), (ala, aI K 120 fla), (anc, aI K 120 nc), (ank, aI K 120 nk), (ant, aJ K 120 nt), (aag, aI K 120 fag), (abk, aI K 120 fbk), (atd, aI K 120 ftd), (ase, aZ K 120 fse)]
  cases hnr : lm_none r
  · skip
    obtain ⟨k, hk, rfl⟩ := lm_none_f hnr
    refine lx_aload_n F dX4_drop_0 0 rfl ?_
    refine lx_iload_n F dX4_drop_1 1 rfl ?_
    refine lx_cs F (zr_none2 (xl E) K (nI k) false (lm_none_n hk)) cs_X4_102 [] [0, 1, 2, 3, 4, 5, 6, 7, 8, 9, 10, 11, 12, 13, 14] [(y, .inr (4, [.int th, .ref acd, .ref akd, .ref act, .int (nI u), .ref ark, .ref arr, .int z, .int kk, .long kc, .ref ali, .int mn, .ref ala, .ref anc, .ref ank, .ref ant, .int nx, .ref aag, .ref abk, .ref atd, .ref ase])), (acd, aI K 120 cd), (akd, aI K 120 kd), (act, aJ K 120 ct), (ark, aI K 10 rk1), (arr, aJ K 10 rr1), (ali, aI K 120 fl), (ala, aI K 120 fla), (anc, aI K 120 nc), (ank, aI K 120 nk), (ant, aJ K 120 nt), (aag, aI K 120 fag), (abk, aI K 120 fbk), (atd, aI K 120 ftd), (ase, aZ K 120 fse)] rfl rfl (by decide) rfl (st := [.ref y]) rfl (Nat.le_of_ble_eq_true rfl) (by decide) ⟨by decide, by decide⟩ dX4_drop_2 (fun v9 w9 h9 => ?_)
    obtain ⟨rfl, rfl⟩ := h9
    refine lx_perm [0, 1, 2, 3, 4, 5, 6, 7, 8, 9, 10, 11, 12, 13, 14] [(y, .inr (4, [.int th, .ref acd, .ref akd, .ref act, .int (nI u), .ref ark, .ref arr, .int z, .int kk, .long kc, .ref ali, .int mn, .ref ala, .ref anc, .ref ank, .ref ant, .int nx, .ref aag, .ref abk, .ref atd, .ref ase])), (acd, aI K 120 cd), (akd, aI K 120 kd), (act, aJ K 120 ct), (ark, aI K 10 rk1), (arr, aJ K 10 rr1), (ali, aI K 120 fl), (ala, aI K 120 fla), (anc, aI K 120 nc), (ank, aI K 120 nk), (ant, aJ K 120 nt), (aag, aI K 120 fag), (abk, aI K 120 fbk), (atd, aI K 120 ftd), (ase, aZ K 120 fse)] (by decide) rfl ?_
    refine lx_st (a' := 0) (b' := 0) [.int (bI false), .ref y] rfl rfl rfl ?_
    refine lx_iconst F dX4_drop_5 kc_0 ?_
    refine lx_cv F (zr_refuse (xl E) K y acd akd act ark arr ali ala anc ank ant aag abk atd ase th z kk kc mn nx (nI u) false false) cv_X4_110 0 rfl rfl [0] [1, 2, 3, 4, 5, 6, 7, 8, 9, 10, 11, 12, 13, 14] [(acd, aI K 120 cd), (akd, aI K 120 kd), (act, aJ K 120 ct), (ark, aI K 10 rk1), (arr, aJ K 10 rr1), (ali, aI K 120 fl), (ala, aI K 120 fla), (anc, aI K 120 nc), (ank, aI K 120 nk), (ant, aJ K 120 nt), (aag, aI K 120 fag), (abk, aI K 120 fbk), (atd, aI K 120 ftd), (ase, aZ K 120 fse)] rfl rfl (by decide) rfl (st := []) rfl (Nat.le_of_ble_eq_true rfl) (by decide) ⟨by decide, by decide⟩ dX4_drop_6 (fun v9 w9 h9 => ?_)
    obtain ⟨rfl, rfl⟩ := h9
    refine lx_perm [14, 0, 1, 2, 3, 4, 5, 6, 7, 8, 9, 10, 11, 12, 13] [(y, .inr (4, [.int (nI (lm_rf false false)), .ref acd, .ref akd, .ref act, .int (nI u), .ref ark, .ref arr, .int z, .int kk, .long kc, .ref ali, .int mn, .ref ala, .ref anc, .ref ank, .ref ant, .int nx, .ref aag, .ref abk, .ref atd, .ref ase])), (acd, aI K 120 cd), (akd, aI K 120 kd), (act, aJ K 120 ct), (ark, aI K 10 rk1), (arr, aJ K 10 rr1), (ali, aI K 120 fl), (ala, aI K 120 fla), (anc, aI K 120 nc), (ank, aI K 120 nk), (ant, aJ K 120 nt), (aag, aI K 120 fag), (abk, aI K 120 fbk), (atd, aI K 120 ftd), (ase, aZ K 120 fse)] (by decide) rfl ?_
    refine lx_st (a' := 0) (b' := 0) [.int (bI false)] rfl rfl rfl ?_
    refine lx_if_ne F 19 dX4_drop_9 rfl (fun h => absurd (by decide) h) (fun _ => ?_)
    refine lx_aload_n F dX4_drop_12 0 rfl ?_
    refine lx_iload_n F dX4_drop_13 1 rfl ?_
    refine lx_iconst F dX4_drop_14 kc_0 ?_
    refine lx_lconst F dX4_drop_15 kl_0 ?_
    refine lx_cv F (zr_setRoot (xl E) K y acd akd act ark arr ali ala anc ank ant aag abk atd ase (nI (lm_rf false false)) z kk kc mn nx (nI u) rk1 rr1 k hk (nI 0) (jI 0)) cv_X4_114 0 rfl rfl [0, 4, 5] [1, 2, 3, 6, 7, 8, 9, 10, 11, 12, 13, 14] [(acd, aI K 120 cd), (akd, aI K 120 kd), (act, aJ K 120 ct), (ali, aI K 120 fl), (ala, aI K 120 fla), (anc, aI K 120 nc), (ank, aI K 120 nk), (ant, aJ K 120 nt), (aag, aI K 120 fag), (abk, aI K 120 fbk), (atd, aI K 120 ftd), (ase, aZ K 120 fse)] rfl rfl (by decide) rfl (st := []) rfl (Nat.le_of_ble_eq_true rfl) (by decide) ⟨by decide, by decide⟩ dX4_drop_16 (fun v9 w9 h9 => ?_)
    obtain ⟨rfl, rfl⟩ := h9
    refine lx_perm [12, 0, 1, 2, 13, 14, 3, 4, 5, 6, 7, 8, 9, 10, 11] [(y, .inr (4, [.int (nI (lm_rf false false)), .ref acd, .ref akd, .ref act, .int (nI u), .ref ark, .ref arr, .int z, .int kk, .long kc, .ref ali, .int mn, .ref ala, .ref anc, .ref ank, .ref ant, .int nx, .ref aag, .ref abk, .ref atd, .ref ase])), (acd, aI K 120 cd), (akd, aI K 120 kd), (act, aJ K 120 ct), (ark, aI K 10 (lm_up rk1 k (nI 0))), (arr, aJ K 10 (lm_up rr1 k (jI 0))), (ali, aI K 120 fl), (ala, aI K 120 fla), (anc, aI K 120 nc), (ank, aI K 120 nk), (ant, aJ K 120 nt), (aag, aI K 120 fag), (abk, aI K 120 fbk), (atd, aI K 120 ftd), (ase, aZ K 120 fse)] (by decide) rfl ?_
    refine lx_st (a' := 0) (b' := 0) [] rfl rfl rfl ?_
    exact lx_vret F hR dX4_drop_19 ⟨rfl, by rw [show lm_oDrop (nI k) (c, w, u, rt, z) = (0, lm_set (c, w, u, rt, z) k (0, 0)) by unfold lm_oDrop; rw [lm_none_n hk, if_neg (by decide), lm_ix_n hk]]; exact ⟨_, _, _, _, _, _, _, _, _, _, _, _, _, _, _, _, _, _, _, _, _, _, _, _, _, _, _, _, _, _, _, _, hh, (lm_ro_up (v := (0, 0)) hro), rfl⟩⟩
  · skip
    refine lx_aload_n F dX4_drop_0 0 rfl ?_
    refine lx_iload_n F dX4_drop_1 1 rfl ?_
    refine lx_cs F (zr_none2 (xl E) K r true hnr) cs_X4_102 [] [0, 1, 2, 3, 4, 5, 6, 7, 8, 9, 10, 11, 12, 13, 14] [(y, .inr (4, [.int th, .ref acd, .ref akd, .ref act, .int (nI u), .ref ark, .ref arr, .int z, .int kk, .long kc, .ref ali, .int mn, .ref ala, .ref anc, .ref ank, .ref ant, .int nx, .ref aag, .ref abk, .ref atd, .ref ase])), (acd, aI K 120 cd), (akd, aI K 120 kd), (act, aJ K 120 ct), (ark, aI K 10 rk1), (arr, aJ K 10 rr1), (ali, aI K 120 fl), (ala, aI K 120 fla), (anc, aI K 120 nc), (ank, aI K 120 nk), (ant, aJ K 120 nt), (aag, aI K 120 fag), (abk, aI K 120 fbk), (atd, aI K 120 ftd), (ase, aZ K 120 fse)] rfl rfl (by decide) rfl (st := [.ref y]) rfl (Nat.le_of_ble_eq_true rfl) (by decide) ⟨by decide, by decide⟩ dX4_drop_2 (fun v9 w9 h9 => ?_)
    obtain ⟨rfl, rfl⟩ := h9
    refine lx_perm [0, 1, 2, 3, 4, 5, 6, 7, 8, 9, 10, 11, 12, 13, 14] [(y, .inr (4, [.int th, .ref acd, .ref akd, .ref act, .int (nI u), .ref ark, .ref arr, .int z, .int kk, .long kc, .ref ali, .int mn, .ref ala, .ref anc, .ref ank, .ref ant, .int nx, .ref aag, .ref abk, .ref atd, .ref ase])), (acd, aI K 120 cd), (akd, aI K 120 kd), (act, aJ K 120 ct), (ark, aI K 10 rk1), (arr, aJ K 10 rr1), (ali, aI K 120 fl), (ala, aI K 120 fla), (anc, aI K 120 nc), (ank, aI K 120 nk), (ant, aJ K 120 nt), (aag, aI K 120 fag), (abk, aI K 120 fbk), (atd, aI K 120 ftd), (ase, aZ K 120 fse)] (by decide) rfl ?_
    refine lx_st (a' := 0) (b' := 0) [.int (bI true), .ref y] rfl rfl rfl ?_
    refine lx_iconst F dX4_drop_5 kc_0 ?_
    refine lx_cv F (zr_refuse (xl E) K y acd akd act ark arr ali ala anc ank ant aag abk atd ase th z kk kc mn nx (nI u) true false) cv_X4_110 0 rfl rfl [0] [1, 2, 3, 4, 5, 6, 7, 8, 9, 10, 11, 12, 13, 14] [(acd, aI K 120 cd), (akd, aI K 120 kd), (act, aJ K 120 ct), (ark, aI K 10 rk1), (arr, aJ K 10 rr1), (ali, aI K 120 fl), (ala, aI K 120 fla), (anc, aI K 120 nc), (ank, aI K 120 nk), (ant, aJ K 120 nt), (aag, aI K 120 fag), (abk, aI K 120 fbk), (atd, aI K 120 ftd), (ase, aZ K 120 fse)] rfl rfl (by decide) rfl (st := []) rfl (Nat.le_of_ble_eq_true rfl) (by decide) ⟨by decide, by decide⟩ dX4_drop_6 (fun v9 w9 h9 => ?_)
    obtain ⟨rfl, rfl⟩ := h9
    refine lx_perm [14, 0, 1, 2, 3, 4, 5, 6, 7, 8, 9, 10, 11, 12, 13] [(y, .inr (4, [.int (nI (lm_rf true false)), .ref acd, .ref akd, .ref act, .int (nI u), .ref ark, .ref arr, .int z, .int kk, .long kc, .ref ali, .int mn, .ref ala, .ref anc, .ref ank, .ref ant, .int nx, .ref aag, .ref abk, .ref atd, .ref ase])), (acd, aI K 120 cd), (akd, aI K 120 kd), (act, aJ K 120 ct), (ark, aI K 10 rk1), (arr, aJ K 10 rr1), (ali, aI K 120 fl), (ala, aI K 120 fla), (anc, aI K 120 nc), (ank, aI K 120 nk), (ant, aJ K 120 nt), (aag, aI K 120 fag), (abk, aI K 120 fbk), (atd, aI K 120 ftd), (ase, aZ K 120 fse)] (by decide) rfl ?_
    refine lx_st (a' := 0) (b' := 0) [.int (bI true)] rfl rfl rfl ?_
    refine lx_if_ne F 19 dX4_drop_9 rfl (fun _ => ?_) (fun h => absurd h (by decide))
    exact lx_vret F hR dX4_drop_19 ⟨rfl, by rw [show lm_oDrop r (c, w, u, rt, z) = (1, (c, w, u, rt, z)) from if_pos hnr]; exact ⟨_, _, _, _, _, _, _, _, _, _, _, _, _, _, _, _, _, _, _, _, _, _, _, _, _, _, _, _, _, _, _, _, hh, hro, rfl⟩⟩

set_option maxHeartbeats 4000000 in
set_option maxRecDepth 100000 in
theorem zR_copy (l : Launch) (K : lm_G) (y : Nat) (c : Nat → Nat) (w : Nat → lm_V) (u : Nat) (rt : Nat → lm_V) (z : Int32) (hst : lm_st c w u rt) (th : Int32) (W : va_W) (hW : lm_mod K y (c, w, u, rt, z) th W) (r f : Int32) : lm_C l K mX4_copy (rk 1) [.ref y, .int r, .int f] W (fun v9 w9 => v9 = none ∧ lm_mod K y (lm_oCopy r f (c, w, u, rt, z)).2 (nI (lm_oCopy r f (c, w, u, rt, z)).1) w9) := by
  obtain ⟨acd, akd, act, ark, arr, ali, ala, anc, ank, ant, aag, abk, atd, ase, kk, kc, mn, nx, cd, kd, ct, rk1, rr1, fl, fla, nc, nk, nt, fag, fbk, ftd, fse, hh, hro, rfl⟩ := hW
  have hh : lm_mf cd kd ct c w u := hh
  have hro : ∀ r, r < 10 → rk1 r = nI (rt r).1 ∧ rr1 r = jI (rt r).2 := hro
  have hw := hst.1
  have hr9 := hst.2
  have hu := hw.1
  refine lx_met RX4 pn_X4 rfl (Nat.le_of_ble_eq_true rfl) (fun E hE hnm F hR => ?_)
  have F : lx_F K 3 E cX4_copy RX4 none (rk 1) := F
  show lx_W K 3 E 0 0 0 [(0, .ref y), (1, .int r), (2, .int f)] [] [(y, .inr (4, [.int th, .ref acd, .ref akd, .ref act, .int (nI u), .ref ark, .ref arr, .int z, .int kk, .long kc, .ref ali, .int mn, .ref ala, .ref anc, .ref ank, .ref ant, .int nx, .ref aag, .ref abk, .ref atd, .ref ase])), (acd, aI K 120 cd), (akd, aI K 120 kd), (act, aJ K 120 ct), (ark, aI K 10 rk1), (arr, aJ K 10 rr1), (ali, aI K 120 fl), (ala, aI K 120 fla), (anc, aI K 120 nc), (ank, aI K 120 nk), (ant, aJ K 120 nt), (aag, aI K 120 fag), (abk, aI K 120 fbk), (atd, aI K 120 ftd), (ase, aZ K 120 fse)]
  cases hnr : lm_none r
  · skip
    obtain ⟨k, hk, rfl⟩ := lm_none_f hnr
    cases hnf : lm_none f
    · skip
      obtain ⟨j, hj, rfl⟩ := lm_none_f hnf
      refine lx_aload_n F dX4_copy_0 0 rfl ?_
      refine lx_iload_n F dX4_copy_1 1 rfl ?_
      refine lx_cs F (zr_none2 (xl E) K (nI k) false (lm_none_n hk)) cs_X4_102 [] [0, 1, 2, 3, 4, 5, 6, 7, 8, 9, 10, 11, 12, 13, 14] [(y, .inr (4, [.int th, .ref acd, .ref akd, .ref act, .int (nI u), .ref ark, .ref arr, .int z, .int kk, .long kc, .ref ali, .int mn, .ref ala, .ref anc, .ref ank, .ref ant, .int nx, .ref aag, .ref abk, .ref atd, .ref ase])), (acd, aI K 120 cd), (akd, aI K 120 kd), (act, aJ K 120 ct), (ark, aI K 10 rk1), (arr, aJ K 10 rr1), (ali, aI K 120 fl), (ala, aI K 120 fla), (anc, aI K 120 nc), (ank, aI K 120 nk), (ant, aJ K 120 nt), (aag, aI K 120 fag), (abk, aI K 120 fbk), (atd, aI K 120 ftd), (ase, aZ K 120 fse)] rfl rfl (by decide) rfl (st := [.ref y]) rfl (Nat.le_of_ble_eq_true rfl) (by decide) ⟨by decide, by decide⟩ dX4_copy_2 (fun v9 w9 h9 => ?_)
      obtain ⟨rfl, rfl⟩ := h9
      refine lx_perm [0, 1, 2, 3, 4, 5, 6, 7, 8, 9, 10, 11, 12, 13, 14] [(y, .inr (4, [.int th, .ref acd, .ref akd, .ref act, .int (nI u), .ref ark, .ref arr, .int z, .int kk, .long kc, .ref ali, .int mn, .ref ala, .ref anc, .ref ank, .ref ant, .int nx, .ref aag, .ref abk, .ref atd, .ref ase])), (acd, aI K 120 cd), (akd, aI K 120 kd), (act, aJ K 120 ct), (ark, aI K 10 rk1), (arr, aJ K 10 rr1), (ali, aI K 120 fl), (ala, aI K 120 fla), (anc, aI K 120 nc), (ank, aI K 120 nk), (ant, aJ K 120 nt), (aag, aI K 120 fag), (abk, aI K 120 fbk), (atd, aI K 120 ftd), (ase, aZ K 120 fse)] (by decide) rfl ?_
      refine lx_st (a' := 0) (b' := 0) [.int (bI false), .ref y] rfl rfl rfl ?_
      refine lx_if_ne F 15 dX4_copy_5 rfl (fun h => absurd (by decide) h) (fun _ => ?_)
      refine lx_iload_n F dX4_copy_8 2 rfl ?_
      refine lx_cs F (zr_none2 (xl E) K (nI j) false (lm_none_n hj)) cs_X4_102 [] [0, 1, 2, 3, 4, 5, 6, 7, 8, 9, 10, 11, 12, 13, 14] [(y, .inr (4, [.int th, .ref acd, .ref akd, .ref act, .int (nI u), .ref ark, .ref arr, .int z, .int kk, .long kc, .ref ali, .int mn, .ref ala, .ref anc, .ref ank, .ref ant, .int nx, .ref aag, .ref abk, .ref atd, .ref ase])), (acd, aI K 120 cd), (akd, aI K 120 kd), (act, aJ K 120 ct), (ark, aI K 10 rk1), (arr, aJ K 10 rr1), (ali, aI K 120 fl), (ala, aI K 120 fla), (anc, aI K 120 nc), (ank, aI K 120 nk), (ant, aJ K 120 nt), (aag, aI K 120 fag), (abk, aI K 120 fbk), (atd, aI K 120 ftd), (ase, aZ K 120 fse)] rfl rfl (by decide) rfl (st := [.ref y]) rfl (Nat.le_of_ble_eq_true rfl) (by decide) ⟨by decide, by decide⟩ dX4_copy_9 (fun v9 w9 h9 => ?_)
      obtain ⟨rfl, rfl⟩ := h9
      refine lx_perm [0, 1, 2, 3, 4, 5, 6, 7, 8, 9, 10, 11, 12, 13, 14] [(y, .inr (4, [.int th, .ref acd, .ref akd, .ref act, .int (nI u), .ref ark, .ref arr, .int z, .int kk, .long kc, .ref ali, .int mn, .ref ala, .ref anc, .ref ank, .ref ant, .int nx, .ref aag, .ref abk, .ref atd, .ref ase])), (acd, aI K 120 cd), (akd, aI K 120 kd), (act, aJ K 120 ct), (ark, aI K 10 rk1), (arr, aJ K 10 rr1), (ali, aI K 120 fl), (ala, aI K 120 fla), (anc, aI K 120 nc), (ank, aI K 120 nk), (ant, aJ K 120 nt), (aag, aI K 120 fag), (abk, aI K 120 fbk), (atd, aI K 120 ftd), (ase, aZ K 120 fse)] (by decide) rfl ?_
      refine lx_st (a' := 0) (b' := 0) [.int (bI false), .ref y] rfl rfl rfl ?_
      refine lx_if_eq F 19 dX4_copy_12 rfl (fun _ => ?_) (fun h => absurd (by decide) h)
      refine lx_iconst F dX4_copy_19 kc_0 ?_
      refine lx_iconst F dX4_copy_20 kc_0 ?_
      refine lx_cv F (zr_refuse (xl E) K y acd akd act ark arr ali ala anc ank ant aag abk atd ase th z kk kc mn nx (nI u) false false) cv_X4_110 0 rfl rfl [0] [1, 2, 3, 4, 5, 6, 7, 8, 9, 10, 11, 12, 13, 14] [(acd, aI K 120 cd), (akd, aI K 120 kd), (act, aJ K 120 ct), (ark, aI K 10 rk1), (arr, aJ K 10 rr1), (ali, aI K 120 fl), (ala, aI K 120 fla), (anc, aI K 120 nc), (ank, aI K 120 nk), (ant, aJ K 120 nt), (aag, aI K 120 fag), (abk, aI K 120 fbk), (atd, aI K 120 ftd), (ase, aZ K 120 fse)] rfl rfl (by decide) rfl (st := []) rfl (Nat.le_of_ble_eq_true rfl) (by decide) ⟨by decide, by decide⟩ dX4_copy_21 (fun v9 w9 h9 => ?_)
      obtain ⟨rfl, rfl⟩ := h9
      refine lx_perm [14, 0, 1, 2, 3, 4, 5, 6, 7, 8, 9, 10, 11, 12, 13] [(y, .inr (4, [.int (nI (lm_rf false false)), .ref acd, .ref akd, .ref act, .int (nI u), .ref ark, .ref arr, .int z, .int kk, .long kc, .ref ali, .int mn, .ref ala, .ref anc, .ref ank, .ref ant, .int nx, .ref aag, .ref abk, .ref atd, .ref ase])), (acd, aI K 120 cd), (akd, aI K 120 kd), (act, aJ K 120 ct), (ark, aI K 10 rk1), (arr, aJ K 10 rr1), (ali, aI K 120 fl), (ala, aI K 120 fla), (anc, aI K 120 nc), (ank, aI K 120 nk), (ant, aJ K 120 nt), (aag, aI K 120 fag), (abk, aI K 120 fbk), (atd, aI K 120 ftd), (ase, aZ K 120 fse)] (by decide) rfl ?_
      refine lx_st (a' := 0) (b' := 0) [.int (bI false)] rfl rfl rfl ?_
      refine lx_if_ne F 44 dX4_copy_24 rfl (fun h => absurd (by decide) h) (fun _ => ?_)
      refine lx_aload_n F dX4_copy_27 0 rfl ?_
      refine lx_iload_n F dX4_copy_28 1 rfl ?_
      refine lx_aload_n F dX4_copy_29 0 rfl ?_
      refine gf_X4_20 F 0 rfl rfl dX4_copy_30 ?_
      refine lx_iload_n F dX4_copy_33 2 rfl ?_
      refine lx_iald F 4 j dX4_copy_34 rfl (by omega) (by decide) ?_
      rw [(hro j hj).1]
      refine lx_aload_n F dX4_copy_35 0 rfl ?_
      refine gf_X4_23 F 0 rfl rfl dX4_copy_36 ?_
      refine lx_iload_n F dX4_copy_39 2 rfl ?_
      refine lx_lald F 5 j dX4_copy_40 rfl (by omega) (by decide) ?_
      rw [(hro j hj).2]
      refine lx_cv F (zr_setRoot (xl E) K y acd akd act ark arr ali ala anc ank ant aag abk atd ase (nI (lm_rf false false)) z kk kc mn nx (nI u) rk1 rr1 k hk (nI (rt j).1) (jI (rt j).2)) cv_X4_114 0 rfl rfl [0, 4, 5] [1, 2, 3, 6, 7, 8, 9, 10, 11, 12, 13, 14] [(acd, aI K 120 cd), (akd, aI K 120 kd), (act, aJ K 120 ct), (ali, aI K 120 fl), (ala, aI K 120 fla), (anc, aI K 120 nc), (ank, aI K 120 nk), (ant, aJ K 120 nt), (aag, aI K 120 fag), (abk, aI K 120 fbk), (atd, aI K 120 ftd), (ase, aZ K 120 fse)] rfl rfl (by decide) rfl (st := []) rfl (Nat.le_of_ble_eq_true rfl) (by decide) ⟨by decide, by decide⟩ dX4_copy_41 (fun v9 w9 h9 => ?_)
      obtain ⟨rfl, rfl⟩ := h9
      refine lx_perm [12, 0, 1, 2, 13, 14, 3, 4, 5, 6, 7, 8, 9, 10, 11] [(y, .inr (4, [.int (nI (lm_rf false false)), .ref acd, .ref akd, .ref act, .int (nI u), .ref ark, .ref arr, .int z, .int kk, .long kc, .ref ali, .int mn, .ref ala, .ref anc, .ref ank, .ref ant, .int nx, .ref aag, .ref abk, .ref atd, .ref ase])), (acd, aI K 120 cd), (akd, aI K 120 kd), (act, aJ K 120 ct), (ark, aI K 10 (lm_up rk1 k (nI (rt j).1))), (arr, aJ K 10 (lm_up rr1 k (jI (rt j).2))), (ali, aI K 120 fl), (ala, aI K 120 fla), (anc, aI K 120 nc), (ank, aI K 120 nk), (ant, aJ K 120 nt), (aag, aI K 120 fag), (abk, aI K 120 fbk), (atd, aI K 120 ftd), (ase, aZ K 120 fse)] (by decide) rfl ?_
      refine lx_st (a' := 0) (b' := 0) [] rfl rfl rfl ?_
      exact lx_vret F hR dX4_copy_44 ⟨rfl, by rw [show lm_oCopy (nI k) (nI j) (c, w, u, rt, z) = (0, lm_set (c, w, u, rt, z) k (rt j)) by unfold lm_oCopy; rw [lm_none_n hk, lm_none_n hj, if_neg (by decide), lm_ix_n hk, lm_ix_n hj]]; exact ⟨_, _, _, _, _, _, _, _, _, _, _, _, _, _, _, _, _, _, _, _, _, _, _, _, _, _, _, _, _, _, _, _, hh, (lm_ro_up (v := rt j) hro), rfl⟩⟩
    · skip
      refine lx_aload_n F dX4_copy_0 0 rfl ?_
      refine lx_iload_n F dX4_copy_1 1 rfl ?_
      refine lx_cs F (zr_none2 (xl E) K (nI k) false (lm_none_n hk)) cs_X4_102 [] [0, 1, 2, 3, 4, 5, 6, 7, 8, 9, 10, 11, 12, 13, 14] [(y, .inr (4, [.int th, .ref acd, .ref akd, .ref act, .int (nI u), .ref ark, .ref arr, .int z, .int kk, .long kc, .ref ali, .int mn, .ref ala, .ref anc, .ref ank, .ref ant, .int nx, .ref aag, .ref abk, .ref atd, .ref ase])), (acd, aI K 120 cd), (akd, aI K 120 kd), (act, aJ K 120 ct), (ark, aI K 10 rk1), (arr, aJ K 10 rr1), (ali, aI K 120 fl), (ala, aI K 120 fla), (anc, aI K 120 nc), (ank, aI K 120 nk), (ant, aJ K 120 nt), (aag, aI K 120 fag), (abk, aI K 120 fbk), (atd, aI K 120 ftd), (ase, aZ K 120 fse)] rfl rfl (by decide) rfl (st := [.ref y]) rfl (Nat.le_of_ble_eq_true rfl) (by decide) ⟨by decide, by decide⟩ dX4_copy_2 (fun v9 w9 h9 => ?_)
      obtain ⟨rfl, rfl⟩ := h9
      refine lx_perm [0, 1, 2, 3, 4, 5, 6, 7, 8, 9, 10, 11, 12, 13, 14] [(y, .inr (4, [.int th, .ref acd, .ref akd, .ref act, .int (nI u), .ref ark, .ref arr, .int z, .int kk, .long kc, .ref ali, .int mn, .ref ala, .ref anc, .ref ank, .ref ant, .int nx, .ref aag, .ref abk, .ref atd, .ref ase])), (acd, aI K 120 cd), (akd, aI K 120 kd), (act, aJ K 120 ct), (ark, aI K 10 rk1), (arr, aJ K 10 rr1), (ali, aI K 120 fl), (ala, aI K 120 fla), (anc, aI K 120 nc), (ank, aI K 120 nk), (ant, aJ K 120 nt), (aag, aI K 120 fag), (abk, aI K 120 fbk), (atd, aI K 120 ftd), (ase, aZ K 120 fse)] (by decide) rfl ?_
      refine lx_st (a' := 0) (b' := 0) [.int (bI false), .ref y] rfl rfl rfl ?_
      refine lx_if_ne F 15 dX4_copy_5 rfl (fun h => absurd (by decide) h) (fun _ => ?_)
      refine lx_iload_n F dX4_copy_8 2 rfl ?_
      refine lx_cs F (zr_none2 (xl E) K f true hnf) cs_X4_102 [] [0, 1, 2, 3, 4, 5, 6, 7, 8, 9, 10, 11, 12, 13, 14] [(y, .inr (4, [.int th, .ref acd, .ref akd, .ref act, .int (nI u), .ref ark, .ref arr, .int z, .int kk, .long kc, .ref ali, .int mn, .ref ala, .ref anc, .ref ank, .ref ant, .int nx, .ref aag, .ref abk, .ref atd, .ref ase])), (acd, aI K 120 cd), (akd, aI K 120 kd), (act, aJ K 120 ct), (ark, aI K 10 rk1), (arr, aJ K 10 rr1), (ali, aI K 120 fl), (ala, aI K 120 fla), (anc, aI K 120 nc), (ank, aI K 120 nk), (ant, aJ K 120 nt), (aag, aI K 120 fag), (abk, aI K 120 fbk), (atd, aI K 120 ftd), (ase, aZ K 120 fse)] rfl rfl (by decide) rfl (st := [.ref y]) rfl (Nat.le_of_ble_eq_true rfl) (by decide) ⟨by decide, by decide⟩ dX4_copy_9 (fun v9 w9 h9 => ?_)
      obtain ⟨rfl, rfl⟩ := h9
      refine lx_perm [0, 1, 2, 3, 4, 5, 6, 7, 8, 9, 10, 11, 12, 13, 14] [(y, .inr (4, [.int th, .ref acd, .ref akd, .ref act, .int (nI u), .ref ark, .ref arr, .int z, .int kk, .long kc, .ref ali, .int mn, .ref ala, .ref anc, .ref ank, .ref ant, .int nx, .ref aag, .ref abk, .ref atd, .ref ase])), (acd, aI K 120 cd), (akd, aI K 120 kd), (act, aJ K 120 ct), (ark, aI K 10 rk1), (arr, aJ K 10 rr1), (ali, aI K 120 fl), (ala, aI K 120 fla), (anc, aI K 120 nc), (ank, aI K 120 nk), (ant, aJ K 120 nt), (aag, aI K 120 fag), (abk, aI K 120 fbk), (atd, aI K 120 ftd), (ase, aZ K 120 fse)] (by decide) rfl ?_
      refine lx_st (a' := 0) (b' := 0) [.int (bI true), .ref y] rfl rfl rfl ?_
      refine lx_if_eq F 19 dX4_copy_12 rfl (fun h => absurd h (by decide)) (fun _ => ?_)
      refine lx_iconst F dX4_copy_15 kc_1 ?_
      refine lx_goto F 20 dX4_copy_16 rfl ?_
      refine lx_iconst F dX4_copy_20 kc_0 ?_
      refine lx_cv F (zr_refuse (xl E) K y acd akd act ark arr ali ala anc ank ant aag abk atd ase th z kk kc mn nx (nI u) true false) cv_X4_110 0 rfl rfl [0] [1, 2, 3, 4, 5, 6, 7, 8, 9, 10, 11, 12, 13, 14] [(acd, aI K 120 cd), (akd, aI K 120 kd), (act, aJ K 120 ct), (ark, aI K 10 rk1), (arr, aJ K 10 rr1), (ali, aI K 120 fl), (ala, aI K 120 fla), (anc, aI K 120 nc), (ank, aI K 120 nk), (ant, aJ K 120 nt), (aag, aI K 120 fag), (abk, aI K 120 fbk), (atd, aI K 120 ftd), (ase, aZ K 120 fse)] rfl rfl (by decide) rfl (st := []) rfl (Nat.le_of_ble_eq_true rfl) (by decide) ⟨by decide, by decide⟩ dX4_copy_21 (fun v9 w9 h9 => ?_)
      obtain ⟨rfl, rfl⟩ := h9
      refine lx_perm [14, 0, 1, 2, 3, 4, 5, 6, 7, 8, 9, 10, 11, 12, 13] [(y, .inr (4, [.int (nI (lm_rf true false)), .ref acd, .ref akd, .ref act, .int (nI u), .ref ark, .ref arr, .int z, .int kk, .long kc, .ref ali, .int mn, .ref ala, .ref anc, .ref ank, .ref ant, .int nx, .ref aag, .ref abk, .ref atd, .ref ase])), (acd, aI K 120 cd), (akd, aI K 120 kd), (act, aJ K 120 ct), (ark, aI K 10 rk1), (arr, aJ K 10 rr1), (ali, aI K 120 fl), (ala, aI K 120 fla), (anc, aI K 120 nc), (ank, aI K 120 nk), (ant, aJ K 120 nt), (aag, aI K 120 fag), (abk, aI K 120 fbk), (atd, aI K 120 ftd), (ase, aZ K 120 fse)] (by decide) rfl ?_
      refine lx_st (a' := 0) (b' := 0) [.int (bI true)] rfl rfl rfl ?_
      refine lx_if_ne F 44 dX4_copy_24 rfl (fun _ => ?_) (fun h => absurd h (by decide))
      exact lx_vret F hR dX4_copy_44 ⟨rfl, by rw [show lm_oCopy (nI k) f (c, w, u, rt, z) = (1, (c, w, u, rt, z)) by unfold lm_oCopy; rw [lm_none_n hk, hnf]; rfl]; exact ⟨_, _, _, _, _, _, _, _, _, _, _, _, _, _, _, _, _, _, _, _, _, _, _, _, _, _, _, _, _, _, _, _, hh, hro, rfl⟩⟩
  · skip
    refine lx_aload_n F dX4_copy_0 0 rfl ?_
    refine lx_iload_n F dX4_copy_1 1 rfl ?_
    refine lx_cs F (zr_none2 (xl E) K r true hnr) cs_X4_102 [] [0, 1, 2, 3, 4, 5, 6, 7, 8, 9, 10, 11, 12, 13, 14] [(y, .inr (4, [.int th, .ref acd, .ref akd, .ref act, .int (nI u), .ref ark, .ref arr, .int z, .int kk, .long kc, .ref ali, .int mn, .ref ala, .ref anc, .ref ank, .ref ant, .int nx, .ref aag, .ref abk, .ref atd, .ref ase])), (acd, aI K 120 cd), (akd, aI K 120 kd), (act, aJ K 120 ct), (ark, aI K 10 rk1), (arr, aJ K 10 rr1), (ali, aI K 120 fl), (ala, aI K 120 fla), (anc, aI K 120 nc), (ank, aI K 120 nk), (ant, aJ K 120 nt), (aag, aI K 120 fag), (abk, aI K 120 fbk), (atd, aI K 120 ftd), (ase, aZ K 120 fse)] rfl rfl (by decide) rfl (st := [.ref y]) rfl (Nat.le_of_ble_eq_true rfl) (by decide) ⟨by decide, by decide⟩ dX4_copy_2 (fun v9 w9 h9 => ?_)
    obtain ⟨rfl, rfl⟩ := h9
    refine lx_perm [0, 1, 2, 3, 4, 5, 6, 7, 8, 9, 10, 11, 12, 13, 14] [(y, .inr (4, [.int th, .ref acd, .ref akd, .ref act, .int (nI u), .ref ark, .ref arr, .int z, .int kk, .long kc, .ref ali, .int mn, .ref ala, .ref anc, .ref ank, .ref ant, .int nx, .ref aag, .ref abk, .ref atd, .ref ase])), (acd, aI K 120 cd), (akd, aI K 120 kd), (act, aJ K 120 ct), (ark, aI K 10 rk1), (arr, aJ K 10 rr1), (ali, aI K 120 fl), (ala, aI K 120 fla), (anc, aI K 120 nc), (ank, aI K 120 nk), (ant, aJ K 120 nt), (aag, aI K 120 fag), (abk, aI K 120 fbk), (atd, aI K 120 ftd), (ase, aZ K 120 fse)] (by decide) rfl ?_
    refine lx_st (a' := 0) (b' := 0) [.int (bI true), .ref y] rfl rfl rfl ?_
    refine lx_if_ne F 15 dX4_copy_5 rfl (fun _ => ?_) (fun h => absurd h (by decide))
    refine lx_iconst F dX4_copy_15 kc_1 ?_
    refine lx_goto F 20 dX4_copy_16 rfl ?_
    refine lx_iconst F dX4_copy_20 kc_0 ?_
    refine lx_cv F (zr_refuse (xl E) K y acd akd act ark arr ali ala anc ank ant aag abk atd ase th z kk kc mn nx (nI u) true false) cv_X4_110 0 rfl rfl [0] [1, 2, 3, 4, 5, 6, 7, 8, 9, 10, 11, 12, 13, 14] [(acd, aI K 120 cd), (akd, aI K 120 kd), (act, aJ K 120 ct), (ark, aI K 10 rk1), (arr, aJ K 10 rr1), (ali, aI K 120 fl), (ala, aI K 120 fla), (anc, aI K 120 nc), (ank, aI K 120 nk), (ant, aJ K 120 nt), (aag, aI K 120 fag), (abk, aI K 120 fbk), (atd, aI K 120 ftd), (ase, aZ K 120 fse)] rfl rfl (by decide) rfl (st := []) rfl (Nat.le_of_ble_eq_true rfl) (by decide) ⟨by decide, by decide⟩ dX4_copy_21 (fun v9 w9 h9 => ?_)
    obtain ⟨rfl, rfl⟩ := h9
    refine lx_perm [14, 0, 1, 2, 3, 4, 5, 6, 7, 8, 9, 10, 11, 12, 13] [(y, .inr (4, [.int (nI (lm_rf true false)), .ref acd, .ref akd, .ref act, .int (nI u), .ref ark, .ref arr, .int z, .int kk, .long kc, .ref ali, .int mn, .ref ala, .ref anc, .ref ank, .ref ant, .int nx, .ref aag, .ref abk, .ref atd, .ref ase])), (acd, aI K 120 cd), (akd, aI K 120 kd), (act, aJ K 120 ct), (ark, aI K 10 rk1), (arr, aJ K 10 rr1), (ali, aI K 120 fl), (ala, aI K 120 fla), (anc, aI K 120 nc), (ank, aI K 120 nk), (ant, aJ K 120 nt), (aag, aI K 120 fag), (abk, aI K 120 fbk), (atd, aI K 120 ftd), (ase, aZ K 120 fse)] (by decide) rfl ?_
    refine lx_st (a' := 0) (b' := 0) [.int (bI true)] rfl rfl rfl ?_
    refine lx_if_ne F 44 dX4_copy_24 rfl (fun _ => ?_) (fun h => absurd h (by decide))
    exact lx_vret F hR dX4_copy_44 ⟨rfl, by rw [show lm_oCopy r f (c, w, u, rt, z) = (1, (c, w, u, rt, z)) by unfold lm_oCopy; rw [hnr]; rfl]; exact ⟨_, _, _, _, _, _, _, _, _, _, _, _, _, _, _, _, _, _, _, _, _, _, _, _, _, _, _, _, _, _, _, _, hh, hro, rfl⟩⟩

theorem zr_cellOf (l : Launch) (K : lm_G) (y acd akd act ark arr ali ala anc ank ant aag abk atd ase : Nat) (th z kk : Int32) (kc : Int64) (mn nx : Int32) (cd kd : Nat → Int32) (ct : Nat → Int64) (rr1 : Nat → Int64) (c : Nat → Nat) (w : Nat → lm_V) (u : Nat) (hw : lm_wf c w u) (hh : lm_mf cd kd ct c w u) (r : Nat) (hr : r < 10) (v : lm_V) (hv : lm_ok c u v) (h2 : v.1 = 2) (hrr : rr1 r = jI v.2) : lm_C l K mX4_cellOf (rk 1) [.ref y, .int (nI r)] [(y, .inr (4, [.int th, .ref acd, .ref akd, .ref act, .int (nI u), .ref ark, .ref arr, .int z, .int kk, .long kc, .ref ali, .int mn, .ref ala, .ref anc, .ref ank, .ref ant, .int nx, .ref aag, .ref abk, .ref atd, .ref ase])), (akd, aI K 120 kd), (act, aJ K 120 ct), (arr, aJ K 10 rr1)] (fun v9 w9 => v9 = some (.int (nI (lm_to w v))) ∧ w9 = [(y, .inr (4, [.int th, .ref acd, .ref akd, .ref act, .int (nI u), .ref ark, .ref arr, .int z, .int kk, .long kc, .ref ali, .int mn, .ref ala, .ref anc, .ref ank, .ref ant, .int nx, .ref aag, .ref abk, .ref atd, .ref ase])), (akd, aI K 120 kd), (act, aJ K 120 ct), (arr, aJ K 10 rr1)]) := by
  obtain ⟨qa, ea, la, na⟩ := lm_ok_p hv h2
  have ta : lm_to w v = lm_cell w qa := lm_to_q ea
  rw [ta]
  rw [ea] at hrr
  refine lx_met RX4 pn_X4 rfl (Nat.le_of_ble_eq_true rfl) (fun E hE hnm F hR => ?_)
  have F : lx_F K 2 E cX4_cellOf RX4 (some .int) (rk 1) := F
  show lx_W K 2 E 0 0 0 [(0, .ref y), (1, .int (nI r))] [] [(y, .inr (4, [.int th, .ref acd, .ref akd, .ref act, .int (nI u), .ref ark, .ref arr, .int z, .int kk, .long kc, .ref ali, .int mn, .ref ala, .ref anc, .ref ank, .ref ant, .int nx, .ref aag, .ref abk, .ref atd, .ref ase])), (akd, aI K 120 kd), (act, aJ K 120 ct), (arr, aJ K 10 rr1)]
  refine lx_aload_n F dX4_cellOf_0 0 rfl ?_
  refine lx_aload_n F dX4_cellOf_1 0 rfl ?_
  refine gf_X4_23 F 0 rfl rfl dX4_cellOf_2 ?_
  refine lx_iload_n F dX4_cellOf_5 1 rfl ?_
  refine lx_lald F 3 r dX4_cellOf_6 rfl (by omega) (by decide) ?_
  rw [hrr]
  refine lx_cv F (zr_cell (xl E) K y acd akd act ark arr ali ala anc ank ant aag abk atd ase th z kk kc mn nx cd kd ct c w u hw hh qa la na) cv_X4_65 0 rfl rfl [0, 1, 2] [3] [(arr, aJ K 10 rr1)] rfl rfl (by decide) rfl (st := []) rfl (Nat.le_of_ble_eq_true rfl) (by decide) ⟨by decide, by decide⟩ dX4_cellOf_7 (fun v9 w9 h9 => ?_)
  obtain ⟨rfl, rfl⟩ := h9
  refine lx_perm [1, 2, 3, 0] [(y, .inr (4, [.int th, .ref acd, .ref akd, .ref act, .int (nI u), .ref ark, .ref arr, .int z, .int kk, .long kc, .ref ali, .int mn, .ref ala, .ref anc, .ref ank, .ref ant, .int nx, .ref aag, .ref abk, .ref atd, .ref ase])), (akd, aI K 120 kd), (act, aJ K 120 ct), (arr, aJ K 10 rr1)] (by decide) rfl ?_
  refine lx_st (a' := 0) (b' := 0) [.int (nI (lm_cell w qa))] rfl rfl rfl ?_
  exact lx_iret F hR dX4_cellOf_10 ⟨rfl, rfl⟩

set_option maxHeartbeats 4000000 in
set_option maxRecDepth 100000 in
theorem zR_first (l : Launch) (K : lm_G) (y : Nat) (c : Nat → Nat) (w : Nat → lm_V) (u : Nat) (rt : Nat → lm_V) (z : Int32) (hst : lm_st c w u rt) (th : Int32) (W : va_W) (hW : lm_mod K y (c, w, u, rt, z) th W) (r f : Int32) : lm_C l K mX4_first (rk 5) [.ref y, .int r, .int f] W (fun v9 w9 => v9 = none ∧ lm_mod K y (lm_oFirst r f (c, w, u, rt, z)).2 (nI (lm_oFirst r f (c, w, u, rt, z)).1) w9) := by
  obtain ⟨acd, akd, act, ark, arr, ali, ala, anc, ank, ant, aag, abk, atd, ase, kk, kc, mn, nx, cd, kd, ct, rk1, rr1, fl, fla, nc, nk, nt, fag, fbk, ftd, fse, hh, hro, rfl⟩ := hW
  have hh : lm_mf cd kd ct c w u := hh
  have hro : ∀ r, r < 10 → rk1 r = nI (rt r).1 ∧ rr1 r = jI (rt r).2 := hro
  have hw := hst.1
  have hr9 := hst.2
  have hu := hw.1
  refine lx_met RX4 pn_X4 rfl (Nat.le_of_ble_eq_true rfl) (fun E hE hnm F hR => ?_)
  have F : lx_F K 5 E cX4_first RX4 none (rk 5) := F
  show lx_W K 5 E 0 0 0 [(0, .ref y), (1, .int r), (2, .int f)] [] [(y, .inr (4, [.int th, .ref acd, .ref akd, .ref act, .int (nI u), .ref ark, .ref arr, .int z, .int kk, .long kc, .ref ali, .int mn, .ref ala, .ref anc, .ref ank, .ref ant, .int nx, .ref aag, .ref abk, .ref atd, .ref ase])), (acd, aI K 120 cd), (akd, aI K 120 kd), (act, aJ K 120 ct), (ark, aI K 10 rk1), (arr, aJ K 10 rr1), (ali, aI K 120 fl), (ala, aI K 120 fla), (anc, aI K 120 nc), (ank, aI K 120 nk), (ant, aJ K 120 nt), (aag, aI K 120 fag), (abk, aI K 120 fbk), (atd, aI K 120 ftd), (ase, aZ K 120 fse)]
  cases hnr : lm_none r
  · skip
    obtain ⟨k, hk, rfl⟩ := lm_none_f hnr
    cases hnf : lm_none f
    · skip
      obtain ⟨j, hj, rfl⟩ := lm_none_f hnf
      refine lx_iload_n F dX4_first_0 1 rfl ?_
      refine lx_cs F (zr_none2 (xl E) K (nI k) false (lm_none_n hk)) cs_X4_102 [] [0, 1, 2, 3, 4, 5, 6, 7, 8, 9, 10, 11, 12, 13, 14] [(y, .inr (4, [.int th, .ref acd, .ref akd, .ref act, .int (nI u), .ref ark, .ref arr, .int z, .int kk, .long kc, .ref ali, .int mn, .ref ala, .ref anc, .ref ank, .ref ant, .int nx, .ref aag, .ref abk, .ref atd, .ref ase])), (acd, aI K 120 cd), (akd, aI K 120 kd), (act, aJ K 120 ct), (ark, aI K 10 rk1), (arr, aJ K 10 rr1), (ali, aI K 120 fl), (ala, aI K 120 fla), (anc, aI K 120 nc), (ank, aI K 120 nk), (ant, aJ K 120 nt), (aag, aI K 120 fag), (abk, aI K 120 fbk), (atd, aI K 120 ftd), (ase, aZ K 120 fse)] rfl rfl (by decide) rfl (st := []) rfl (Nat.le_of_ble_eq_true rfl) (by decide) ⟨by decide, by decide⟩ dX4_first_1 (fun v9 w9 h9 => ?_)
      obtain ⟨rfl, rfl⟩ := h9
      refine lx_perm [0, 1, 2, 3, 4, 5, 6, 7, 8, 9, 10, 11, 12, 13, 14] [(y, .inr (4, [.int th, .ref acd, .ref akd, .ref act, .int (nI u), .ref ark, .ref arr, .int z, .int kk, .long kc, .ref ali, .int mn, .ref ala, .ref anc, .ref ank, .ref ant, .int nx, .ref aag, .ref abk, .ref atd, .ref ase])), (acd, aI K 120 cd), (akd, aI K 120 kd), (act, aJ K 120 ct), (ark, aI K 10 rk1), (arr, aJ K 10 rr1), (ali, aI K 120 fl), (ala, aI K 120 fla), (anc, aI K 120 nc), (ank, aI K 120 nk), (ant, aJ K 120 nt), (aag, aI K 120 fag), (abk, aI K 120 fbk), (atd, aI K 120 ftd), (ase, aZ K 120 fse)] (by decide) rfl ?_
      refine lx_st (a' := 0) (b' := 0) [.int (bI false)] rfl rfl rfl ?_
      refine lx_if_ne F 14 dX4_first_4 rfl (fun h => absurd (by decide) h) (fun _ => ?_)
      refine lx_iload_n F dX4_first_7 2 rfl ?_
      refine lx_cs F (zr_none2 (xl E) K (nI j) false (lm_none_n hj)) cs_X4_102 [] [0, 1, 2, 3, 4, 5, 6, 7, 8, 9, 10, 11, 12, 13, 14] [(y, .inr (4, [.int th, .ref acd, .ref akd, .ref act, .int (nI u), .ref ark, .ref arr, .int z, .int kk, .long kc, .ref ali, .int mn, .ref ala, .ref anc, .ref ank, .ref ant, .int nx, .ref aag, .ref abk, .ref atd, .ref ase])), (acd, aI K 120 cd), (akd, aI K 120 kd), (act, aJ K 120 ct), (ark, aI K 10 rk1), (arr, aJ K 10 rr1), (ali, aI K 120 fl), (ala, aI K 120 fla), (anc, aI K 120 nc), (ank, aI K 120 nk), (ant, aJ K 120 nt), (aag, aI K 120 fag), (abk, aI K 120 fbk), (atd, aI K 120 ftd), (ase, aZ K 120 fse)] rfl rfl (by decide) rfl (st := []) rfl (Nat.le_of_ble_eq_true rfl) (by decide) ⟨by decide, by decide⟩ dX4_first_8 (fun v9 w9 h9 => ?_)
      obtain ⟨rfl, rfl⟩ := h9
      refine lx_perm [0, 1, 2, 3, 4, 5, 6, 7, 8, 9, 10, 11, 12, 13, 14] [(y, .inr (4, [.int th, .ref acd, .ref akd, .ref act, .int (nI u), .ref ark, .ref arr, .int z, .int kk, .long kc, .ref ali, .int mn, .ref ala, .ref anc, .ref ank, .ref ant, .int nx, .ref aag, .ref abk, .ref atd, .ref ase])), (acd, aI K 120 cd), (akd, aI K 120 kd), (act, aJ K 120 ct), (ark, aI K 10 rk1), (arr, aJ K 10 rr1), (ali, aI K 120 fl), (ala, aI K 120 fla), (anc, aI K 120 nc), (ank, aI K 120 nk), (ant, aJ K 120 nt), (aag, aI K 120 fag), (abk, aI K 120 fbk), (atd, aI K 120 ftd), (ase, aZ K 120 fse)] (by decide) rfl ?_
      refine lx_st (a' := 0) (b' := 0) [.int (bI false)] rfl rfl rfl ?_
      refine lx_if_eq F 18 dX4_first_11 rfl (fun _ => ?_) (fun h => absurd (by decide) h)
      refine lx_iconst F dX4_first_18 kc_0 ?_
      refine lx_istore_n F [(0, .ref y), (1, .int (nI k)), (2, .int (nI j)), (3, .int (nI 0))] [1, 2, 3, 0] dX4_first_19 rfl (by decide) ?_
      refine lx_aload_n F dX4_first_20 0 rfl ?_
      refine lx_iload_n F dX4_first_21 3 rfl ?_
      refine lx_iload_n F dX4_first_22 3 rfl ?_
      refine lx_ifN_ne F 40 (by omega) dX4_first_23 rfl (fun h => absurd h (by omega)) (fun _ => ?_)
      have hk3 := lm_ok_kind (hr9 j hj)
      refine lx_aload_n F dX4_first_26 0 rfl ?_
      refine gf_X4_20 F 0 rfl rfl dX4_first_27 ?_
      refine lx_iload_n F dX4_first_30 2 rfl ?_
      refine lx_iald F 4 j dX4_first_31 rfl (by omega) (by decide) ?_
      rw [(hro j hj).1]
      refine lx_iconst F dX4_first_32 kc_2 ?_
      refine lx_icmpN_eq F 40 (by omega) (by omega) dX4_first_33 rfl (fun h2 => ?_) (fun h2 => ?_)
      · skip
        have hcl := lm_to_cl hw (hr9 j hj) h2
        have hp1 := hcl.1
        refine lx_iconst F dX4_first_40 kc_0 ?_
        refine lx_cv F (zr_refuse (xl E) K y acd akd act ark arr ali ala anc ank ant aag abk atd ase th z kk kc mn nx (nI u) false false) cv_X4_110 0 rfl rfl [0] [1, 2, 3, 4, 5, 6, 7, 8, 9, 10, 11, 12, 13, 14] [(acd, aI K 120 cd), (akd, aI K 120 kd), (act, aJ K 120 ct), (ark, aI K 10 rk1), (arr, aJ K 10 rr1), (ali, aI K 120 fl), (ala, aI K 120 fla), (anc, aI K 120 nc), (ank, aI K 120 nk), (ant, aJ K 120 nt), (aag, aI K 120 fag), (abk, aI K 120 fbk), (atd, aI K 120 ftd), (ase, aZ K 120 fse)] rfl rfl (by decide) rfl (st := []) rfl (Nat.le_of_ble_eq_true rfl) (by decide) ⟨by decide, by decide⟩ dX4_first_41 (fun v9 w9 h9 => ?_)
        obtain ⟨rfl, rfl⟩ := h9
        refine lx_perm [14, 0, 1, 2, 3, 4, 5, 6, 7, 8, 9, 10, 11, 12, 13] [(y, .inr (4, [.int (nI (lm_rf false false)), .ref acd, .ref akd, .ref act, .int (nI u), .ref ark, .ref arr, .int z, .int kk, .long kc, .ref ali, .int mn, .ref ala, .ref anc, .ref ank, .ref ant, .int nx, .ref aag, .ref abk, .ref atd, .ref ase])), (acd, aI K 120 cd), (akd, aI K 120 kd), (act, aJ K 120 ct), (ark, aI K 10 rk1), (arr, aJ K 10 rr1), (ali, aI K 120 fl), (ala, aI K 120 fla), (anc, aI K 120 nc), (ank, aI K 120 nk), (ant, aJ K 120 nt), (aag, aI K 120 fag), (abk, aI K 120 fbk), (atd, aI K 120 ftd), (ase, aZ K 120 fse)] (by decide) rfl ?_
        refine lx_st (a' := 0) (b' := 0) [.int (bI false)] rfl rfl rfl ?_
        refine lx_if_eq F 48 dX4_first_44 rfl (fun _ => ?_) (fun h => absurd (by decide) h)
        refine lx_aload_n F dX4_first_48 0 rfl ?_
        refine lx_iload_n F dX4_first_49 2 rfl ?_
        refine lx_cv F (zr_cellOf (xl E) K y acd akd act ark arr ali ala anc ank ant aag abk atd ase (nI (lm_rf false false)) z kk kc mn nx cd kd ct rr1 c w u hw hh j hj (rt j) (hr9 j hj) h2 (hro j hj).2) cv_X4_124 0 rfl rfl [0, 2, 3, 5] [1, 4, 6, 7, 8, 9, 10, 11, 12, 13, 14] [(acd, aI K 120 cd), (ark, aI K 10 rk1), (ali, aI K 120 fl), (ala, aI K 120 fla), (anc, aI K 120 nc), (ank, aI K 120 nk), (ant, aJ K 120 nt), (aag, aI K 120 fag), (abk, aI K 120 fbk), (atd, aI K 120 ftd), (ase, aZ K 120 fse)] rfl rfl (by decide) rfl (st := []) rfl (Nat.le_of_ble_eq_true rfl) (by decide) ⟨by decide, by decide⟩ dX4_first_50 (fun v9 w9 h9 => ?_)
        obtain ⟨rfl, rfl⟩ := h9
        refine lx_perm [11, 0, 12, 13, 1, 14, 2, 3, 4, 5, 6, 7, 8, 9, 10] [(y, .inr (4, [.int (nI (lm_rf false false)), .ref acd, .ref akd, .ref act, .int (nI u), .ref ark, .ref arr, .int z, .int kk, .long kc, .ref ali, .int mn, .ref ala, .ref anc, .ref ank, .ref ant, .int nx, .ref aag, .ref abk, .ref atd, .ref ase])), (acd, aI K 120 cd), (akd, aI K 120 kd), (act, aJ K 120 ct), (ark, aI K 10 rk1), (arr, aJ K 10 rr1), (ali, aI K 120 fl), (ala, aI K 120 fla), (anc, aI K 120 nc), (ank, aI K 120 nk), (ant, aJ K 120 nt), (aag, aI K 120 fag), (abk, aI K 120 fbk), (atd, aI K 120 ftd), (ase, aZ K 120 fse)] (by decide) rfl ?_
        refine lx_st (a' := 0) (b' := 0) [.int (nI (lm_to w (rt j)))] rfl rfl rfl ?_
        refine lx_istore F [(0, .ref y), (1, .int (nI k)), (2, .int (nI j)), (3, .int (nI 0)), (4, .int (nI (lm_to w (rt j))))] [1, 2, 3, 4, 0] dX4_first_53 rfl (by decide) ?_
        refine lx_aload_n F dX4_first_55 0 rfl ?_
        refine lx_iload_n F dX4_first_56 1 rfl ?_
        refine lx_aload_n F dX4_first_57 0 rfl ?_
        refine gf_X4_13 F 0 rfl rfl dX4_first_58 ?_
        refine lx_iload F dX4_first_61 4 rfl ?_
        refine lx_iald F 2 (lm_to w (rt j)) dX4_first_63 rfl (by omega) (by decide) ?_
        rw [(hh _ hp1).2.1]
        refine lx_aload_n F dX4_first_64 0 rfl ?_
        refine gf_X4_16 F 0 rfl rfl dX4_first_65 ?_
        refine lx_iload F dX4_first_68 4 rfl ?_
        refine lx_lald F 3 (lm_to w (rt j)) dX4_first_70 rfl (by omega) (by decide) ?_
        rw [(hh _ hp1).2.2]
        refine lx_cv F (zr_setRoot (xl E) K y acd akd act ark arr ali ala anc ank ant aag abk atd ase (nI (lm_rf false false)) z kk kc mn nx (nI u) rk1 rr1 k hk (nI (w (lm_to w (rt j))).1) (jI (w (lm_to w (rt j))).2)) cv_X4_114 0 rfl rfl [0, 4, 5] [1, 2, 3, 6, 7, 8, 9, 10, 11, 12, 13, 14] [(acd, aI K 120 cd), (akd, aI K 120 kd), (act, aJ K 120 ct), (ali, aI K 120 fl), (ala, aI K 120 fla), (anc, aI K 120 nc), (ank, aI K 120 nk), (ant, aJ K 120 nt), (aag, aI K 120 fag), (abk, aI K 120 fbk), (atd, aI K 120 ftd), (ase, aZ K 120 fse)] rfl rfl (by decide) rfl (st := []) rfl (Nat.le_of_ble_eq_true rfl) (by decide) ⟨by decide, by decide⟩ dX4_first_71 (fun v9 w9 h9 => ?_)
        obtain ⟨rfl, rfl⟩ := h9
        refine lx_perm [12, 0, 1, 2, 13, 14, 3, 4, 5, 6, 7, 8, 9, 10, 11] [(y, .inr (4, [.int (nI (lm_rf false false)), .ref acd, .ref akd, .ref act, .int (nI u), .ref ark, .ref arr, .int z, .int kk, .long kc, .ref ali, .int mn, .ref ala, .ref anc, .ref ank, .ref ant, .int nx, .ref aag, .ref abk, .ref atd, .ref ase])), (acd, aI K 120 cd), (akd, aI K 120 kd), (act, aJ K 120 ct), (ark, aI K 10 (lm_up rk1 k (nI (w (lm_to w (rt j))).1))), (arr, aJ K 10 (lm_up rr1 k (jI (w (lm_to w (rt j))).2))), (ali, aI K 120 fl), (ala, aI K 120 fla), (anc, aI K 120 nc), (ank, aI K 120 nk), (ant, aJ K 120 nt), (aag, aI K 120 fag), (abk, aI K 120 fbk), (atd, aI K 120 ftd), (ase, aZ K 120 fse)] (by decide) rfl ?_
        refine lx_st (a' := 0) (b' := 0) [] rfl rfl rfl ?_
        exact lx_vret F hR dX4_first_74 ⟨rfl, by rw [show lm_oFirst (nI k) (nI j) (c, w, u, rt, z) = (0, lm_set (c, w, u, rt, z) k (w (lm_to w (rt j)))) by unfold lm_oFirst; rw [lm_none_n hk, lm_none_n hj, if_neg (by decide), lm_ix_n hj, if_neg (show ¬ (rt j).1 ≠ 2 from fun z9 => z9 h2), lm_ix_n hk]]; exact ⟨_, _, _, _, _, _, _, _, _, _, _, _, _, _, _, _, _, _, _, _, _, _, _, _, _, _, _, _, _, _, _, _, hh, (lm_ro_up (v := w (lm_to w (rt j))) hro), rfl⟩⟩
      · skip
        refine lx_iconst F dX4_first_36 kc_1 ?_
        refine lx_goto F 41 dX4_first_37 rfl ?_
        refine lx_cv F (zr_refuse (xl E) K y acd akd act ark arr ali ala anc ank ant aag abk atd ase th z kk kc mn nx (nI u) false true) cv_X4_110 0 rfl rfl [0] [1, 2, 3, 4, 5, 6, 7, 8, 9, 10, 11, 12, 13, 14] [(acd, aI K 120 cd), (akd, aI K 120 kd), (act, aJ K 120 ct), (ark, aI K 10 rk1), (arr, aJ K 10 rr1), (ali, aI K 120 fl), (ala, aI K 120 fla), (anc, aI K 120 nc), (ank, aI K 120 nk), (ant, aJ K 120 nt), (aag, aI K 120 fag), (abk, aI K 120 fbk), (atd, aI K 120 ftd), (ase, aZ K 120 fse)] rfl rfl (by decide) rfl (st := []) rfl (Nat.le_of_ble_eq_true rfl) (by decide) ⟨by decide, by decide⟩ dX4_first_41 (fun v9 w9 h9 => ?_)
        obtain ⟨rfl, rfl⟩ := h9
        refine lx_perm [14, 0, 1, 2, 3, 4, 5, 6, 7, 8, 9, 10, 11, 12, 13] [(y, .inr (4, [.int (nI (lm_rf false true)), .ref acd, .ref akd, .ref act, .int (nI u), .ref ark, .ref arr, .int z, .int kk, .long kc, .ref ali, .int mn, .ref ala, .ref anc, .ref ank, .ref ant, .int nx, .ref aag, .ref abk, .ref atd, .ref ase])), (acd, aI K 120 cd), (akd, aI K 120 kd), (act, aJ K 120 ct), (ark, aI K 10 rk1), (arr, aJ K 10 rr1), (ali, aI K 120 fl), (ala, aI K 120 fla), (anc, aI K 120 nc), (ank, aI K 120 nk), (ant, aJ K 120 nt), (aag, aI K 120 fag), (abk, aI K 120 fbk), (atd, aI K 120 ftd), (ase, aZ K 120 fse)] (by decide) rfl ?_
        refine lx_st (a' := 0) (b' := 0) [.int (bI true)] rfl rfl rfl ?_
        refine lx_if_eq F 48 dX4_first_44 rfl (fun h => absurd h (by decide)) (fun _ => ?_)
        exact lx_vret F hR dX4_first_47 ⟨rfl, by rw [show lm_oFirst (nI k) (nI j) (c, w, u, rt, z) = (2, (c, w, u, rt, z)) by unfold lm_oFirst; rw [lm_none_n hk, lm_none_n hj, if_neg (by decide), lm_ix_n hj, if_pos h2]]; exact ⟨_, _, _, _, _, _, _, _, _, _, _, _, _, _, _, _, _, _, _, _, _, _, _, _, _, _, _, _, _, _, _, _, hh, hro, rfl⟩⟩
    · skip
      refine lx_iload_n F dX4_first_0 1 rfl ?_
      refine lx_cs F (zr_none2 (xl E) K (nI k) false (lm_none_n hk)) cs_X4_102 [] [0, 1, 2, 3, 4, 5, 6, 7, 8, 9, 10, 11, 12, 13, 14] [(y, .inr (4, [.int th, .ref acd, .ref akd, .ref act, .int (nI u), .ref ark, .ref arr, .int z, .int kk, .long kc, .ref ali, .int mn, .ref ala, .ref anc, .ref ank, .ref ant, .int nx, .ref aag, .ref abk, .ref atd, .ref ase])), (acd, aI K 120 cd), (akd, aI K 120 kd), (act, aJ K 120 ct), (ark, aI K 10 rk1), (arr, aJ K 10 rr1), (ali, aI K 120 fl), (ala, aI K 120 fla), (anc, aI K 120 nc), (ank, aI K 120 nk), (ant, aJ K 120 nt), (aag, aI K 120 fag), (abk, aI K 120 fbk), (atd, aI K 120 ftd), (ase, aZ K 120 fse)] rfl rfl (by decide) rfl (st := []) rfl (Nat.le_of_ble_eq_true rfl) (by decide) ⟨by decide, by decide⟩ dX4_first_1 (fun v9 w9 h9 => ?_)
      obtain ⟨rfl, rfl⟩ := h9
      refine lx_perm [0, 1, 2, 3, 4, 5, 6, 7, 8, 9, 10, 11, 12, 13, 14] [(y, .inr (4, [.int th, .ref acd, .ref akd, .ref act, .int (nI u), .ref ark, .ref arr, .int z, .int kk, .long kc, .ref ali, .int mn, .ref ala, .ref anc, .ref ank, .ref ant, .int nx, .ref aag, .ref abk, .ref atd, .ref ase])), (acd, aI K 120 cd), (akd, aI K 120 kd), (act, aJ K 120 ct), (ark, aI K 10 rk1), (arr, aJ K 10 rr1), (ali, aI K 120 fl), (ala, aI K 120 fla), (anc, aI K 120 nc), (ank, aI K 120 nk), (ant, aJ K 120 nt), (aag, aI K 120 fag), (abk, aI K 120 fbk), (atd, aI K 120 ftd), (ase, aZ K 120 fse)] (by decide) rfl ?_
      refine lx_st (a' := 0) (b' := 0) [.int (bI false)] rfl rfl rfl ?_
      refine lx_if_ne F 14 dX4_first_4 rfl (fun h => absurd (by decide) h) (fun _ => ?_)
      refine lx_iload_n F dX4_first_7 2 rfl ?_
      refine lx_cs F (zr_none2 (xl E) K f true hnf) cs_X4_102 [] [0, 1, 2, 3, 4, 5, 6, 7, 8, 9, 10, 11, 12, 13, 14] [(y, .inr (4, [.int th, .ref acd, .ref akd, .ref act, .int (nI u), .ref ark, .ref arr, .int z, .int kk, .long kc, .ref ali, .int mn, .ref ala, .ref anc, .ref ank, .ref ant, .int nx, .ref aag, .ref abk, .ref atd, .ref ase])), (acd, aI K 120 cd), (akd, aI K 120 kd), (act, aJ K 120 ct), (ark, aI K 10 rk1), (arr, aJ K 10 rr1), (ali, aI K 120 fl), (ala, aI K 120 fla), (anc, aI K 120 nc), (ank, aI K 120 nk), (ant, aJ K 120 nt), (aag, aI K 120 fag), (abk, aI K 120 fbk), (atd, aI K 120 ftd), (ase, aZ K 120 fse)] rfl rfl (by decide) rfl (st := []) rfl (Nat.le_of_ble_eq_true rfl) (by decide) ⟨by decide, by decide⟩ dX4_first_8 (fun v9 w9 h9 => ?_)
      obtain ⟨rfl, rfl⟩ := h9
      refine lx_perm [0, 1, 2, 3, 4, 5, 6, 7, 8, 9, 10, 11, 12, 13, 14] [(y, .inr (4, [.int th, .ref acd, .ref akd, .ref act, .int (nI u), .ref ark, .ref arr, .int z, .int kk, .long kc, .ref ali, .int mn, .ref ala, .ref anc, .ref ank, .ref ant, .int nx, .ref aag, .ref abk, .ref atd, .ref ase])), (acd, aI K 120 cd), (akd, aI K 120 kd), (act, aJ K 120 ct), (ark, aI K 10 rk1), (arr, aJ K 10 rr1), (ali, aI K 120 fl), (ala, aI K 120 fla), (anc, aI K 120 nc), (ank, aI K 120 nk), (ant, aJ K 120 nt), (aag, aI K 120 fag), (abk, aI K 120 fbk), (atd, aI K 120 ftd), (ase, aZ K 120 fse)] (by decide) rfl ?_
      refine lx_st (a' := 0) (b' := 0) [.int (bI true)] rfl rfl rfl ?_
      refine lx_if_eq F 18 dX4_first_11 rfl (fun h => absurd h (by decide)) (fun _ => ?_)
      refine lx_iconst F dX4_first_14 kc_1 ?_
      refine lx_goto F 19 dX4_first_15 rfl ?_
      refine lx_istore_n F [(0, .ref y), (1, .int (nI k)), (2, .int f), (3, .int (nI 1))] [1, 2, 3, 0] dX4_first_19 rfl (by decide) ?_
      refine lx_aload_n F dX4_first_20 0 rfl ?_
      refine lx_iload_n F dX4_first_21 3 rfl ?_
      refine lx_iload_n F dX4_first_22 3 rfl ?_
      refine lx_ifN_ne F 40 (by omega) dX4_first_23 rfl (fun _ => ?_) (fun h => absurd h (by omega))
      refine lx_iconst F dX4_first_40 kc_0 ?_
      refine lx_cv F (zr_refuse (xl E) K y acd akd act ark arr ali ala anc ank ant aag abk atd ase th z kk kc mn nx (nI u) true false) cv_X4_110 0 rfl rfl [0] [1, 2, 3, 4, 5, 6, 7, 8, 9, 10, 11, 12, 13, 14] [(acd, aI K 120 cd), (akd, aI K 120 kd), (act, aJ K 120 ct), (ark, aI K 10 rk1), (arr, aJ K 10 rr1), (ali, aI K 120 fl), (ala, aI K 120 fla), (anc, aI K 120 nc), (ank, aI K 120 nk), (ant, aJ K 120 nt), (aag, aI K 120 fag), (abk, aI K 120 fbk), (atd, aI K 120 ftd), (ase, aZ K 120 fse)] rfl rfl (by decide) rfl (st := []) rfl (Nat.le_of_ble_eq_true rfl) (by decide) ⟨by decide, by decide⟩ dX4_first_41 (fun v9 w9 h9 => ?_)
      obtain ⟨rfl, rfl⟩ := h9
      refine lx_perm [14, 0, 1, 2, 3, 4, 5, 6, 7, 8, 9, 10, 11, 12, 13] [(y, .inr (4, [.int (nI (lm_rf true false)), .ref acd, .ref akd, .ref act, .int (nI u), .ref ark, .ref arr, .int z, .int kk, .long kc, .ref ali, .int mn, .ref ala, .ref anc, .ref ank, .ref ant, .int nx, .ref aag, .ref abk, .ref atd, .ref ase])), (acd, aI K 120 cd), (akd, aI K 120 kd), (act, aJ K 120 ct), (ark, aI K 10 rk1), (arr, aJ K 10 rr1), (ali, aI K 120 fl), (ala, aI K 120 fla), (anc, aI K 120 nc), (ank, aI K 120 nk), (ant, aJ K 120 nt), (aag, aI K 120 fag), (abk, aI K 120 fbk), (atd, aI K 120 ftd), (ase, aZ K 120 fse)] (by decide) rfl ?_
      refine lx_st (a' := 0) (b' := 0) [.int (bI true)] rfl rfl rfl ?_
      refine lx_if_eq F 48 dX4_first_44 rfl (fun h => absurd h (by decide)) (fun _ => ?_)
      exact lx_vret F hR dX4_first_47 ⟨rfl, by rw [show lm_oFirst (nI k) f (c, w, u, rt, z) = (1, (c, w, u, rt, z)) by unfold lm_oFirst; rw [lm_none_n hk, hnf]; rfl]; exact ⟨_, _, _, _, _, _, _, _, _, _, _, _, _, _, _, _, _, _, _, _, _, _, _, _, _, _, _, _, _, _, _, _, hh, hro, rfl⟩⟩
  · skip
    refine lx_iload_n F dX4_first_0 1 rfl ?_
    refine lx_cs F (zr_none2 (xl E) K r true hnr) cs_X4_102 [] [0, 1, 2, 3, 4, 5, 6, 7, 8, 9, 10, 11, 12, 13, 14] [(y, .inr (4, [.int th, .ref acd, .ref akd, .ref act, .int (nI u), .ref ark, .ref arr, .int z, .int kk, .long kc, .ref ali, .int mn, .ref ala, .ref anc, .ref ank, .ref ant, .int nx, .ref aag, .ref abk, .ref atd, .ref ase])), (acd, aI K 120 cd), (akd, aI K 120 kd), (act, aJ K 120 ct), (ark, aI K 10 rk1), (arr, aJ K 10 rr1), (ali, aI K 120 fl), (ala, aI K 120 fla), (anc, aI K 120 nc), (ank, aI K 120 nk), (ant, aJ K 120 nt), (aag, aI K 120 fag), (abk, aI K 120 fbk), (atd, aI K 120 ftd), (ase, aZ K 120 fse)] rfl rfl (by decide) rfl (st := []) rfl (Nat.le_of_ble_eq_true rfl) (by decide) ⟨by decide, by decide⟩ dX4_first_1 (fun v9 w9 h9 => ?_)
    obtain ⟨rfl, rfl⟩ := h9
    refine lx_perm [0, 1, 2, 3, 4, 5, 6, 7, 8, 9, 10, 11, 12, 13, 14] [(y, .inr (4, [.int th, .ref acd, .ref akd, .ref act, .int (nI u), .ref ark, .ref arr, .int z, .int kk, .long kc, .ref ali, .int mn, .ref ala, .ref anc, .ref ank, .ref ant, .int nx, .ref aag, .ref abk, .ref atd, .ref ase])), (acd, aI K 120 cd), (akd, aI K 120 kd), (act, aJ K 120 ct), (ark, aI K 10 rk1), (arr, aJ K 10 rr1), (ali, aI K 120 fl), (ala, aI K 120 fla), (anc, aI K 120 nc), (ank, aI K 120 nk), (ant, aJ K 120 nt), (aag, aI K 120 fag), (abk, aI K 120 fbk), (atd, aI K 120 ftd), (ase, aZ K 120 fse)] (by decide) rfl ?_
    refine lx_st (a' := 0) (b' := 0) [.int (bI true)] rfl rfl rfl ?_
    refine lx_if_ne F 14 dX4_first_4 rfl (fun _ => ?_) (fun h => absurd h (by decide))
    refine lx_iconst F dX4_first_14 kc_1 ?_
    refine lx_goto F 19 dX4_first_15 rfl ?_
    refine lx_istore_n F [(0, .ref y), (1, .int r), (2, .int f), (3, .int (nI 1))] [1, 2, 3, 0] dX4_first_19 rfl (by decide) ?_
    refine lx_aload_n F dX4_first_20 0 rfl ?_
    refine lx_iload_n F dX4_first_21 3 rfl ?_
    refine lx_iload_n F dX4_first_22 3 rfl ?_
    refine lx_ifN_ne F 40 (by omega) dX4_first_23 rfl (fun _ => ?_) (fun h => absurd h (by omega))
    refine lx_iconst F dX4_first_40 kc_0 ?_
    refine lx_cv F (zr_refuse (xl E) K y acd akd act ark arr ali ala anc ank ant aag abk atd ase th z kk kc mn nx (nI u) true false) cv_X4_110 0 rfl rfl [0] [1, 2, 3, 4, 5, 6, 7, 8, 9, 10, 11, 12, 13, 14] [(acd, aI K 120 cd), (akd, aI K 120 kd), (act, aJ K 120 ct), (ark, aI K 10 rk1), (arr, aJ K 10 rr1), (ali, aI K 120 fl), (ala, aI K 120 fla), (anc, aI K 120 nc), (ank, aI K 120 nk), (ant, aJ K 120 nt), (aag, aI K 120 fag), (abk, aI K 120 fbk), (atd, aI K 120 ftd), (ase, aZ K 120 fse)] rfl rfl (by decide) rfl (st := []) rfl (Nat.le_of_ble_eq_true rfl) (by decide) ⟨by decide, by decide⟩ dX4_first_41 (fun v9 w9 h9 => ?_)
    obtain ⟨rfl, rfl⟩ := h9
    refine lx_perm [14, 0, 1, 2, 3, 4, 5, 6, 7, 8, 9, 10, 11, 12, 13] [(y, .inr (4, [.int (nI (lm_rf true false)), .ref acd, .ref akd, .ref act, .int (nI u), .ref ark, .ref arr, .int z, .int kk, .long kc, .ref ali, .int mn, .ref ala, .ref anc, .ref ank, .ref ant, .int nx, .ref aag, .ref abk, .ref atd, .ref ase])), (acd, aI K 120 cd), (akd, aI K 120 kd), (act, aJ K 120 ct), (ark, aI K 10 rk1), (arr, aJ K 10 rr1), (ali, aI K 120 fl), (ala, aI K 120 fla), (anc, aI K 120 nc), (ank, aI K 120 nk), (ant, aJ K 120 nt), (aag, aI K 120 fag), (abk, aI K 120 fbk), (atd, aI K 120 ftd), (ase, aZ K 120 fse)] (by decide) rfl ?_
    refine lx_st (a' := 0) (b' := 0) [.int (bI true)] rfl rfl rfl ?_
    refine lx_if_eq F 48 dX4_first_44 rfl (fun h => absurd h (by decide)) (fun _ => ?_)
    exact lx_vret F hR dX4_first_47 ⟨rfl, by rw [show lm_oFirst r f (c, w, u, rt, z) = (1, (c, w, u, rt, z)) by unfold lm_oFirst; rw [hnr]; rfl]; exact ⟨_, _, _, _, _, _, _, _, _, _, _, _, _, _, _, _, _, _, _, _, _, _, _, _, _, _, _, _, _, _, _, _, hh, hro, rfl⟩⟩

set_option maxHeartbeats 4000000 in
set_option maxRecDepth 100000 in
theorem zR_rest (l : Launch) (K : lm_G) (y : Nat) (c : Nat → Nat) (w : Nat → lm_V) (u : Nat) (rt : Nat → lm_V) (z : Int32) (hst : lm_st c w u rt) (th : Int32) (W : va_W) (hW : lm_mod K y (c, w, u, rt, z) th W) (r f : Int32) : lm_C l K mX4_rest (rk 5) [.ref y, .int r, .int f] W (fun v9 w9 => v9 = none ∧ lm_mod K y (lm_oRest r f (c, w, u, rt, z)).2 (nI (lm_oRest r f (c, w, u, rt, z)).1) w9) := by
  obtain ⟨acd, akd, act, ark, arr, ali, ala, anc, ank, ant, aag, abk, atd, ase, kk, kc, mn, nx, cd, kd, ct, rk1, rr1, fl, fla, nc, nk, nt, fag, fbk, ftd, fse, hh, hro, rfl⟩ := hW
  have hh : lm_mf cd kd ct c w u := hh
  have hro : ∀ r, r < 10 → rk1 r = nI (rt r).1 ∧ rr1 r = jI (rt r).2 := hro
  have hw := hst.1
  have hr9 := hst.2
  have hu := hw.1
  refine lx_met RX4 pn_X4 rfl (Nat.le_of_ble_eq_true rfl) (fun E hE hnm F hR => ?_)
  have F : lx_F K 4 E cX4_rest RX4 none (rk 5) := F
  show lx_W K 4 E 0 0 0 [(0, .ref y), (1, .int r), (2, .int f)] [] [(y, .inr (4, [.int th, .ref acd, .ref akd, .ref act, .int (nI u), .ref ark, .ref arr, .int z, .int kk, .long kc, .ref ali, .int mn, .ref ala, .ref anc, .ref ank, .ref ant, .int nx, .ref aag, .ref abk, .ref atd, .ref ase])), (acd, aI K 120 cd), (akd, aI K 120 kd), (act, aJ K 120 ct), (ark, aI K 10 rk1), (arr, aJ K 10 rr1), (ali, aI K 120 fl), (ala, aI K 120 fla), (anc, aI K 120 nc), (ank, aI K 120 nk), (ant, aJ K 120 nt), (aag, aI K 120 fag), (abk, aI K 120 fbk), (atd, aI K 120 ftd), (ase, aZ K 120 fse)]
  cases hnr : lm_none r
  · skip
    obtain ⟨k, hk, rfl⟩ := lm_none_f hnr
    cases hnf : lm_none f
    · skip
      obtain ⟨j, hj, rfl⟩ := lm_none_f hnf
      refine lx_iload_n F dX4_rest_0 1 rfl ?_
      refine lx_cs F (zr_none2 (xl E) K (nI k) false (lm_none_n hk)) cs_X4_102 [] [0, 1, 2, 3, 4, 5, 6, 7, 8, 9, 10, 11, 12, 13, 14] [(y, .inr (4, [.int th, .ref acd, .ref akd, .ref act, .int (nI u), .ref ark, .ref arr, .int z, .int kk, .long kc, .ref ali, .int mn, .ref ala, .ref anc, .ref ank, .ref ant, .int nx, .ref aag, .ref abk, .ref atd, .ref ase])), (acd, aI K 120 cd), (akd, aI K 120 kd), (act, aJ K 120 ct), (ark, aI K 10 rk1), (arr, aJ K 10 rr1), (ali, aI K 120 fl), (ala, aI K 120 fla), (anc, aI K 120 nc), (ank, aI K 120 nk), (ant, aJ K 120 nt), (aag, aI K 120 fag), (abk, aI K 120 fbk), (atd, aI K 120 ftd), (ase, aZ K 120 fse)] rfl rfl (by decide) rfl (st := []) rfl (Nat.le_of_ble_eq_true rfl) (by decide) ⟨by decide, by decide⟩ dX4_rest_1 (fun v9 w9 h9 => ?_)
      obtain ⟨rfl, rfl⟩ := h9
      refine lx_perm [0, 1, 2, 3, 4, 5, 6, 7, 8, 9, 10, 11, 12, 13, 14] [(y, .inr (4, [.int th, .ref acd, .ref akd, .ref act, .int (nI u), .ref ark, .ref arr, .int z, .int kk, .long kc, .ref ali, .int mn, .ref ala, .ref anc, .ref ank, .ref ant, .int nx, .ref aag, .ref abk, .ref atd, .ref ase])), (acd, aI K 120 cd), (akd, aI K 120 kd), (act, aJ K 120 ct), (ark, aI K 10 rk1), (arr, aJ K 10 rr1), (ali, aI K 120 fl), (ala, aI K 120 fla), (anc, aI K 120 nc), (ank, aI K 120 nk), (ant, aJ K 120 nt), (aag, aI K 120 fag), (abk, aI K 120 fbk), (atd, aI K 120 ftd), (ase, aZ K 120 fse)] (by decide) rfl ?_
      refine lx_st (a' := 0) (b' := 0) [.int (bI false)] rfl rfl rfl ?_
      refine lx_if_ne F 14 dX4_rest_4 rfl (fun h => absurd (by decide) h) (fun _ => ?_)
      refine lx_iload_n F dX4_rest_7 2 rfl ?_
      refine lx_cs F (zr_none2 (xl E) K (nI j) false (lm_none_n hj)) cs_X4_102 [] [0, 1, 2, 3, 4, 5, 6, 7, 8, 9, 10, 11, 12, 13, 14] [(y, .inr (4, [.int th, .ref acd, .ref akd, .ref act, .int (nI u), .ref ark, .ref arr, .int z, .int kk, .long kc, .ref ali, .int mn, .ref ala, .ref anc, .ref ank, .ref ant, .int nx, .ref aag, .ref abk, .ref atd, .ref ase])), (acd, aI K 120 cd), (akd, aI K 120 kd), (act, aJ K 120 ct), (ark, aI K 10 rk1), (arr, aJ K 10 rr1), (ali, aI K 120 fl), (ala, aI K 120 fla), (anc, aI K 120 nc), (ank, aI K 120 nk), (ant, aJ K 120 nt), (aag, aI K 120 fag), (abk, aI K 120 fbk), (atd, aI K 120 ftd), (ase, aZ K 120 fse)] rfl rfl (by decide) rfl (st := []) rfl (Nat.le_of_ble_eq_true rfl) (by decide) ⟨by decide, by decide⟩ dX4_rest_8 (fun v9 w9 h9 => ?_)
      obtain ⟨rfl, rfl⟩ := h9
      refine lx_perm [0, 1, 2, 3, 4, 5, 6, 7, 8, 9, 10, 11, 12, 13, 14] [(y, .inr (4, [.int th, .ref acd, .ref akd, .ref act, .int (nI u), .ref ark, .ref arr, .int z, .int kk, .long kc, .ref ali, .int mn, .ref ala, .ref anc, .ref ank, .ref ant, .int nx, .ref aag, .ref abk, .ref atd, .ref ase])), (acd, aI K 120 cd), (akd, aI K 120 kd), (act, aJ K 120 ct), (ark, aI K 10 rk1), (arr, aJ K 10 rr1), (ali, aI K 120 fl), (ala, aI K 120 fla), (anc, aI K 120 nc), (ank, aI K 120 nk), (ant, aJ K 120 nt), (aag, aI K 120 fag), (abk, aI K 120 fbk), (atd, aI K 120 ftd), (ase, aZ K 120 fse)] (by decide) rfl ?_
      refine lx_st (a' := 0) (b' := 0) [.int (bI false)] rfl rfl rfl ?_
      refine lx_if_eq F 18 dX4_rest_11 rfl (fun _ => ?_) (fun h => absurd (by decide) h)
      refine lx_iconst F dX4_rest_18 kc_0 ?_
      refine lx_istore_n F [(0, .ref y), (1, .int (nI k)), (2, .int (nI j)), (3, .int (nI 0))] [1, 2, 3, 0] dX4_rest_19 rfl (by decide) ?_
      refine lx_aload_n F dX4_rest_20 0 rfl ?_
      refine lx_iload_n F dX4_rest_21 3 rfl ?_
      refine lx_iload_n F dX4_rest_22 3 rfl ?_
      refine lx_ifN_ne F 40 (by omega) dX4_rest_23 rfl (fun h => absurd h (by omega)) (fun _ => ?_)
      have hk3 := lm_ok_kind (hr9 j hj)
      refine lx_aload_n F dX4_rest_26 0 rfl ?_
      refine gf_X4_20 F 0 rfl rfl dX4_rest_27 ?_
      refine lx_iload_n F dX4_rest_30 2 rfl ?_
      refine lx_iald F 4 j dX4_rest_31 rfl (by omega) (by decide) ?_
      rw [(hro j hj).1]
      refine lx_iconst F dX4_rest_32 kc_2 ?_
      refine lx_icmpN_eq F 40 (by omega) (by omega) dX4_rest_33 rfl (fun h2 => ?_) (fun h2 => ?_)
      · skip
        have hcl := lm_to_cl hw (hr9 j hj) h2
        have hp1 := hcl.1
        refine lx_iconst F dX4_rest_40 kc_0 ?_
        refine lx_cv F (zr_refuse (xl E) K y acd akd act ark arr ali ala anc ank ant aag abk atd ase th z kk kc mn nx (nI u) false false) cv_X4_110 0 rfl rfl [0] [1, 2, 3, 4, 5, 6, 7, 8, 9, 10, 11, 12, 13, 14] [(acd, aI K 120 cd), (akd, aI K 120 kd), (act, aJ K 120 ct), (ark, aI K 10 rk1), (arr, aJ K 10 rr1), (ali, aI K 120 fl), (ala, aI K 120 fla), (anc, aI K 120 nc), (ank, aI K 120 nk), (ant, aJ K 120 nt), (aag, aI K 120 fag), (abk, aI K 120 fbk), (atd, aI K 120 ftd), (ase, aZ K 120 fse)] rfl rfl (by decide) rfl (st := []) rfl (Nat.le_of_ble_eq_true rfl) (by decide) ⟨by decide, by decide⟩ dX4_rest_41 (fun v9 w9 h9 => ?_)
        obtain ⟨rfl, rfl⟩ := h9
        refine lx_perm [14, 0, 1, 2, 3, 4, 5, 6, 7, 8, 9, 10, 11, 12, 13] [(y, .inr (4, [.int (nI (lm_rf false false)), .ref acd, .ref akd, .ref act, .int (nI u), .ref ark, .ref arr, .int z, .int kk, .long kc, .ref ali, .int mn, .ref ala, .ref anc, .ref ank, .ref ant, .int nx, .ref aag, .ref abk, .ref atd, .ref ase])), (acd, aI K 120 cd), (akd, aI K 120 kd), (act, aJ K 120 ct), (ark, aI K 10 rk1), (arr, aJ K 10 rr1), (ali, aI K 120 fl), (ala, aI K 120 fla), (anc, aI K 120 nc), (ank, aI K 120 nk), (ant, aJ K 120 nt), (aag, aI K 120 fag), (abk, aI K 120 fbk), (atd, aI K 120 ftd), (ase, aZ K 120 fse)] (by decide) rfl ?_
        refine lx_st (a' := 0) (b' := 0) [.int (bI false)] rfl rfl rfl ?_
        refine lx_if_eq F 48 dX4_rest_44 rfl (fun _ => ?_) (fun h => absurd (by decide) h)
        refine lx_aload_n F dX4_rest_48 0 rfl ?_
        refine lx_aload_n F dX4_rest_49 0 rfl ?_
        refine lx_iload_n F dX4_rest_50 2 rfl ?_
        refine lx_cv F (zr_cellOf (xl E) K y acd akd act ark arr ali ala anc ank ant aag abk atd ase (nI (lm_rf false false)) z kk kc mn nx cd kd ct rr1 c w u hw hh j hj (rt j) (hr9 j hj) h2 (hro j hj).2) cv_X4_124 0 rfl rfl [0, 2, 3, 5] [1, 4, 6, 7, 8, 9, 10, 11, 12, 13, 14] [(acd, aI K 120 cd), (ark, aI K 10 rk1), (ali, aI K 120 fl), (ala, aI K 120 fla), (anc, aI K 120 nc), (ank, aI K 120 nk), (ant, aJ K 120 nt), (aag, aI K 120 fag), (abk, aI K 120 fbk), (atd, aI K 120 ftd), (ase, aZ K 120 fse)] rfl rfl (by decide) rfl (st := [.ref y]) rfl (Nat.le_of_ble_eq_true rfl) (by decide) ⟨by decide, by decide⟩ dX4_rest_51 (fun v9 w9 h9 => ?_)
        obtain ⟨rfl, rfl⟩ := h9
        refine lx_perm [11, 0, 12, 13, 1, 14, 2, 3, 4, 5, 6, 7, 8, 9, 10] [(y, .inr (4, [.int (nI (lm_rf false false)), .ref acd, .ref akd, .ref act, .int (nI u), .ref ark, .ref arr, .int z, .int kk, .long kc, .ref ali, .int mn, .ref ala, .ref anc, .ref ank, .ref ant, .int nx, .ref aag, .ref abk, .ref atd, .ref ase])), (acd, aI K 120 cd), (akd, aI K 120 kd), (act, aJ K 120 ct), (ark, aI K 10 rk1), (arr, aJ K 10 rr1), (ali, aI K 120 fl), (ala, aI K 120 fla), (anc, aI K 120 nc), (ank, aI K 120 nk), (ant, aJ K 120 nt), (aag, aI K 120 fag), (abk, aI K 120 fbk), (atd, aI K 120 ftd), (ase, aZ K 120 fse)] (by decide) rfl ?_
        refine lx_st (a' := 0) (b' := 0) [.int (nI (lm_to w (rt j))), .ref y] rfl rfl rfl ?_
        refine lx_cv F (zr_lookRest (xl E) K y acd akd act ark arr ali ala anc ank ant aag abk atd ase (nI (lm_rf false false)) z kk kc mn nx cd kd ct c w u hw hh (lm_to w (rt j)) hcl) cv_X4_85 0 rfl rfl [0, 1, 2, 3] [4, 5, 6, 7, 8, 9, 10, 11, 12, 13, 14] [(ark, aI K 10 rk1), (arr, aJ K 10 rr1), (ali, aI K 120 fl), (ala, aI K 120 fla), (anc, aI K 120 nc), (ank, aI K 120 nk), (ant, aJ K 120 nt), (aag, aI K 120 fag), (abk, aI K 120 fbk), (atd, aI K 120 ftd), (ase, aZ K 120 fse)] rfl rfl (by decide) rfl (st := []) rfl (Nat.le_of_ble_eq_true rfl) (by decide) ⟨by decide, by decide⟩ dX4_rest_54 (fun v9 w9 h9 => ?_)
        obtain ⟨rfl, rfl⟩ := h9
        refine lx_perm [11, 12, 13, 14, 0, 1, 2, 3, 4, 5, 6, 7, 8, 9, 10] [(y, .inr (4, [.int (nI (lm_rf false false)), .ref acd, .ref akd, .ref act, .int (nI u), .ref ark, .ref arr, .int z, .int (nI ((lm_rest c w (lm_to w (rt j))).1)), .long (jI ((lm_rest c w (lm_to w (rt j))).2)), .ref ali, .int mn, .ref ala, .ref anc, .ref ank, .ref ant, .int nx, .ref aag, .ref abk, .ref atd, .ref ase])), (acd, aI K 120 cd), (akd, aI K 120 kd), (act, aJ K 120 ct), (ark, aI K 10 rk1), (arr, aJ K 10 rr1), (ali, aI K 120 fl), (ala, aI K 120 fla), (anc, aI K 120 nc), (ank, aI K 120 nk), (ant, aJ K 120 nt), (aag, aI K 120 fag), (abk, aI K 120 fbk), (atd, aI K 120 ftd), (ase, aZ K 120 fse)] (by decide) rfl ?_
        refine lx_st (a' := 0) (b' := 0) [] rfl rfl rfl ?_
        refine lx_aload_n F dX4_rest_57 0 rfl ?_
        refine lx_iload_n F dX4_rest_58 1 rfl ?_
        refine lx_aload_n F dX4_rest_59 0 rfl ?_
        refine gf_X4_58 F 0 rfl rfl dX4_rest_60 ?_
        refine lx_aload_n F dX4_rest_63 0 rfl ?_
        refine gf_X4_61 F 0 rfl rfl dX4_rest_64 ?_
        refine lx_cv F (zr_setRoot (xl E) K y acd akd act ark arr ali ala anc ank ant aag abk atd ase (nI (lm_rf false false)) z (nI (lm_rest c w (lm_to w (rt j))).1) (jI (lm_rest c w (lm_to w (rt j))).2) mn nx (nI u) rk1 rr1 k hk (nI (lm_rest c w (lm_to w (rt j))).1) (jI (lm_rest c w (lm_to w (rt j))).2)) cv_X4_114 0 rfl rfl [0, 4, 5] [1, 2, 3, 6, 7, 8, 9, 10, 11, 12, 13, 14] [(acd, aI K 120 cd), (akd, aI K 120 kd), (act, aJ K 120 ct), (ali, aI K 120 fl), (ala, aI K 120 fla), (anc, aI K 120 nc), (ank, aI K 120 nk), (ant, aJ K 120 nt), (aag, aI K 120 fag), (abk, aI K 120 fbk), (atd, aI K 120 ftd), (ase, aZ K 120 fse)] rfl rfl (by decide) rfl (st := []) rfl (Nat.le_of_ble_eq_true rfl) (by decide) ⟨by decide, by decide⟩ dX4_rest_67 (fun v9 w9 h9 => ?_)
        obtain ⟨rfl, rfl⟩ := h9
        refine lx_perm [12, 0, 1, 2, 13, 14, 3, 4, 5, 6, 7, 8, 9, 10, 11] [(y, .inr (4, [.int (nI (lm_rf false false)), .ref acd, .ref akd, .ref act, .int (nI u), .ref ark, .ref arr, .int z, .int (nI ((lm_rest c w (lm_to w (rt j))).1)), .long (jI ((lm_rest c w (lm_to w (rt j))).2)), .ref ali, .int mn, .ref ala, .ref anc, .ref ank, .ref ant, .int nx, .ref aag, .ref abk, .ref atd, .ref ase])), (acd, aI K 120 cd), (akd, aI K 120 kd), (act, aJ K 120 ct), (ark, aI K 10 (lm_up rk1 k (nI (lm_rest c w (lm_to w (rt j))).1))), (arr, aJ K 10 (lm_up rr1 k (jI (lm_rest c w (lm_to w (rt j))).2))), (ali, aI K 120 fl), (ala, aI K 120 fla), (anc, aI K 120 nc), (ank, aI K 120 nk), (ant, aJ K 120 nt), (aag, aI K 120 fag), (abk, aI K 120 fbk), (atd, aI K 120 ftd), (ase, aZ K 120 fse)] (by decide) rfl ?_
        refine lx_st (a' := 0) (b' := 0) [] rfl rfl rfl ?_
        exact lx_vret F hR dX4_rest_70 ⟨rfl, by rw [show lm_oRest (nI k) (nI j) (c, w, u, rt, z) = (0, lm_set (c, w, u, rt, z) k (lm_rest c w (lm_to w (rt j)))) by unfold lm_oRest; rw [lm_none_n hk, lm_none_n hj, if_neg (by decide), lm_ix_n hj, if_neg (show ¬ (rt j).1 ≠ 2 from fun z9 => z9 h2), lm_ix_n hk]]; exact ⟨_, _, _, _, _, _, _, _, _, _, _, _, _, _, _, _, _, _, _, _, _, _, _, _, _, _, _, _, _, _, _, _, hh, (lm_ro_up (v := lm_rest c w (lm_to w (rt j))) hro), rfl⟩⟩
      · skip
        refine lx_iconst F dX4_rest_36 kc_1 ?_
        refine lx_goto F 41 dX4_rest_37 rfl ?_
        refine lx_cv F (zr_refuse (xl E) K y acd akd act ark arr ali ala anc ank ant aag abk atd ase th z kk kc mn nx (nI u) false true) cv_X4_110 0 rfl rfl [0] [1, 2, 3, 4, 5, 6, 7, 8, 9, 10, 11, 12, 13, 14] [(acd, aI K 120 cd), (akd, aI K 120 kd), (act, aJ K 120 ct), (ark, aI K 10 rk1), (arr, aJ K 10 rr1), (ali, aI K 120 fl), (ala, aI K 120 fla), (anc, aI K 120 nc), (ank, aI K 120 nk), (ant, aJ K 120 nt), (aag, aI K 120 fag), (abk, aI K 120 fbk), (atd, aI K 120 ftd), (ase, aZ K 120 fse)] rfl rfl (by decide) rfl (st := []) rfl (Nat.le_of_ble_eq_true rfl) (by decide) ⟨by decide, by decide⟩ dX4_rest_41 (fun v9 w9 h9 => ?_)
        obtain ⟨rfl, rfl⟩ := h9
        refine lx_perm [14, 0, 1, 2, 3, 4, 5, 6, 7, 8, 9, 10, 11, 12, 13] [(y, .inr (4, [.int (nI (lm_rf false true)), .ref acd, .ref akd, .ref act, .int (nI u), .ref ark, .ref arr, .int z, .int kk, .long kc, .ref ali, .int mn, .ref ala, .ref anc, .ref ank, .ref ant, .int nx, .ref aag, .ref abk, .ref atd, .ref ase])), (acd, aI K 120 cd), (akd, aI K 120 kd), (act, aJ K 120 ct), (ark, aI K 10 rk1), (arr, aJ K 10 rr1), (ali, aI K 120 fl), (ala, aI K 120 fla), (anc, aI K 120 nc), (ank, aI K 120 nk), (ant, aJ K 120 nt), (aag, aI K 120 fag), (abk, aI K 120 fbk), (atd, aI K 120 ftd), (ase, aZ K 120 fse)] (by decide) rfl ?_
        refine lx_st (a' := 0) (b' := 0) [.int (bI true)] rfl rfl rfl ?_
        refine lx_if_eq F 48 dX4_rest_44 rfl (fun h => absurd h (by decide)) (fun _ => ?_)
        exact lx_vret F hR dX4_rest_47 ⟨rfl, by rw [show lm_oRest (nI k) (nI j) (c, w, u, rt, z) = (2, (c, w, u, rt, z)) by unfold lm_oRest; rw [lm_none_n hk, lm_none_n hj, if_neg (by decide), lm_ix_n hj, if_pos h2]]; exact ⟨_, _, _, _, _, _, _, _, _, _, _, _, _, _, _, _, _, _, _, _, _, _, _, _, _, _, _, _, _, _, _, _, hh, hro, rfl⟩⟩
    · skip
      refine lx_iload_n F dX4_rest_0 1 rfl ?_
      refine lx_cs F (zr_none2 (xl E) K (nI k) false (lm_none_n hk)) cs_X4_102 [] [0, 1, 2, 3, 4, 5, 6, 7, 8, 9, 10, 11, 12, 13, 14] [(y, .inr (4, [.int th, .ref acd, .ref akd, .ref act, .int (nI u), .ref ark, .ref arr, .int z, .int kk, .long kc, .ref ali, .int mn, .ref ala, .ref anc, .ref ank, .ref ant, .int nx, .ref aag, .ref abk, .ref atd, .ref ase])), (acd, aI K 120 cd), (akd, aI K 120 kd), (act, aJ K 120 ct), (ark, aI K 10 rk1), (arr, aJ K 10 rr1), (ali, aI K 120 fl), (ala, aI K 120 fla), (anc, aI K 120 nc), (ank, aI K 120 nk), (ant, aJ K 120 nt), (aag, aI K 120 fag), (abk, aI K 120 fbk), (atd, aI K 120 ftd), (ase, aZ K 120 fse)] rfl rfl (by decide) rfl (st := []) rfl (Nat.le_of_ble_eq_true rfl) (by decide) ⟨by decide, by decide⟩ dX4_rest_1 (fun v9 w9 h9 => ?_)
      obtain ⟨rfl, rfl⟩ := h9
      refine lx_perm [0, 1, 2, 3, 4, 5, 6, 7, 8, 9, 10, 11, 12, 13, 14] [(y, .inr (4, [.int th, .ref acd, .ref akd, .ref act, .int (nI u), .ref ark, .ref arr, .int z, .int kk, .long kc, .ref ali, .int mn, .ref ala, .ref anc, .ref ank, .ref ant, .int nx, .ref aag, .ref abk, .ref atd, .ref ase])), (acd, aI K 120 cd), (akd, aI K 120 kd), (act, aJ K 120 ct), (ark, aI K 10 rk1), (arr, aJ K 10 rr1), (ali, aI K 120 fl), (ala, aI K 120 fla), (anc, aI K 120 nc), (ank, aI K 120 nk), (ant, aJ K 120 nt), (aag, aI K 120 fag), (abk, aI K 120 fbk), (atd, aI K 120 ftd), (ase, aZ K 120 fse)] (by decide) rfl ?_
      refine lx_st (a' := 0) (b' := 0) [.int (bI false)] rfl rfl rfl ?_
      refine lx_if_ne F 14 dX4_rest_4 rfl (fun h => absurd (by decide) h) (fun _ => ?_)
      refine lx_iload_n F dX4_rest_7 2 rfl ?_
      refine lx_cs F (zr_none2 (xl E) K f true hnf) cs_X4_102 [] [0, 1, 2, 3, 4, 5, 6, 7, 8, 9, 10, 11, 12, 13, 14] [(y, .inr (4, [.int th, .ref acd, .ref akd, .ref act, .int (nI u), .ref ark, .ref arr, .int z, .int kk, .long kc, .ref ali, .int mn, .ref ala, .ref anc, .ref ank, .ref ant, .int nx, .ref aag, .ref abk, .ref atd, .ref ase])), (acd, aI K 120 cd), (akd, aI K 120 kd), (act, aJ K 120 ct), (ark, aI K 10 rk1), (arr, aJ K 10 rr1), (ali, aI K 120 fl), (ala, aI K 120 fla), (anc, aI K 120 nc), (ank, aI K 120 nk), (ant, aJ K 120 nt), (aag, aI K 120 fag), (abk, aI K 120 fbk), (atd, aI K 120 ftd), (ase, aZ K 120 fse)] rfl rfl (by decide) rfl (st := []) rfl (Nat.le_of_ble_eq_true rfl) (by decide) ⟨by decide, by decide⟩ dX4_rest_8 (fun v9 w9 h9 => ?_)
      obtain ⟨rfl, rfl⟩ := h9
      refine lx_perm [0, 1, 2, 3, 4, 5, 6, 7, 8, 9, 10, 11, 12, 13, 14] [(y, .inr (4, [.int th, .ref acd, .ref akd, .ref act, .int (nI u), .ref ark, .ref arr, .int z, .int kk, .long kc, .ref ali, .int mn, .ref ala, .ref anc, .ref ank, .ref ant, .int nx, .ref aag, .ref abk, .ref atd, .ref ase])), (acd, aI K 120 cd), (akd, aI K 120 kd), (act, aJ K 120 ct), (ark, aI K 10 rk1), (arr, aJ K 10 rr1), (ali, aI K 120 fl), (ala, aI K 120 fla), (anc, aI K 120 nc), (ank, aI K 120 nk), (ant, aJ K 120 nt), (aag, aI K 120 fag), (abk, aI K 120 fbk), (atd, aI K 120 ftd), (ase, aZ K 120 fse)] (by decide) rfl ?_
      refine lx_st (a' := 0) (b' := 0) [.int (bI true)] rfl rfl rfl ?_
      refine lx_if_eq F 18 dX4_rest_11 rfl (fun h => absurd h (by decide)) (fun _ => ?_)
      refine lx_iconst F dX4_rest_14 kc_1 ?_
      refine lx_goto F 19 dX4_rest_15 rfl ?_
      refine lx_istore_n F [(0, .ref y), (1, .int (nI k)), (2, .int f), (3, .int (nI 1))] [1, 2, 3, 0] dX4_rest_19 rfl (by decide) ?_
      refine lx_aload_n F dX4_rest_20 0 rfl ?_
      refine lx_iload_n F dX4_rest_21 3 rfl ?_
      refine lx_iload_n F dX4_rest_22 3 rfl ?_
      refine lx_ifN_ne F 40 (by omega) dX4_rest_23 rfl (fun _ => ?_) (fun h => absurd h (by omega))
      refine lx_iconst F dX4_rest_40 kc_0 ?_
      refine lx_cv F (zr_refuse (xl E) K y acd akd act ark arr ali ala anc ank ant aag abk atd ase th z kk kc mn nx (nI u) true false) cv_X4_110 0 rfl rfl [0] [1, 2, 3, 4, 5, 6, 7, 8, 9, 10, 11, 12, 13, 14] [(acd, aI K 120 cd), (akd, aI K 120 kd), (act, aJ K 120 ct), (ark, aI K 10 rk1), (arr, aJ K 10 rr1), (ali, aI K 120 fl), (ala, aI K 120 fla), (anc, aI K 120 nc), (ank, aI K 120 nk), (ant, aJ K 120 nt), (aag, aI K 120 fag), (abk, aI K 120 fbk), (atd, aI K 120 ftd), (ase, aZ K 120 fse)] rfl rfl (by decide) rfl (st := []) rfl (Nat.le_of_ble_eq_true rfl) (by decide) ⟨by decide, by decide⟩ dX4_rest_41 (fun v9 w9 h9 => ?_)
      obtain ⟨rfl, rfl⟩ := h9
      refine lx_perm [14, 0, 1, 2, 3, 4, 5, 6, 7, 8, 9, 10, 11, 12, 13] [(y, .inr (4, [.int (nI (lm_rf true false)), .ref acd, .ref akd, .ref act, .int (nI u), .ref ark, .ref arr, .int z, .int kk, .long kc, .ref ali, .int mn, .ref ala, .ref anc, .ref ank, .ref ant, .int nx, .ref aag, .ref abk, .ref atd, .ref ase])), (acd, aI K 120 cd), (akd, aI K 120 kd), (act, aJ K 120 ct), (ark, aI K 10 rk1), (arr, aJ K 10 rr1), (ali, aI K 120 fl), (ala, aI K 120 fla), (anc, aI K 120 nc), (ank, aI K 120 nk), (ant, aJ K 120 nt), (aag, aI K 120 fag), (abk, aI K 120 fbk), (atd, aI K 120 ftd), (ase, aZ K 120 fse)] (by decide) rfl ?_
      refine lx_st (a' := 0) (b' := 0) [.int (bI true)] rfl rfl rfl ?_
      refine lx_if_eq F 48 dX4_rest_44 rfl (fun h => absurd h (by decide)) (fun _ => ?_)
      exact lx_vret F hR dX4_rest_47 ⟨rfl, by rw [show lm_oRest (nI k) f (c, w, u, rt, z) = (1, (c, w, u, rt, z)) by unfold lm_oRest; rw [lm_none_n hk, hnf]; rfl]; exact ⟨_, _, _, _, _, _, _, _, _, _, _, _, _, _, _, _, _, _, _, _, _, _, _, _, _, _, _, _, _, _, _, _, hh, hro, rfl⟩⟩
  · skip
    refine lx_iload_n F dX4_rest_0 1 rfl ?_
    refine lx_cs F (zr_none2 (xl E) K r true hnr) cs_X4_102 [] [0, 1, 2, 3, 4, 5, 6, 7, 8, 9, 10, 11, 12, 13, 14] [(y, .inr (4, [.int th, .ref acd, .ref akd, .ref act, .int (nI u), .ref ark, .ref arr, .int z, .int kk, .long kc, .ref ali, .int mn, .ref ala, .ref anc, .ref ank, .ref ant, .int nx, .ref aag, .ref abk, .ref atd, .ref ase])), (acd, aI K 120 cd), (akd, aI K 120 kd), (act, aJ K 120 ct), (ark, aI K 10 rk1), (arr, aJ K 10 rr1), (ali, aI K 120 fl), (ala, aI K 120 fla), (anc, aI K 120 nc), (ank, aI K 120 nk), (ant, aJ K 120 nt), (aag, aI K 120 fag), (abk, aI K 120 fbk), (atd, aI K 120 ftd), (ase, aZ K 120 fse)] rfl rfl (by decide) rfl (st := []) rfl (Nat.le_of_ble_eq_true rfl) (by decide) ⟨by decide, by decide⟩ dX4_rest_1 (fun v9 w9 h9 => ?_)
    obtain ⟨rfl, rfl⟩ := h9
    refine lx_perm [0, 1, 2, 3, 4, 5, 6, 7, 8, 9, 10, 11, 12, 13, 14] [(y, .inr (4, [.int th, .ref acd, .ref akd, .ref act, .int (nI u), .ref ark, .ref arr, .int z, .int kk, .long kc, .ref ali, .int mn, .ref ala, .ref anc, .ref ank, .ref ant, .int nx, .ref aag, .ref abk, .ref atd, .ref ase])), (acd, aI K 120 cd), (akd, aI K 120 kd), (act, aJ K 120 ct), (ark, aI K 10 rk1), (arr, aJ K 10 rr1), (ali, aI K 120 fl), (ala, aI K 120 fla), (anc, aI K 120 nc), (ank, aI K 120 nk), (ant, aJ K 120 nt), (aag, aI K 120 fag), (abk, aI K 120 fbk), (atd, aI K 120 ftd), (ase, aZ K 120 fse)] (by decide) rfl ?_
    refine lx_st (a' := 0) (b' := 0) [.int (bI true)] rfl rfl rfl ?_
    refine lx_if_ne F 14 dX4_rest_4 rfl (fun _ => ?_) (fun h => absurd h (by decide))
    refine lx_iconst F dX4_rest_14 kc_1 ?_
    refine lx_goto F 19 dX4_rest_15 rfl ?_
    refine lx_istore_n F [(0, .ref y), (1, .int r), (2, .int f), (3, .int (nI 1))] [1, 2, 3, 0] dX4_rest_19 rfl (by decide) ?_
    refine lx_aload_n F dX4_rest_20 0 rfl ?_
    refine lx_iload_n F dX4_rest_21 3 rfl ?_
    refine lx_iload_n F dX4_rest_22 3 rfl ?_
    refine lx_ifN_ne F 40 (by omega) dX4_rest_23 rfl (fun _ => ?_) (fun h => absurd h (by omega))
    refine lx_iconst F dX4_rest_40 kc_0 ?_
    refine lx_cv F (zr_refuse (xl E) K y acd akd act ark arr ali ala anc ank ant aag abk atd ase th z kk kc mn nx (nI u) true false) cv_X4_110 0 rfl rfl [0] [1, 2, 3, 4, 5, 6, 7, 8, 9, 10, 11, 12, 13, 14] [(acd, aI K 120 cd), (akd, aI K 120 kd), (act, aJ K 120 ct), (ark, aI K 10 rk1), (arr, aJ K 10 rr1), (ali, aI K 120 fl), (ala, aI K 120 fla), (anc, aI K 120 nc), (ank, aI K 120 nk), (ant, aJ K 120 nt), (aag, aI K 120 fag), (abk, aI K 120 fbk), (atd, aI K 120 ftd), (ase, aZ K 120 fse)] rfl rfl (by decide) rfl (st := []) rfl (Nat.le_of_ble_eq_true rfl) (by decide) ⟨by decide, by decide⟩ dX4_rest_41 (fun v9 w9 h9 => ?_)
    obtain ⟨rfl, rfl⟩ := h9
    refine lx_perm [14, 0, 1, 2, 3, 4, 5, 6, 7, 8, 9, 10, 11, 12, 13] [(y, .inr (4, [.int (nI (lm_rf true false)), .ref acd, .ref akd, .ref act, .int (nI u), .ref ark, .ref arr, .int z, .int kk, .long kc, .ref ali, .int mn, .ref ala, .ref anc, .ref ank, .ref ant, .int nx, .ref aag, .ref abk, .ref atd, .ref ase])), (acd, aI K 120 cd), (akd, aI K 120 kd), (act, aJ K 120 ct), (ark, aI K 10 rk1), (arr, aJ K 10 rr1), (ali, aI K 120 fl), (ala, aI K 120 fla), (anc, aI K 120 nc), (ank, aI K 120 nk), (ant, aJ K 120 nt), (aag, aI K 120 fag), (abk, aI K 120 fbk), (atd, aI K 120 ftd), (ase, aZ K 120 fse)] (by decide) rfl ?_
    refine lx_st (a' := 0) (b' := 0) [.int (bI true)] rfl rfl rfl ?_
    refine lx_if_eq F 48 dX4_rest_44 rfl (fun h => absurd h (by decide)) (fun _ => ?_)
    exact lx_vret F hR dX4_rest_47 ⟨rfl, by rw [show lm_oRest r f (c, w, u, rt, z) = (1, (c, w, u, rt, z)) by unfold lm_oRest; rw [hnr]; rfl]; exact ⟨_, _, _, _, _, _, _, _, _, _, _, _, _, _, _, _, _, _, _, _, _, _, _, _, _, _, _, _, _, _, _, _, hh, hro, rfl⟩⟩

set_option maxHeartbeats 4000000 in
set_option maxRecDepth 100000 in
theorem zR_setFirst (l : Launch) (K : lm_G) (y : Nat) (c : Nat → Nat) (w : Nat → lm_V) (u : Nat) (rt : Nat → lm_V) (z : Int32) (hst : lm_st c w u rt) (th : Int32) (W : va_W) (hW : lm_mod K y (c, w, u, rt, z) th W) (r f : Int32) : lm_C l K mX4_setFirst (rk 5) [.ref y, .int r, .int f] W (fun v9 w9 => v9 = none ∧ lm_mod K y (lm_oSetFirst r f (c, w, u, rt, z)).2 (nI (lm_oSetFirst r f (c, w, u, rt, z)).1) w9) := by
  obtain ⟨acd, akd, act, ark, arr, ali, ala, anc, ank, ant, aag, abk, atd, ase, kk, kc, mn, nx, cd, kd, ct, rk1, rr1, fl, fla, nc, nk, nt, fag, fbk, ftd, fse, hh, hro, rfl⟩ := hW
  have hh : lm_mf cd kd ct c w u := hh
  have hro : ∀ r, r < 10 → rk1 r = nI (rt r).1 ∧ rr1 r = jI (rt r).2 := hro
  have hw := hst.1
  have hr9 := hst.2
  have hu := hw.1
  refine lx_met RX4 pn_X4 rfl (Nat.le_of_ble_eq_true rfl) (fun E hE hnm F hR => ?_)
  have F : lx_F K 5 E cX4_setFirst RX4 none (rk 5) := F
  show lx_W K 5 E 0 0 0 [(0, .ref y), (1, .int r), (2, .int f)] [] [(y, .inr (4, [.int th, .ref acd, .ref akd, .ref act, .int (nI u), .ref ark, .ref arr, .int z, .int kk, .long kc, .ref ali, .int mn, .ref ala, .ref anc, .ref ank, .ref ant, .int nx, .ref aag, .ref abk, .ref atd, .ref ase])), (acd, aI K 120 cd), (akd, aI K 120 kd), (act, aJ K 120 ct), (ark, aI K 10 rk1), (arr, aJ K 10 rr1), (ali, aI K 120 fl), (ala, aI K 120 fla), (anc, aI K 120 nc), (ank, aI K 120 nk), (ant, aJ K 120 nt), (aag, aI K 120 fag), (abk, aI K 120 fbk), (atd, aI K 120 ftd), (ase, aZ K 120 fse)]
  cases hnr : lm_none r
  · skip
    obtain ⟨k, hk, rfl⟩ := lm_none_f hnr
    cases hnf : lm_none f
    · skip
      obtain ⟨j, hj, rfl⟩ := lm_none_f hnf
      refine lx_iload_n F dX4_setFirst_0 1 rfl ?_
      refine lx_cs F (zr_none2 (xl E) K (nI k) false (lm_none_n hk)) cs_X4_102 [] [0, 1, 2, 3, 4, 5, 6, 7, 8, 9, 10, 11, 12, 13, 14] [(y, .inr (4, [.int th, .ref acd, .ref akd, .ref act, .int (nI u), .ref ark, .ref arr, .int z, .int kk, .long kc, .ref ali, .int mn, .ref ala, .ref anc, .ref ank, .ref ant, .int nx, .ref aag, .ref abk, .ref atd, .ref ase])), (acd, aI K 120 cd), (akd, aI K 120 kd), (act, aJ K 120 ct), (ark, aI K 10 rk1), (arr, aJ K 10 rr1), (ali, aI K 120 fl), (ala, aI K 120 fla), (anc, aI K 120 nc), (ank, aI K 120 nk), (ant, aJ K 120 nt), (aag, aI K 120 fag), (abk, aI K 120 fbk), (atd, aI K 120 ftd), (ase, aZ K 120 fse)] rfl rfl (by decide) rfl (st := []) rfl (Nat.le_of_ble_eq_true rfl) (by decide) ⟨by decide, by decide⟩ dX4_setFirst_1 (fun v9 w9 h9 => ?_)
      obtain ⟨rfl, rfl⟩ := h9
      refine lx_perm [0, 1, 2, 3, 4, 5, 6, 7, 8, 9, 10, 11, 12, 13, 14] [(y, .inr (4, [.int th, .ref acd, .ref akd, .ref act, .int (nI u), .ref ark, .ref arr, .int z, .int kk, .long kc, .ref ali, .int mn, .ref ala, .ref anc, .ref ank, .ref ant, .int nx, .ref aag, .ref abk, .ref atd, .ref ase])), (acd, aI K 120 cd), (akd, aI K 120 kd), (act, aJ K 120 ct), (ark, aI K 10 rk1), (arr, aJ K 10 rr1), (ali, aI K 120 fl), (ala, aI K 120 fla), (anc, aI K 120 nc), (ank, aI K 120 nk), (ant, aJ K 120 nt), (aag, aI K 120 fag), (abk, aI K 120 fbk), (atd, aI K 120 ftd), (ase, aZ K 120 fse)] (by decide) rfl ?_
      refine lx_st (a' := 0) (b' := 0) [.int (bI false)] rfl rfl rfl ?_
      refine lx_if_ne F 14 dX4_setFirst_4 rfl (fun h => absurd (by decide) h) (fun _ => ?_)
      refine lx_iload_n F dX4_setFirst_7 2 rfl ?_
      refine lx_cs F (zr_none2 (xl E) K (nI j) false (lm_none_n hj)) cs_X4_102 [] [0, 1, 2, 3, 4, 5, 6, 7, 8, 9, 10, 11, 12, 13, 14] [(y, .inr (4, [.int th, .ref acd, .ref akd, .ref act, .int (nI u), .ref ark, .ref arr, .int z, .int kk, .long kc, .ref ali, .int mn, .ref ala, .ref anc, .ref ank, .ref ant, .int nx, .ref aag, .ref abk, .ref atd, .ref ase])), (acd, aI K 120 cd), (akd, aI K 120 kd), (act, aJ K 120 ct), (ark, aI K 10 rk1), (arr, aJ K 10 rr1), (ali, aI K 120 fl), (ala, aI K 120 fla), (anc, aI K 120 nc), (ank, aI K 120 nk), (ant, aJ K 120 nt), (aag, aI K 120 fag), (abk, aI K 120 fbk), (atd, aI K 120 ftd), (ase, aZ K 120 fse)] rfl rfl (by decide) rfl (st := []) rfl (Nat.le_of_ble_eq_true rfl) (by decide) ⟨by decide, by decide⟩ dX4_setFirst_8 (fun v9 w9 h9 => ?_)
      obtain ⟨rfl, rfl⟩ := h9
      refine lx_perm [0, 1, 2, 3, 4, 5, 6, 7, 8, 9, 10, 11, 12, 13, 14] [(y, .inr (4, [.int th, .ref acd, .ref akd, .ref act, .int (nI u), .ref ark, .ref arr, .int z, .int kk, .long kc, .ref ali, .int mn, .ref ala, .ref anc, .ref ank, .ref ant, .int nx, .ref aag, .ref abk, .ref atd, .ref ase])), (acd, aI K 120 cd), (akd, aI K 120 kd), (act, aJ K 120 ct), (ark, aI K 10 rk1), (arr, aJ K 10 rr1), (ali, aI K 120 fl), (ala, aI K 120 fla), (anc, aI K 120 nc), (ank, aI K 120 nk), (ant, aJ K 120 nt), (aag, aI K 120 fag), (abk, aI K 120 fbk), (atd, aI K 120 ftd), (ase, aZ K 120 fse)] (by decide) rfl ?_
      refine lx_st (a' := 0) (b' := 0) [.int (bI false)] rfl rfl rfl ?_
      refine lx_if_eq F 18 dX4_setFirst_11 rfl (fun _ => ?_) (fun h => absurd (by decide) h)
      refine lx_iconst F dX4_setFirst_18 kc_0 ?_
      refine lx_istore_n F [(0, .ref y), (1, .int (nI k)), (2, .int (nI j)), (3, .int (nI 0))] [1, 2, 3, 0] dX4_setFirst_19 rfl (by decide) ?_
      refine lx_aload_n F dX4_setFirst_20 0 rfl ?_
      refine lx_iload_n F dX4_setFirst_21 3 rfl ?_
      refine lx_iload_n F dX4_setFirst_22 3 rfl ?_
      refine lx_ifN_ne F 40 (by omega) dX4_setFirst_23 rfl (fun h => absurd h (by omega)) (fun _ => ?_)
      have hk3 := lm_ok_kind (hr9 k hk)
      refine lx_aload_n F dX4_setFirst_26 0 rfl ?_
      refine gf_X4_20 F 0 rfl rfl dX4_setFirst_27 ?_
      refine lx_iload_n F dX4_setFirst_30 1 rfl ?_
      refine lx_iald F 4 k dX4_setFirst_31 rfl (by omega) (by decide) ?_
      rw [(hro k hk).1]
      refine lx_iconst F dX4_setFirst_32 kc_2 ?_
      refine lx_icmpN_eq F 40 (by omega) (by omega) dX4_setFirst_33 rfl (fun h2 => ?_) (fun h2 => ?_)
      · skip
        have hcl := lm_to_cl hw (hr9 k hk) h2
        have hp1 := hcl.1
        refine lx_iconst F dX4_setFirst_40 kc_0 ?_
        refine lx_cv F (zr_refuse (xl E) K y acd akd act ark arr ali ala anc ank ant aag abk atd ase th z kk kc mn nx (nI u) false false) cv_X4_110 0 rfl rfl [0] [1, 2, 3, 4, 5, 6, 7, 8, 9, 10, 11, 12, 13, 14] [(acd, aI K 120 cd), (akd, aI K 120 kd), (act, aJ K 120 ct), (ark, aI K 10 rk1), (arr, aJ K 10 rr1), (ali, aI K 120 fl), (ala, aI K 120 fla), (anc, aI K 120 nc), (ank, aI K 120 nk), (ant, aJ K 120 nt), (aag, aI K 120 fag), (abk, aI K 120 fbk), (atd, aI K 120 ftd), (ase, aZ K 120 fse)] rfl rfl (by decide) rfl (st := []) rfl (Nat.le_of_ble_eq_true rfl) (by decide) ⟨by decide, by decide⟩ dX4_setFirst_41 (fun v9 w9 h9 => ?_)
        obtain ⟨rfl, rfl⟩ := h9
        refine lx_perm [14, 0, 1, 2, 3, 4, 5, 6, 7, 8, 9, 10, 11, 12, 13] [(y, .inr (4, [.int (nI (lm_rf false false)), .ref acd, .ref akd, .ref act, .int (nI u), .ref ark, .ref arr, .int z, .int kk, .long kc, .ref ali, .int mn, .ref ala, .ref anc, .ref ank, .ref ant, .int nx, .ref aag, .ref abk, .ref atd, .ref ase])), (acd, aI K 120 cd), (akd, aI K 120 kd), (act, aJ K 120 ct), (ark, aI K 10 rk1), (arr, aJ K 10 rr1), (ali, aI K 120 fl), (ala, aI K 120 fla), (anc, aI K 120 nc), (ank, aI K 120 nk), (ant, aJ K 120 nt), (aag, aI K 120 fag), (abk, aI K 120 fbk), (atd, aI K 120 ftd), (ase, aZ K 120 fse)] (by decide) rfl ?_
        refine lx_st (a' := 0) (b' := 0) [.int (bI false)] rfl rfl rfl ?_
        refine lx_if_eq F 48 dX4_setFirst_44 rfl (fun _ => ?_) (fun h => absurd (by decide) h)
        refine lx_aload_n F dX4_setFirst_48 0 rfl ?_
        refine lx_iload_n F dX4_setFirst_49 1 rfl ?_
        refine lx_cv F (zr_cellOf (xl E) K y acd akd act ark arr ali ala anc ank ant aag abk atd ase (nI (lm_rf false false)) z kk kc mn nx cd kd ct rr1 c w u hw hh k hk (rt k) (hr9 k hk) h2 (hro k hk).2) cv_X4_124 0 rfl rfl [0, 2, 3, 5] [1, 4, 6, 7, 8, 9, 10, 11, 12, 13, 14] [(acd, aI K 120 cd), (ark, aI K 10 rk1), (ali, aI K 120 fl), (ala, aI K 120 fla), (anc, aI K 120 nc), (ank, aI K 120 nk), (ant, aJ K 120 nt), (aag, aI K 120 fag), (abk, aI K 120 fbk), (atd, aI K 120 ftd), (ase, aZ K 120 fse)] rfl rfl (by decide) rfl (st := []) rfl (Nat.le_of_ble_eq_true rfl) (by decide) ⟨by decide, by decide⟩ dX4_setFirst_50 (fun v9 w9 h9 => ?_)
        obtain ⟨rfl, rfl⟩ := h9
        refine lx_perm [11, 0, 12, 13, 1, 14, 2, 3, 4, 5, 6, 7, 8, 9, 10] [(y, .inr (4, [.int (nI (lm_rf false false)), .ref acd, .ref akd, .ref act, .int (nI u), .ref ark, .ref arr, .int z, .int kk, .long kc, .ref ali, .int mn, .ref ala, .ref anc, .ref ank, .ref ant, .int nx, .ref aag, .ref abk, .ref atd, .ref ase])), (acd, aI K 120 cd), (akd, aI K 120 kd), (act, aJ K 120 ct), (ark, aI K 10 rk1), (arr, aJ K 10 rr1), (ali, aI K 120 fl), (ala, aI K 120 fla), (anc, aI K 120 nc), (ank, aI K 120 nk), (ant, aJ K 120 nt), (aag, aI K 120 fag), (abk, aI K 120 fbk), (atd, aI K 120 ftd), (ase, aZ K 120 fse)] (by decide) rfl ?_
        refine lx_st (a' := 0) (b' := 0) [.int (nI (lm_to w (rt k)))] rfl rfl rfl ?_
        refine lx_istore F [(0, .ref y), (1, .int (nI k)), (2, .int (nI j)), (3, .int (nI 0)), (4, .int (nI (lm_to w (rt k))))] [1, 2, 3, 4, 0] dX4_setFirst_53 rfl (by decide) ?_
        refine lx_aload_n F dX4_setFirst_55 0 rfl ?_
        refine gf_X4_13 F 0 rfl rfl dX4_setFirst_56 ?_
        refine lx_iload F dX4_setFirst_59 4 rfl ?_
        refine lx_aload_n F dX4_setFirst_61 0 rfl ?_
        refine gf_X4_20 F 0 rfl rfl dX4_setFirst_62 ?_
        refine lx_iload_n F dX4_setFirst_65 2 rfl ?_
        refine lx_iald F 4 j dX4_setFirst_66 rfl (by omega) (by decide) ?_
        rw [(hro j hj).1]
        refine lx_iast F 2 (lm_to w (rt k)) [(y, .inr (4, [.int (nI (lm_rf false false)), .ref acd, .ref akd, .ref act, .int (nI u), .ref ark, .ref arr, .int z, .int kk, .long kc, .ref ali, .int mn, .ref ala, .ref anc, .ref ank, .ref ant, .int nx, .ref aag, .ref abk, .ref atd, .ref ase])), (acd, aI K 120 cd), (akd, aI K 120 (lm_up kd (lm_to w (rt k)) (nI ((rt j).1)))), (act, aJ K 120 ct), (ark, aI K 10 rk1), (arr, aJ K 10 rr1), (ali, aI K 120 fl), (ala, aI K 120 fla), (anc, aI K 120 nc), (ank, aI K 120 nk), (ant, aJ K 120 nt), (aag, aI K 120 fag), (abk, aI K 120 fbk), (atd, aI K 120 ftd), (ase, aZ K 120 fse)] dX4_setFirst_67 rfl (by omega) (by decide) rfl ?_
        refine lx_aload_n F dX4_setFirst_68 0 rfl ?_
        refine gf_X4_16 F 0 rfl rfl dX4_setFirst_69 ?_
        refine lx_iload F dX4_setFirst_72 4 rfl ?_
        refine lx_aload_n F dX4_setFirst_74 0 rfl ?_
        refine gf_X4_23 F 0 rfl rfl dX4_setFirst_75 ?_
        refine lx_iload_n F dX4_setFirst_78 2 rfl ?_
        refine lx_lald F 5 j dX4_setFirst_79 rfl (by omega) (by decide) ?_
        rw [(hro j hj).2]
        refine lx_last F 3 (lm_to w (rt k)) [(y, .inr (4, [.int (nI (lm_rf false false)), .ref acd, .ref akd, .ref act, .int (nI u), .ref ark, .ref arr, .int z, .int kk, .long kc, .ref ali, .int mn, .ref ala, .ref anc, .ref ank, .ref ant, .int nx, .ref aag, .ref abk, .ref atd, .ref ase])), (acd, aI K 120 cd), (akd, aI K 120 (lm_up kd (lm_to w (rt k)) (nI ((rt j).1)))), (act, aJ K 120 (lm_up ct (lm_to w (rt k)) (jI ((rt j).2)))), (ark, aI K 10 rk1), (arr, aJ K 10 rr1), (ali, aI K 120 fl), (ala, aI K 120 fla), (anc, aI K 120 nc), (ank, aI K 120 nk), (ant, aJ K 120 nt), (aag, aI K 120 fag), (abk, aI K 120 fbk), (atd, aI K 120 ftd), (ase, aZ K 120 fse)] dX4_setFirst_80 rfl (by omega) (by decide) rfl ?_
        exact lx_vret F hR dX4_setFirst_81 ⟨rfl, by rw [show lm_oSetFirst (nI k) (nI j) (c, w, u, rt, z) = (0, lm_pt (c, w, u, rt, z) (lm_to w (rt k)) (rt j)) by unfold lm_oSetFirst; rw [lm_none_n hk, lm_none_n hj, if_neg (by decide), lm_ix_n hk, if_neg (show ¬ (rt k).1 ≠ 2 from fun z9 => z9 h2), lm_ix_n hj]]; exact ⟨_, _, _, _, _, _, _, _, _, _, _, _, _, _, _, _, _, _, _, _, _, _, _, _, _, _, _, _, _, _, _, _, (lm_mf_up (v := rt j) hh), hro, rfl⟩⟩
      · skip
        refine lx_iconst F dX4_setFirst_36 kc_1 ?_
        refine lx_goto F 41 dX4_setFirst_37 rfl ?_
        refine lx_cv F (zr_refuse (xl E) K y acd akd act ark arr ali ala anc ank ant aag abk atd ase th z kk kc mn nx (nI u) false true) cv_X4_110 0 rfl rfl [0] [1, 2, 3, 4, 5, 6, 7, 8, 9, 10, 11, 12, 13, 14] [(acd, aI K 120 cd), (akd, aI K 120 kd), (act, aJ K 120 ct), (ark, aI K 10 rk1), (arr, aJ K 10 rr1), (ali, aI K 120 fl), (ala, aI K 120 fla), (anc, aI K 120 nc), (ank, aI K 120 nk), (ant, aJ K 120 nt), (aag, aI K 120 fag), (abk, aI K 120 fbk), (atd, aI K 120 ftd), (ase, aZ K 120 fse)] rfl rfl (by decide) rfl (st := []) rfl (Nat.le_of_ble_eq_true rfl) (by decide) ⟨by decide, by decide⟩ dX4_setFirst_41 (fun v9 w9 h9 => ?_)
        obtain ⟨rfl, rfl⟩ := h9
        refine lx_perm [14, 0, 1, 2, 3, 4, 5, 6, 7, 8, 9, 10, 11, 12, 13] [(y, .inr (4, [.int (nI (lm_rf false true)), .ref acd, .ref akd, .ref act, .int (nI u), .ref ark, .ref arr, .int z, .int kk, .long kc, .ref ali, .int mn, .ref ala, .ref anc, .ref ank, .ref ant, .int nx, .ref aag, .ref abk, .ref atd, .ref ase])), (acd, aI K 120 cd), (akd, aI K 120 kd), (act, aJ K 120 ct), (ark, aI K 10 rk1), (arr, aJ K 10 rr1), (ali, aI K 120 fl), (ala, aI K 120 fla), (anc, aI K 120 nc), (ank, aI K 120 nk), (ant, aJ K 120 nt), (aag, aI K 120 fag), (abk, aI K 120 fbk), (atd, aI K 120 ftd), (ase, aZ K 120 fse)] (by decide) rfl ?_
        refine lx_st (a' := 0) (b' := 0) [.int (bI true)] rfl rfl rfl ?_
        refine lx_if_eq F 48 dX4_setFirst_44 rfl (fun h => absurd h (by decide)) (fun _ => ?_)
        exact lx_vret F hR dX4_setFirst_47 ⟨rfl, by rw [show lm_oSetFirst (nI k) (nI j) (c, w, u, rt, z) = (2, (c, w, u, rt, z)) by unfold lm_oSetFirst; rw [lm_none_n hk, lm_none_n hj, if_neg (by decide), lm_ix_n hk, if_pos h2]]; exact ⟨_, _, _, _, _, _, _, _, _, _, _, _, _, _, _, _, _, _, _, _, _, _, _, _, _, _, _, _, _, _, _, _, hh, hro, rfl⟩⟩
    · skip
      refine lx_iload_n F dX4_setFirst_0 1 rfl ?_
      refine lx_cs F (zr_none2 (xl E) K (nI k) false (lm_none_n hk)) cs_X4_102 [] [0, 1, 2, 3, 4, 5, 6, 7, 8, 9, 10, 11, 12, 13, 14] [(y, .inr (4, [.int th, .ref acd, .ref akd, .ref act, .int (nI u), .ref ark, .ref arr, .int z, .int kk, .long kc, .ref ali, .int mn, .ref ala, .ref anc, .ref ank, .ref ant, .int nx, .ref aag, .ref abk, .ref atd, .ref ase])), (acd, aI K 120 cd), (akd, aI K 120 kd), (act, aJ K 120 ct), (ark, aI K 10 rk1), (arr, aJ K 10 rr1), (ali, aI K 120 fl), (ala, aI K 120 fla), (anc, aI K 120 nc), (ank, aI K 120 nk), (ant, aJ K 120 nt), (aag, aI K 120 fag), (abk, aI K 120 fbk), (atd, aI K 120 ftd), (ase, aZ K 120 fse)] rfl rfl (by decide) rfl (st := []) rfl (Nat.le_of_ble_eq_true rfl) (by decide) ⟨by decide, by decide⟩ dX4_setFirst_1 (fun v9 w9 h9 => ?_)
      obtain ⟨rfl, rfl⟩ := h9
      refine lx_perm [0, 1, 2, 3, 4, 5, 6, 7, 8, 9, 10, 11, 12, 13, 14] [(y, .inr (4, [.int th, .ref acd, .ref akd, .ref act, .int (nI u), .ref ark, .ref arr, .int z, .int kk, .long kc, .ref ali, .int mn, .ref ala, .ref anc, .ref ank, .ref ant, .int nx, .ref aag, .ref abk, .ref atd, .ref ase])), (acd, aI K 120 cd), (akd, aI K 120 kd), (act, aJ K 120 ct), (ark, aI K 10 rk1), (arr, aJ K 10 rr1), (ali, aI K 120 fl), (ala, aI K 120 fla), (anc, aI K 120 nc), (ank, aI K 120 nk), (ant, aJ K 120 nt), (aag, aI K 120 fag), (abk, aI K 120 fbk), (atd, aI K 120 ftd), (ase, aZ K 120 fse)] (by decide) rfl ?_
      refine lx_st (a' := 0) (b' := 0) [.int (bI false)] rfl rfl rfl ?_
      refine lx_if_ne F 14 dX4_setFirst_4 rfl (fun h => absurd (by decide) h) (fun _ => ?_)
      refine lx_iload_n F dX4_setFirst_7 2 rfl ?_
      refine lx_cs F (zr_none2 (xl E) K f true hnf) cs_X4_102 [] [0, 1, 2, 3, 4, 5, 6, 7, 8, 9, 10, 11, 12, 13, 14] [(y, .inr (4, [.int th, .ref acd, .ref akd, .ref act, .int (nI u), .ref ark, .ref arr, .int z, .int kk, .long kc, .ref ali, .int mn, .ref ala, .ref anc, .ref ank, .ref ant, .int nx, .ref aag, .ref abk, .ref atd, .ref ase])), (acd, aI K 120 cd), (akd, aI K 120 kd), (act, aJ K 120 ct), (ark, aI K 10 rk1), (arr, aJ K 10 rr1), (ali, aI K 120 fl), (ala, aI K 120 fla), (anc, aI K 120 nc), (ank, aI K 120 nk), (ant, aJ K 120 nt), (aag, aI K 120 fag), (abk, aI K 120 fbk), (atd, aI K 120 ftd), (ase, aZ K 120 fse)] rfl rfl (by decide) rfl (st := []) rfl (Nat.le_of_ble_eq_true rfl) (by decide) ⟨by decide, by decide⟩ dX4_setFirst_8 (fun v9 w9 h9 => ?_)
      obtain ⟨rfl, rfl⟩ := h9
      refine lx_perm [0, 1, 2, 3, 4, 5, 6, 7, 8, 9, 10, 11, 12, 13, 14] [(y, .inr (4, [.int th, .ref acd, .ref akd, .ref act, .int (nI u), .ref ark, .ref arr, .int z, .int kk, .long kc, .ref ali, .int mn, .ref ala, .ref anc, .ref ank, .ref ant, .int nx, .ref aag, .ref abk, .ref atd, .ref ase])), (acd, aI K 120 cd), (akd, aI K 120 kd), (act, aJ K 120 ct), (ark, aI K 10 rk1), (arr, aJ K 10 rr1), (ali, aI K 120 fl), (ala, aI K 120 fla), (anc, aI K 120 nc), (ank, aI K 120 nk), (ant, aJ K 120 nt), (aag, aI K 120 fag), (abk, aI K 120 fbk), (atd, aI K 120 ftd), (ase, aZ K 120 fse)] (by decide) rfl ?_
      refine lx_st (a' := 0) (b' := 0) [.int (bI true)] rfl rfl rfl ?_
      refine lx_if_eq F 18 dX4_setFirst_11 rfl (fun h => absurd h (by decide)) (fun _ => ?_)
      refine lx_iconst F dX4_setFirst_14 kc_1 ?_
      refine lx_goto F 19 dX4_setFirst_15 rfl ?_
      refine lx_istore_n F [(0, .ref y), (1, .int (nI k)), (2, .int f), (3, .int (nI 1))] [1, 2, 3, 0] dX4_setFirst_19 rfl (by decide) ?_
      refine lx_aload_n F dX4_setFirst_20 0 rfl ?_
      refine lx_iload_n F dX4_setFirst_21 3 rfl ?_
      refine lx_iload_n F dX4_setFirst_22 3 rfl ?_
      refine lx_ifN_ne F 40 (by omega) dX4_setFirst_23 rfl (fun _ => ?_) (fun h => absurd h (by omega))
      refine lx_iconst F dX4_setFirst_40 kc_0 ?_
      refine lx_cv F (zr_refuse (xl E) K y acd akd act ark arr ali ala anc ank ant aag abk atd ase th z kk kc mn nx (nI u) true false) cv_X4_110 0 rfl rfl [0] [1, 2, 3, 4, 5, 6, 7, 8, 9, 10, 11, 12, 13, 14] [(acd, aI K 120 cd), (akd, aI K 120 kd), (act, aJ K 120 ct), (ark, aI K 10 rk1), (arr, aJ K 10 rr1), (ali, aI K 120 fl), (ala, aI K 120 fla), (anc, aI K 120 nc), (ank, aI K 120 nk), (ant, aJ K 120 nt), (aag, aI K 120 fag), (abk, aI K 120 fbk), (atd, aI K 120 ftd), (ase, aZ K 120 fse)] rfl rfl (by decide) rfl (st := []) rfl (Nat.le_of_ble_eq_true rfl) (by decide) ⟨by decide, by decide⟩ dX4_setFirst_41 (fun v9 w9 h9 => ?_)
      obtain ⟨rfl, rfl⟩ := h9
      refine lx_perm [14, 0, 1, 2, 3, 4, 5, 6, 7, 8, 9, 10, 11, 12, 13] [(y, .inr (4, [.int (nI (lm_rf true false)), .ref acd, .ref akd, .ref act, .int (nI u), .ref ark, .ref arr, .int z, .int kk, .long kc, .ref ali, .int mn, .ref ala, .ref anc, .ref ank, .ref ant, .int nx, .ref aag, .ref abk, .ref atd, .ref ase])), (acd, aI K 120 cd), (akd, aI K 120 kd), (act, aJ K 120 ct), (ark, aI K 10 rk1), (arr, aJ K 10 rr1), (ali, aI K 120 fl), (ala, aI K 120 fla), (anc, aI K 120 nc), (ank, aI K 120 nk), (ant, aJ K 120 nt), (aag, aI K 120 fag), (abk, aI K 120 fbk), (atd, aI K 120 ftd), (ase, aZ K 120 fse)] (by decide) rfl ?_
      refine lx_st (a' := 0) (b' := 0) [.int (bI true)] rfl rfl rfl ?_
      refine lx_if_eq F 48 dX4_setFirst_44 rfl (fun h => absurd h (by decide)) (fun _ => ?_)
      exact lx_vret F hR dX4_setFirst_47 ⟨rfl, by rw [show lm_oSetFirst (nI k) f (c, w, u, rt, z) = (1, (c, w, u, rt, z)) by unfold lm_oSetFirst; rw [lm_none_n hk, hnf]; rfl]; exact ⟨_, _, _, _, _, _, _, _, _, _, _, _, _, _, _, _, _, _, _, _, _, _, _, _, _, _, _, _, _, _, _, _, hh, hro, rfl⟩⟩
  · skip
    refine lx_iload_n F dX4_setFirst_0 1 rfl ?_
    refine lx_cs F (zr_none2 (xl E) K r true hnr) cs_X4_102 [] [0, 1, 2, 3, 4, 5, 6, 7, 8, 9, 10, 11, 12, 13, 14] [(y, .inr (4, [.int th, .ref acd, .ref akd, .ref act, .int (nI u), .ref ark, .ref arr, .int z, .int kk, .long kc, .ref ali, .int mn, .ref ala, .ref anc, .ref ank, .ref ant, .int nx, .ref aag, .ref abk, .ref atd, .ref ase])), (acd, aI K 120 cd), (akd, aI K 120 kd), (act, aJ K 120 ct), (ark, aI K 10 rk1), (arr, aJ K 10 rr1), (ali, aI K 120 fl), (ala, aI K 120 fla), (anc, aI K 120 nc), (ank, aI K 120 nk), (ant, aJ K 120 nt), (aag, aI K 120 fag), (abk, aI K 120 fbk), (atd, aI K 120 ftd), (ase, aZ K 120 fse)] rfl rfl (by decide) rfl (st := []) rfl (Nat.le_of_ble_eq_true rfl) (by decide) ⟨by decide, by decide⟩ dX4_setFirst_1 (fun v9 w9 h9 => ?_)
    obtain ⟨rfl, rfl⟩ := h9
    refine lx_perm [0, 1, 2, 3, 4, 5, 6, 7, 8, 9, 10, 11, 12, 13, 14] [(y, .inr (4, [.int th, .ref acd, .ref akd, .ref act, .int (nI u), .ref ark, .ref arr, .int z, .int kk, .long kc, .ref ali, .int mn, .ref ala, .ref anc, .ref ank, .ref ant, .int nx, .ref aag, .ref abk, .ref atd, .ref ase])), (acd, aI K 120 cd), (akd, aI K 120 kd), (act, aJ K 120 ct), (ark, aI K 10 rk1), (arr, aJ K 10 rr1), (ali, aI K 120 fl), (ala, aI K 120 fla), (anc, aI K 120 nc), (ank, aI K 120 nk), (ant, aJ K 120 nt), (aag, aI K 120 fag), (abk, aI K 120 fbk), (atd, aI K 120 ftd), (ase, aZ K 120 fse)] (by decide) rfl ?_
    refine lx_st (a' := 0) (b' := 0) [.int (bI true)] rfl rfl rfl ?_
    refine lx_if_ne F 14 dX4_setFirst_4 rfl (fun _ => ?_) (fun h => absurd h (by decide))
    refine lx_iconst F dX4_setFirst_14 kc_1 ?_
    refine lx_goto F 19 dX4_setFirst_15 rfl ?_
    refine lx_istore_n F [(0, .ref y), (1, .int r), (2, .int f), (3, .int (nI 1))] [1, 2, 3, 0] dX4_setFirst_19 rfl (by decide) ?_
    refine lx_aload_n F dX4_setFirst_20 0 rfl ?_
    refine lx_iload_n F dX4_setFirst_21 3 rfl ?_
    refine lx_iload_n F dX4_setFirst_22 3 rfl ?_
    refine lx_ifN_ne F 40 (by omega) dX4_setFirst_23 rfl (fun _ => ?_) (fun h => absurd h (by omega))
    refine lx_iconst F dX4_setFirst_40 kc_0 ?_
    refine lx_cv F (zr_refuse (xl E) K y acd akd act ark arr ali ala anc ank ant aag abk atd ase th z kk kc mn nx (nI u) true false) cv_X4_110 0 rfl rfl [0] [1, 2, 3, 4, 5, 6, 7, 8, 9, 10, 11, 12, 13, 14] [(acd, aI K 120 cd), (akd, aI K 120 kd), (act, aJ K 120 ct), (ark, aI K 10 rk1), (arr, aJ K 10 rr1), (ali, aI K 120 fl), (ala, aI K 120 fla), (anc, aI K 120 nc), (ank, aI K 120 nk), (ant, aJ K 120 nt), (aag, aI K 120 fag), (abk, aI K 120 fbk), (atd, aI K 120 ftd), (ase, aZ K 120 fse)] rfl rfl (by decide) rfl (st := []) rfl (Nat.le_of_ble_eq_true rfl) (by decide) ⟨by decide, by decide⟩ dX4_setFirst_41 (fun v9 w9 h9 => ?_)
    obtain ⟨rfl, rfl⟩ := h9
    refine lx_perm [14, 0, 1, 2, 3, 4, 5, 6, 7, 8, 9, 10, 11, 12, 13] [(y, .inr (4, [.int (nI (lm_rf true false)), .ref acd, .ref akd, .ref act, .int (nI u), .ref ark, .ref arr, .int z, .int kk, .long kc, .ref ali, .int mn, .ref ala, .ref anc, .ref ank, .ref ant, .int nx, .ref aag, .ref abk, .ref atd, .ref ase])), (acd, aI K 120 cd), (akd, aI K 120 kd), (act, aJ K 120 ct), (ark, aI K 10 rk1), (arr, aJ K 10 rr1), (ali, aI K 120 fl), (ala, aI K 120 fla), (anc, aI K 120 nc), (ank, aI K 120 nk), (ant, aJ K 120 nt), (aag, aI K 120 fag), (abk, aI K 120 fbk), (atd, aI K 120 ftd), (ase, aZ K 120 fse)] (by decide) rfl ?_
    refine lx_st (a' := 0) (b' := 0) [.int (bI true)] rfl rfl rfl ?_
    refine lx_if_eq F 48 dX4_setFirst_44 rfl (fun h => absurd h (by decide)) (fun _ => ?_)
    exact lx_vret F hR dX4_setFirst_47 ⟨rfl, by rw [show lm_oSetFirst r f (c, w, u, rt, z) = (1, (c, w, u, rt, z)) by unfold lm_oSetFirst; rw [hnr]; rfl]; exact ⟨_, _, _, _, _, _, _, _, _, _, _, _, _, _, _, _, _, _, _, _, _, _, _, _, _, _, _, _, _, _, _, _, hh, hro, rfl⟩⟩
