set_option maxHeartbeats 4000000 in
set_option maxRecDepth 100000 in
theorem zr_gather (l : Launch) (K : lm_G) (y acd akd act ark arr ali ala anc ank ant aag abk atd ase : Nat) (th z kk : Int32) (kc : Int64) (mn nx : Int32) (cd kd : Nat → Int32) (ct : Nat → Int64) (rk1 : Nat → Int32) (rr1 : Nat → Int64) (fl fla nc nk : Nat → Int32) (nt : Nat → Int64) (fse : Nat → Int32) (c : Nat → Nat) (w : Nat → lm_V) (u : Nat) (rt : Nat → lm_V) (hst : lm_st c w u rt) (hh : lm_mf cd kd ct c w u) (hro : ∀ r, r < 10 → rk1 r = nI (rt r).1 ∧ rr1 r = jI (rt r).2) : lm_C l K mX4_gather (rk 3) [.ref y] [(y, .inr (4, [.int th, .ref acd, .ref akd, .ref act, .int (nI u), .ref ark, .ref arr, .int z, .int kk, .long kc, .ref ali, .int mn, .ref ala, .ref anc, .ref ank, .ref ant, .int nx, .ref aag, .ref abk, .ref atd, .ref ase])), (acd, aI K 120 cd), (akd, aI K 120 kd), (act, aJ K 120 ct), (ark, aI K 10 rk1), (arr, aJ K 10 rr1), (ali, aI K 120 fl), (ala, aI K 120 fla), (anc, aI K 120 nc), (ank, aI K 120 nk), (ant, aJ K 120 nt), (ase, aZ K 120 fse)] (fun v9 w9 => v9 = none ∧ ∃ (cd2 kd2 : Nat → Int32) (ct2 rr2 : Nat → Int64) (fl2 fla2 nc2 nk2 : Nat → Int32) (nt2 : Nat → Int64) (fse2 : Nat → Int32) (kk2 : Int32) (kc2 : Int64) (mn2 nx2 : Int32), lm_mf cd2 kd2 ct2 (lm_gc c w rt) (lm_gw c w rt) (lm_gu c w rt) ∧ (∀ r, r < 10 → rk1 r = nI (lm_gr c w rt r).1 ∧ rr2 r = jI (lm_gr c w rt r).2) ∧ w9 = [(y, .inr (4, [.int th, .ref acd, .ref akd, .ref act, .int (nI (lm_gu c w rt)), .ref ark, .ref arr, .int (z + nI 1), .int kk2, .long kc2, .ref ali, .int mn2, .ref ala, .ref anc, .ref ank, .ref ant, .int nx2, .ref aag, .ref abk, .ref atd, .ref ase])), (acd, aI K 120 cd2), (akd, aI K 120 kd2), (act, aJ K 120 ct2), (ark, aI K 10 rk1), (arr, aJ K 10 rr2), (ali, aI K 120 fl2), (ala, aI K 120 fla2), (anc, aI K 120 nc2), (ank, aI K 120 nk2), (ant, aJ K 120 nt2), (ase, aZ K 120 fse2)]) := by
  refine lx_met RX4 pn_X4 rfl (Nat.le_of_ble_eq_true rfl) (fun E hE hnm F hR => ?_)
  have F : lx_F K 3 E cX4_gather RX4 none (rk 3) := F
  show lx_W K 3 E 0 0 0 [(0, .ref y)] [] [(y, .inr (4, [.int th, .ref acd, .ref akd, .ref act, .int (nI u), .ref ark, .ref arr, .int z, .int kk, .long kc, .ref ali, .int mn, .ref ala, .ref anc, .ref ank, .ref ant, .int nx, .ref aag, .ref abk, .ref atd, .ref ase])), (acd, aI K 120 cd), (akd, aI K 120 kd), (act, aJ K 120 ct), (ark, aI K 10 rk1), (arr, aJ K 10 rr1), (ali, aI K 120 fl), (ala, aI K 120 fla), (anc, aI K 120 nc), (ank, aI K 120 nk), (ant, aJ K 120 nt), (ase, aZ K 120 fse)]
  have hw := hst.1
  have hr := hst.2
  have hu := hw.1
  obtain ⟨hL, hroot, hcl⟩ := lm_list_spec hw hr
  obtain ⟨l1, l2, l6, l7⟩ := lm_laid_spec hw hL hcl
  have hlen2 : (lm_laid c w (lm_list c w rt)).2.length ≤ 120 := Nat.le_trans l7 hu
  have hlen1 : (lm_phase c w (lm_list c w rt) true (fun _ => none, []) (lm_list c w rt).length).2.length ≤ 120 := Nat.le_trans (lm_phase_len (c := c) (w := w) (L := (lm_list c w rt)) (hd := false) (s := (lm_phase c w (lm_list c w rt) true (fun _ => none, []) (lm_list c w rt).length)) (lm_list c w rt).length 0 (by omega)) hlen2
  have hLn : (lm_list c w rt).length ≤ u := lm_gd_len hL
  have hsb0 : lm_sb (fun _ => none, []) := fun q n hq => by cases hq
  have hsb1 := lm_phase_b (c := c) (w := w) (L := (lm_list c w rt)) (hd := true) hsb0 (lm_list c w rt).length hlen1
  have hvl : ∀ v : lm_V, lm_ok c u v → v.1 = 2 → lm_to w v ∈ (lm_list c w rt) → ∃ q n : Nat, v.2 = (q : Int) ∧ q < u ∧ c q ≠ 3 ∧ lm_cell w q < 120 ∧ (lm_laid c w (lm_list c w rt)).1 (lm_cell w q) = some n ∧ n < 2 ^ 31 ∧ (lm_tr w (lm_laid c w (lm_list c w rt)).1 v).2 = (n : Int) := fun v hv h2 hin => lm_tr_facts hw hv h2 (by obtain ⟨n, a1, a2, -⟩ := l1 _ hin; exact ⟨n, a1, by omega⟩)
  have loop8 : ∀ (n9 : Nat) (i : Nat) (cd1 kd1 : Nat → Int32) (ct1 : Nat → Int64) (kk1 : Int32) (kc1 : Int64) (rr2 : Nat → Int64) (fl1 fla1 nc1 nk1 : Nat → Int32) (nt2 : Nat → Int64) (fse1 : Nat → Int32), i + n9 = lm_gu c w rt → (∀ j, j < (lm_laid c w (lm_list c w rt)).2.length → nc1 j = nI (lm_gc c w rt j) ∧ nk1 j = nI (lm_gw c w rt j).1 ∧ nt2 j = jI (lm_gw c w rt j).2) → (∀ r, r < 10 → rr2 r = jI (lm_gr c w rt r).2) → lm_mf cd1 kd1 ct1 (lm_gc c w rt) (lm_gw c w rt) i → lx_W K 3 E 0 0 362 [(0, .ref y), (1, .int (nI i))] [] [(y, .inr (4, [.int th, .ref acd, .ref akd, .ref act, .int (nI (lm_gu c w rt)), .ref ark, .ref arr, .int (z + nI 1), .int kk1, .long kc1, .ref ali, .int (nI ((lm_list c w rt).length)), .ref ala, .ref anc, .ref ank, .ref ant, .int (nI ((lm_laid c w (lm_list c w rt)).2.length)), .ref aag, .ref abk, .ref atd, .ref ase])), (acd, aI K 120 cd1), (akd, aI K 120 kd1), (act, aJ K 120 ct1), (ark, aI K 10 rk1), (arr, aJ K 10 rr2), (ali, aI K 120 fl1), (ala, aI K 120 fla1), (anc, aI K 120 nc1), (ank, aI K 120 nk1), (ant, aJ K 120 nt2), (ase, aZ K 120 fse1)] := by
    intro n9
    induction n9 with
    | zero =>
      intro i cd1 kd1 ct1 kk1 kc1 rr2 fl1 fla1 nc1 nk1 nt2 fse1 hi hnn hr2 hmf
      have hg9 : lm_gu c w rt ≤ 120 := hlen2
      refine lx_iload_n F dX4_gather_362 1 rfl ?_
      refine lx_aload_n F dX4_gather_363 0 rfl ?_
      refine gf_X4_73 F 0 rfl rfl dX4_gather_364 ?_
      refine lx_icmpN_ge F 412 (by omega) (by omega) dX4_gather_367 rfl (fun _ => ?_) (fun h => absurd h (by omega))
      exact lx_vret F hR dX4_gather_412 ⟨rfl, _, _, _, rr2, _, _, _, _, _, _, _, _, _, _, by rw [show i = lm_gu c w rt by omega] at hmf; exact hmf, fun r h9 => ⟨by rw [(hro r h9).1]; exact congrArg nI (lm_gr_k c w rt r).symm, hr2 r h9⟩, rfl⟩
    | succ n9 ih =>
      intro i cd1 kd1 ct1 kk1 kc1 rr2 fl1 fla1 nc1 nk1 nt2 fse1 hi hnn hr2 hmf
      have hg9 : lm_gu c w rt ≤ 120 := hlen2
      have hg8 : lm_gu c w rt = (lm_laid c w (lm_list c w rt)).2.length := rfl
      refine lx_iload_n F dX4_gather_362 1 rfl ?_
      refine lx_aload_n F dX4_gather_363 0 rfl ?_
      refine gf_X4_73 F 0 rfl rfl dX4_gather_364 ?_
      refine lx_icmpN_ge F 412 (by omega) (by omega) dX4_gather_367 rfl (fun h => absurd h (by omega)) (fun _ => ?_)
      refine lx_aload_n F dX4_gather_370 0 rfl ?_
      refine gf_X4_7 F 0 rfl rfl dX4_gather_371 ?_
      refine lx_iload_n F dX4_gather_374 1 rfl ?_
      refine lx_aload_n F dX4_gather_375 0 rfl ?_
      refine gf_X4_32 F 0 rfl rfl dX4_gather_376 ?_
      refine lx_iload_n F dX4_gather_379 1 rfl ?_
      refine lx_iald F 8 i dX4_gather_380 rfl (by omega) (by decide) ?_
      rw [(hnn i (by omega)).1]
      refine lx_iast F 1 i [(y, .inr (4, [.int th, .ref acd, .ref akd, .ref act, .int (nI (lm_gu c w rt)), .ref ark, .ref arr, .int (z + nI 1), .int kk1, .long kc1, .ref ali, .int (nI ((lm_list c w rt).length)), .ref ala, .ref anc, .ref ank, .ref ant, .int (nI ((lm_laid c w (lm_list c w rt)).2.length)), .ref aag, .ref abk, .ref atd, .ref ase])), (acd, aI K 120 (lm_up cd1 i (nI (lm_gc c w rt i)))), (akd, aI K 120 kd1), (act, aJ K 120 ct1), (ark, aI K 10 rk1), (arr, aJ K 10 rr2), (ali, aI K 120 fl1), (ala, aI K 120 fla1), (anc, aI K 120 nc1), (ank, aI K 120 nk1), (ant, aJ K 120 nt2), (ase, aZ K 120 fse1)] dX4_gather_381 rfl (by omega) (by decide) rfl ?_
      refine lx_aload_n F dX4_gather_382 0 rfl ?_
      refine gf_X4_13 F 0 rfl rfl dX4_gather_383 ?_
      refine lx_iload_n F dX4_gather_386 1 rfl ?_
      refine lx_aload_n F dX4_gather_387 0 rfl ?_
      refine gf_X4_35 F 0 rfl rfl dX4_gather_388 ?_
      refine lx_iload_n F dX4_gather_391 1 rfl ?_
      refine lx_iald F 9 i dX4_gather_392 rfl (by omega) (by decide) ?_
      rw [(hnn i (by omega)).2.1]
      refine lx_iast F 2 i [(y, .inr (4, [.int th, .ref acd, .ref akd, .ref act, .int (nI (lm_gu c w rt)), .ref ark, .ref arr, .int (z + nI 1), .int kk1, .long kc1, .ref ali, .int (nI ((lm_list c w rt).length)), .ref ala, .ref anc, .ref ank, .ref ant, .int (nI ((lm_laid c w (lm_list c w rt)).2.length)), .ref aag, .ref abk, .ref atd, .ref ase])), (acd, aI K 120 (lm_up cd1 i (nI (lm_gc c w rt i)))), (akd, aI K 120 (lm_up kd1 i (nI ((lm_gw c w rt i).1)))), (act, aJ K 120 ct1), (ark, aI K 10 rk1), (arr, aJ K 10 rr2), (ali, aI K 120 fl1), (ala, aI K 120 fla1), (anc, aI K 120 nc1), (ank, aI K 120 nk1), (ant, aJ K 120 nt2), (ase, aZ K 120 fse1)] dX4_gather_393 rfl (by omega) (by decide) rfl ?_
      refine lx_aload_n F dX4_gather_394 0 rfl ?_
      refine gf_X4_16 F 0 rfl rfl dX4_gather_395 ?_
      refine lx_iload_n F dX4_gather_398 1 rfl ?_
      refine lx_aload_n F dX4_gather_399 0 rfl ?_
      refine gf_X4_38 F 0 rfl rfl dX4_gather_400 ?_
      refine lx_iload_n F dX4_gather_403 1 rfl ?_
      refine lx_lald F 10 i dX4_gather_404 rfl (by omega) (by decide) ?_
      rw [(hnn i (by omega)).2.2]
      refine lx_last F 3 i [(y, .inr (4, [.int th, .ref acd, .ref akd, .ref act, .int (nI (lm_gu c w rt)), .ref ark, .ref arr, .int (z + nI 1), .int kk1, .long kc1, .ref ali, .int (nI ((lm_list c w rt).length)), .ref ala, .ref anc, .ref ank, .ref ant, .int (nI ((lm_laid c w (lm_list c w rt)).2.length)), .ref aag, .ref abk, .ref atd, .ref ase])), (acd, aI K 120 (lm_up cd1 i (nI (lm_gc c w rt i)))), (akd, aI K 120 (lm_up kd1 i (nI ((lm_gw c w rt i).1)))), (act, aJ K 120 (lm_up ct1 i (jI ((lm_gw c w rt i).2)))), (ark, aI K 10 rk1), (arr, aJ K 10 rr2), (ali, aI K 120 fl1), (ala, aI K 120 fla1), (anc, aI K 120 nc1), (ank, aI K 120 nk1), (ant, aJ K 120 nt2), (ase, aZ K 120 fse1)] dX4_gather_405 rfl (by omega) (by decide) rfl ?_
      refine lx_iinc F [(0, .ref y), (1, .int (nI (i + 1)))] 1 [1, 0] dX4_gather_406 rfl (k_inc _) rfl (by decide) ?_
      refine lx_goto F 362 dX4_gather_409 rfl ?_
      exact ih (i + 1) _ _ _ kk1 kc1 rr2 fl1 fla1 nc1 nk1 nt2 fse1 (by omega) hnn hr2 (lm_mf_s hmf)
  have loop7 : ∀ (n9 : Nat) (i : Nat) (kk1 : Int32) (kc1 : Int64) (rr2 : Nat → Int64) (fl1 fla1 nc1 nk1 : Nat → Int32) (nt2 : Nat → Int64) (fse1 : Nat → Int32), i + n9 = 10 → (∀ j, j < (lm_laid c w (lm_list c w rt)).2.length → nc1 j = nI (lm_gc c w rt j) ∧ nk1 j = nI (lm_gw c w rt j).1 ∧ nt2 j = jI (lm_gw c w rt j).2) → (∀ p, p < 120 → fla1 p = oI ((lm_laid c w (lm_list c w rt)).1 p)) → (∀ r, r < i → rr2 r = jI (lm_gr c w rt r).2) → (∀ r, i ≤ r → r < 10 → rr2 r = jI (rt r).2) → lx_W K 3 E 0 0 299 [(0, .ref y), (1, .int (nI i))] [] [(y, .inr (4, [.int th, .ref acd, .ref akd, .ref act, .int (nI u), .ref ark, .ref arr, .int (z + nI 1), .int kk1, .long kc1, .ref ali, .int (nI ((lm_list c w rt).length)), .ref ala, .ref anc, .ref ank, .ref ant, .int (nI ((lm_laid c w (lm_list c w rt)).2.length)), .ref aag, .ref abk, .ref atd, .ref ase])), (acd, aI K 120 cd), (akd, aI K 120 kd), (act, aJ K 120 ct), (ark, aI K 10 rk1), (arr, aJ K 10 rr2), (ali, aI K 120 fl1), (ala, aI K 120 fla1), (anc, aI K 120 nc1), (ank, aI K 120 nk1), (ant, aJ K 120 nt2), (ase, aZ K 120 fse1)] := by
    intro n9
    induction n9 with
    | zero =>
      intro i kk1 kc1 rr2 fl1 fla1 nc1 nk1 nt2 fse1 hi hnn hla ha hb
      refine lx_iload_n F dX4_gather_299 1 rfl ?_
      refine lx_bipush F dX4_gather_300 kb_10 ?_
      refine lx_icmpN_ge F 352 (by omega) (by omega) dX4_gather_302 rfl (fun _ => ?_) (fun h => absurd h (by omega))
      refine lx_aload_n F dX4_gather_352 0 rfl ?_
      refine lx_aload_n F dX4_gather_353 0 rfl ?_
      refine gf_X4_82 F 0 rfl rfl dX4_gather_354 ?_
      refine pf_X4_73 F 0 [(y, .inr (4, [.int th, .ref acd, .ref akd, .ref act, .int (nI ((lm_laid c w (lm_list c w rt)).2.length)), .ref ark, .ref arr, .int (z + nI 1), .int kk1, .long kc1, .ref ali, .int (nI ((lm_list c w rt).length)), .ref ala, .ref anc, .ref ank, .ref ant, .int (nI ((lm_laid c w (lm_list c w rt)).2.length)), .ref aag, .ref abk, .ref atd, .ref ase])), (acd, aI K 120 cd), (akd, aI K 120 kd), (act, aJ K 120 ct), (ark, aI K 10 rk1), (arr, aJ K 10 rr2), (ali, aI K 120 fl1), (ala, aI K 120 fla1), (anc, aI K 120 nc1), (ank, aI K 120 nk1), (ant, aJ K 120 nt2), (ase, aZ K 120 fse1)] rfl rfl dX4_gather_357 rfl ?_
      refine lx_iconst F dX4_gather_360 kc_0 ?_
      refine lx_istore_n F [(0, .ref y), (1, .int (nI 0))] [1, 0] dX4_gather_361 rfl (by decide) ?_
      exact loop8 (lm_gu c w rt) 0 cd kd ct kk1 kc1 rr2 fl1 fla1 nc1 nk1 nt2 fse1 (by omega) hnn (fun r h9 => ha r (by omega)) (fun p hp => absurd hp (by omega))
    | succ n9 ih =>
      intro i kk1 kc1 rr2 fl1 fla1 nc1 nk1 nt2 fse1 hi hnn hla ha hb
      refine lx_iload_n F dX4_gather_299 1 rfl ?_
      refine lx_bipush F dX4_gather_300 kb_10 ?_
      refine lx_icmpN_ge F 352 (by omega) (by omega) dX4_gather_302 rfl (fun h => absurd h (by omega)) (fun _ => ?_)
      refine lx_aload_n F dX4_gather_305 0 rfl ?_
      refine gf_X4_23 F 0 rfl rfl dX4_gather_306 ?_
      refine lx_iload_n F dX4_gather_309 1 rfl ?_
      refine lx_aload_n F dX4_gather_310 0 rfl ?_
      refine gf_X4_20 F 0 rfl rfl dX4_gather_311 ?_
      refine lx_iload_n F dX4_gather_314 1 rfl ?_
      have hvi := hr i (by omega)
      have hv3 := lm_ok_kind hvi
      refine lx_iald F 4 i dX4_gather_315 rfl (by omega) (by decide) ?_
      rw [(hro i (by omega)).1]
      refine lx_iconst F dX4_gather_316 kc_2 ?_
      refine lx_icmpN_ne F 339 (by omega) (by omega) dX4_gather_317 rfl (fun h2 => ?_) (fun h2 => ?_)
      · skip
        refine lx_aload_n F dX4_gather_339 0 rfl ?_
        refine gf_X4_23 F 0 rfl rfl dX4_gather_340 ?_
        refine lx_iload_n F dX4_gather_343 1 rfl ?_
        refine lx_lald F 5 i dX4_gather_344 rfl (by omega) (by decide) ?_
        rw [hb i (by omega) (by omega)]
        refine lx_last F 5 i [(y, .inr (4, [.int th, .ref acd, .ref akd, .ref act, .int (nI u), .ref ark, .ref arr, .int (z + nI 1), .int kk1, .long kc1, .ref ali, .int (nI ((lm_list c w rt).length)), .ref ala, .ref anc, .ref ank, .ref ant, .int (nI ((lm_laid c w (lm_list c w rt)).2.length)), .ref aag, .ref abk, .ref atd, .ref ase])), (acd, aI K 120 cd), (akd, aI K 120 kd), (act, aJ K 120 ct), (ark, aI K 10 rk1), (arr, aJ K 10 (lm_up rr2 i (jI ((rt i).2)))), (ali, aI K 120 fl1), (ala, aI K 120 fla1), (anc, aI K 120 nc1), (ank, aI K 120 nk1), (ant, aJ K 120 nt2), (ase, aZ K 120 fse1)] dX4_gather_345 rfl (by omega) (by decide) rfl ?_
        refine lx_iinc F [(0, .ref y), (1, .int (nI (i + 1)))] 1 [1, 0] dX4_gather_346 rfl (k_inc _) rfl (by decide) ?_
        refine lx_goto F 299 dX4_gather_349 rfl ?_
        exact ih (i + 1) kk1 kc1 _ fl1 fla1 nc1 nk1 nt2 fse1 (by omega) hnn hla (lm_up_ext ha (by rw [lm_gr_no h2])) (fun r a1 a2 => by rw [lm_up_ne (by omega)]; exact hb r (by omega) a2)
      · skip
        obtain ⟨q, n, eq, lq, nq, lc, ln, n31, et⟩ := hvl (rt i) hvi h2 (hroot i (by omega) h2)
        refine lx_aload_n F dX4_gather_320 0 rfl ?_
        refine gf_X4_29 F 0 rfl rfl dX4_gather_321 ?_
        refine lx_aload_n F dX4_gather_324 0 rfl ?_
        refine lx_aload_n F dX4_gather_325 0 rfl ?_
        refine gf_X4_23 F 0 rfl rfl dX4_gather_326 ?_
        refine lx_iload_n F dX4_gather_329 1 rfl ?_
        refine lx_lald F 5 i dX4_gather_330 rfl (by omega) (by decide) ?_
        rw [show rr2 i = jI ((q : Nat) : Int) by rw [hb i (by omega) (by omega), eq]]
        refine lx_cv F (zr_cell (xl E) K y acd akd act ark arr ali ala anc ank ant aag abk atd ase th (z + nI 1) kk1 kc1 (nI (lm_list c w rt).length) (nI (lm_laid c w (lm_list c w rt)).2.length) cd kd ct c w u hw hh q lq nq) cv_X4_65 0 rfl rfl [0, 2, 3] [1, 4, 5, 6, 7, 8, 9, 10, 11] [(acd, aI K 120 cd), (ark, aI K 10 rk1), (arr, aJ K 10 rr2), (ali, aI K 120 fl1), (ala, aI K 120 fla1), (anc, aI K 120 nc1), (ank, aI K 120 nk1), (ant, aJ K 120 nt2), (ase, aZ K 120 fse1)] rfl rfl (by decide) rfl (st := [.ref ala, .int (nI i), .ref arr]) rfl (Nat.le_of_ble_eq_true rfl) (by decide) ⟨by decide, by decide⟩ dX4_gather_331 (fun v9 w9 h9 => ?_)
        obtain ⟨rfl, rfl⟩ := h9
        refine lx_perm [9, 0, 10, 11, 1, 2, 3, 4, 5, 6, 7, 8] [(y, .inr (4, [.int th, .ref acd, .ref akd, .ref act, .int (nI u), .ref ark, .ref arr, .int (z + nI 1), .int kk1, .long kc1, .ref ali, .int (nI ((lm_list c w rt).length)), .ref ala, .ref anc, .ref ank, .ref ant, .int (nI ((lm_laid c w (lm_list c w rt)).2.length)), .ref aag, .ref abk, .ref atd, .ref ase])), (acd, aI K 120 cd), (akd, aI K 120 kd), (act, aJ K 120 ct), (ark, aI K 10 rk1), (arr, aJ K 10 rr2), (ali, aI K 120 fl1), (ala, aI K 120 fla1), (anc, aI K 120 nc1), (ank, aI K 120 nk1), (ant, aJ K 120 nt2), (ase, aZ K 120 fse1)] (by decide) rfl ?_
        refine lx_st (a' := 0) (b' := 0) [.int (nI (lm_cell w q)), .ref ala, .int (nI i), .ref arr] rfl rfl rfl ?_
        refine lx_iald F 7 (lm_cell w q) dX4_gather_334 rfl lc (by decide) ?_
        rw [show fla1 (lm_cell w q) = nI n by rw [hla _ lc, ln]; rfl]
        refine lx_i2l F dX4_gather_335 (jI_i2l n31) ?_
        refine lx_goto F 345 dX4_gather_336 rfl ?_
        refine lx_last F 5 i [(y, .inr (4, [.int th, .ref acd, .ref akd, .ref act, .int (nI u), .ref ark, .ref arr, .int (z + nI 1), .int kk1, .long kc1, .ref ali, .int (nI ((lm_list c w rt).length)), .ref ala, .ref anc, .ref ank, .ref ant, .int (nI ((lm_laid c w (lm_list c w rt)).2.length)), .ref aag, .ref abk, .ref atd, .ref ase])), (acd, aI K 120 cd), (akd, aI K 120 kd), (act, aJ K 120 ct), (ark, aI K 10 rk1), (arr, aJ K 10 (lm_up rr2 i (jI ((n : Nat) : Int)))), (ali, aI K 120 fl1), (ala, aI K 120 fla1), (anc, aI K 120 nc1), (ank, aI K 120 nk1), (ant, aJ K 120 nt2), (ase, aZ K 120 fse1)] dX4_gather_345 rfl (by omega) (by decide) rfl ?_
        refine lx_iinc F [(0, .ref y), (1, .int (nI (i + 1)))] 1 [1, 0] dX4_gather_346 rfl (k_inc _) rfl (by decide) ?_
        refine lx_goto F 299 dX4_gather_349 rfl ?_
        exact ih (i + 1) kk1 kc1 _ fl1 fla1 nc1 nk1 nt2 fse1 (by omega) hnn hla (lm_up_ext ha (by rw [← et]; rfl)) (fun r a1 a2 => by rw [lm_up_ne (by omega)]; exact hb r (by omega) a2)
  have loop6 : ∀ (n9 : Nat) (i : Nat) (kk1 : Int32) (kc1 : Int64) (fl1 fla1 nc1 nk1 : Nat → Int32) (nt2 : Nat → Int64) (fse1 : Nat → Int32), i + n9 = (lm_laid c w (lm_list c w rt)).2.length → (∀ p, p < 120 → fla1 p = oI ((lm_laid c w (lm_list c w rt)).1 p)) → (∀ j, j < (lm_laid c w (lm_list c w rt)).2.length → nc1 j = nI ((lm_laid c w (lm_list c w rt)).2.getD j (0, 0, 0)).1 ∧ nk1 j = nI ((lm_laid c w (lm_list c w rt)).2.getD j (0, 0, 0)).2.1) → (∀ j, j < i → nt2 j = jI (lm_gw c w rt j).2) → (∀ j, i ≤ j → j < (lm_laid c w (lm_list c w rt)).2.length → nt2 j = jI ((lm_laid c w (lm_list c w rt)).2.getD j (0, 0, 0)).2.2) → lx_W K 3 E 0 0 242 [(0, .ref y), (1, .int (nI i))] [] [(y, .inr (4, [.int th, .ref acd, .ref akd, .ref act, .int (nI u), .ref ark, .ref arr, .int (z + nI 1), .int kk1, .long kc1, .ref ali, .int (nI ((lm_list c w rt).length)), .ref ala, .ref anc, .ref ank, .ref ant, .int (nI ((lm_laid c w (lm_list c w rt)).2.length)), .ref aag, .ref abk, .ref atd, .ref ase])), (acd, aI K 120 cd), (akd, aI K 120 kd), (act, aJ K 120 ct), (ark, aI K 10 rk1), (arr, aJ K 10 rr1), (ali, aI K 120 fl1), (ala, aI K 120 fla1), (anc, aI K 120 nc1), (ank, aI K 120 nk1), (ant, aJ K 120 nt2), (ase, aZ K 120 fse1)] := by
    intro n9
    induction n9 with
    | zero =>
      intro i kk1 kc1 fl1 fla1 nc1 nk1 nt2 fse1 hi hla hnk ha hb
      refine lx_iload_n F dX4_gather_242 1 rfl ?_
      refine lx_aload_n F dX4_gather_243 0 rfl ?_
      refine gf_X4_82 F 0 rfl rfl dX4_gather_244 ?_
      refine lx_icmpN_ge F 297 (by omega) (by omega) dX4_gather_247 rfl (fun _ => ?_) (fun h => absurd h (by omega))
      refine lx_iconst F dX4_gather_297 kc_0 ?_
      refine lx_istore_n F [(0, .ref y), (1, .int (nI 0))] [1, 0] dX4_gather_298 rfl (by decide) ?_
      exact loop7 10 0 kk1 kc1 rr1 fl1 fla1 nc1 nk1 nt2 fse1 (by omega) (fun j hj => ⟨(hnk j hj).1, by rw [(hnk j hj).2]; exact congrArg nI (lm_gw_k c w rt j).symm, ha j (by omega)⟩) hla (fun r h9 => absurd h9 (by omega)) (fun r _ h9 => (hro r h9).2)
    | succ n9 ih =>
      intro i kk1 kc1 fl1 fla1 nc1 nk1 nt2 fse1 hi hla hnk ha hb
      refine lx_iload_n F dX4_gather_242 1 rfl ?_
      refine lx_aload_n F dX4_gather_243 0 rfl ?_
      refine gf_X4_82 F 0 rfl rfl dX4_gather_244 ?_
      refine lx_icmpN_ge F 297 (by omega) (by omega) dX4_gather_247 rfl (fun h => absurd h (by omega)) (fun _ => ?_)
      refine lx_aload_n F dX4_gather_250 0 rfl ?_
      refine gf_X4_38 F 0 rfl rfl dX4_gather_251 ?_
      refine lx_iload_n F dX4_gather_254 1 rfl ?_
      refine lx_aload_n F dX4_gather_255 0 rfl ?_
      refine gf_X4_35 F 0 rfl rfl dX4_gather_256 ?_
      refine lx_iload_n F dX4_gather_259 1 rfl ?_
      have hio : i < (lm_laid c w (lm_list c w rt)).2.length := by omega
      have hvi := (l6 _ (lm_getD_mem (d := (0, 0, 0)) hio)).1
      have hv3 := lm_ok_kind hvi
      refine lx_iald F 9 i dX4_gather_260 rfl (by omega) (by decide) ?_
      rw [(hnk i hio).2]
      refine lx_iconst F dX4_gather_261 kc_2 ?_
      refine lx_icmpN_ne F 284 (by omega) (by omega) dX4_gather_262 rfl (fun h2 => ?_) (fun h2 => ?_)
      · skip
        refine lx_aload_n F dX4_gather_284 0 rfl ?_
        refine gf_X4_38 F 0 rfl rfl dX4_gather_285 ?_
        refine lx_iload_n F dX4_gather_288 1 rfl ?_
        refine lx_lald F 10 i dX4_gather_289 rfl (by omega) (by decide) ?_
        rw [hb i (by omega) hio]
        refine lx_last F 10 i [(y, .inr (4, [.int th, .ref acd, .ref akd, .ref act, .int (nI u), .ref ark, .ref arr, .int (z + nI 1), .int kk1, .long kc1, .ref ali, .int (nI ((lm_list c w rt).length)), .ref ala, .ref anc, .ref ank, .ref ant, .int (nI ((lm_laid c w (lm_list c w rt)).2.length)), .ref aag, .ref abk, .ref atd, .ref ase])), (acd, aI K 120 cd), (akd, aI K 120 kd), (act, aJ K 120 ct), (ark, aI K 10 rk1), (arr, aJ K 10 rr1), (ali, aI K 120 fl1), (ala, aI K 120 fla1), (anc, aI K 120 nc1), (ank, aI K 120 nk1), (ant, aJ K 120 (lm_up nt2 i (jI (((lm_laid c w (lm_list c w rt)).2.getD i (0, 0, 0)).2.2)))), (ase, aZ K 120 fse1)] dX4_gather_290 rfl (by omega) (by decide) rfl ?_
        refine lx_iinc F [(0, .ref y), (1, .int (nI (i + 1)))] 1 [1, 0] dX4_gather_291 rfl (k_inc _) rfl (by decide) ?_
        refine lx_goto F 242 dX4_gather_294 rfl ?_
        exact ih (i + 1) kk1 kc1 fl1 fla1 nc1 nk1 _ fse1 (by omega) hla hnk (lm_up_ext ha (by rw [lm_gw_no h2])) (fun j a1 a2 => by rw [lm_up_ne (by omega)]; exact hb j (by omega) a2)
      · skip
        obtain ⟨q, n, eq, lq, nq, lc, ln, n31, et⟩ := hvl ((lm_laid c w (lm_list c w rt)).2.getD i (0, 0, 0)).2 hvi h2 ((l6 _ (lm_getD_mem (d := (0, 0, 0)) hio)).2 h2)
        refine lx_aload_n F dX4_gather_265 0 rfl ?_
        refine gf_X4_29 F 0 rfl rfl dX4_gather_266 ?_
        refine lx_aload_n F dX4_gather_269 0 rfl ?_
        refine lx_aload_n F dX4_gather_270 0 rfl ?_
        refine gf_X4_38 F 0 rfl rfl dX4_gather_271 ?_
        refine lx_iload_n F dX4_gather_274 1 rfl ?_
        refine lx_lald F 10 i dX4_gather_275 rfl (by omega) (by decide) ?_
        rw [show nt2 i = jI ((q : Nat) : Int) by rw [hb i (by omega) hio, eq]]
        refine lx_cv F (zr_cell (xl E) K y acd akd act ark arr ali ala anc ank ant aag abk atd ase th (z + nI 1) kk1 kc1 (nI (lm_list c w rt).length) (nI (lm_laid c w (lm_list c w rt)).2.length) cd kd ct c w u hw hh q lq nq) cv_X4_65 0 rfl rfl [0, 2, 3] [1, 4, 5, 6, 7, 8, 9, 10, 11] [(acd, aI K 120 cd), (ark, aI K 10 rk1), (arr, aJ K 10 rr1), (ali, aI K 120 fl1), (ala, aI K 120 fla1), (anc, aI K 120 nc1), (ank, aI K 120 nk1), (ant, aJ K 120 nt2), (ase, aZ K 120 fse1)] rfl rfl (by decide) rfl (st := [.ref ala, .int (nI i), .ref ant]) rfl (Nat.le_of_ble_eq_true rfl) (by decide) ⟨by decide, by decide⟩ dX4_gather_276 (fun v9 w9 h9 => ?_)
        obtain ⟨rfl, rfl⟩ := h9
        refine lx_perm [9, 0, 10, 11, 1, 2, 3, 4, 5, 6, 7, 8] [(y, .inr (4, [.int th, .ref acd, .ref akd, .ref act, .int (nI u), .ref ark, .ref arr, .int (z + nI 1), .int kk1, .long kc1, .ref ali, .int (nI ((lm_list c w rt).length)), .ref ala, .ref anc, .ref ank, .ref ant, .int (nI ((lm_laid c w (lm_list c w rt)).2.length)), .ref aag, .ref abk, .ref atd, .ref ase])), (acd, aI K 120 cd), (akd, aI K 120 kd), (act, aJ K 120 ct), (ark, aI K 10 rk1), (arr, aJ K 10 rr1), (ali, aI K 120 fl1), (ala, aI K 120 fla1), (anc, aI K 120 nc1), (ank, aI K 120 nk1), (ant, aJ K 120 nt2), (ase, aZ K 120 fse1)] (by decide) rfl ?_
        refine lx_st (a' := 0) (b' := 0) [.int (nI (lm_cell w q)), .ref ala, .int (nI i), .ref ant] rfl rfl rfl ?_
        refine lx_iald F 7 (lm_cell w q) dX4_gather_279 rfl lc (by decide) ?_
        rw [show fla1 (lm_cell w q) = nI n by rw [hla _ lc, ln]; rfl]
        refine lx_i2l F dX4_gather_280 (jI_i2l n31) ?_
        refine lx_goto F 290 dX4_gather_281 rfl ?_
        refine lx_last F 10 i [(y, .inr (4, [.int th, .ref acd, .ref akd, .ref act, .int (nI u), .ref ark, .ref arr, .int (z + nI 1), .int kk1, .long kc1, .ref ali, .int (nI ((lm_list c w rt).length)), .ref ala, .ref anc, .ref ank, .ref ant, .int (nI ((lm_laid c w (lm_list c w rt)).2.length)), .ref aag, .ref abk, .ref atd, .ref ase])), (acd, aI K 120 cd), (akd, aI K 120 kd), (act, aJ K 120 ct), (ark, aI K 10 rk1), (arr, aJ K 10 rr1), (ali, aI K 120 fl1), (ala, aI K 120 fla1), (anc, aI K 120 nc1), (ank, aI K 120 nk1), (ant, aJ K 120 (lm_up nt2 i (jI ((n : Nat) : Int)))), (ase, aZ K 120 fse1)] dX4_gather_290 rfl (by omega) (by decide) rfl ?_
        refine lx_iinc F [(0, .ref y), (1, .int (nI (i + 1)))] 1 [1, 0] dX4_gather_291 rfl (k_inc _) rfl (by decide) ?_
        refine lx_goto F 242 dX4_gather_294 rfl ?_
        exact ih (i + 1) kk1 kc1 fl1 fla1 nc1 nk1 _ fse1 (by omega) hla hnk (lm_up_ext ha (by rw [← et]; rfl)) (fun j a1 a2 => by rw [lm_up_ne (by omega)]; exact hb j (by omega) a2)
  have hfix : True := trivial
  have hIs : ∃ D k, lm_I c w u (lm_list c w rt) (fun _ => none, []) D k none := lm_I_0
  have hIs1 := lm_phase_I (hd := true) hw hL hcl hIs (lm_list c w rt).length (Nat.le_refl _)
  have hlen2b : (lm_phase c w (lm_list c w rt) false (lm_phase c w (lm_list c w rt) true (fun _ => none, []) (lm_list c w rt).length) (lm_list c w rt).length).2.length ≤ 120 := hlen2
  have loop5b : ∀ (n9 : Nat) (i : Nat) (kk1 : Int32) (kc1 : Int64) (fla1 nc1 nk1 : Nat → Int32) (nt1 : Nat → Int64) (fl1 fse1 : Nat → Int32), (∀ j, j < (lm_list c w rt).length → fl1 j = nI ((lm_list c w rt).getD j 0)) → i + n9 = (lm_list c w rt).length → lm_om fla1 nc1 nk1 nt1 (lm_phase c w (lm_list c w rt) false (lm_phase c w (lm_list c w rt) true (fun _ => none, []) (lm_list c w rt).length) i) → lx_W K 3 E 0 0 191 [(0, .ref y), (1, .int (nI 1)), (2, .int (nI i))] [] [(y, .inr (4, [.int th, .ref acd, .ref akd, .ref act, .int (nI u), .ref ark, .ref arr, .int (z + nI 1), .int kk1, .long kc1, .ref ali, .int (nI ((lm_list c w rt).length)), .ref ala, .ref anc, .ref ank, .ref ant, .int (nI ((lm_phase c w (lm_list c w rt) false (lm_phase c w (lm_list c w rt) true (fun _ => none, []) (lm_list c w rt).length) i).2.length)), .ref aag, .ref abk, .ref atd, .ref ase])), (acd, aI K 120 cd), (akd, aI K 120 kd), (act, aJ K 120 ct), (ark, aI K 10 rk1), (arr, aJ K 10 rr1), (ali, aI K 120 fl1), (ala, aI K 120 fla1), (anc, aI K 120 nc1), (ank, aI K 120 nk1), (ant, aJ K 120 nt1), (ase, aZ K 120 fse1)] := by
    intro n9
    induction n9 with
    | zero =>
      intro i kk1 kc1 fla1 nc1 nk1 nt1 fl1 fse1 hfl hi hom
      refine lx_iload_n F dX4_gather_191 2 rfl ?_
      refine lx_aload_n F dX4_gather_192 0 rfl ?_
      refine gf_X4_79 F 0 rfl rfl dX4_gather_193 ?_
      refine lx_icmpN_ge F 234 (by omega) (by omega) dX4_gather_196 rfl (fun _ => ?_) (fun h => absurd h (by omega))
      refine lx_iinc F [(0, .ref y), (1, .int (nI (1 + 1))), (2, .int (nI i))] 1 [1, 0, 2] dX4_gather_234 rfl (k_inc _) rfl (by decide) ?_
      refine lx_goto F 184 dX4_gather_237 rfl ?_
      refine lx_iload_n F dX4_gather_184 1 rfl ?_
      refine lx_iconst F dX4_gather_185 kc_2 ?_
      refine lx_icmpN_ge F 240 (by omega) (by omega) dX4_gather_186 rfl (fun _ => ?_) (fun h => absurd h (by omega))
      refine lx_iconst F dX4_gather_240 kc_0 ?_
      refine lx_istore_n F [(0, .ref y), (1, .int (nI 0)), (2, .int (nI i))] [1, 0, 2] dX4_gather_241 rfl (by decide) ?_
      refine lx_lv [0, 1] [(0, .ref y), (1, .int (nI 0))] rfl ?_
      have hi9 : i = (lm_list c w rt).length := by omega
      subst hi9
      exact loop6 (lm_laid c w (lm_list c w rt)).2.length 0 kk1 kc1 fl1 fla1 nc1 nk1 nt1 fse1 (by omega) hom.1 (fun j hj => ⟨(hom.2 j hj).1, (hom.2 j hj).2.1⟩) (fun j hj => absurd hj (by omega)) (fun j _ hj => (hom.2 j hj).2.2)
    | succ n9 ih =>
      intro i kk1 kc1 fla1 nc1 nk1 nt1 fl1 fse1 hfl hi hom
      refine lx_iload_n F dX4_gather_191 2 rfl ?_
      refine lx_aload_n F dX4_gather_192 0 rfl ?_
      refine gf_X4_79 F 0 rfl rfl dX4_gather_193 ?_
      refine lx_icmpN_ge F 234 (by omega) (by omega) dX4_gather_196 rfl (fun h => absurd h (by omega)) (fun _ => ?_)
      refine lx_iload_n F dX4_gather_199 1 rfl ?_
      refine lx_iconst F dX4_gather_200 kc_1 ?_
      refine lx_icmpN_eq F 218 (by omega) (by omega) dX4_gather_201 rfl (fun _ => ?_) (fun h => absurd h (by omega))
      refine lx_aload_n F dX4_gather_218 0 rfl ?_
      refine lx_aload_n F dX4_gather_219 0 rfl ?_
      refine gf_X4_26 F 0 rfl rfl dX4_gather_220 ?_
      refine lx_iload_n F dX4_gather_223 2 rfl ?_
      have hle0 := lm_phase_len (c := c) (w := w) (L := (lm_list c w rt)) (hd := false) (s := (lm_phase c w (lm_list c w rt) true (fun _ => none, []) (lm_list c w rt).length)) (lm_list c w rt).length (i + 1) (by omega)
      have hle9 := lm_phase_len (c := c) (w := w) (L := (lm_list c w rt)) (hd := false) (s := (lm_phase c w (lm_list c w rt) true (fun _ => none, []) (lm_list c w rt).length)) (lm_list c w rt).length i (by omega)
      have hsbi := lm_phase_b (c := c) (w := w) (L := (lm_list c w rt)) (hd := false) hsb1 i (by omega)
      have hIi := lm_phase_I (hd := false) hw hL hcl hIs1 i (by omega)
      obtain ⟨p, hpe⟩ : ∃ p, p = (lm_list c w rt).getD i 0 := ⟨_, rfl⟩
      have hpL : p ∈ (lm_list c w rt) := by rw [hpe]; exact lm_getD_in (by omega)
      have hp1 := (hL.2 p hpL).1
      have hph : (lm_phase c w (lm_list c w rt) false (lm_phase c w (lm_list c w rt) true (fun _ => none, []) (lm_list c w rt).length) (i + 1)) = lm_try c w (lm_list c w rt) false (lm_phase c w (lm_list c w rt) false (lm_phase c w (lm_list c w rt) true (fun _ => none, []) (lm_list c w rt).length) i) p := by rw [hpe]; rfl
      have htry : lm_try c w (lm_list c w rt) false (lm_phase c w (lm_list c w rt) false (lm_phase c w (lm_list c w rt) true (fun _ => none, []) (lm_list c w rt).length) i) p = lm_trs c w (lm_phase c w (lm_list c w rt) false (lm_phase c w (lm_list c w rt) true (fun _ => none, []) (lm_list c w rt).length) i) p := lm_try_trs (by simp)
      have htr : (lm_phase c w (lm_list c w rt) false (lm_phase c w (lm_list c w rt) true (fun _ => none, []) (lm_list c w rt).length) (i + 1)) = lm_trs c w (lm_phase c w (lm_list c w rt) false (lm_phase c w (lm_list c w rt) true (fun _ => none, []) (lm_list c w rt).length) i) p := hph.trans htry
      refine lx_iald F 6 i dX4_gather_224 rfl (by omega) (by decide) ?_
      rw [show fl1 i = nI p by rw [hfl i (by omega), hpe]]
      refine lx_cv F (zr_spine (xl E) K y acd akd act ark arr ali ala anc ank ant aag abk atd ase th (z + nI 1) kk1 kc1 (nI (lm_list c w rt).length) (nI (lm_phase c w (lm_list c w rt) false (lm_phase c w (lm_list c w rt) true (fun _ => none, []) (lm_list c w rt).length) i).2.length) cd kd ct fla1 nc1 nk1 nt1 c w u hw hh (lm_list c w rt) hL hcl (lm_phase c w (lm_list c w rt) false (lm_phase c w (lm_list c w rt) true (fun _ => none, []) (lm_list c w rt).length) i) hsbi hom hIi p hpL (by rw [← htr]; omega)) cv_X4_99 0 rfl rfl [0, 1, 2, 3, 7, 8, 9, 10] [4, 5, 6, 11] [(ark, aI K 10 rk1), (arr, aJ K 10 rr1), (ali, aI K 120 fl1), (ase, aZ K 120 fse1)] rfl rfl (by decide) rfl (st := []) rfl (Nat.le_of_ble_eq_true rfl) (by decide) ⟨by decide, by decide⟩ dX4_gather_225 (fun v9 w9 h9 => ?_)
      obtain ⟨rfl, fla2, nc2, nk2, nt2, kk2, kc2, hom2, rfl⟩ := h9
      refine lx_perm [4, 5, 6, 7, 0, 1, 2, 8, 9, 10, 11, 3] [(y, .inr (4, [.int th, .ref acd, .ref akd, .ref act, .int (nI u), .ref ark, .ref arr, .int (z + nI 1), .int kk2, .long kc2, .ref ali, .int (nI ((lm_list c w rt).length)), .ref ala, .ref anc, .ref ank, .ref ant, .int (nI ((lm_trs c w (lm_phase c w (lm_list c w rt) false (lm_phase c w (lm_list c w rt) true (fun _ => none, []) (lm_list c w rt).length) i) p).2.length)), .ref aag, .ref abk, .ref atd, .ref ase])), (acd, aI K 120 cd), (akd, aI K 120 kd), (act, aJ K 120 ct), (ark, aI K 10 rk1), (arr, aJ K 10 rr1), (ali, aI K 120 fl1), (ala, aI K 120 fla2), (anc, aI K 120 nc2), (ank, aI K 120 nk2), (ant, aJ K 120 nt2), (ase, aZ K 120 fse1)] (by decide) rfl ?_
      refine lx_st (a' := 0) (b' := 0) [] rfl rfl rfl ?_
      refine lx_iinc F [(0, .ref y), (1, .int (nI 1)), (2, .int (nI (i + 1)))] 2 [1, 2, 0] dX4_gather_228 rfl (k_inc _) rfl (by decide) ?_
      refine lx_goto F 191 dX4_gather_231 rfl ?_
      have z9 := ih (i + 1) kk2 kc2 fla2 nc2 nk2 nt2 fl1 fse1 hfl (by omega) (by rw [htr]; exact hom2)
      rw [htr] at z9
      exact z9
  have loop5a : ∀ (n9 : Nat) (i : Nat) (kk1 : Int32) (kc1 : Int64) (fla1 nc1 nk1 : Nat → Int32) (nt1 : Nat → Int64) (fl1 fse1 : Nat → Int32), (∀ j, j < (lm_list c w rt).length → fl1 j = nI ((lm_list c w rt).getD j 0)) → (∀ p, p < 120 → fse1 p = nI (if lm_isRb c w (lm_list c w rt) p = true then 1 else 0)) → i + n9 = (lm_list c w rt).length → lm_om fla1 nc1 nk1 nt1 (lm_phase c w (lm_list c w rt) true (fun _ => none, []) i) → lx_W K 3 E 0 0 191 [(0, .ref y), (1, .int (nI 0)), (2, .int (nI i))] [] [(y, .inr (4, [.int th, .ref acd, .ref akd, .ref act, .int (nI u), .ref ark, .ref arr, .int (z + nI 1), .int kk1, .long kc1, .ref ali, .int (nI ((lm_list c w rt).length)), .ref ala, .ref anc, .ref ank, .ref ant, .int (nI ((lm_phase c w (lm_list c w rt) true (fun _ => none, []) i).2.length)), .ref aag, .ref abk, .ref atd, .ref ase])), (acd, aI K 120 cd), (akd, aI K 120 kd), (act, aJ K 120 ct), (ark, aI K 10 rk1), (arr, aJ K 10 rr1), (ali, aI K 120 fl1), (ala, aI K 120 fla1), (anc, aI K 120 nc1), (ank, aI K 120 nk1), (ant, aJ K 120 nt1), (ase, aZ K 120 fse1)] := by
    intro n9
    induction n9 with
    | zero =>
      intro i kk1 kc1 fla1 nc1 nk1 nt1 fl1 fse1 hfl hse hi hom
      refine lx_iload_n F dX4_gather_191 2 rfl ?_
      refine lx_aload_n F dX4_gather_192 0 rfl ?_
      refine gf_X4_79 F 0 rfl rfl dX4_gather_193 ?_
      refine lx_icmpN_ge F 234 (by omega) (by omega) dX4_gather_196 rfl (fun _ => ?_) (fun h => absurd h (by omega))
      refine lx_iinc F [(0, .ref y), (1, .int (nI (0 + 1))), (2, .int (nI i))] 1 [1, 0, 2] dX4_gather_234 rfl (k_inc _) rfl (by decide) ?_
      refine lx_goto F 184 dX4_gather_237 rfl ?_
      refine lx_iload_n F dX4_gather_184 1 rfl ?_
      refine lx_iconst F dX4_gather_185 kc_2 ?_
      refine lx_icmpN_ge F 240 (by omega) (by omega) dX4_gather_186 rfl (fun h => absurd h (by omega)) (fun _ => ?_)
      refine lx_iconst F dX4_gather_189 kc_0 ?_
      refine lx_istore_n F [(0, .ref y), (1, .int (nI (0 + 1))), (2, .int (nI 0))] [1, 2, 0] dX4_gather_190 rfl (by decide) ?_
      have hi9 : i = (lm_list c w rt).length := by omega
      subst hi9
      exact loop5b (lm_list c w rt).length 0 kk1 kc1 fla1 nc1 nk1 nt1 fl1 fse1 hfl (by omega) hom
    | succ n9 ih =>
      intro i kk1 kc1 fla1 nc1 nk1 nt1 fl1 fse1 hfl hse hi hom
      refine lx_iload_n F dX4_gather_191 2 rfl ?_
      refine lx_aload_n F dX4_gather_192 0 rfl ?_
      refine gf_X4_79 F 0 rfl rfl dX4_gather_193 ?_
      refine lx_icmpN_ge F 234 (by omega) (by omega) dX4_gather_196 rfl (fun h => absurd h (by omega)) (fun _ => ?_)
      refine lx_iload_n F dX4_gather_199 1 rfl ?_
      refine lx_iconst F dX4_gather_200 kc_1 ?_
      refine lx_icmpN_eq F 218 (by omega) (by omega) dX4_gather_201 rfl (fun h => absurd h (by omega)) (fun _ => ?_)
      refine lx_aload_n F dX4_gather_204 0 rfl ?_
      refine gf_X4_50 F 0 rfl rfl dX4_gather_205 ?_
      refine lx_aload_n F dX4_gather_208 0 rfl ?_
      refine gf_X4_26 F 0 rfl rfl dX4_gather_209 ?_
      refine lx_iload_n F dX4_gather_212 2 rfl ?_
      have hle0 := lm_phase_len (c := c) (w := w) (L := (lm_list c w rt)) (hd := true) (s := (fun _ => none, [])) (lm_list c w rt).length (i + 1) (by omega)
      have hle9 := lm_phase_len (c := c) (w := w) (L := (lm_list c w rt)) (hd := true) (s := (fun _ => none, [])) (lm_list c w rt).length i (by omega)
      have hsbi := lm_phase_b (c := c) (w := w) (L := (lm_list c w rt)) (hd := true) hsb0 i (by omega)
      have hIi := lm_phase_I (hd := true) hw hL hcl hIs i (by omega)
      obtain ⟨p, hpe⟩ : ∃ p, p = (lm_list c w rt).getD i 0 := ⟨_, rfl⟩
      have hpL : p ∈ (lm_list c w rt) := by rw [hpe]; exact lm_getD_in (by omega)
      have hp1 := (hL.2 p hpL).1
      have hph : (lm_phase c w (lm_list c w rt) true (fun _ => none, []) (i + 1)) = lm_try c w (lm_list c w rt) true (lm_phase c w (lm_list c w rt) true (fun _ => none, []) i) p := by rw [hpe]; rfl
      refine lx_iald F 6 i dX4_gather_213 rfl (by omega) (by decide) ?_
      rw [show fl1 i = nI p by rw [hfl i (by omega), hpe]]
      by_cases hR : lm_isRb c w (lm_list c w rt) p = true
      · skip
        have htr : (lm_phase c w (lm_list c w rt) true (fun _ => none, []) (i + 1)) = (lm_phase c w (lm_list c w rt) true (fun _ => none, []) i) := hph.trans (lm_try_n (fun z9 => z9.2 ⟨rfl, hR⟩))
        refine lx_zald F 11 p dX4_gather_214 rfl (by omega) (by decide) ?_
        rw [show fse1 p = nI 1 by rw [hse p (by omega), if_pos hR]]
        refine lx_ifN_ne F 228 (by omega) dX4_gather_215 rfl (fun _ => ?_) (fun h => absurd h (by omega))
        refine lx_iinc F [(0, .ref y), (1, .int (nI 0)), (2, .int (nI (i + 1)))] 2 [1, 2, 0] dX4_gather_228 rfl (k_inc _) rfl (by decide) ?_
        refine lx_goto F 191 dX4_gather_231 rfl ?_
        have z9 := ih (i + 1) kk1 kc1 fla1 nc1 nk1 nt1 fl1 fse1 hfl hse (by omega) (by rw [htr]; exact hom)
        rw [htr] at z9
        exact z9
      · skip
        have htr : (lm_phase c w (lm_list c w rt) true (fun _ => none, []) (i + 1)) = lm_trs c w (lm_phase c w (lm_list c w rt) true (fun _ => none, []) i) p := hph.trans (lm_try_trs (fun z9 => hR z9.2))
        refine lx_zald F 11 p dX4_gather_214 rfl (by omega) (by decide) ?_
        rw [show fse1 p = nI 0 by rw [hse p (by omega), if_neg hR]]
        refine lx_ifN_ne F 228 (by omega) dX4_gather_215 rfl (fun h => absurd h (by omega)) (fun _ => ?_)
        refine lx_aload_n F dX4_gather_218 0 rfl ?_
        refine lx_aload_n F dX4_gather_219 0 rfl ?_
        refine gf_X4_26 F 0 rfl rfl dX4_gather_220 ?_
        refine lx_iload_n F dX4_gather_223 2 rfl ?_
        refine lx_iald F 6 i dX4_gather_224 rfl (by omega) (by decide) ?_
        rw [show fl1 i = nI p by rw [hfl i (by omega), hpe]]
        refine lx_cv F (zr_spine (xl E) K y acd akd act ark arr ali ala anc ank ant aag abk atd ase th (z + nI 1) kk1 kc1 (nI (lm_list c w rt).length) (nI (lm_phase c w (lm_list c w rt) true (fun _ => none, []) i).2.length) cd kd ct fla1 nc1 nk1 nt1 c w u hw hh (lm_list c w rt) hL hcl (lm_phase c w (lm_list c w rt) true (fun _ => none, []) i) hsbi hom hIi p hpL (by rw [← htr]; omega)) cv_X4_99 0 rfl rfl [0, 1, 2, 3, 7, 8, 9, 10] [4, 5, 6, 11] [(ark, aI K 10 rk1), (arr, aJ K 10 rr1), (ali, aI K 120 fl1), (ase, aZ K 120 fse1)] rfl rfl (by decide) rfl (st := []) rfl (Nat.le_of_ble_eq_true rfl) (by decide) ⟨by decide, by decide⟩ dX4_gather_225 (fun v9 w9 h9 => ?_)
        obtain ⟨rfl, fla2, nc2, nk2, nt2, kk2, kc2, hom2, rfl⟩ := h9
        refine lx_perm [4, 5, 6, 7, 0, 1, 2, 8, 9, 10, 11, 3] [(y, .inr (4, [.int th, .ref acd, .ref akd, .ref act, .int (nI u), .ref ark, .ref arr, .int (z + nI 1), .int kk2, .long kc2, .ref ali, .int (nI ((lm_list c w rt).length)), .ref ala, .ref anc, .ref ank, .ref ant, .int (nI ((lm_trs c w (lm_phase c w (lm_list c w rt) true (fun _ => none, []) i) p).2.length)), .ref aag, .ref abk, .ref atd, .ref ase])), (acd, aI K 120 cd), (akd, aI K 120 kd), (act, aJ K 120 ct), (ark, aI K 10 rk1), (arr, aJ K 10 rr1), (ali, aI K 120 fl1), (ala, aI K 120 fla2), (anc, aI K 120 nc2), (ank, aI K 120 nk2), (ant, aJ K 120 nt2), (ase, aZ K 120 fse1)] (by decide) rfl ?_
        refine lx_st (a' := 0) (b' := 0) [] rfl rfl rfl ?_
        refine lx_iinc F [(0, .ref y), (1, .int (nI 0)), (2, .int (nI (i + 1)))] 2 [1, 2, 0] dX4_gather_228 rfl (k_inc _) rfl (by decide) ?_
        refine lx_goto F 191 dX4_gather_231 rfl ?_
        have z9 := ih (i + 1) kk2 kc2 fla2 nc2 nk2 nt2 fl1 fse1 hfl hse (by omega) (by rw [htr]; exact hom2)
        rw [htr] at z9
        exact z9
  have loop4 : ∀ (n9 : Nat) (i : Nat) (kk1 : Int32) (kc1 : Int64) (fl1 fla1 fse1 : Nat → Int32), (∀ j, j < (lm_list c w rt).length → fl1 j = nI ((lm_list c w rt).getD j 0)) → (∀ p, p < 120 → fla1 p = -1) → i + n9 = (lm_list c w rt).length → (∀ p, p < 120 → fse1 p = nI (if lm_isRb c w ((lm_list c w rt).take i) p = true then 1 else 0)) → lx_W K 3 E 0 0 136 [(0, .ref y), (1, .int (nI i))] [] [(y, .inr (4, [.int th, .ref acd, .ref akd, .ref act, .int (nI u), .ref ark, .ref arr, .int (z + nI 1), .int kk1, .long kc1, .ref ali, .int (nI ((lm_list c w rt).length)), .ref ala, .ref anc, .ref ank, .ref ant, .int (nI 0), .ref aag, .ref abk, .ref atd, .ref ase])), (acd, aI K 120 cd), (akd, aI K 120 kd), (act, aJ K 120 ct), (ark, aI K 10 rk1), (arr, aJ K 10 rr1), (ali, aI K 120 fl1), (ala, aI K 120 fla1), (anc, aI K 120 nc), (ank, aI K 120 nk), (ant, aJ K 120 nt), (ase, aZ K 120 fse1)] := by
    intro n9
    induction n9 with
    | zero =>
      intro i kk1 kc1 fl1 fla1 fse1 hfl hf0 hi hfr
      refine lx_iload_n F dX4_gather_136 1 rfl ?_
      refine lx_aload_n F dX4_gather_137 0 rfl ?_
      refine gf_X4_79 F 0 rfl rfl dX4_gather_138 ?_
      refine lx_icmpN_ge F 182 (by omega) (by omega) dX4_gather_141 rfl (fun _ => ?_) (fun h => absurd h (by omega))
      refine lx_iconst F dX4_gather_182 kc_0 ?_
      refine lx_istore_n F [(0, .ref y), (1, .int (nI 0))] [1, 0] dX4_gather_183 rfl (by decide) ?_
      refine lx_iload_n F dX4_gather_184 1 rfl ?_
      refine lx_iconst F dX4_gather_185 kc_2 ?_
      refine lx_icmpN_ge F 240 (by omega) (by omega) dX4_gather_186 rfl (fun h => absurd h (by omega)) (fun _ => ?_)
      refine lx_iconst F dX4_gather_189 kc_0 ?_
      refine lx_istore_n F [(0, .ref y), (1, .int (nI 0)), (2, .int (nI 0))] [1, 2, 0] dX4_gather_190 rfl (by decide) ?_
      have hse : ∀ p, p < 120 → fse1 p = nI (if lm_isRb c w (lm_list c w rt) p = true then 1 else 0) := by rw [List.take_of_length_le (by omega)] at hfr; exact hfr
      exact loop5a (lm_list c w rt).length 0 kk1 kc1 fla1 nc nk nt fl1 fse1 hfl hse (by omega) ⟨hf0, fun j hj => absurd hj (Nat.not_lt_zero j)⟩
    | succ n9 ih =>
      intro i kk1 kc1 fl1 fla1 fse1 hfl hf0 hi hfr
      refine lx_iload_n F dX4_gather_136 1 rfl ?_
      refine lx_aload_n F dX4_gather_137 0 rfl ?_
      refine gf_X4_79 F 0 rfl rfl dX4_gather_138 ?_
      refine lx_icmpN_ge F 182 (by omega) (by omega) dX4_gather_141 rfl (fun h => absurd h (by omega)) (fun _ => ?_)
      refine lx_aload_n F dX4_gather_144 0 rfl ?_
      refine lx_aload_n F dX4_gather_145 0 rfl ?_
      refine gf_X4_26 F 0 rfl rfl dX4_gather_146 ?_
      refine lx_iload_n F dX4_gather_149 1 rfl ?_
      obtain ⟨p, hpe⟩ : ∃ p, p = (lm_list c w rt).getD i 0 := ⟨_, rfl⟩
      have hpL : p ∈ (lm_list c w rt) := by rw [hpe]; exact lm_getD_in (by omega)
      have hcp := hL.2 p hpL
      have hp1 := hcp.1
      have hok2 := lm_rest_ok hw hcp
      have hk3 := lm_ok_kind hok2
      refine lx_iald F 6 i dX4_gather_150 rfl (by omega) (by decide) ?_
      rw [show fl1 i = nI p by rw [hfl i (by omega), hpe]]
      refine lx_cv F (zr_lookRest (xl E) K y acd akd act ark arr ali ala anc ank ant aag abk atd ase th (z + nI 1) kk1 kc1 (nI (lm_list c w rt).length) (nI 0) cd kd ct c w u hw hh p hcp) cv_X4_85 0 rfl rfl [0, 1, 2, 3] [4, 5, 6, 7, 8, 9, 10, 11] [(ark, aI K 10 rk1), (arr, aJ K 10 rr1), (ali, aI K 120 fl1), (ala, aI K 120 fla1), (anc, aI K 120 nc), (ank, aI K 120 nk), (ant, aJ K 120 nt), (ase, aZ K 120 fse1)] rfl rfl (by decide) rfl (st := []) rfl (Nat.le_of_ble_eq_true rfl) (by decide) ⟨by decide, by decide⟩ dX4_gather_151 (fun v9 w9 h9 => ?_)
      obtain ⟨rfl, rfl⟩ := h9
      refine lx_perm [8, 9, 10, 11, 0, 1, 2, 3, 4, 5, 6, 7] [(y, .inr (4, [.int th, .ref acd, .ref akd, .ref act, .int (nI u), .ref ark, .ref arr, .int (z + nI 1), .int (nI ((lm_rest c w p).1)), .long (jI ((lm_rest c w p).2)), .ref ali, .int (nI ((lm_list c w rt).length)), .ref ala, .ref anc, .ref ank, .ref ant, .int (nI 0), .ref aag, .ref abk, .ref atd, .ref ase])), (acd, aI K 120 cd), (akd, aI K 120 kd), (act, aJ K 120 ct), (ark, aI K 10 rk1), (arr, aJ K 10 rr1), (ali, aI K 120 fl1), (ala, aI K 120 fla1), (anc, aI K 120 nc), (ank, aI K 120 nk), (ant, aJ K 120 nt), (ase, aZ K 120 fse1)] (by decide) rfl ?_
      refine lx_st (a' := 0) (b' := 0) [] rfl rfl rfl ?_
      refine lx_aload_n F dX4_gather_154 0 rfl ?_
      refine gf_X4_58 F 0 rfl rfl dX4_gather_155 ?_
      refine lx_iconst F dX4_gather_158 kc_2 ?_
      refine lx_icmpN_ne F 176 (by omega) (by omega) dX4_gather_159 rfl (fun h2 => ?_) (fun h2 => ?_)
      · skip
        refine lx_iinc F [(0, .ref y), (1, .int (nI (i + 1)))] 1 [1, 0] dX4_gather_176 rfl (k_inc _) rfl (by decide) ?_
        refine lx_goto F 136 dX4_gather_179 rfl ?_
        exact ih (i + 1) _ _ fl1 fla1 fse1 hfl hf0 (by omega) (by rw [lm_take_s (show i < (lm_list c w rt).length by omega), ← hpe]; exact lm_isR_no hfr h2)
      · skip
        obtain ⟨qr, er, lr, nr⟩ := lm_ok_p hok2 h2
        have tr : lm_to w (lm_rest c w p) = lm_cell w qr := lm_to_q er
        have rr := (lm_cell_cl hw lr nr).1
        have hx : lm_cell w qr < 120 := by omega
        refine lx_aload_n F dX4_gather_162 0 rfl ?_
        refine gf_X4_50 F 0 rfl rfl dX4_gather_163 ?_
        refine lx_aload_n F dX4_gather_166 0 rfl ?_
        refine lx_aload_n F dX4_gather_167 0 rfl ?_
        refine gf_X4_61 F 0 rfl rfl dX4_gather_168 ?_
        refine lx_st (a' := 0) (b' := 0) [.long (jI ((qr : Nat) : Int)), .ref y, .ref ase] rfl rfl (by rw [er]) ?_
        refine lx_cv F (zr_cell (xl E) K y acd akd act ark arr ali ala anc ank ant aag abk atd ase th (z + nI 1) (nI (lm_rest c w p).1) (jI (lm_rest c w p).2) (nI (lm_list c w rt).length) (nI 0) cd kd ct c w u hw hh qr lr nr) cv_X4_65 0 rfl rfl [0, 2, 3] [1, 4, 5, 6, 7, 8, 9, 10, 11] [(acd, aI K 120 cd), (ark, aI K 10 rk1), (arr, aJ K 10 rr1), (ali, aI K 120 fl1), (ala, aI K 120 fla1), (anc, aI K 120 nc), (ank, aI K 120 nk), (ant, aJ K 120 nt), (ase, aZ K 120 fse1)] rfl rfl (by decide) rfl (st := [.ref ase]) rfl (Nat.le_of_ble_eq_true rfl) (by decide) ⟨by decide, by decide⟩ dX4_gather_171 (fun v9 w9 h9 => ?_)
        obtain ⟨rfl, rfl⟩ := h9
        refine lx_perm [9, 0, 10, 11, 1, 2, 3, 4, 5, 6, 7, 8] [(y, .inr (4, [.int th, .ref acd, .ref akd, .ref act, .int (nI u), .ref ark, .ref arr, .int (z + nI 1), .int (nI ((lm_rest c w p).1)), .long (jI ((lm_rest c w p).2)), .ref ali, .int (nI ((lm_list c w rt).length)), .ref ala, .ref anc, .ref ank, .ref ant, .int (nI 0), .ref aag, .ref abk, .ref atd, .ref ase])), (acd, aI K 120 cd), (akd, aI K 120 kd), (act, aJ K 120 ct), (ark, aI K 10 rk1), (arr, aJ K 10 rr1), (ali, aI K 120 fl1), (ala, aI K 120 fla1), (anc, aI K 120 nc), (ank, aI K 120 nk), (ant, aJ K 120 nt), (ase, aZ K 120 fse1)] (by decide) rfl ?_
        refine lx_st (a' := 0) (b' := 0) [.int (nI (lm_cell w qr)), .ref ase] rfl rfl rfl ?_
        refine lx_iconst F dX4_gather_174 kc_1 ?_
        refine lx_zast F 11 (lm_cell w qr) [(y, .inr (4, [.int th, .ref acd, .ref akd, .ref act, .int (nI u), .ref ark, .ref arr, .int (z + nI 1), .int (nI ((lm_rest c w p).1)), .long (jI ((lm_rest c w p).2)), .ref ali, .int (nI ((lm_list c w rt).length)), .ref ala, .ref anc, .ref ank, .ref ant, .int (nI 0), .ref aag, .ref abk, .ref atd, .ref ase])), (acd, aI K 120 cd), (akd, aI K 120 kd), (act, aJ K 120 ct), (ark, aI K 10 rk1), (arr, aJ K 10 rr1), (ali, aI K 120 fl1), (ala, aI K 120 fla1), (anc, aI K 120 nc), (ank, aI K 120 nk), (ant, aJ K 120 nt), (ase, aZ K 120 (lm_up fse1 (lm_cell w qr) (nI 1)))] dX4_gather_175 rfl hx (by decide) (by first | rfl | decide) rfl ?_
        refine lx_iinc F [(0, .ref y), (1, .int (nI (i + 1)))] 1 [1, 0] dX4_gather_176 rfl (k_inc _) rfl (by decide) ?_
        refine lx_goto F 136 dX4_gather_179 rfl ?_
        exact ih (i + 1) _ _ fl1 fla1 _ hfl hf0 (by omega) (by rw [lm_take_s (show i < (lm_list c w rt).length by omega), ← hpe, ← tr]; exact lm_isR_yes hfr h2)
  have loop3 : ∀ (n9 : Nat) (i : Nat) (L : List Nat) (kk1 : Int32) (kc1 : Int64) (fl1 fla1 fse1 : Nat → Int32), i + n9 = 120 → lm_gd c w u L → (∀ j, j < L.length → fl1 j = nI (L.getD j 0)) → lm_bfs c w n9 i L = (lm_list c w rt) → (∀ p, p < 120 → fla1 p = -1) → (∀ p, p < 120 → fse1 p = nI 0) → lx_W K 3 E 0 0 80 [(0, .ref y), (1, .int (nI i))] [] [(y, .inr (4, [.int th, .ref acd, .ref akd, .ref act, .int (nI u), .ref ark, .ref arr, .int (z + nI 1), .int kk1, .long kc1, .ref ali, .int (nI L.length), .ref ala, .ref anc, .ref ank, .ref ant, .int (nI 0), .ref aag, .ref abk, .ref atd, .ref ase])), (acd, aI K 120 cd), (akd, aI K 120 kd), (act, aJ K 120 ct), (ark, aI K 10 rk1), (arr, aJ K 10 rr1), (ali, aI K 120 fl1), (ala, aI K 120 fla1), (anc, aI K 120 nc), (ank, aI K 120 nk), (ant, aJ K 120 nt), (ase, aZ K 120 fse1)] := by
    intro n9
    induction n9 with
    | zero =>
      intro i L kk1 kc1 fl1 fla1 fse1 hi hLg hl hb hf0 hs0
      have hLn1 : L.length ≤ u := lm_gd_len hLg
      refine lx_iload_n F dX4_gather_80 1 rfl ?_
      refine lx_aload_n F dX4_gather_81 0 rfl ?_
      refine gf_X4_79 F 0 rfl rfl dX4_gather_82 ?_
      refine lx_icmpN_ge F 134 (by omega) (by omega) dX4_gather_85 rfl (fun _ => ?_) (fun h => absurd h (by omega))
      refine lx_iconst F dX4_gather_134 kc_0 ?_
      refine lx_istore_n F [(0, .ref y), (1, .int (nI 0))] [1, 0] dX4_gather_135 rfl (by decide) ?_
      have hLL : (lm_list c w rt) = L := hb.symm
      subst hLL
      exact loop4 (lm_list c w rt).length 0 kk1 kc1 fl1 fla1 fse1 hl hf0 (by omega) (fun p hp => by rw [hs0 p hp]; rfl)
    | succ n9 ih =>
      intro i L kk1 kc1 fl1 fla1 fse1 hi hLg hl hb hf0 hs0
      have hLn1 : L.length ≤ u := lm_gd_len hLg
      refine lx_iload_n F dX4_gather_80 1 rfl ?_
      refine lx_aload_n F dX4_gather_81 0 rfl ?_
      refine gf_X4_79 F 0 rfl rfl dX4_gather_82 ?_
      refine lx_icmpN_ge F 134 (by omega) (by omega) dX4_gather_85 rfl (fun hi2 => ?_) (fun hi2 => ?_)
      · skip
        refine lx_iconst F dX4_gather_134 kc_0 ?_
        refine lx_istore_n F [(0, .ref y), (1, .int (nI 0))] [1, 0] dX4_gather_135 rfl (by decide) ?_
        have hLL : (lm_list c w rt) = L := by rw [← hb]; exact lm_bfs_end hi2
        subst hLL
        exact loop4 (lm_list c w rt).length 0 kk1 kc1 fl1 fla1 fse1 hl hf0 (by omega) (fun p hp => by rw [hs0 p hp]; rfl)
      · skip
        refine lx_aload_n F dX4_gather_88 0 rfl ?_
        refine gf_X4_26 F 0 rfl rfl dX4_gather_89 ?_
        refine lx_iload_n F dX4_gather_92 1 rfl ?_
        obtain ⟨p, hpe⟩ : ∃ p, p = L.getD i 0 := ⟨_, rfl⟩
        have hcl1 : lm_cl c w u p := by rw [hpe]; exact hLg.2 _ (lm_getD_in hi2)
        have hp1 := hcl1.1
        have hok1 := lm_first_ok hw hcl1
        have hok2 := lm_rest_ok hw hcl1
        refine lx_iald F 6 i dX4_gather_93 rfl (by omega) (by decide) ?_
        rw [show fl1 i = nI p by rw [hl i hi2, hpe]]
        refine lx_istore_n F [(0, .ref y), (1, .int (nI i)), (2, .int (nI p))] [1, 2, 0] dX4_gather_94 rfl (by decide) ?_
        refine lx_aload_n F dX4_gather_95 0 rfl ?_
        refine lx_aload_n F dX4_gather_96 0 rfl ?_
        refine gf_X4_13 F 0 rfl rfl dX4_gather_97 ?_
        refine lx_iload_n F dX4_gather_100 2 rfl ?_
        refine lx_iald F 2 p dX4_gather_101 rfl (by omega) (by decide) ?_
        rw [(hh p hp1).2.1]
        refine lx_aload_n F dX4_gather_102 0 rfl ?_
        refine gf_X4_16 F 0 rfl rfl dX4_gather_103 ?_
        refine lx_iload_n F dX4_gather_106 2 rfl ?_
        refine lx_lald F 3 p dX4_gather_107 rfl (by omega) (by decide) ?_
        rw [(hh p hp1).2.2]
        refine lx_cv F (zr_enlist (xl E) K y acd akd act ark arr ali ala anc ank ant aag abk atd ase th (z + nI 1) kk1 kc1 (nI L.length) (nI 0) cd kd ct fl1 c w u hw hh L hLg hl (w p) hok1) cv_X4_96 0 rfl rfl [0, 2, 3, 6] [1, 4, 5, 7, 8, 9, 10, 11] [(acd, aI K 120 cd), (ark, aI K 10 rk1), (arr, aJ K 10 rr1), (ala, aI K 120 fla1), (anc, aI K 120 nc), (ank, aI K 120 nk), (ant, aJ K 120 nt), (ase, aZ K 120 fse1)] rfl rfl (by decide) rfl (st := []) rfl (Nat.le_of_ble_eq_true rfl) (by decide) ⟨by decide, by decide⟩ dX4_gather_108 (fun v9 w9 h9 => ?_)
        obtain ⟨rfl, fl2, hfl2, rfl⟩ := h9
        refine lx_perm [8, 0, 9, 10, 1, 2, 11, 3, 4, 5, 6, 7] [(y, .inr (4, [.int th, .ref acd, .ref akd, .ref act, .int (nI u), .ref ark, .ref arr, .int (z + nI 1), .int kk1, .long kc1, .ref ali, .int (nI ((lm_enl w L (w p)).length)), .ref ala, .ref anc, .ref ank, .ref ant, .int (nI 0), .ref aag, .ref abk, .ref atd, .ref ase])), (acd, aI K 120 cd), (akd, aI K 120 kd), (act, aJ K 120 ct), (ark, aI K 10 rk1), (arr, aJ K 10 rr1), (ali, aI K 120 fl2), (ala, aI K 120 fla1), (anc, aI K 120 nc), (ank, aI K 120 nk), (ant, aJ K 120 nt), (ase, aZ K 120 fse1)] (by decide) rfl ?_
        refine lx_st (a' := 0) (b' := 0) [] rfl rfl rfl ?_
        refine lx_aload_n F dX4_gather_111 0 rfl ?_
        refine lx_iload_n F dX4_gather_112 2 rfl ?_
        refine lx_cv F (zr_lookRest (xl E) K y acd akd act ark arr ali ala anc ank ant aag abk atd ase th (z + nI 1) kk1 kc1 (nI (lm_enl w L (w p)).length) (nI 0) cd kd ct c w u hw hh p hcl1) cv_X4_85 0 rfl rfl [0, 1, 2, 3] [4, 5, 6, 7, 8, 9, 10, 11] [(ark, aI K 10 rk1), (arr, aJ K 10 rr1), (ali, aI K 120 fl2), (ala, aI K 120 fla1), (anc, aI K 120 nc), (ank, aI K 120 nk), (ant, aJ K 120 nt), (ase, aZ K 120 fse1)] rfl rfl (by decide) rfl (st := []) rfl (Nat.le_of_ble_eq_true rfl) (by decide) ⟨by decide, by decide⟩ dX4_gather_113 (fun v9 w9 h9 => ?_)
        obtain ⟨rfl, rfl⟩ := h9
        refine lx_perm [8, 9, 10, 11, 0, 1, 2, 3, 4, 5, 6, 7] [(y, .inr (4, [.int th, .ref acd, .ref akd, .ref act, .int (nI u), .ref ark, .ref arr, .int (z + nI 1), .int (nI ((lm_rest c w p).1)), .long (jI ((lm_rest c w p).2)), .ref ali, .int (nI ((lm_enl w L (w p)).length)), .ref ala, .ref anc, .ref ank, .ref ant, .int (nI 0), .ref aag, .ref abk, .ref atd, .ref ase])), (acd, aI K 120 cd), (akd, aI K 120 kd), (act, aJ K 120 ct), (ark, aI K 10 rk1), (arr, aJ K 10 rr1), (ali, aI K 120 fl2), (ala, aI K 120 fla1), (anc, aI K 120 nc), (ank, aI K 120 nk), (ant, aJ K 120 nt), (ase, aZ K 120 fse1)] (by decide) rfl ?_
        refine lx_st (a' := 0) (b' := 0) [] rfl rfl rfl ?_
        refine lx_aload_n F dX4_gather_116 0 rfl ?_
        refine lx_aload_n F dX4_gather_117 0 rfl ?_
        refine gf_X4_58 F 0 rfl rfl dX4_gather_118 ?_
        refine lx_aload_n F dX4_gather_121 0 rfl ?_
        refine gf_X4_61 F 0 rfl rfl dX4_gather_122 ?_
        refine lx_cv F (zr_enlist (xl E) K y acd akd act ark arr ali ala anc ank ant aag abk atd ase th (z + nI 1) (nI (lm_rest c w p).1) (jI (lm_rest c w p).2) (nI (lm_enl w L (w p)).length) (nI 0) cd kd ct fl2 c w u hw hh (lm_enl w L (w p)) (lm_enl_gd hw hLg hok1) hfl2 (lm_rest c w p) hok2) cv_X4_96 0 rfl rfl [0, 2, 3, 6] [1, 4, 5, 7, 8, 9, 10, 11] [(acd, aI K 120 cd), (ark, aI K 10 rk1), (arr, aJ K 10 rr1), (ala, aI K 120 fla1), (anc, aI K 120 nc), (ank, aI K 120 nk), (ant, aJ K 120 nt), (ase, aZ K 120 fse1)] rfl rfl (by decide) rfl (st := []) rfl (Nat.le_of_ble_eq_true rfl) (by decide) ⟨by decide, by decide⟩ dX4_gather_125 (fun v9 w9 h9 => ?_)
        obtain ⟨rfl, fl3, hfl3, rfl⟩ := h9
        refine lx_perm [8, 0, 9, 10, 1, 2, 11, 3, 4, 5, 6, 7] [(y, .inr (4, [.int th, .ref acd, .ref akd, .ref act, .int (nI u), .ref ark, .ref arr, .int (z + nI 1), .int (nI ((lm_rest c w p).1)), .long (jI ((lm_rest c w p).2)), .ref ali, .int (nI ((lm_enl w (lm_enl w L (w p)) (lm_rest c w p)).length)), .ref ala, .ref anc, .ref ank, .ref ant, .int (nI 0), .ref aag, .ref abk, .ref atd, .ref ase])), (acd, aI K 120 cd), (akd, aI K 120 kd), (act, aJ K 120 ct), (ark, aI K 10 rk1), (arr, aJ K 10 rr1), (ali, aI K 120 fl3), (ala, aI K 120 fla1), (anc, aI K 120 nc), (ank, aI K 120 nk), (ant, aJ K 120 nt), (ase, aZ K 120 fse1)] (by decide) rfl ?_
        refine lx_st (a' := 0) (b' := 0) [] rfl rfl rfl ?_
        refine lx_iinc F [(0, .ref y), (1, .int (nI (i + 1))), (2, .int (nI p))] 1 [1, 0, 2] dX4_gather_128 rfl (k_inc _) rfl (by decide) ?_
        refine lx_goto F 80 dX4_gather_131 rfl ?_
        refine lx_lv [0, 1] [(0, .ref y), (1, .int (nI (i + 1)))] rfl ?_
        exact ih (i + 1) _ _ _ fl3 fla1 fse1 (by omega) (lm_enl_gd hw (lm_enl_gd hw hLg hok1) hok2) hfl3 (by rw [← hb, hpe]; exact (lm_bfs_step hi2).symm) hf0 hs0
  have loop2 : ∀ (n9 : Nat) (i : Nat) (fl1 fla1 fse1 : Nat → Int32), i + n9 = 10 → (∀ j, j < (lm_list0 w rt i).length → fl1 j = nI ((lm_list0 w rt i).getD j 0)) → (∀ p, p < 120 → fla1 p = -1) → (∀ p, p < 120 → fse1 p = nI 0) → lx_W K 3 E 0 0 50 [(0, .ref y), (1, .int (nI i))] [] [(y, .inr (4, [.int th, .ref acd, .ref akd, .ref act, .int (nI u), .ref ark, .ref arr, .int (z + nI 1), .int kk, .long kc, .ref ali, .int (nI ((lm_list0 w rt i).length)), .ref ala, .ref anc, .ref ank, .ref ant, .int (nI 0), .ref aag, .ref abk, .ref atd, .ref ase])), (acd, aI K 120 cd), (akd, aI K 120 kd), (act, aJ K 120 ct), (ark, aI K 10 rk1), (arr, aJ K 10 rr1), (ali, aI K 120 fl1), (ala, aI K 120 fla1), (anc, aI K 120 nc), (ank, aI K 120 nk), (ant, aJ K 120 nt), (ase, aZ K 120 fse1)] := by
    intro n9
    induction n9 with
    | zero =>
      intro i fl1 fla1 fse1 hi hl hf0 hs0
      refine lx_iload_n F dX4_gather_50 1 rfl ?_
      refine lx_bipush F dX4_gather_51 kb_10 ?_
      refine lx_icmpN_ge F 78 (by omega) (by omega) dX4_gather_53 rfl (fun _ => ?_) (fun h => absurd h (by omega))
      refine lx_iconst F dX4_gather_78 kc_0 ?_
      refine lx_istore_n F [(0, .ref y), (1, .int (nI 0))] [1, 0] dX4_gather_79 rfl (by decide) ?_
      have hi10 : i = 10 := by omega
      subst hi10
      exact loop3 120 0 _ kk kc fl1 fla1 fse1 (by omega) (lm_list0_spec (rt := rt) hw 10 hr).1 hl rfl hf0 hs0
    | succ n9 ih =>
      intro i fl1 fla1 fse1 hi hl hf0 hs0
      refine lx_iload_n F dX4_gather_50 1 rfl ?_
      refine lx_bipush F dX4_gather_51 kb_10 ?_
      refine lx_icmpN_ge F 78 (by omega) (by omega) dX4_gather_53 rfl (fun h => absurd h (by omega)) (fun _ => ?_)
      refine lx_aload_n F dX4_gather_56 0 rfl ?_
      refine lx_aload_n F dX4_gather_57 0 rfl ?_
      refine gf_X4_20 F 0 rfl rfl dX4_gather_58 ?_
      refine lx_iload_n F dX4_gather_61 1 rfl ?_
      refine lx_iald F 4 i dX4_gather_62 rfl (by omega) (by decide) ?_
      rw [(hro i (by omega)).1]
      refine lx_aload_n F dX4_gather_63 0 rfl ?_
      refine gf_X4_23 F 0 rfl rfl dX4_gather_64 ?_
      refine lx_iload_n F dX4_gather_67 1 rfl ?_
      refine lx_lald F 5 i dX4_gather_68 rfl (by omega) (by decide) ?_
      rw [(hro i (by omega)).2]
      refine lx_cv F (zr_enlist (xl E) K y acd akd act ark arr ali ala anc ank ant aag abk atd ase th (z + nI 1) kk kc (nI (lm_list0 w rt i).length) (nI 0) cd kd ct fl1 c w u hw hh (lm_list0 w rt i) (lm_list0_spec (rt := rt) hw i (fun r hr1 => hr r (by omega))).1 hl (rt i) (hr i (by omega))) cv_X4_96 0 rfl rfl [0, 2, 3, 6] [1, 4, 5, 7, 8, 9, 10, 11] [(acd, aI K 120 cd), (ark, aI K 10 rk1), (arr, aJ K 10 rr1), (ala, aI K 120 fla1), (anc, aI K 120 nc), (ank, aI K 120 nk), (ant, aJ K 120 nt), (ase, aZ K 120 fse1)] rfl rfl (by decide) rfl (st := []) rfl (Nat.le_of_ble_eq_true rfl) (by decide) ⟨by decide, by decide⟩ dX4_gather_69 (fun v9 w9 h9 => ?_)
      obtain ⟨rfl, fl2, hfl2, rfl⟩ := h9
      refine lx_perm [8, 0, 9, 10, 1, 2, 11, 3, 4, 5, 6, 7] [(y, .inr (4, [.int th, .ref acd, .ref akd, .ref act, .int (nI u), .ref ark, .ref arr, .int (z + nI 1), .int kk, .long kc, .ref ali, .int (nI ((lm_enl w (lm_list0 w rt i) (rt i)).length)), .ref ala, .ref anc, .ref ank, .ref ant, .int (nI 0), .ref aag, .ref abk, .ref atd, .ref ase])), (acd, aI K 120 cd), (akd, aI K 120 kd), (act, aJ K 120 ct), (ark, aI K 10 rk1), (arr, aJ K 10 rr1), (ali, aI K 120 fl2), (ala, aI K 120 fla1), (anc, aI K 120 nc), (ank, aI K 120 nk), (ant, aJ K 120 nt), (ase, aZ K 120 fse1)] (by decide) rfl ?_
      refine lx_st (a' := 0) (b' := 0) [] rfl rfl rfl ?_
      refine lx_iinc F [(0, .ref y), (1, .int (nI (i + 1)))] 1 [1, 0] dX4_gather_72 rfl (k_inc _) rfl (by decide) ?_
      refine lx_goto F 50 dX4_gather_75 rfl ?_
      exact ih (i + 1) fl2 fla1 fse1 (by omega) hfl2 hf0 hs0
  have loop1 : ∀ (n9 : Nat) (i : Nat) (fla1 fse1 : Nat → Int32), i + n9 = 120 → (∀ j, j < i → fla1 j = -1) → (∀ j, j < i → fse1 j = nI 0) → lx_W K 3 E 0 0 22 [(0, .ref y), (1, .int (nI i))] [] [(y, .inr (4, [.int th, .ref acd, .ref akd, .ref act, .int (nI u), .ref ark, .ref arr, .int (z + nI 1), .int kk, .long kc, .ref ali, .int (nI 0), .ref ala, .ref anc, .ref ank, .ref ant, .int (nI 0), .ref aag, .ref abk, .ref atd, .ref ase])), (acd, aI K 120 cd), (akd, aI K 120 kd), (act, aJ K 120 ct), (ark, aI K 10 rk1), (arr, aJ K 10 rr1), (ali, aI K 120 fl), (ala, aI K 120 fla1), (anc, aI K 120 nc), (ank, aI K 120 nk), (ant, aJ K 120 nt), (ase, aZ K 120 fse1)] := by
    intro n9
    induction n9 with
    | zero =>
      intro i fla1 fse1 hi ha hb
      refine lx_iload_n F dX4_gather_22 1 rfl ?_
      refine lx_bipush F dX4_gather_23 kb_120 ?_
      refine lx_icmpN_ge F 48 (by omega) (by omega) dX4_gather_25 rfl (fun _ => ?_) (fun h => absurd h (by omega))
      refine lx_iconst F dX4_gather_48 kc_0 ?_
      refine lx_istore_n F [(0, .ref y), (1, .int (nI 0))] [1, 0] dX4_gather_49 rfl (by decide) ?_
      exact loop2 10 0 fl fla1 fse1 (by omega) (fun j hj => by simp [lm_list0] at hj) (fun p hp => ha p (by omega)) (fun p hp => hb p (by omega))
    | succ n9 ih =>
      intro i fla1 fse1 hi ha hb
      refine lx_iload_n F dX4_gather_22 1 rfl ?_
      refine lx_bipush F dX4_gather_23 kb_120 ?_
      refine lx_icmpN_ge F 48 (by omega) (by omega) dX4_gather_25 rfl (fun h => absurd h (by omega)) (fun _ => ?_)
      refine lx_aload_n F dX4_gather_28 0 rfl ?_
      refine gf_X4_29 F 0 rfl rfl dX4_gather_29 ?_
      refine lx_iload_n F dX4_gather_32 1 rfl ?_
      refine lx_iconst F dX4_gather_33 kc_m1 ?_
      refine lx_iast F 7 i [(y, .inr (4, [.int th, .ref acd, .ref akd, .ref act, .int (nI u), .ref ark, .ref arr, .int (z + nI 1), .int kk, .long kc, .ref ali, .int (nI 0), .ref ala, .ref anc, .ref ank, .ref ant, .int (nI 0), .ref aag, .ref abk, .ref atd, .ref ase])), (acd, aI K 120 cd), (akd, aI K 120 kd), (act, aJ K 120 ct), (ark, aI K 10 rk1), (arr, aJ K 10 rr1), (ali, aI K 120 fl), (ala, aI K 120 (lm_up fla1 i (-1))), (anc, aI K 120 nc), (ank, aI K 120 nk), (ant, aJ K 120 nt), (ase, aZ K 120 fse1)] dX4_gather_34 rfl (by omega) (by decide) rfl ?_
      refine lx_aload_n F dX4_gather_35 0 rfl ?_
      refine gf_X4_50 F 0 rfl rfl dX4_gather_36 ?_
      refine lx_iload_n F dX4_gather_39 1 rfl ?_
      refine lx_iconst F dX4_gather_40 kc_0 ?_
      refine lx_zast F 11 i [(y, .inr (4, [.int th, .ref acd, .ref akd, .ref act, .int (nI u), .ref ark, .ref arr, .int (z + nI 1), .int kk, .long kc, .ref ali, .int (nI 0), .ref ala, .ref anc, .ref ank, .ref ant, .int (nI 0), .ref aag, .ref abk, .ref atd, .ref ase])), (acd, aI K 120 cd), (akd, aI K 120 kd), (act, aJ K 120 ct), (ark, aI K 10 rk1), (arr, aJ K 10 rr1), (ali, aI K 120 fl), (ala, aI K 120 (lm_up fla1 i (-1))), (anc, aI K 120 nc), (ank, aI K 120 nk), (ant, aJ K 120 nt), (ase, aZ K 120 (lm_up fse1 i (nI 0)))] dX4_gather_41 rfl (by omega) (by decide) (by first | rfl | decide) rfl ?_
      refine lx_iinc F [(0, .ref y), (1, .int (nI (i + 1)))] 1 [1, 0] dX4_gather_42 rfl (k_inc _) rfl (by decide) ?_
      refine lx_goto F 22 dX4_gather_45 rfl ?_
      exact ih (i + 1) _ _ (by omega) (lm_up_fill ha) (lm_up_fill hb)
  refine lx_aload_n F dX4_gather_0 0 rfl ?_
  refine lx_dup F dX4_gather_1 rfl ?_
  refine gf_X4_93 F 0 rfl rfl dX4_gather_2 ?_
  refine lx_iconst F dX4_gather_5 kc_1 ?_
  refine lx_iadd F dX4_gather_6 rfl ?_
  refine pf_X4_93 F 0 [(y, .inr (4, [.int th, .ref acd, .ref akd, .ref act, .int (nI u), .ref ark, .ref arr, .int (z + (nI 1)), .int kk, .long kc, .ref ali, .int mn, .ref ala, .ref anc, .ref ank, .ref ant, .int nx, .ref aag, .ref abk, .ref atd, .ref ase])), (acd, aI K 120 cd), (akd, aI K 120 kd), (act, aJ K 120 ct), (ark, aI K 10 rk1), (arr, aJ K 10 rr1), (ali, aI K 120 fl), (ala, aI K 120 fla), (anc, aI K 120 nc), (ank, aI K 120 nk), (ant, aJ K 120 nt), (ase, aZ K 120 fse)] rfl rfl dX4_gather_7 rfl ?_
  refine lx_aload_n F dX4_gather_10 0 rfl ?_
  refine lx_iconst F dX4_gather_11 kc_0 ?_
  refine pf_X4_79 F 0 [(y, .inr (4, [.int th, .ref acd, .ref akd, .ref act, .int (nI u), .ref ark, .ref arr, .int (z + (nI 1)), .int kk, .long kc, .ref ali, .int (nI 0), .ref ala, .ref anc, .ref ank, .ref ant, .int nx, .ref aag, .ref abk, .ref atd, .ref ase])), (acd, aI K 120 cd), (akd, aI K 120 kd), (act, aJ K 120 ct), (ark, aI K 10 rk1), (arr, aJ K 10 rr1), (ali, aI K 120 fl), (ala, aI K 120 fla), (anc, aI K 120 nc), (ank, aI K 120 nk), (ant, aJ K 120 nt), (ase, aZ K 120 fse)] rfl rfl dX4_gather_12 rfl ?_
  refine lx_aload_n F dX4_gather_15 0 rfl ?_
  refine lx_iconst F dX4_gather_16 kc_0 ?_
  refine pf_X4_82 F 0 [(y, .inr (4, [.int th, .ref acd, .ref akd, .ref act, .int (nI u), .ref ark, .ref arr, .int (z + (nI 1)), .int kk, .long kc, .ref ali, .int (nI 0), .ref ala, .ref anc, .ref ank, .ref ant, .int (nI 0), .ref aag, .ref abk, .ref atd, .ref ase])), (acd, aI K 120 cd), (akd, aI K 120 kd), (act, aJ K 120 ct), (ark, aI K 10 rk1), (arr, aJ K 10 rr1), (ali, aI K 120 fl), (ala, aI K 120 fla), (anc, aI K 120 nc), (ank, aI K 120 nk), (ant, aJ K 120 nt), (ase, aZ K 120 fse)] rfl rfl dX4_gather_17 rfl ?_
  refine lx_iconst F dX4_gather_20 kc_0 ?_
  refine lx_istore_n F [(0, .ref y), (1, .int (nI 0))] [1, 0] dX4_gather_21 rfl (by decide) ?_
  exact loop1 120 0 fla fse (by omega) (fun j hj => absurd hj (by omega)) (fun j hj => absurd hj (by omega))
