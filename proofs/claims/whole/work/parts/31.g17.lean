set_option maxHeartbeats 4000000 in
set_option maxRecDepth 100000 in
theorem zX_cons_0 (l : Launch) (K : lm_G) (x : Nat) (c : Nat → Nat) (w : Nat → lm_V) (u : Nat) (rt : Nat → lm_V) (z : Int32) (hst : lm_st c w u rt) (W : va_W) (hW : lm_obj K x (c, w, u, rt, z) W) (r f t : Int32) (hcd : (lm_oCons r f t (c, w, u, rt, z)).1 = 0) : lm_C l K mX3_cons (rk 6) [.ref x, .int r, .int f, .int t] W (fun v9 w9 => v9 = none ∧ lm_obj K x (lm_oCons r f t (c, w, u, rt, z)).2 w9) := by
  obtain ⟨ro, kc, l0, il, ir, np, h, ca, co, h2, ca2, co2, mt, fo, ba, wa, cn, gr, fl, fi, fr, fn, mn, fa, ga, f2, g2, t2, ffo, fba, fwa, mm, fc, hh, hro, rfl⟩ := hW
  have hh : lm_hf fa ga c w u := hh
  have hro : ∀ r, r < 10 → gr r = en (rt r) := hro
  have hw := hst.1
  have hr9 := hst.2
  have hu := hw.1
  refine lx_met RX3 pn_X3 rfl (Nat.le_of_ble_eq_true rfl) (fun E hE hnm F hR => ?_)
  have F : lx_F K 4 E cX3_cons RX3 none (rk 6) := F
  show lx_W K 4 E 0 0 0 [(0, .ref x), (1, .int r), (2, .int f), (3, .int t)] [] [(x, .inr (3, [.ref ro, .ref kc, .ref mt, .ref cn, .ref h, .ref h2, .int z])), (ro, aJ K 10 gr), (kc, .inr (0, [.ref l0, .ref il, .ref ir, .ref np, .int mn])), (l0, aI K 120 fl), (il, aI K 120 fi), (ir, aI K 120 fr), (np, aI K 120 fn), (h, .inr (1, [.ref ca, .ref co, .int (nI u)])), (ca, aI K 120 fa), (co, aJ K 120 ga), (h2, .inr (1, [.ref ca2, .ref co2, .int t2])), (ca2, aI K 120 f2), (co2, aJ K 120 g2), (mt, .inr (2, [.ref fo, .ref ba, .ref wa, .int mm])), (fo, aI K 120 ffo), (ba, aI K 120 fba), (wa, aI K 120 fwa), (cn, aI K 120 fc)]
  cases hnr : lm_none r
  · skip
    obtain ⟨k, hk, rfl⟩ := lm_none_f hnr
    cases hnf : lm_none f
    · skip
      obtain ⟨j, hj, rfl⟩ := lm_none_f hnf
      cases hnt : lm_none t
      · skip
        obtain ⟨i, hi, rfl⟩ := lm_none_f hnt
        obtain ⟨c1, w1, u1, rt1, z1, hσ⟩ : ∃ c1 w1 u1 rt1 z1, lm_rm 2 (c, w, u, rt, z) = (c1, w1, u1, rt1, z1) := ⟨_, _, _, _, _, rfl⟩
        have hst1 : lm_st c1 w1 u1 rt1 := by have h9 : lm_sx (lm_rm 2 (c, w, u, rt, z)) := lm_sx_rm 2 hst; rw [hσ] at h9; exact h9
        have hw1 := hst1.1
        have hu1 := hw1.1
        by_cases hfit : u1 + 2 ≤ 120
        · skip
          refine lx_iload_n F dX3_cons_0 1 rfl ?_
          refine lx_iload_n F dX3_cons_1 2 rfl ?_
          refine lx_cs F (zX_cks (xl E) K k j hk hj) cs_X3_64 [] [0, 1, 2, 3, 4, 5, 6, 7, 8, 9, 10, 11, 12, 13, 14, 15, 16, 17] [(x, .inr (3, [.ref ro, .ref kc, .ref mt, .ref cn, .ref h, .ref h2, .int z])), (ro, aJ K 10 gr), (kc, .inr (0, [.ref l0, .ref il, .ref ir, .ref np, .int mn])), (l0, aI K 120 fl), (il, aI K 120 fi), (ir, aI K 120 fr), (np, aI K 120 fn), (h, .inr (1, [.ref ca, .ref co, .int (nI u)])), (ca, aI K 120 fa), (co, aJ K 120 ga), (h2, .inr (1, [.ref ca2, .ref co2, .int t2])), (ca2, aI K 120 f2), (co2, aJ K 120 g2), (mt, .inr (2, [.ref fo, .ref ba, .ref wa, .int mm])), (fo, aI K 120 ffo), (ba, aI K 120 fba), (wa, aI K 120 fwa), (cn, aI K 120 fc)] rfl rfl (by decide) rfl (st := []) rfl (Nat.le_of_ble_eq_true rfl) (by decide) ⟨by decide, by decide⟩ dX3_cons_2 (fun v9 w9 h9 => ?_)
          obtain ⟨rfl, rfl⟩ := h9
          refine lx_perm [0, 1, 2, 3, 4, 5, 6, 7, 8, 9, 10, 11, 12, 13, 14, 15, 16, 17] [(x, .inr (3, [.ref ro, .ref kc, .ref mt, .ref cn, .ref h, .ref h2, .int z])), (ro, aJ K 10 gr), (kc, .inr (0, [.ref l0, .ref il, .ref ir, .ref np, .int mn])), (l0, aI K 120 fl), (il, aI K 120 fi), (ir, aI K 120 fr), (np, aI K 120 fn), (h, .inr (1, [.ref ca, .ref co, .int (nI u)])), (ca, aI K 120 fa), (co, aJ K 120 ga), (h2, .inr (1, [.ref ca2, .ref co2, .int t2])), (ca2, aI K 120 f2), (co2, aJ K 120 g2), (mt, .inr (2, [.ref fo, .ref ba, .ref wa, .int mm])), (fo, aI K 120 ffo), (ba, aI K 120 fba), (wa, aI K 120 fwa), (cn, aI K 120 fc)] (by decide) rfl ?_
          refine lx_st (a' := 0) (b' := 0) [] rfl rfl rfl ?_
          refine lx_iload_n F dX3_cons_5 3 rfl ?_
          refine lx_cs F (zX_ck (xl E) K i hi) cs_X3_45 [] [0, 1, 2, 3, 4, 5, 6, 7, 8, 9, 10, 11, 12, 13, 14, 15, 16, 17] [(x, .inr (3, [.ref ro, .ref kc, .ref mt, .ref cn, .ref h, .ref h2, .int z])), (ro, aJ K 10 gr), (kc, .inr (0, [.ref l0, .ref il, .ref ir, .ref np, .int mn])), (l0, aI K 120 fl), (il, aI K 120 fi), (ir, aI K 120 fr), (np, aI K 120 fn), (h, .inr (1, [.ref ca, .ref co, .int (nI u)])), (ca, aI K 120 fa), (co, aJ K 120 ga), (h2, .inr (1, [.ref ca2, .ref co2, .int t2])), (ca2, aI K 120 f2), (co2, aJ K 120 g2), (mt, .inr (2, [.ref fo, .ref ba, .ref wa, .int mm])), (fo, aI K 120 ffo), (ba, aI K 120 fba), (wa, aI K 120 fwa), (cn, aI K 120 fc)] rfl rfl (by decide) rfl (st := []) rfl (Nat.le_of_ble_eq_true rfl) (by decide) ⟨by decide, by decide⟩ dX3_cons_6 (fun v9 w9 h9 => ?_)
          obtain ⟨rfl, rfl⟩ := h9
          refine lx_perm [0, 1, 2, 3, 4, 5, 6, 7, 8, 9, 10, 11, 12, 13, 14, 15, 16, 17] [(x, .inr (3, [.ref ro, .ref kc, .ref mt, .ref cn, .ref h, .ref h2, .int z])), (ro, aJ K 10 gr), (kc, .inr (0, [.ref l0, .ref il, .ref ir, .ref np, .int mn])), (l0, aI K 120 fl), (il, aI K 120 fi), (ir, aI K 120 fr), (np, aI K 120 fn), (h, .inr (1, [.ref ca, .ref co, .int (nI u)])), (ca, aI K 120 fa), (co, aJ K 120 ga), (h2, .inr (1, [.ref ca2, .ref co2, .int t2])), (ca2, aI K 120 f2), (co2, aJ K 120 g2), (mt, .inr (2, [.ref fo, .ref ba, .ref wa, .int mm])), (fo, aI K 120 ffo), (ba, aI K 120 fba), (wa, aI K 120 fwa), (cn, aI K 120 fc)] (by decide) rfl ?_
          refine lx_st (a' := 0) (b' := 0) [] rfl rfl rfl ?_
          refine lx_aload_n F dX3_cons_9 0 rfl ?_
          refine lx_iconst F dX3_cons_10 kc_2 ?_
          refine lx_cv F (zX_room (xl E) K x c w u rt z hst _ ⟨_, _, _, _, _, _, _, _, _, _, _, _, _, _, _, _, _, _, _, _, _, _, _, _, _, _, _, _, _, _, _, _, _, hh, hro, rfl⟩ (2) (by omega) (c1, w1, u1, rt1, z1) hσ hfit) cv_X3_68 0 rfl rfl [0, 1, 2, 3, 4, 5, 6, 7, 8, 9, 10, 11, 12, 13, 14, 15, 16, 17] [] [] rfl rfl (by decide) rfl (st := []) rfl (Nat.le_of_ble_eq_true rfl) (by decide) ⟨by decide, by decide⟩ dX3_cons_11 (fun v9 w9 h9 => ?_)
          obtain ⟨rfl, ro_, kc_, l0_, il_, ir_, np_, h_, ca_, co_, h2_, ca2_, co2_, mt_, fo_, ba_, wa_, cn_, gr_, fl_, fi_, fr_, fn_, mn_, fa_, ga_, f2_, g2_, t2_, ffo_, fba_, fwa_, mm_, fc_, hh1, hro1, rfl⟩ := h9
          refine lx_perm [0, 1, 2, 3, 4, 5, 6, 7, 8, 9, 10, 11, 12, 13, 14, 15, 16, 17] [(x, .inr (3, [.ref ro_, .ref kc_, .ref mt_, .ref cn_, .ref h_, .ref h2_, .int z1])), (ro_, aJ K 10 gr_), (kc_, .inr (0, [.ref l0_, .ref il_, .ref ir_, .ref np_, .int mn_])), (l0_, aI K 120 fl_), (il_, aI K 120 fi_), (ir_, aI K 120 fr_), (np_, aI K 120 fn_), (h_, .inr (1, [.ref ca_, .ref co_, .int (nI u1)])), (ca_, aI K 120 fa_), (co_, aJ K 120 ga_), (h2_, .inr (1, [.ref ca2_, .ref co2_, .int t2_])), (ca2_, aI K 120 f2_), (co2_, aJ K 120 g2_), (mt_, .inr (2, [.ref fo_, .ref ba_, .ref wa_, .int mm_])), (fo_, aI K 120 ffo_), (ba_, aI K 120 fba_), (wa_, aI K 120 fwa_), (cn_, aI K 120 fc_)] (by decide) rfl ?_
          refine lx_st (a' := 0) (b' := 0) [] rfl rfl rfl ?_
          have hh1 : lm_hf fa_ ga_ c1 w1 u1 := hh1
          have hro1 : ∀ r, r < 10 → gr_ r = en (rt1 r) := hro1
          refine lx_aload_n F dX3_cons_14 0 rfl ?_
          refine gf_X3_9 F 0 rfl rfl dX3_cons_15 ?_
          refine lx_iload_n F dX3_cons_18 1 rfl ?_
          refine lx_iconst F dX3_cons_19 kc_2 ?_
          refine lx_aload_n F dX3_cons_20 0 rfl ?_
          refine gf_X3_34 F 0 rfl rfl dX3_cons_21 ?_
          refine lx_aload_n F dX3_cons_24 0 rfl ?_
          refine gf_X3_9 F 0 rfl rfl dX3_cons_25 ?_
          refine lx_iload_n F dX3_cons_28 2 rfl ?_
          refine lx_lald F 1 j dX3_cons_29 rfl (by omega) (by decide) ?_
          rw [hro1 j hj]
          refine lx_aload_n F dX3_cons_30 0 rfl ?_
          refine gf_X3_9 F 0 rfl rfl dX3_cons_31 ?_
          refine lx_iload_n F dX3_cons_34 3 rfl ?_
          refine lx_lald F 1 i dX3_cons_35 rfl (by omega) (by decide) ?_
          rw [hro1 i hi]
          refine lx_cv F (zh_takeTwo (xl E) K h_ ca_ co_ fa_ ga_ u1 (by omega) (en (rt1 j)) (en (rt1 i))) cv_X3_71 7 rfl rfl [7, 8, 9] [0, 1, 2, 3, 4, 5, 6, 10, 11, 12, 13, 14, 15, 16, 17] [(x, .inr (3, [.ref ro_, .ref kc_, .ref mt_, .ref cn_, .ref h_, .ref h2_, .int z1])), (ro_, aJ K 10 gr_), (kc_, .inr (0, [.ref l0_, .ref il_, .ref ir_, .ref np_, .int mn_])), (l0_, aI K 120 fl_), (il_, aI K 120 fi_), (ir_, aI K 120 fr_), (np_, aI K 120 fn_), (h2_, .inr (1, [.ref ca2_, .ref co2_, .int t2_])), (ca2_, aI K 120 f2_), (co2_, aJ K 120 g2_), (mt_, .inr (2, [.ref fo_, .ref ba_, .ref wa_, .int mm_])), (fo_, aI K 120 ffo_), (ba_, aI K 120 fba_), (wa_, aI K 120 fwa_), (cn_, aI K 120 fc_)] rfl rfl (by decide) rfl (st := [.int (nI 2), .int (nI k), .ref ro_]) rfl (Nat.le_of_ble_eq_true rfl) (by decide) ⟨by decide, by decide⟩ dX3_cons_36 (fun v9 w9 h9 => ?_)
          obtain ⟨rfl, rfl⟩ := h9
          refine lx_perm [0, 1, 2, 3, 4, 5, 6, 15, 16, 17, 7, 8, 9, 10, 11, 12, 13, 14] [(x, .inr (3, [.ref ro_, .ref kc_, .ref mt_, .ref cn_, .ref h_, .ref h2_, .int z1])), (ro_, aJ K 10 gr_), (kc_, .inr (0, [.ref l0_, .ref il_, .ref ir_, .ref np_, .int mn_])), (l0_, aI K 120 fl_), (il_, aI K 120 fi_), (ir_, aI K 120 fr_), (np_, aI K 120 fn_), (h_, .inr (1, [.ref ca_, .ref co_, .int (nI (u1 + 1 + 1))])), (ca_, aI K 120 (lm_up (lm_up fa_ u1 (nI 2)) (u1 + 1) (nI 3))), (co_, aJ K 120 (lm_up (lm_up ga_ u1 (en (rt1 j))) (u1 + 1) (en (rt1 i)))), (h2_, .inr (1, [.ref ca2_, .ref co2_, .int t2_])), (ca2_, aI K 120 f2_), (co2_, aJ K 120 g2_), (mt_, .inr (2, [.ref fo_, .ref ba_, .ref wa_, .int mm_])), (fo_, aI K 120 ffo_), (ba_, aI K 120 fba_), (wa_, aI K 120 fwa_), (cn_, aI K 120 fc_)] (by decide) rfl ?_
          refine lx_st (a' := 0) (b' := 0) [.int (nI u1), .int (nI 2), .int (nI k), .ref ro_] rfl rfl rfl ?_
          refine lx_i2l F dX3_cons_39 (jI_i2l (by omega)) ?_
          refine lx_cs F (zs_content (xl E) K 2 ((u1 : Nat) : Int) (by omega)) cs_X3_60 [] [0, 1, 2, 3, 4, 5, 6, 7, 8, 9, 10, 11, 12, 13, 14, 15, 16, 17] [(x, .inr (3, [.ref ro_, .ref kc_, .ref mt_, .ref cn_, .ref h_, .ref h2_, .int z1])), (ro_, aJ K 10 gr_), (kc_, .inr (0, [.ref l0_, .ref il_, .ref ir_, .ref np_, .int mn_])), (l0_, aI K 120 fl_), (il_, aI K 120 fi_), (ir_, aI K 120 fr_), (np_, aI K 120 fn_), (h_, .inr (1, [.ref ca_, .ref co_, .int (nI (u1 + 1 + 1))])), (ca_, aI K 120 (lm_up (lm_up fa_ u1 (nI 2)) (u1 + 1) (nI 3))), (co_, aJ K 120 (lm_up (lm_up ga_ u1 (en (rt1 j))) (u1 + 1) (en (rt1 i)))), (h2_, .inr (1, [.ref ca2_, .ref co2_, .int t2_])), (ca2_, aI K 120 f2_), (co2_, aJ K 120 g2_), (mt_, .inr (2, [.ref fo_, .ref ba_, .ref wa_, .int mm_])), (fo_, aI K 120 ffo_), (ba_, aI K 120 fba_), (wa_, aI K 120 fwa_), (cn_, aI K 120 fc_)] rfl rfl (by decide) rfl (st := [.int (nI k), .ref ro_]) rfl (Nat.le_of_ble_eq_true rfl) (by decide) ⟨by decide, by decide⟩ dX3_cons_40 (fun v9 w9 h9 => ?_)
          obtain ⟨rfl, rfl⟩ := h9
          refine lx_perm [0, 1, 2, 3, 4, 5, 6, 7, 8, 9, 10, 11, 12, 13, 14, 15, 16, 17] [(x, .inr (3, [.ref ro_, .ref kc_, .ref mt_, .ref cn_, .ref h_, .ref h2_, .int z1])), (ro_, aJ K 10 gr_), (kc_, .inr (0, [.ref l0_, .ref il_, .ref ir_, .ref np_, .int mn_])), (l0_, aI K 120 fl_), (il_, aI K 120 fi_), (ir_, aI K 120 fr_), (np_, aI K 120 fn_), (h_, .inr (1, [.ref ca_, .ref co_, .int (nI (u1 + 1 + 1))])), (ca_, aI K 120 (lm_up (lm_up fa_ u1 (nI 2)) (u1 + 1) (nI 3))), (co_, aJ K 120 (lm_up (lm_up ga_ u1 (en (rt1 j))) (u1 + 1) (en (rt1 i)))), (h2_, .inr (1, [.ref ca2_, .ref co2_, .int t2_])), (ca2_, aI K 120 f2_), (co2_, aJ K 120 g2_), (mt_, .inr (2, [.ref fo_, .ref ba_, .ref wa_, .int mm_])), (fo_, aI K 120 ffo_), (ba_, aI K 120 fba_), (wa_, aI K 120 fwa_), (cn_, aI K 120 fc_)] (by decide) rfl ?_
          refine lx_st (a' := 0) (b' := 0) [.long (en (2, ((u1 : Nat) : Int))), .int (nI k), .ref ro_] rfl rfl rfl ?_
          refine lx_last F 1 k [(x, .inr (3, [.ref ro_, .ref kc_, .ref mt_, .ref cn_, .ref h_, .ref h2_, .int z1])), (ro_, aJ K 10 (lm_up gr_ k (en (2, ((u1 : Nat) : Int))))), (kc_, .inr (0, [.ref l0_, .ref il_, .ref ir_, .ref np_, .int mn_])), (l0_, aI K 120 fl_), (il_, aI K 120 fi_), (ir_, aI K 120 fr_), (np_, aI K 120 fn_), (h_, .inr (1, [.ref ca_, .ref co_, .int (nI (u1 + 1 + 1))])), (ca_, aI K 120 (lm_up (lm_up fa_ u1 (nI 2)) (u1 + 1) (nI 3))), (co_, aJ K 120 (lm_up (lm_up ga_ u1 (en (rt1 j))) (u1 + 1) (en (rt1 i)))), (h2_, .inr (1, [.ref ca2_, .ref co2_, .int t2_])), (ca2_, aI K 120 f2_), (co2_, aJ K 120 g2_), (mt_, .inr (2, [.ref fo_, .ref ba_, .ref wa_, .int mm_])), (fo_, aI K 120 ffo_), (ba_, aI K 120 fba_), (wa_, aI K 120 fwa_), (cn_, aI K 120 fc_)] dX3_cons_43 rfl (by omega) (by decide) rfl ?_
          exact lx_vret F hR dX3_cons_44 ⟨rfl, by rw [show lm_oCons (nI k) (nI j) (nI i) (c, w, u, rt, z) = (0, lm_set (lm_ap (c1, w1, u1, rt1, z1) [(2, rt1 j), (3, rt1 i)]) k (2, ((u1 : Nat) : Int))) by unfold lm_oCons; rw [lm_none_n hk, lm_none_n hj, lm_none_n hi, if_neg (by decide), hσ, if_pos hfit, lm_ix_n hk, lm_ix_n hj, lm_ix_n hi]]; exact ⟨_, _, _, _, _, _, _, _, _, _, _, _, _, _, _, _, _, _, _, _, _, _, _, _, _, _, _, _, _, _, _, _, _, (lm_hf_2 hh1), (lm_rc_up (v := (2, ((u1 : Nat) : Int))) hro1), rfl⟩⟩
        · skip
          exact absurd hcd (by rw [show lm_oCons (nI k) (nI j) (nI i) (c, w, u, rt, z) = (2, (c1, w1, u1, rt1, z1)) by unfold lm_oCons; rw [lm_none_n hk, lm_none_n hj, lm_none_n hi, if_neg (by decide), hσ, if_neg hfit]]; simp)
      · skip
        exact absurd hcd (by rw [show lm_oCons (nI k) (nI j) t (c, w, u, rt, z) = (1, (c, w, u, rt, z)) by unfold lm_oCons; rw [lm_none_n hk, lm_none_n hj, hnt]; rfl]; simp)
    · skip
      exact absurd hcd (by rw [show lm_oCons (nI k) f t (c, w, u, rt, z) = (1, (c, w, u, rt, z)) by unfold lm_oCons; rw [lm_none_n hk, hnf]; rfl]; simp)
  · skip
    exact absurd hcd (by rw [show lm_oCons r f t (c, w, u, rt, z) = (1, (c, w, u, rt, z)) by unfold lm_oCons; rw [hnr]; rfl]; simp)

set_option maxHeartbeats 4000000 in
set_option maxRecDepth 100000 in
theorem zX_cons_1 (l : Launch) (K : lm_G) (x : Nat) (c : Nat → Nat) (w : Nat → lm_V) (u : Nat) (rt : Nat → lm_V) (z : Int32) (hst : lm_st c w u rt) (W : va_W) (hW : lm_obj K x (c, w, u, rt, z) W) (r f t : Int32) (hcd : (lm_oCons r f t (c, w, u, rt, z)).1 = 1) : lm_CX l K mX3_cons (rx 8) [.ref x, .int r, .int f, .int t] W eN (fun w9 => lm_obj K x (lm_oCons r f t (c, w, u, rt, z)).2 w9) := by
  obtain ⟨ro, kc, l0, il, ir, np, h, ca, co, h2, ca2, co2, mt, fo, ba, wa, cn, gr, fl, fi, fr, fn, mn, fa, ga, f2, g2, t2, ffo, fba, fwa, mm, fc, hh, hro, rfl⟩ := hW
  have hh : lm_hf fa ga c w u := hh
  have hro : ∀ r, r < 10 → gr r = en (rt r) := hro
  have hw := hst.1
  have hr9 := hst.2
  have hu := hw.1
  refine lx_metX RX3 pn_X3 rfl (Nat.le_of_ble_eq_true rfl) (fun E hE F X => ?_)
  have F : lx_F K 4 E cX3_cons RX3 none (rx 8) := F
  show lx_W K 4 E 0 0 0 [(0, .ref x), (1, .int r), (2, .int f), (3, .int t)] [] [(x, .inr (3, [.ref ro, .ref kc, .ref mt, .ref cn, .ref h, .ref h2, .int z])), (ro, aJ K 10 gr), (kc, .inr (0, [.ref l0, .ref il, .ref ir, .ref np, .int mn])), (l0, aI K 120 fl), (il, aI K 120 fi), (ir, aI K 120 fr), (np, aI K 120 fn), (h, .inr (1, [.ref ca, .ref co, .int (nI u)])), (ca, aI K 120 fa), (co, aJ K 120 ga), (h2, .inr (1, [.ref ca2, .ref co2, .int t2])), (ca2, aI K 120 f2), (co2, aJ K 120 g2), (mt, .inr (2, [.ref fo, .ref ba, .ref wa, .int mm])), (fo, aI K 120 ffo), (ba, aI K 120 fba), (wa, aI K 120 fwa), (cn, aI K 120 fc)]
  cases hnr : lm_none r
  · skip
    obtain ⟨k, hk, rfl⟩ := lm_none_f hnr
    cases hnf : lm_none f
    · skip
      obtain ⟨j, hj, rfl⟩ := lm_none_f hnf
      cases hnt : lm_none t
      · skip
        obtain ⟨i, hi, rfl⟩ := lm_none_f hnt
        obtain ⟨c1, w1, u1, rt1, z1, hσ⟩ : ∃ c1 w1 u1 rt1 z1, lm_rm 2 (c, w, u, rt, z) = (c1, w1, u1, rt1, z1) := ⟨_, _, _, _, _, rfl⟩
        have hst1 : lm_st c1 w1 u1 rt1 := by have h9 : lm_sx (lm_rm 2 (c, w, u, rt, z)) := lm_sx_rm 2 hst; rw [hσ] at h9; exact h9
        have hw1 := hst1.1
        have hu1 := hw1.1
        by_cases hfit : u1 + 2 ≤ 120
        · skip
          exact absurd hcd (by rw [show lm_oCons (nI k) (nI j) (nI i) (c, w, u, rt, z) = (0, lm_set (lm_ap (c1, w1, u1, rt1, z1) [(2, rt1 j), (3, rt1 i)]) k (2, ((u1 : Nat) : Int))) by unfold lm_oCons; rw [lm_none_n hk, lm_none_n hj, lm_none_n hi, if_neg (by decide), hσ, if_pos hfit, lm_ix_n hk, lm_ix_n hj, lm_ix_n hi]]; simp)
        · skip
          exact absurd hcd (by rw [show lm_oCons (nI k) (nI j) (nI i) (c, w, u, rt, z) = (2, (c1, w1, u1, rt1, z1)) by unfold lm_oCons; rw [lm_none_n hk, lm_none_n hj, lm_none_n hi, if_neg (by decide), hσ, if_neg hfit]]; simp)
      · skip
        refine lx_iload_n F dX3_cons_0 1 rfl ?_
        refine lx_iload_n F dX3_cons_1 2 rfl ?_
        refine lx_cs F (zX_cks (xl E) K k j hk hj) cs_X3_64 [] [0, 1, 2, 3, 4, 5, 6, 7, 8, 9, 10, 11, 12, 13, 14, 15, 16, 17] [(x, .inr (3, [.ref ro, .ref kc, .ref mt, .ref cn, .ref h, .ref h2, .int z])), (ro, aJ K 10 gr), (kc, .inr (0, [.ref l0, .ref il, .ref ir, .ref np, .int mn])), (l0, aI K 120 fl), (il, aI K 120 fi), (ir, aI K 120 fr), (np, aI K 120 fn), (h, .inr (1, [.ref ca, .ref co, .int (nI u)])), (ca, aI K 120 fa), (co, aJ K 120 ga), (h2, .inr (1, [.ref ca2, .ref co2, .int t2])), (ca2, aI K 120 f2), (co2, aJ K 120 g2), (mt, .inr (2, [.ref fo, .ref ba, .ref wa, .int mm])), (fo, aI K 120 ffo), (ba, aI K 120 fba), (wa, aI K 120 fwa), (cn, aI K 120 fc)] rfl rfl (by decide) rfl (st := []) rfl (Nat.le_of_ble_eq_true rfl) (by decide) ⟨by decide, by decide⟩ dX3_cons_2 (fun v9 w9 h9 => ?_)
        obtain ⟨rfl, rfl⟩ := h9
        refine lx_perm [0, 1, 2, 3, 4, 5, 6, 7, 8, 9, 10, 11, 12, 13, 14, 15, 16, 17] [(x, .inr (3, [.ref ro, .ref kc, .ref mt, .ref cn, .ref h, .ref h2, .int z])), (ro, aJ K 10 gr), (kc, .inr (0, [.ref l0, .ref il, .ref ir, .ref np, .int mn])), (l0, aI K 120 fl), (il, aI K 120 fi), (ir, aI K 120 fr), (np, aI K 120 fn), (h, .inr (1, [.ref ca, .ref co, .int (nI u)])), (ca, aI K 120 fa), (co, aJ K 120 ga), (h2, .inr (1, [.ref ca2, .ref co2, .int t2])), (ca2, aI K 120 f2), (co2, aJ K 120 g2), (mt, .inr (2, [.ref fo, .ref ba, .ref wa, .int mm])), (fo, aI K 120 ffo), (ba, aI K 120 fba), (wa, aI K 120 fwa), (cn, aI K 120 fc)] (by decide) rfl ?_
        refine lx_st (a' := 0) (b' := 0) [] rfl rfl rfl ?_
        refine lx_iload_n F dX3_cons_5 3 rfl ?_
        exact lx_csX F X (zX_ckx (xl E) K t hnt) cs_X3_45 [] [0, 1, 2, 3, 4, 5, 6, 7, 8, 9, 10, 11, 12, 13, 14, 15, 16, 17] [(x, .inr (3, [.ref ro, .ref kc, .ref mt, .ref cn, .ref h, .ref h2, .int z])), (ro, aJ K 10 gr), (kc, .inr (0, [.ref l0, .ref il, .ref ir, .ref np, .int mn])), (l0, aI K 120 fl), (il, aI K 120 fi), (ir, aI K 120 fr), (np, aI K 120 fn), (h, .inr (1, [.ref ca, .ref co, .int (nI u)])), (ca, aI K 120 fa), (co, aJ K 120 ga), (h2, .inr (1, [.ref ca2, .ref co2, .int t2])), (ca2, aI K 120 f2), (co2, aJ K 120 g2), (mt, .inr (2, [.ref fo, .ref ba, .ref wa, .int mm])), (fo, aI K 120 ffo), (ba, aI K 120 fba), (wa, aI K 120 fwa), (cn, aI K 120 fc)] rfl rfl (by decide) rfl (st := []) rfl (Nat.le_of_ble_eq_true rfl) (by decide) ⟨by decide, by decide⟩ dX3_cons_6 (fun w9 h9 => by subst h9; exact (by show lm_obj K x _ _; rw [show lm_oCons (nI k) (nI j) t (c, w, u, rt, z) = (1, (c, w, u, rt, z)) by unfold lm_oCons; rw [lm_none_n hk, lm_none_n hj, hnt]; rfl]; exact ⟨_, _, _, _, _, _, _, _, _, _, _, _, _, _, _, _, _, _, _, _, _, _, _, _, _, _, _, _, _, _, _, _, _, hh, hro, rfl⟩))
    · skip
      refine lx_iload_n F dX3_cons_0 1 rfl ?_
      refine lx_iload_n F dX3_cons_1 2 rfl ?_
      exact lx_csX F X (zX_cksx (xl E) K (nI k) f (by rw [lm_none_n hk, hnf]; rfl)) cs_X3_64 [] [0, 1, 2, 3, 4, 5, 6, 7, 8, 9, 10, 11, 12, 13, 14, 15, 16, 17] [(x, .inr (3, [.ref ro, .ref kc, .ref mt, .ref cn, .ref h, .ref h2, .int z])), (ro, aJ K 10 gr), (kc, .inr (0, [.ref l0, .ref il, .ref ir, .ref np, .int mn])), (l0, aI K 120 fl), (il, aI K 120 fi), (ir, aI K 120 fr), (np, aI K 120 fn), (h, .inr (1, [.ref ca, .ref co, .int (nI u)])), (ca, aI K 120 fa), (co, aJ K 120 ga), (h2, .inr (1, [.ref ca2, .ref co2, .int t2])), (ca2, aI K 120 f2), (co2, aJ K 120 g2), (mt, .inr (2, [.ref fo, .ref ba, .ref wa, .int mm])), (fo, aI K 120 ffo), (ba, aI K 120 fba), (wa, aI K 120 fwa), (cn, aI K 120 fc)] rfl rfl (by decide) rfl (st := []) rfl (Nat.le_of_ble_eq_true rfl) (by decide) ⟨by decide, by decide⟩ dX3_cons_2 (fun w9 h9 => by subst h9; exact (by show lm_obj K x _ _; rw [show lm_oCons (nI k) f t (c, w, u, rt, z) = (1, (c, w, u, rt, z)) by unfold lm_oCons; rw [lm_none_n hk, hnf]; rfl]; exact ⟨_, _, _, _, _, _, _, _, _, _, _, _, _, _, _, _, _, _, _, _, _, _, _, _, _, _, _, _, _, _, _, _, _, hh, hro, rfl⟩))
  · skip
    refine lx_iload_n F dX3_cons_0 1 rfl ?_
    refine lx_iload_n F dX3_cons_1 2 rfl ?_
    exact lx_csX F X (zX_cksx (xl E) K r f (by rw [hnr]; rfl)) cs_X3_64 [] [0, 1, 2, 3, 4, 5, 6, 7, 8, 9, 10, 11, 12, 13, 14, 15, 16, 17] [(x, .inr (3, [.ref ro, .ref kc, .ref mt, .ref cn, .ref h, .ref h2, .int z])), (ro, aJ K 10 gr), (kc, .inr (0, [.ref l0, .ref il, .ref ir, .ref np, .int mn])), (l0, aI K 120 fl), (il, aI K 120 fi), (ir, aI K 120 fr), (np, aI K 120 fn), (h, .inr (1, [.ref ca, .ref co, .int (nI u)])), (ca, aI K 120 fa), (co, aJ K 120 ga), (h2, .inr (1, [.ref ca2, .ref co2, .int t2])), (ca2, aI K 120 f2), (co2, aJ K 120 g2), (mt, .inr (2, [.ref fo, .ref ba, .ref wa, .int mm])), (fo, aI K 120 ffo), (ba, aI K 120 fba), (wa, aI K 120 fwa), (cn, aI K 120 fc)] rfl rfl (by decide) rfl (st := []) rfl (Nat.le_of_ble_eq_true rfl) (by decide) ⟨by decide, by decide⟩ dX3_cons_2 (fun w9 h9 => by subst h9; exact (by show lm_obj K x _ _; rw [show lm_oCons r f t (c, w, u, rt, z) = (1, (c, w, u, rt, z)) by unfold lm_oCons; rw [hnr]; rfl]; exact ⟨_, _, _, _, _, _, _, _, _, _, _, _, _, _, _, _, _, _, _, _, _, _, _, _, _, _, _, _, _, _, _, _, _, hh, hro, rfl⟩))

set_option maxHeartbeats 4000000 in
set_option maxRecDepth 100000 in
theorem zX_cons_2 (l : Launch) (K : lm_G) (x : Nat) (c : Nat → Nat) (w : Nat → lm_V) (u : Nat) (rt : Nat → lm_V) (z : Int32) (hst : lm_st c w u rt) (W : va_W) (hW : lm_obj K x (c, w, u, rt, z) W) (r f t : Int32) (hcd : (lm_oCons r f t (c, w, u, rt, z)).1 = 2) : lm_CX l K mX3_cons (rx 8) [.ref x, .int r, .int f, .int t] W eU (fun w9 => lm_obj K x (lm_oCons r f t (c, w, u, rt, z)).2 w9) := by
  obtain ⟨ro, kc, l0, il, ir, np, h, ca, co, h2, ca2, co2, mt, fo, ba, wa, cn, gr, fl, fi, fr, fn, mn, fa, ga, f2, g2, t2, ffo, fba, fwa, mm, fc, hh, hro, rfl⟩ := hW
  have hh : lm_hf fa ga c w u := hh
  have hro : ∀ r, r < 10 → gr r = en (rt r) := hro
  have hw := hst.1
  have hr9 := hst.2
  have hu := hw.1
  refine lx_metX RX3 pn_X3 rfl (Nat.le_of_ble_eq_true rfl) (fun E hE F X => ?_)
  have F : lx_F K 4 E cX3_cons RX3 none (rx 8) := F
  show lx_W K 4 E 0 0 0 [(0, .ref x), (1, .int r), (2, .int f), (3, .int t)] [] [(x, .inr (3, [.ref ro, .ref kc, .ref mt, .ref cn, .ref h, .ref h2, .int z])), (ro, aJ K 10 gr), (kc, .inr (0, [.ref l0, .ref il, .ref ir, .ref np, .int mn])), (l0, aI K 120 fl), (il, aI K 120 fi), (ir, aI K 120 fr), (np, aI K 120 fn), (h, .inr (1, [.ref ca, .ref co, .int (nI u)])), (ca, aI K 120 fa), (co, aJ K 120 ga), (h2, .inr (1, [.ref ca2, .ref co2, .int t2])), (ca2, aI K 120 f2), (co2, aJ K 120 g2), (mt, .inr (2, [.ref fo, .ref ba, .ref wa, .int mm])), (fo, aI K 120 ffo), (ba, aI K 120 fba), (wa, aI K 120 fwa), (cn, aI K 120 fc)]
  cases hnr : lm_none r
  · skip
    obtain ⟨k, hk, rfl⟩ := lm_none_f hnr
    cases hnf : lm_none f
    · skip
      obtain ⟨j, hj, rfl⟩ := lm_none_f hnf
      cases hnt : lm_none t
      · skip
        obtain ⟨i, hi, rfl⟩ := lm_none_f hnt
        obtain ⟨c1, w1, u1, rt1, z1, hσ⟩ : ∃ c1 w1 u1 rt1 z1, lm_rm 2 (c, w, u, rt, z) = (c1, w1, u1, rt1, z1) := ⟨_, _, _, _, _, rfl⟩
        have hst1 : lm_st c1 w1 u1 rt1 := by have h9 : lm_sx (lm_rm 2 (c, w, u, rt, z)) := lm_sx_rm 2 hst; rw [hσ] at h9; exact h9
        have hw1 := hst1.1
        have hu1 := hw1.1
        by_cases hfit : u1 + 2 ≤ 120
        · skip
          exact absurd hcd (by rw [show lm_oCons (nI k) (nI j) (nI i) (c, w, u, rt, z) = (0, lm_set (lm_ap (c1, w1, u1, rt1, z1) [(2, rt1 j), (3, rt1 i)]) k (2, ((u1 : Nat) : Int))) by unfold lm_oCons; rw [lm_none_n hk, lm_none_n hj, lm_none_n hi, if_neg (by decide), hσ, if_pos hfit, lm_ix_n hk, lm_ix_n hj, lm_ix_n hi]]; simp)
        · skip
          refine lx_iload_n F dX3_cons_0 1 rfl ?_
          refine lx_iload_n F dX3_cons_1 2 rfl ?_
          refine lx_cs F (zX_cks (xl E) K k j hk hj) cs_X3_64 [] [0, 1, 2, 3, 4, 5, 6, 7, 8, 9, 10, 11, 12, 13, 14, 15, 16, 17] [(x, .inr (3, [.ref ro, .ref kc, .ref mt, .ref cn, .ref h, .ref h2, .int z])), (ro, aJ K 10 gr), (kc, .inr (0, [.ref l0, .ref il, .ref ir, .ref np, .int mn])), (l0, aI K 120 fl), (il, aI K 120 fi), (ir, aI K 120 fr), (np, aI K 120 fn), (h, .inr (1, [.ref ca, .ref co, .int (nI u)])), (ca, aI K 120 fa), (co, aJ K 120 ga), (h2, .inr (1, [.ref ca2, .ref co2, .int t2])), (ca2, aI K 120 f2), (co2, aJ K 120 g2), (mt, .inr (2, [.ref fo, .ref ba, .ref wa, .int mm])), (fo, aI K 120 ffo), (ba, aI K 120 fba), (wa, aI K 120 fwa), (cn, aI K 120 fc)] rfl rfl (by decide) rfl (st := []) rfl (Nat.le_of_ble_eq_true rfl) (by decide) ⟨by decide, by decide⟩ dX3_cons_2 (fun v9 w9 h9 => ?_)
          obtain ⟨rfl, rfl⟩ := h9
          refine lx_perm [0, 1, 2, 3, 4, 5, 6, 7, 8, 9, 10, 11, 12, 13, 14, 15, 16, 17] [(x, .inr (3, [.ref ro, .ref kc, .ref mt, .ref cn, .ref h, .ref h2, .int z])), (ro, aJ K 10 gr), (kc, .inr (0, [.ref l0, .ref il, .ref ir, .ref np, .int mn])), (l0, aI K 120 fl), (il, aI K 120 fi), (ir, aI K 120 fr), (np, aI K 120 fn), (h, .inr (1, [.ref ca, .ref co, .int (nI u)])), (ca, aI K 120 fa), (co, aJ K 120 ga), (h2, .inr (1, [.ref ca2, .ref co2, .int t2])), (ca2, aI K 120 f2), (co2, aJ K 120 g2), (mt, .inr (2, [.ref fo, .ref ba, .ref wa, .int mm])), (fo, aI K 120 ffo), (ba, aI K 120 fba), (wa, aI K 120 fwa), (cn, aI K 120 fc)] (by decide) rfl ?_
          refine lx_st (a' := 0) (b' := 0) [] rfl rfl rfl ?_
          refine lx_iload_n F dX3_cons_5 3 rfl ?_
          refine lx_cs F (zX_ck (xl E) K i hi) cs_X3_45 [] [0, 1, 2, 3, 4, 5, 6, 7, 8, 9, 10, 11, 12, 13, 14, 15, 16, 17] [(x, .inr (3, [.ref ro, .ref kc, .ref mt, .ref cn, .ref h, .ref h2, .int z])), (ro, aJ K 10 gr), (kc, .inr (0, [.ref l0, .ref il, .ref ir, .ref np, .int mn])), (l0, aI K 120 fl), (il, aI K 120 fi), (ir, aI K 120 fr), (np, aI K 120 fn), (h, .inr (1, [.ref ca, .ref co, .int (nI u)])), (ca, aI K 120 fa), (co, aJ K 120 ga), (h2, .inr (1, [.ref ca2, .ref co2, .int t2])), (ca2, aI K 120 f2), (co2, aJ K 120 g2), (mt, .inr (2, [.ref fo, .ref ba, .ref wa, .int mm])), (fo, aI K 120 ffo), (ba, aI K 120 fba), (wa, aI K 120 fwa), (cn, aI K 120 fc)] rfl rfl (by decide) rfl (st := []) rfl (Nat.le_of_ble_eq_true rfl) (by decide) ⟨by decide, by decide⟩ dX3_cons_6 (fun v9 w9 h9 => ?_)
          obtain ⟨rfl, rfl⟩ := h9
          refine lx_perm [0, 1, 2, 3, 4, 5, 6, 7, 8, 9, 10, 11, 12, 13, 14, 15, 16, 17] [(x, .inr (3, [.ref ro, .ref kc, .ref mt, .ref cn, .ref h, .ref h2, .int z])), (ro, aJ K 10 gr), (kc, .inr (0, [.ref l0, .ref il, .ref ir, .ref np, .int mn])), (l0, aI K 120 fl), (il, aI K 120 fi), (ir, aI K 120 fr), (np, aI K 120 fn), (h, .inr (1, [.ref ca, .ref co, .int (nI u)])), (ca, aI K 120 fa), (co, aJ K 120 ga), (h2, .inr (1, [.ref ca2, .ref co2, .int t2])), (ca2, aI K 120 f2), (co2, aJ K 120 g2), (mt, .inr (2, [.ref fo, .ref ba, .ref wa, .int mm])), (fo, aI K 120 ffo), (ba, aI K 120 fba), (wa, aI K 120 fwa), (cn, aI K 120 fc)] (by decide) rfl ?_
          refine lx_st (a' := 0) (b' := 0) [] rfl rfl rfl ?_
          refine lx_aload_n F dX3_cons_9 0 rfl ?_
          refine lx_iconst F dX3_cons_10 kc_2 ?_
          exact lx_cvX F X (zX_roomx (xl E) K x c w u rt z hst _ ⟨_, _, _, _, _, _, _, _, _, _, _, _, _, _, _, _, _, _, _, _, _, _, _, _, _, _, _, _, _, _, _, _, _, hh, hro, rfl⟩ (2) (by omega) (c1, w1, u1, rt1, z1) hσ hfit) cv_X3_68 0 rfl rfl [0, 1, 2, 3, 4, 5, 6, 7, 8, 9, 10, 11, 12, 13, 14, 15, 16, 17] [] [] rfl rfl (by decide) rfl (st := []) rfl (Nat.le_of_ble_eq_true rfl) (by decide) ⟨by decide, by decide⟩ dX3_cons_11 (fun w9 h9 => by show lm_obj K x _ _; rw [show lm_oCons (nI k) (nI j) (nI i) (c, w, u, rt, z) = (2, (c1, w1, u1, rt1, z1)) by unfold lm_oCons; rw [lm_none_n hk, lm_none_n hj, lm_none_n hi, if_neg (by decide), hσ, if_neg hfit]]; exact h9)
      · skip
        exact absurd hcd (by rw [show lm_oCons (nI k) (nI j) t (c, w, u, rt, z) = (1, (c, w, u, rt, z)) by unfold lm_oCons; rw [lm_none_n hk, lm_none_n hj, hnt]; rfl]; simp)
    · skip
      exact absurd hcd (by rw [show lm_oCons (nI k) f t (c, w, u, rt, z) = (1, (c, w, u, rt, z)) by unfold lm_oCons; rw [lm_none_n hk, hnf]; rfl]; simp)
  · skip
    exact absurd hcd (by rw [show lm_oCons r f t (c, w, u, rt, z) = (1, (c, w, u, rt, z)) by unfold lm_oCons; rw [hnr]; rfl]; simp)

set_option maxHeartbeats 4000000 in
set_option maxRecDepth 100000 in
theorem zX_list_0 (l : Launch) (K : lm_G) (x : Nat) (c : Nat → Nat) (w : Nat → lm_V) (u : Nat) (rt : Nat → lm_V) (z : Int32) (hst : lm_st c w u rt) (W : va_W) (hW : lm_obj K x (c, w, u, rt, z) W) (r f n : Int32) (hcd : (lm_oList r f n (c, w, u, rt, z)).1 = 0) : lm_C l K mX3_list (rk 6) [.ref x, .int r, .int f, .int n] W (fun v9 w9 => v9 = none ∧ lm_obj K x (lm_oList r f n (c, w, u, rt, z)).2 w9) := by
  obtain ⟨ro, kc, l0, il, ir, np, h, ca, co, h2, ca2, co2, mt, fo, ba, wa, cn, gr, fl, fi, fr, fn, mn, fa, ga, f2, g2, t2, ffo, fba, fwa, mm, fc, hh, hro, rfl⟩ := hW
  have hh : lm_hf fa ga c w u := hh
  have hro : ∀ r, r < 10 → gr r = en (rt r) := hro
  have hw := hst.1
  have hr9 := hst.2
  have hu := hw.1
  refine lx_met RX3 pn_X3 rfl (Nat.le_of_ble_eq_true rfl) (fun E hE hnm F hR => ?_)
  have F : lx_F K 6 E cX3_list RX3 none (rk 6) := F
  show lx_W K 6 E 0 0 0 [(0, .ref x), (1, .int r), (2, .int f), (3, .int n)] [] [(x, .inr (3, [.ref ro, .ref kc, .ref mt, .ref cn, .ref h, .ref h2, .int z])), (ro, aJ K 10 gr), (kc, .inr (0, [.ref l0, .ref il, .ref ir, .ref np, .int mn])), (l0, aI K 120 fl), (il, aI K 120 fi), (ir, aI K 120 fr), (np, aI K 120 fn), (h, .inr (1, [.ref ca, .ref co, .int (nI u)])), (ca, aI K 120 fa), (co, aJ K 120 ga), (h2, .inr (1, [.ref ca2, .ref co2, .int t2])), (ca2, aI K 120 f2), (co2, aJ K 120 g2), (mt, .inr (2, [.ref fo, .ref ba, .ref wa, .int mm])), (fo, aI K 120 ffo), (ba, aI K 120 fba), (wa, aI K 120 fwa), (cn, aI K 120 fc)]
  cases hnr : lm_none r
  · skip
    obtain ⟨k, hk, rfl⟩ := lm_none_f hnr
    cases hnf : lm_none f
    · skip
      obtain ⟨j, hj, rfl⟩ := lm_none_f hnf
      cases hlb : lm_lb (nI j) n
      · skip
        obtain ⟨m, rfl, hm1, hm2, hm3⟩ := lm_lb_f (by omega) hlb
        obtain ⟨c1, w1, u1, rt1, z1, hσ⟩ : ∃ c1 w1 u1 rt1 z1, lm_rm m (c, w, u, rt, z) = (c1, w1, u1, rt1, z1) := ⟨_, _, _, _, _, rfl⟩
        have hst1 : lm_st c1 w1 u1 rt1 := by have h9 : lm_sx (lm_rm m (c, w, u, rt, z)) := lm_sx_rm m hst; rw [hσ] at h9; exact h9
        have hw1 := hst1.1
        have hu1 := hw1.1
        by_cases hfit : u1 + m ≤ 120
        · skip
          refine lx_iload_n F dX3_list_0 1 rfl ?_
          refine lx_iload_n F dX3_list_1 2 rfl ?_
          refine lx_cs F (zX_cks (xl E) K k j hk hj) cs_X3_64 [] [0, 1, 2, 3, 4, 5, 6, 7, 8, 9, 10, 11, 12, 13, 14, 15, 16, 17] [(x, .inr (3, [.ref ro, .ref kc, .ref mt, .ref cn, .ref h, .ref h2, .int z])), (ro, aJ K 10 gr), (kc, .inr (0, [.ref l0, .ref il, .ref ir, .ref np, .int mn])), (l0, aI K 120 fl), (il, aI K 120 fi), (ir, aI K 120 fr), (np, aI K 120 fn), (h, .inr (1, [.ref ca, .ref co, .int (nI u)])), (ca, aI K 120 fa), (co, aJ K 120 ga), (h2, .inr (1, [.ref ca2, .ref co2, .int t2])), (ca2, aI K 120 f2), (co2, aJ K 120 g2), (mt, .inr (2, [.ref fo, .ref ba, .ref wa, .int mm])), (fo, aI K 120 ffo), (ba, aI K 120 fba), (wa, aI K 120 fwa), (cn, aI K 120 fc)] rfl rfl (by decide) rfl (st := []) rfl (Nat.le_of_ble_eq_true rfl) (by decide) ⟨by decide, by decide⟩ dX3_list_2 (fun v9 w9 h9 => ?_)
          obtain ⟨rfl, rfl⟩ := h9
          refine lx_perm [0, 1, 2, 3, 4, 5, 6, 7, 8, 9, 10, 11, 12, 13, 14, 15, 16, 17] [(x, .inr (3, [.ref ro, .ref kc, .ref mt, .ref cn, .ref h, .ref h2, .int z])), (ro, aJ K 10 gr), (kc, .inr (0, [.ref l0, .ref il, .ref ir, .ref np, .int mn])), (l0, aI K 120 fl), (il, aI K 120 fi), (ir, aI K 120 fr), (np, aI K 120 fn), (h, .inr (1, [.ref ca, .ref co, .int (nI u)])), (ca, aI K 120 fa), (co, aJ K 120 ga), (h2, .inr (1, [.ref ca2, .ref co2, .int t2])), (ca2, aI K 120 f2), (co2, aJ K 120 g2), (mt, .inr (2, [.ref fo, .ref ba, .ref wa, .int mm])), (fo, aI K 120 ffo), (ba, aI K 120 fba), (wa, aI K 120 fwa), (cn, aI K 120 fc)] (by decide) rfl ?_
          refine lx_st (a' := 0) (b' := 0) [] rfl rfl rfl ?_
          refine lx_iload_n F dX3_list_5 3 rfl ?_
          refine lx_iconst F dX3_list_6 kc_1 ?_
          refine lx_icmpN_lt F 24 (by omega) (by omega) dX3_list_7 rfl (fun h => absurd h (by omega)) (fun _ => ?_)
          refine lx_iload_n F dX3_list_10 3 rfl ?_
          refine lx_bipush F dX3_list_11 kb_10 ?_
          refine lx_icmpN_gt F 24 (by omega) (by omega) dX3_list_13 rfl (fun h => absurd h (by omega)) (fun _ => ?_)
          refine lx_iload_n F dX3_list_16 3 rfl ?_
          refine lx_bipush F dX3_list_17 kb_10 ?_
          refine lx_iload_n F dX3_list_19 2 rfl ?_
          refine lx_isub F dX3_list_20 (pk_sub (by omega)) ?_
          refine lx_icmpN_le F 34 (by omega) (by omega) dX3_list_21 rfl (fun _ => ?_) (fun h => absurd h (by omega))
          refine lx_aload_n F dX3_list_34 0 rfl ?_
          refine lx_iload_n F dX3_list_35 3 rfl ?_
          refine lx_cv F (zX_room (xl E) K x c w u rt z hst _ ⟨_, _, _, _, _, _, _, _, _, _, _, _, _, _, _, _, _, _, _, _, _, _, _, _, _, _, _, _, _, _, _, _, _, hh, hro, rfl⟩ (m) (by omega) (c1, w1, u1, rt1, z1) hσ hfit) cv_X3_68 0 rfl rfl [0, 1, 2, 3, 4, 5, 6, 7, 8, 9, 10, 11, 12, 13, 14, 15, 16, 17] [] [] rfl rfl (by decide) rfl (st := []) rfl (Nat.le_of_ble_eq_true rfl) (by decide) ⟨by decide, by decide⟩ dX3_list_36 (fun v9 w9 h9 => ?_)
          obtain ⟨rfl, ro_, kc_, l0_, il_, ir_, np_, h_, ca_, co_, h2_, ca2_, co2_, mt_, fo_, ba_, wa_, cn_, gr_, fl_, fi_, fr_, fn_, mn_, fa_, ga_, f2_, g2_, t2_, ffo_, fba_, fwa_, mm_, fc_, hh1, hro1, rfl⟩ := h9
          refine lx_perm [0, 1, 2, 3, 4, 5, 6, 7, 8, 9, 10, 11, 12, 13, 14, 15, 16, 17] [(x, .inr (3, [.ref ro_, .ref kc_, .ref mt_, .ref cn_, .ref h_, .ref h2_, .int z1])), (ro_, aJ K 10 gr_), (kc_, .inr (0, [.ref l0_, .ref il_, .ref ir_, .ref np_, .int mn_])), (l0_, aI K 120 fl_), (il_, aI K 120 fi_), (ir_, aI K 120 fr_), (np_, aI K 120 fn_), (h_, .inr (1, [.ref ca_, .ref co_, .int (nI u1)])), (ca_, aI K 120 fa_), (co_, aJ K 120 ga_), (h2_, .inr (1, [.ref ca2_, .ref co2_, .int t2_])), (ca2_, aI K 120 f2_), (co2_, aJ K 120 g2_), (mt_, .inr (2, [.ref fo_, .ref ba_, .ref wa_, .int mm_])), (fo_, aI K 120 ffo_), (ba_, aI K 120 fba_), (wa_, aI K 120 fwa_), (cn_, aI K 120 fc_)] (by decide) rfl ?_
          refine lx_st (a' := 0) (b' := 0) [] rfl rfl rfl ?_
          have hh1 : lm_hf fa_ ga_ c1 w1 u1 := hh1
          have hro1 : ∀ r, r < 10 → gr_ r = en (rt1 r) := hro1
          refine lx_aload_n F dX3_list_39 0 rfl ?_
          refine gf_X3_34 F 0 rfl rfl dX3_list_40 ?_
          refine gf_X3_77 F 7 rfl rfl dX3_list_43 ?_
          refine lx_istore F [(0, .ref x), (1, .int (nI k)), (2, .int (nI j)), (3, .int (nI m)), (4, .int (nI u1))] [1, 2, 3, 4, 0] dX3_list_46 rfl (by decide) ?_
          refine lx_iconst F dX3_list_48 kc_0 ?_
          refine lx_istore F [(0, .ref x), (1, .int (nI k)), (2, .int (nI j)), (3, .int (nI m)), (4, .int (nI u1)), (5, .int (nI 0))] [1, 2, 3, 4, 5, 0] dX3_list_49 rfl (by decide) ?_
          have loop : ∀ (n9 : Nat) (i : Nat) (Md : lm_O) (fb : Nat → Int32) (gb : Nat → Int64), i + n9 = m → Md ++ lm_lsM rt1 (j + i) n9 = lm_lsM rt1 j m → Md.length = i → lm_hf fb gb (lm_ac c1 u1 Md) (lm_aw w1 u1 Md) (u1 + i) → lx_W K 6 E 0 0 51 [(0, .ref x), (1, .int (nI k)), (2, .int (nI j)), (3, .int (nI m)), (4, .int (nI u1)), (5, .int (nI i))] [] [(x, .inr (3, [.ref ro_, .ref kc_, .ref mt_, .ref cn_, .ref h_, .ref h2_, .int z1])), (ro_, aJ K 10 gr_), (kc_, .inr (0, [.ref l0_, .ref il_, .ref ir_, .ref np_, .int mn_])), (l0_, aI K 120 fl_), (il_, aI K 120 fi_), (ir_, aI K 120 fr_), (np_, aI K 120 fn_), (h_, .inr (1, [.ref ca_, .ref co_, .int (nI (u1 + i))])), (ca_, aI K 120 fb), (co_, aJ K 120 gb), (h2_, .inr (1, [.ref ca2_, .ref co2_, .int t2_])), (ca2_, aI K 120 f2_), (co2_, aJ K 120 g2_), (mt_, .inr (2, [.ref fo_, .ref ba_, .ref wa_, .int mm_])), (fo_, aI K 120 ffo_), (ba_, aI K 120 fba_), (wa_, aI K 120 fwa_), (cn_, aI K 120 fc_)] := by
            intro n9
            induction n9 with
            | zero =>
              intro i Md fb gb hi hM hMi hmf
              have hMd : Md = lm_lsM rt1 j m := by rw [← hM]; simp [lm_lsM]
              refine lx_iload F dX3_list_51 5 rfl ?_
              refine lx_iload_n F dX3_list_53 3 rfl ?_
              refine lx_icmpN_ge F 93 (by omega) (by omega) dX3_list_54 rfl (fun _ => ?_) (fun h => absurd h (by omega))
              refine lx_aload_n F dX3_list_93 0 rfl ?_
              refine gf_X3_9 F 0 rfl rfl dX3_list_94 ?_
              refine lx_iload_n F dX3_list_97 1 rfl ?_
              refine lx_iconst F dX3_list_98 kc_2 ?_
              refine lx_iload F dX3_list_99 4 rfl ?_
              refine lx_i2l F dX3_list_101 (jI_i2l (by omega)) ?_
              refine lx_cs F (zs_content (xl E) K 2 ((u1 : Nat) : Int) (by omega)) cs_X3_60 [] [0, 1, 2, 3, 4, 5, 6, 7, 8, 9, 10, 11, 12, 13, 14, 15, 16, 17] [(x, .inr (3, [.ref ro_, .ref kc_, .ref mt_, .ref cn_, .ref h_, .ref h2_, .int z1])), (ro_, aJ K 10 gr_), (kc_, .inr (0, [.ref l0_, .ref il_, .ref ir_, .ref np_, .int mn_])), (l0_, aI K 120 fl_), (il_, aI K 120 fi_), (ir_, aI K 120 fr_), (np_, aI K 120 fn_), (h_, .inr (1, [.ref ca_, .ref co_, .int (nI (u1 + i))])), (ca_, aI K 120 fb), (co_, aJ K 120 gb), (h2_, .inr (1, [.ref ca2_, .ref co2_, .int t2_])), (ca2_, aI K 120 f2_), (co2_, aJ K 120 g2_), (mt_, .inr (2, [.ref fo_, .ref ba_, .ref wa_, .int mm_])), (fo_, aI K 120 ffo_), (ba_, aI K 120 fba_), (wa_, aI K 120 fwa_), (cn_, aI K 120 fc_)] rfl rfl (by decide) rfl (st := [.int (nI k), .ref ro_]) rfl (Nat.le_of_ble_eq_true rfl) (by decide) ⟨by decide, by decide⟩ dX3_list_102 (fun v9 w9 h9 => ?_)
              obtain ⟨rfl, rfl⟩ := h9
              refine lx_perm [0, 1, 2, 3, 4, 5, 6, 7, 8, 9, 10, 11, 12, 13, 14, 15, 16, 17] [(x, .inr (3, [.ref ro_, .ref kc_, .ref mt_, .ref cn_, .ref h_, .ref h2_, .int z1])), (ro_, aJ K 10 gr_), (kc_, .inr (0, [.ref l0_, .ref il_, .ref ir_, .ref np_, .int mn_])), (l0_, aI K 120 fl_), (il_, aI K 120 fi_), (ir_, aI K 120 fr_), (np_, aI K 120 fn_), (h_, .inr (1, [.ref ca_, .ref co_, .int (nI (u1 + i))])), (ca_, aI K 120 fb), (co_, aJ K 120 gb), (h2_, .inr (1, [.ref ca2_, .ref co2_, .int t2_])), (ca2_, aI K 120 f2_), (co2_, aJ K 120 g2_), (mt_, .inr (2, [.ref fo_, .ref ba_, .ref wa_, .int mm_])), (fo_, aI K 120 ffo_), (ba_, aI K 120 fba_), (wa_, aI K 120 fwa_), (cn_, aI K 120 fc_)] (by decide) rfl ?_
              refine lx_st (a' := 0) (b' := 0) [.long (en (2, ((u1 : Nat) : Int))), .int (nI k), .ref ro_] rfl rfl rfl ?_
              refine lx_last F 1 k [(x, .inr (3, [.ref ro_, .ref kc_, .ref mt_, .ref cn_, .ref h_, .ref h2_, .int z1])), (ro_, aJ K 10 (lm_up gr_ k (en (2, ((u1 : Nat) : Int))))), (kc_, .inr (0, [.ref l0_, .ref il_, .ref ir_, .ref np_, .int mn_])), (l0_, aI K 120 fl_), (il_, aI K 120 fi_), (ir_, aI K 120 fr_), (np_, aI K 120 fn_), (h_, .inr (1, [.ref ca_, .ref co_, .int (nI (u1 + i))])), (ca_, aI K 120 fb), (co_, aJ K 120 gb), (h2_, .inr (1, [.ref ca2_, .ref co2_, .int t2_])), (ca2_, aI K 120 f2_), (co2_, aJ K 120 g2_), (mt_, .inr (2, [.ref fo_, .ref ba_, .ref wa_, .int mm_])), (fo_, aI K 120 ffo_), (ba_, aI K 120 fba_), (wa_, aI K 120 fwa_), (cn_, aI K 120 fc_)] dX3_list_105 rfl (by omega) (by decide) rfl ?_
              rw [← hMi]
              exact lx_vret F hR dX3_list_106 ⟨rfl, by rw [show lm_oList (nI k) (nI j) (nI m) (c, w, u, rt, z) = (0, lm_set (lm_ap (c1, w1, u1, rt1, z1) Md) k (2, ((u1 : Nat) : Int))) by unfold lm_oList; rw [lm_none_n hk, lm_none_n hj, if_neg (by decide), hlb, if_neg (by decide), lm_ix_n10 hm2, hσ, if_pos hfit, lm_ix_n hk, lm_ix_n hj, ← hMd]]; exact ⟨_, _, _, _, _, _, _, _, _, _, _, _, _, _, _, _, _, _, _, _, _, _, _, _, _, _, _, _, _, _, _, _, _, (by show lm_hf _ _ (lm_ac c1 u1 Md) (lm_aw w1 u1 Md) (u1 + Md.length); rw [hMi]; exact hmf), (lm_rc_up (v := (2, ((u1 : Nat) : Int))) hro1), rfl⟩⟩
            | succ n9 ih =>
              intro i Md fb gb hi hM hMi hmf
              refine lx_iload F dX3_list_51 5 rfl ?_
              refine lx_iload_n F dX3_list_53 3 rfl ?_
              refine lx_icmpN_ge F 93 (by omega) (by omega) dX3_list_54 rfl (fun h => absurd h (by omega)) (fun _ => ?_)
              by_cases hlast : n9 = 0
              · skip
                subst hlast
                have hA : lm_lsM rt1 (j + i) (0 + 1) = [(1, rt1 (j + i))] := rfl
                rw [hA] at hM
                refine lx_aload_n F dX3_list_57 0 rfl ?_
                refine gf_X3_34 F 0 rfl rfl dX3_list_58 ?_
                refine lx_iload F dX3_list_61 5 rfl ?_
                refine lx_iload_n F dX3_list_63 3 rfl ?_
                refine lx_iconst F dX3_list_64 kc_1 ?_
                refine lx_isub F dX3_list_65 (pk_sub (by omega)) ?_
                refine lx_icmpN_ge F 73 (by omega) (by omega) dX3_list_66 rfl (fun _ => ?_) (fun h => absurd h (by omega))
                refine lx_iconst F dX3_list_73 kc_1 ?_
                refine lx_aload_n F dX3_list_74 0 rfl ?_
                refine gf_X3_9 F 0 rfl rfl dX3_list_75 ?_
                refine lx_iload_n F dX3_list_78 2 rfl ?_
                refine lx_iload F dX3_list_79 5 rfl ?_
                refine lx_iadd F dX3_list_81 (nI_add _ _) ?_
                refine lx_lald F 1 (j + i) dX3_list_82 rfl (by omega) (by decide) ?_
                rw [hro1 (j + i) (by omega)]
                refine lx_cv F (zh_take (xl E) K h_ ca_ co_ fb gb (u1 + i) (by omega) (nI 1) (en (rt1 (j + i)))) cv_X3_80 7 rfl rfl [7, 8, 9] [0, 1, 2, 3, 4, 5, 6, 10, 11, 12, 13, 14, 15, 16, 17] [(x, .inr (3, [.ref ro_, .ref kc_, .ref mt_, .ref cn_, .ref h_, .ref h2_, .int z1])), (ro_, aJ K 10 gr_), (kc_, .inr (0, [.ref l0_, .ref il_, .ref ir_, .ref np_, .int mn_])), (l0_, aI K 120 fl_), (il_, aI K 120 fi_), (ir_, aI K 120 fr_), (np_, aI K 120 fn_), (h2_, .inr (1, [.ref ca2_, .ref co2_, .int t2_])), (ca2_, aI K 120 f2_), (co2_, aJ K 120 g2_), (mt_, .inr (2, [.ref fo_, .ref ba_, .ref wa_, .int mm_])), (fo_, aI K 120 ffo_), (ba_, aI K 120 fba_), (wa_, aI K 120 fwa_), (cn_, aI K 120 fc_)] rfl rfl (by decide) rfl (st := []) rfl (Nat.le_of_ble_eq_true rfl) (by decide) ⟨by decide, by decide⟩ dX3_list_83 (fun v9 w9 h9 => ?_)
                obtain ⟨rfl, rfl⟩ := h9
                refine lx_perm [0, 1, 2, 3, 4, 5, 6, 15, 16, 17, 7, 8, 9, 10, 11, 12, 13, 14] [(x, .inr (3, [.ref ro_, .ref kc_, .ref mt_, .ref cn_, .ref h_, .ref h2_, .int z1])), (ro_, aJ K 10 gr_), (kc_, .inr (0, [.ref l0_, .ref il_, .ref ir_, .ref np_, .int mn_])), (l0_, aI K 120 fl_), (il_, aI K 120 fi_), (ir_, aI K 120 fr_), (np_, aI K 120 fn_), (h_, .inr (1, [.ref ca_, .ref co_, .int (nI (u1 + i + 1))])), (ca_, aI K 120 (lm_up fb (u1 + i) (nI 1))), (co_, aJ K 120 (lm_up gb (u1 + i) (en (rt1 (j + i))))), (h2_, .inr (1, [.ref ca2_, .ref co2_, .int t2_])), (ca2_, aI K 120 f2_), (co2_, aJ K 120 g2_), (mt_, .inr (2, [.ref fo_, .ref ba_, .ref wa_, .int mm_])), (fo_, aI K 120 ffo_), (ba_, aI K 120 fba_), (wa_, aI K 120 fwa_), (cn_, aI K 120 fc_)] (by decide) rfl ?_
                refine lx_st (a' := 0) (b' := 0) [.int (nI (u1 + i))] rfl rfl rfl ?_
                refine lx_pop F dX3_list_86 rfl ?_
                refine lx_iinc F [(0, .ref x), (1, .int (nI k)), (2, .int (nI j)), (3, .int (nI m)), (4, .int (nI u1)), (5, .int (nI (i + 1)))] 5 [1, 2, 3, 4, 5, 0] dX3_list_87 rfl (k_inc _) rfl (by decide) ?_
                refine lx_goto F 51 dX3_list_90 rfl ?_
                exact ih (i + 1) (Md ++ [(1, rt1 (j + i))]) _ _ (by omega) (by rw [hM]; simp [lm_lsM]) (by simp [hMi]) (lm_hf_app hmf hMi)
              · skip
                have hA := lm_lsM_2 (rt := rt1) (f := j + i) hlast
                rw [hA] at hM
                refine lx_aload_n F dX3_list_57 0 rfl ?_
                refine gf_X3_34 F 0 rfl rfl dX3_list_58 ?_
                refine lx_iload F dX3_list_61 5 rfl ?_
                refine lx_iload_n F dX3_list_63 3 rfl ?_
                refine lx_iconst F dX3_list_64 kc_1 ?_
                refine lx_isub F dX3_list_65 (pk_sub (by omega)) ?_
                refine lx_icmpN_ge F 73 (by omega) (by omega) dX3_list_66 rfl (fun h => absurd h (by omega)) (fun _ => ?_)
                refine lx_iconst F dX3_list_69 kc_0 ?_
                refine lx_goto F 74 dX3_list_70 rfl ?_
                refine lx_aload_n F dX3_list_74 0 rfl ?_
                refine gf_X3_9 F 0 rfl rfl dX3_list_75 ?_
                refine lx_iload_n F dX3_list_78 2 rfl ?_
                refine lx_iload F dX3_list_79 5 rfl ?_
                refine lx_iadd F dX3_list_81 (nI_add _ _) ?_
                refine lx_lald F 1 (j + i) dX3_list_82 rfl (by omega) (by decide) ?_
                rw [hro1 (j + i) (by omega)]
                refine lx_cv F (zh_take (xl E) K h_ ca_ co_ fb gb (u1 + i) (by omega) (nI 0) (en (rt1 (j + i)))) cv_X3_80 7 rfl rfl [7, 8, 9] [0, 1, 2, 3, 4, 5, 6, 10, 11, 12, 13, 14, 15, 16, 17] [(x, .inr (3, [.ref ro_, .ref kc_, .ref mt_, .ref cn_, .ref h_, .ref h2_, .int z1])), (ro_, aJ K 10 gr_), (kc_, .inr (0, [.ref l0_, .ref il_, .ref ir_, .ref np_, .int mn_])), (l0_, aI K 120 fl_), (il_, aI K 120 fi_), (ir_, aI K 120 fr_), (np_, aI K 120 fn_), (h2_, .inr (1, [.ref ca2_, .ref co2_, .int t2_])), (ca2_, aI K 120 f2_), (co2_, aJ K 120 g2_), (mt_, .inr (2, [.ref fo_, .ref ba_, .ref wa_, .int mm_])), (fo_, aI K 120 ffo_), (ba_, aI K 120 fba_), (wa_, aI K 120 fwa_), (cn_, aI K 120 fc_)] rfl rfl (by decide) rfl (st := []) rfl (Nat.le_of_ble_eq_true rfl) (by decide) ⟨by decide, by decide⟩ dX3_list_83 (fun v9 w9 h9 => ?_)
                obtain ⟨rfl, rfl⟩ := h9
                refine lx_perm [0, 1, 2, 3, 4, 5, 6, 15, 16, 17, 7, 8, 9, 10, 11, 12, 13, 14] [(x, .inr (3, [.ref ro_, .ref kc_, .ref mt_, .ref cn_, .ref h_, .ref h2_, .int z1])), (ro_, aJ K 10 gr_), (kc_, .inr (0, [.ref l0_, .ref il_, .ref ir_, .ref np_, .int mn_])), (l0_, aI K 120 fl_), (il_, aI K 120 fi_), (ir_, aI K 120 fr_), (np_, aI K 120 fn_), (h_, .inr (1, [.ref ca_, .ref co_, .int (nI (u1 + i + 1))])), (ca_, aI K 120 (lm_up fb (u1 + i) (nI 0))), (co_, aJ K 120 (lm_up gb (u1 + i) (en (rt1 (j + i))))), (h2_, .inr (1, [.ref ca2_, .ref co2_, .int t2_])), (ca2_, aI K 120 f2_), (co2_, aJ K 120 g2_), (mt_, .inr (2, [.ref fo_, .ref ba_, .ref wa_, .int mm_])), (fo_, aI K 120 ffo_), (ba_, aI K 120 fba_), (wa_, aI K 120 fwa_), (cn_, aI K 120 fc_)] (by decide) rfl ?_
                refine lx_st (a' := 0) (b' := 0) [.int (nI (u1 + i))] rfl rfl rfl ?_
                refine lx_pop F dX3_list_86 rfl ?_
                refine lx_iinc F [(0, .ref x), (1, .int (nI k)), (2, .int (nI j)), (3, .int (nI m)), (4, .int (nI u1)), (5, .int (nI (i + 1)))] 5 [1, 2, 3, 4, 5, 0] dX3_list_87 rfl (k_inc _) rfl (by decide) ?_
                refine lx_goto F 51 dX3_list_90 rfl ?_
                exact ih (i + 1) (Md ++ [(0, rt1 (j + i))]) _ _ (by omega) (by rw [← hM]; simp [Nat.add_assoc]) (by simp [hMi]) (lm_hf_app hmf hMi)
          exact loop m 0 [] fa_ ga_ (by omega) rfl rfl (lm_hf_0 hh1)
        · skip
          exact absurd hcd (by rw [show lm_oList (nI k) (nI j) (nI m) (c, w, u, rt, z) = (3, (c1, w1, u1, rt1, z1)) by unfold lm_oList; rw [lm_none_n hk, lm_none_n hj, if_neg (by decide), hlb, if_neg (by decide), lm_ix_n10 hm2, hσ, if_neg hfit]]; simp)
      · skip
        exact absurd hcd (by rw [show lm_oList (nI k) (nI j) n (c, w, u, rt, z) = (2, (c, w, u, rt, z)) by unfold lm_oList; rw [lm_none_n hk, lm_none_n hj, if_neg (by decide), if_pos hlb]]; simp)
    · skip
      exact absurd hcd (by rw [show lm_oList (nI k) f n (c, w, u, rt, z) = (1, (c, w, u, rt, z)) by unfold lm_oList; rw [lm_none_n hk, hnf]; rfl]; simp)
  · skip
    exact absurd hcd (by rw [show lm_oList r f n (c, w, u, rt, z) = (1, (c, w, u, rt, z)) by unfold lm_oList; rw [hnr]; rfl]; simp)

set_option maxHeartbeats 4000000 in
set_option maxRecDepth 100000 in
theorem zX_list_1 (l : Launch) (K : lm_G) (x : Nat) (c : Nat → Nat) (w : Nat → lm_V) (u : Nat) (rt : Nat → lm_V) (z : Int32) (hst : lm_st c w u rt) (W : va_W) (hW : lm_obj K x (c, w, u, rt, z) W) (r f n : Int32) (hcd : (lm_oList r f n (c, w, u, rt, z)).1 = 1) : lm_CX l K mX3_list (rx 8) [.ref x, .int r, .int f, .int n] W eN (fun w9 => lm_obj K x (lm_oList r f n (c, w, u, rt, z)).2 w9) := by
  obtain ⟨ro, kc, l0, il, ir, np, h, ca, co, h2, ca2, co2, mt, fo, ba, wa, cn, gr, fl, fi, fr, fn, mn, fa, ga, f2, g2, t2, ffo, fba, fwa, mm, fc, hh, hro, rfl⟩ := hW
  have hh : lm_hf fa ga c w u := hh
  have hro : ∀ r, r < 10 → gr r = en (rt r) := hro
  have hw := hst.1
  have hr9 := hst.2
  have hu := hw.1
  refine lx_metX RX3 pn_X3 rfl (Nat.le_of_ble_eq_true rfl) (fun E hE F X => ?_)
  have F : lx_F K 6 E cX3_list RX3 none (rx 8) := F
  show lx_W K 6 E 0 0 0 [(0, .ref x), (1, .int r), (2, .int f), (3, .int n)] [] [(x, .inr (3, [.ref ro, .ref kc, .ref mt, .ref cn, .ref h, .ref h2, .int z])), (ro, aJ K 10 gr), (kc, .inr (0, [.ref l0, .ref il, .ref ir, .ref np, .int mn])), (l0, aI K 120 fl), (il, aI K 120 fi), (ir, aI K 120 fr), (np, aI K 120 fn), (h, .inr (1, [.ref ca, .ref co, .int (nI u)])), (ca, aI K 120 fa), (co, aJ K 120 ga), (h2, .inr (1, [.ref ca2, .ref co2, .int t2])), (ca2, aI K 120 f2), (co2, aJ K 120 g2), (mt, .inr (2, [.ref fo, .ref ba, .ref wa, .int mm])), (fo, aI K 120 ffo), (ba, aI K 120 fba), (wa, aI K 120 fwa), (cn, aI K 120 fc)]
  cases hnr : lm_none r
  · skip
    obtain ⟨k, hk, rfl⟩ := lm_none_f hnr
    cases hnf : lm_none f
    · skip
      obtain ⟨j, hj, rfl⟩ := lm_none_f hnf
      cases hlb : lm_lb (nI j) n
      · skip
        obtain ⟨m, rfl, hm1, hm2, hm3⟩ := lm_lb_f (by omega) hlb
        obtain ⟨c1, w1, u1, rt1, z1, hσ⟩ : ∃ c1 w1 u1 rt1 z1, lm_rm m (c, w, u, rt, z) = (c1, w1, u1, rt1, z1) := ⟨_, _, _, _, _, rfl⟩
        have hst1 : lm_st c1 w1 u1 rt1 := by have h9 : lm_sx (lm_rm m (c, w, u, rt, z)) := lm_sx_rm m hst; rw [hσ] at h9; exact h9
        have hw1 := hst1.1
        have hu1 := hw1.1
        by_cases hfit : u1 + m ≤ 120
        · skip
          exact absurd hcd (by rw [show lm_oList (nI k) (nI j) (nI m) (c, w, u, rt, z) = (0, lm_set (lm_ap (c1, w1, u1, rt1, z1) (lm_lsM rt1 j m)) k (2, ((u1 : Nat) : Int))) by unfold lm_oList; rw [lm_none_n hk, lm_none_n hj, if_neg (by decide), hlb, if_neg (by decide), lm_ix_n10 hm2, hσ, if_pos hfit, lm_ix_n hk, lm_ix_n hj]]; simp)
        · skip
          exact absurd hcd (by rw [show lm_oList (nI k) (nI j) (nI m) (c, w, u, rt, z) = (3, (c1, w1, u1, rt1, z1)) by unfold lm_oList; rw [lm_none_n hk, lm_none_n hj, if_neg (by decide), hlb, if_neg (by decide), lm_ix_n10 hm2, hσ, if_neg hfit]]; simp)
      · skip
        exact absurd hcd (by rw [show lm_oList (nI k) (nI j) n (c, w, u, rt, z) = (2, (c, w, u, rt, z)) by unfold lm_oList; rw [lm_none_n hk, lm_none_n hj, if_neg (by decide), if_pos hlb]]; simp)
    · skip
      refine lx_iload_n F dX3_list_0 1 rfl ?_
      refine lx_iload_n F dX3_list_1 2 rfl ?_
      exact lx_csX F X (zX_cksx (xl E) K (nI k) f (by rw [lm_none_n hk, hnf]; rfl)) cs_X3_64 [] [0, 1, 2, 3, 4, 5, 6, 7, 8, 9, 10, 11, 12, 13, 14, 15, 16, 17] [(x, .inr (3, [.ref ro, .ref kc, .ref mt, .ref cn, .ref h, .ref h2, .int z])), (ro, aJ K 10 gr), (kc, .inr (0, [.ref l0, .ref il, .ref ir, .ref np, .int mn])), (l0, aI K 120 fl), (il, aI K 120 fi), (ir, aI K 120 fr), (np, aI K 120 fn), (h, .inr (1, [.ref ca, .ref co, .int (nI u)])), (ca, aI K 120 fa), (co, aJ K 120 ga), (h2, .inr (1, [.ref ca2, .ref co2, .int t2])), (ca2, aI K 120 f2), (co2, aJ K 120 g2), (mt, .inr (2, [.ref fo, .ref ba, .ref wa, .int mm])), (fo, aI K 120 ffo), (ba, aI K 120 fba), (wa, aI K 120 fwa), (cn, aI K 120 fc)] rfl rfl (by decide) rfl (st := []) rfl (Nat.le_of_ble_eq_true rfl) (by decide) ⟨by decide, by decide⟩ dX3_list_2 (fun w9 h9 => by subst h9; exact (by show lm_obj K x _ _; rw [show lm_oList (nI k) f n (c, w, u, rt, z) = (1, (c, w, u, rt, z)) by unfold lm_oList; rw [lm_none_n hk, hnf]; rfl]; exact ⟨_, _, _, _, _, _, _, _, _, _, _, _, _, _, _, _, _, _, _, _, _, _, _, _, _, _, _, _, _, _, _, _, _, hh, hro, rfl⟩))
  · skip
    refine lx_iload_n F dX3_list_0 1 rfl ?_
    refine lx_iload_n F dX3_list_1 2 rfl ?_
    exact lx_csX F X (zX_cksx (xl E) K r f (by rw [hnr]; rfl)) cs_X3_64 [] [0, 1, 2, 3, 4, 5, 6, 7, 8, 9, 10, 11, 12, 13, 14, 15, 16, 17] [(x, .inr (3, [.ref ro, .ref kc, .ref mt, .ref cn, .ref h, .ref h2, .int z])), (ro, aJ K 10 gr), (kc, .inr (0, [.ref l0, .ref il, .ref ir, .ref np, .int mn])), (l0, aI K 120 fl), (il, aI K 120 fi), (ir, aI K 120 fr), (np, aI K 120 fn), (h, .inr (1, [.ref ca, .ref co, .int (nI u)])), (ca, aI K 120 fa), (co, aJ K 120 ga), (h2, .inr (1, [.ref ca2, .ref co2, .int t2])), (ca2, aI K 120 f2), (co2, aJ K 120 g2), (mt, .inr (2, [.ref fo, .ref ba, .ref wa, .int mm])), (fo, aI K 120 ffo), (ba, aI K 120 fba), (wa, aI K 120 fwa), (cn, aI K 120 fc)] rfl rfl (by decide) rfl (st := []) rfl (Nat.le_of_ble_eq_true rfl) (by decide) ⟨by decide, by decide⟩ dX3_list_2 (fun w9 h9 => by subst h9; exact (by show lm_obj K x _ _; rw [show lm_oList r f n (c, w, u, rt, z) = (1, (c, w, u, rt, z)) by unfold lm_oList; rw [hnr]; rfl]; exact ⟨_, _, _, _, _, _, _, _, _, _, _, _, _, _, _, _, _, _, _, _, _, _, _, _, _, _, _, _, _, _, _, _, _, hh, hro, rfl⟩))

set_option maxHeartbeats 4000000 in
set_option maxRecDepth 100000 in
theorem zX_list_2 (l : Launch) (K : lm_G) (x : Nat) (c : Nat → Nat) (w : Nat → lm_V) (u : Nat) (rt : Nat → lm_V) (z : Int32) (hst : lm_st c w u rt) (W : va_W) (hW : lm_obj K x (c, w, u, rt, z) W) (r f n : Int32) (hcd : (lm_oList r f n (c, w, u, rt, z)).1 = 2) : lm_CX l K mX3_list (rx 8) [.ref x, .int r, .int f, .int n] W eA (fun w9 => lm_obj K x (lm_oList r f n (c, w, u, rt, z)).2 w9) := by
  obtain ⟨ro, kc, l0, il, ir, np, h, ca, co, h2, ca2, co2, mt, fo, ba, wa, cn, gr, fl, fi, fr, fn, mn, fa, ga, f2, g2, t2, ffo, fba, fwa, mm, fc, hh, hro, rfl⟩ := hW
  have hh : lm_hf fa ga c w u := hh
  have hro : ∀ r, r < 10 → gr r = en (rt r) := hro
  have hw := hst.1
  have hr9 := hst.2
  have hu := hw.1
  refine lx_metX RX3 pn_X3 rfl (Nat.le_of_ble_eq_true rfl) (fun E hE F X => ?_)
  have F : lx_F K 6 E cX3_list RX3 none (rx 8) := F
  show lx_W K 6 E 0 0 0 [(0, .ref x), (1, .int r), (2, .int f), (3, .int n)] [] [(x, .inr (3, [.ref ro, .ref kc, .ref mt, .ref cn, .ref h, .ref h2, .int z])), (ro, aJ K 10 gr), (kc, .inr (0, [.ref l0, .ref il, .ref ir, .ref np, .int mn])), (l0, aI K 120 fl), (il, aI K 120 fi), (ir, aI K 120 fr), (np, aI K 120 fn), (h, .inr (1, [.ref ca, .ref co, .int (nI u)])), (ca, aI K 120 fa), (co, aJ K 120 ga), (h2, .inr (1, [.ref ca2, .ref co2, .int t2])), (ca2, aI K 120 f2), (co2, aJ K 120 g2), (mt, .inr (2, [.ref fo, .ref ba, .ref wa, .int mm])), (fo, aI K 120 ffo), (ba, aI K 120 fba), (wa, aI K 120 fwa), (cn, aI K 120 fc)]
  cases hnr : lm_none r
  · skip
    obtain ⟨k, hk, rfl⟩ := lm_none_f hnr
    cases hnf : lm_none f
    · skip
      obtain ⟨j, hj, rfl⟩ := lm_none_f hnf
      cases hlb : lm_lb (nI j) n
      · skip
        obtain ⟨m, rfl, hm1, hm2, hm3⟩ := lm_lb_f (by omega) hlb
        obtain ⟨c1, w1, u1, rt1, z1, hσ⟩ : ∃ c1 w1 u1 rt1 z1, lm_rm m (c, w, u, rt, z) = (c1, w1, u1, rt1, z1) := ⟨_, _, _, _, _, rfl⟩
        have hst1 : lm_st c1 w1 u1 rt1 := by have h9 : lm_sx (lm_rm m (c, w, u, rt, z)) := lm_sx_rm m hst; rw [hσ] at h9; exact h9
        have hw1 := hst1.1
        have hu1 := hw1.1
        by_cases hfit : u1 + m ≤ 120
        · skip
          exact absurd hcd (by rw [show lm_oList (nI k) (nI j) (nI m) (c, w, u, rt, z) = (0, lm_set (lm_ap (c1, w1, u1, rt1, z1) (lm_lsM rt1 j m)) k (2, ((u1 : Nat) : Int))) by unfold lm_oList; rw [lm_none_n hk, lm_none_n hj, if_neg (by decide), hlb, if_neg (by decide), lm_ix_n10 hm2, hσ, if_pos hfit, lm_ix_n hk, lm_ix_n hj]]; simp)
        · skip
          exact absurd hcd (by rw [show lm_oList (nI k) (nI j) (nI m) (c, w, u, rt, z) = (3, (c1, w1, u1, rt1, z1)) by unfold lm_oList; rw [lm_none_n hk, lm_none_n hj, if_neg (by decide), hlb, if_neg (by decide), lm_ix_n10 hm2, hσ, if_neg hfit]]; simp)
      · skip
        refine lx_iload_n F dX3_list_0 1 rfl ?_
        refine lx_iload_n F dX3_list_1 2 rfl ?_
        refine lx_cs F (zX_cks (xl E) K k j hk hj) cs_X3_64 [] [0, 1, 2, 3, 4, 5, 6, 7, 8, 9, 10, 11, 12, 13, 14, 15, 16, 17] [(x, .inr (3, [.ref ro, .ref kc, .ref mt, .ref cn, .ref h, .ref h2, .int z])), (ro, aJ K 10 gr), (kc, .inr (0, [.ref l0, .ref il, .ref ir, .ref np, .int mn])), (l0, aI K 120 fl), (il, aI K 120 fi), (ir, aI K 120 fr), (np, aI K 120 fn), (h, .inr (1, [.ref ca, .ref co, .int (nI u)])), (ca, aI K 120 fa), (co, aJ K 120 ga), (h2, .inr (1, [.ref ca2, .ref co2, .int t2])), (ca2, aI K 120 f2), (co2, aJ K 120 g2), (mt, .inr (2, [.ref fo, .ref ba, .ref wa, .int mm])), (fo, aI K 120 ffo), (ba, aI K 120 fba), (wa, aI K 120 fwa), (cn, aI K 120 fc)] rfl rfl (by decide) rfl (st := []) rfl (Nat.le_of_ble_eq_true rfl) (by decide) ⟨by decide, by decide⟩ dX3_list_2 (fun v9 w9 h9 => ?_)
        obtain ⟨rfl, rfl⟩ := h9
        refine lx_perm [0, 1, 2, 3, 4, 5, 6, 7, 8, 9, 10, 11, 12, 13, 14, 15, 16, 17] [(x, .inr (3, [.ref ro, .ref kc, .ref mt, .ref cn, .ref h, .ref h2, .int z])), (ro, aJ K 10 gr), (kc, .inr (0, [.ref l0, .ref il, .ref ir, .ref np, .int mn])), (l0, aI K 120 fl), (il, aI K 120 fi), (ir, aI K 120 fr), (np, aI K 120 fn), (h, .inr (1, [.ref ca, .ref co, .int (nI u)])), (ca, aI K 120 fa), (co, aJ K 120 ga), (h2, .inr (1, [.ref ca2, .ref co2, .int t2])), (ca2, aI K 120 f2), (co2, aJ K 120 g2), (mt, .inr (2, [.ref fo, .ref ba, .ref wa, .int mm])), (fo, aI K 120 ffo), (ba, aI K 120 fba), (wa, aI K 120 fwa), (cn, aI K 120 fc)] (by decide) rfl ?_
        refine lx_st (a' := 0) (b' := 0) [] rfl rfl rfl ?_
        refine lx_iload_n F dX3_list_5 3 rfl ?_
        refine lx_iconst F dX3_list_6 kc_1 ?_
        refine lx_icmp_lt F 24 dX3_list_7 rfl (fun h1 => ?_) (fun h1 => ?_)
        · skip
          exact lx_throw F X (is := 75) (text := "no such run of roots") wt_53_57 rfl (by simp [lm_strs]) dX3_list_24 dX3_list_27 dX3_list_28 dX3_list_30 dX3_list_33 ⟨by decide, by decide, by decide, by decide⟩ (Nat.le_of_ble_eq_true rfl) (by show lm_obj K x _ _; rw [show lm_oList (nI k) (nI j) n (c, w, u, rt, z) = (2, (c, w, u, rt, z)) by unfold lm_oList; rw [lm_none_n hk, lm_none_n hj, if_neg (by decide), if_pos hlb]]; exact ⟨_, _, _, _, _, _, _, _, _, _, _, _, _, _, _, _, _, _, _, _, _, _, _, _, _, _, _, _, _, _, _, _, _, hh, hro, rfl⟩)
        · skip
          refine lx_iload_n F dX3_list_10 3 rfl ?_
          refine lx_bipush F dX3_list_11 kb_10 ?_
          refine lx_icmp_gt F 24 dX3_list_13 rfl (fun h2 => ?_) (fun h2 => ?_)
          · skip
            exact lx_throw F X (is := 75) (text := "no such run of roots") wt_53_57 rfl (by simp [lm_strs]) dX3_list_24 dX3_list_27 dX3_list_28 dX3_list_30 dX3_list_33 ⟨by decide, by decide, by decide, by decide⟩ (Nat.le_of_ble_eq_true rfl) (by show lm_obj K x _ _; rw [show lm_oList (nI k) (nI j) n (c, w, u, rt, z) = (2, (c, w, u, rt, z)) by unfold lm_oList; rw [lm_none_n hk, lm_none_n hj, if_neg (by decide), if_pos hlb]]; exact ⟨_, _, _, _, _, _, _, _, _, _, _, _, _, _, _, _, _, _, _, _, _, _, _, _, _, _, _, _, _, _, _, _, _, hh, hro, rfl⟩)
          · skip
            obtain ⟨m, rfl, hm1, hm2⟩ := lm_lb_m h1 h2
            have hm3 := lm_lb_t (by omega) (by omega) hm1 hm2 hlb
            refine lx_iload_n F dX3_list_16 3 rfl ?_
            refine lx_bipush F dX3_list_17 kb_10 ?_
            refine lx_iload_n F dX3_list_19 2 rfl ?_
            refine lx_isub F dX3_list_20 (pk_sub (by omega)) ?_
            refine lx_icmpN_le F 34 (by omega) (by omega) dX3_list_21 rfl (fun h => absurd h (by omega)) (fun _ => ?_)
            exact lx_throw F X (is := 75) (text := "no such run of roots") wt_53_57 rfl (by simp [lm_strs]) dX3_list_24 dX3_list_27 dX3_list_28 dX3_list_30 dX3_list_33 ⟨by decide, by decide, by decide, by decide⟩ (Nat.le_of_ble_eq_true rfl) (by show lm_obj K x _ _; rw [show lm_oList (nI k) (nI j) (nI m) (c, w, u, rt, z) = (2, (c, w, u, rt, z)) by unfold lm_oList; rw [lm_none_n hk, lm_none_n hj, if_neg (by decide), if_pos hlb]]; exact ⟨_, _, _, _, _, _, _, _, _, _, _, _, _, _, _, _, _, _, _, _, _, _, _, _, _, _, _, _, _, _, _, _, _, hh, hro, rfl⟩)
    · skip
      exact absurd hcd (by rw [show lm_oList (nI k) f n (c, w, u, rt, z) = (1, (c, w, u, rt, z)) by unfold lm_oList; rw [lm_none_n hk, hnf]; rfl]; simp)
  · skip
    exact absurd hcd (by rw [show lm_oList r f n (c, w, u, rt, z) = (1, (c, w, u, rt, z)) by unfold lm_oList; rw [hnr]; rfl]; simp)

set_option maxHeartbeats 4000000 in
set_option maxRecDepth 100000 in
theorem zX_list_3 (l : Launch) (K : lm_G) (x : Nat) (c : Nat → Nat) (w : Nat → lm_V) (u : Nat) (rt : Nat → lm_V) (z : Int32) (hst : lm_st c w u rt) (W : va_W) (hW : lm_obj K x (c, w, u, rt, z) W) (r f n : Int32) (hcd : (lm_oList r f n (c, w, u, rt, z)).1 = 3) : lm_CX l K mX3_list (rx 8) [.ref x, .int r, .int f, .int n] W eU (fun w9 => lm_obj K x (lm_oList r f n (c, w, u, rt, z)).2 w9) := by
  obtain ⟨ro, kc, l0, il, ir, np, h, ca, co, h2, ca2, co2, mt, fo, ba, wa, cn, gr, fl, fi, fr, fn, mn, fa, ga, f2, g2, t2, ffo, fba, fwa, mm, fc, hh, hro, rfl⟩ := hW
  have hh : lm_hf fa ga c w u := hh
  have hro : ∀ r, r < 10 → gr r = en (rt r) := hro
  have hw := hst.1
  have hr9 := hst.2
  have hu := hw.1
  refine lx_metX RX3 pn_X3 rfl (Nat.le_of_ble_eq_true rfl) (fun E hE F X => ?_)
  have F : lx_F K 6 E cX3_list RX3 none (rx 8) := F
  show lx_W K 6 E 0 0 0 [(0, .ref x), (1, .int r), (2, .int f), (3, .int n)] [] [(x, .inr (3, [.ref ro, .ref kc, .ref mt, .ref cn, .ref h, .ref h2, .int z])), (ro, aJ K 10 gr), (kc, .inr (0, [.ref l0, .ref il, .ref ir, .ref np, .int mn])), (l0, aI K 120 fl), (il, aI K 120 fi), (ir, aI K 120 fr), (np, aI K 120 fn), (h, .inr (1, [.ref ca, .ref co, .int (nI u)])), (ca, aI K 120 fa), (co, aJ K 120 ga), (h2, .inr (1, [.ref ca2, .ref co2, .int t2])), (ca2, aI K 120 f2), (co2, aJ K 120 g2), (mt, .inr (2, [.ref fo, .ref ba, .ref wa, .int mm])), (fo, aI K 120 ffo), (ba, aI K 120 fba), (wa, aI K 120 fwa), (cn, aI K 120 fc)]
  cases hnr : lm_none r
  · skip
    obtain ⟨k, hk, rfl⟩ := lm_none_f hnr
    cases hnf : lm_none f
    · skip
      obtain ⟨j, hj, rfl⟩ := lm_none_f hnf
      cases hlb : lm_lb (nI j) n
      · skip
        obtain ⟨m, rfl, hm1, hm2, hm3⟩ := lm_lb_f (by omega) hlb
        obtain ⟨c1, w1, u1, rt1, z1, hσ⟩ : ∃ c1 w1 u1 rt1 z1, lm_rm m (c, w, u, rt, z) = (c1, w1, u1, rt1, z1) := ⟨_, _, _, _, _, rfl⟩
        have hst1 : lm_st c1 w1 u1 rt1 := by have h9 : lm_sx (lm_rm m (c, w, u, rt, z)) := lm_sx_rm m hst; rw [hσ] at h9; exact h9
        have hw1 := hst1.1
        have hu1 := hw1.1
        by_cases hfit : u1 + m ≤ 120
        · skip
          exact absurd hcd (by rw [show lm_oList (nI k) (nI j) (nI m) (c, w, u, rt, z) = (0, lm_set (lm_ap (c1, w1, u1, rt1, z1) (lm_lsM rt1 j m)) k (2, ((u1 : Nat) : Int))) by unfold lm_oList; rw [lm_none_n hk, lm_none_n hj, if_neg (by decide), hlb, if_neg (by decide), lm_ix_n10 hm2, hσ, if_pos hfit, lm_ix_n hk, lm_ix_n hj]]; simp)
        · skip
          refine lx_iload_n F dX3_list_0 1 rfl ?_
          refine lx_iload_n F dX3_list_1 2 rfl ?_
          refine lx_cs F (zX_cks (xl E) K k j hk hj) cs_X3_64 [] [0, 1, 2, 3, 4, 5, 6, 7, 8, 9, 10, 11, 12, 13, 14, 15, 16, 17] [(x, .inr (3, [.ref ro, .ref kc, .ref mt, .ref cn, .ref h, .ref h2, .int z])), (ro, aJ K 10 gr), (kc, .inr (0, [.ref l0, .ref il, .ref ir, .ref np, .int mn])), (l0, aI K 120 fl), (il, aI K 120 fi), (ir, aI K 120 fr), (np, aI K 120 fn), (h, .inr (1, [.ref ca, .ref co, .int (nI u)])), (ca, aI K 120 fa), (co, aJ K 120 ga), (h2, .inr (1, [.ref ca2, .ref co2, .int t2])), (ca2, aI K 120 f2), (co2, aJ K 120 g2), (mt, .inr (2, [.ref fo, .ref ba, .ref wa, .int mm])), (fo, aI K 120 ffo), (ba, aI K 120 fba), (wa, aI K 120 fwa), (cn, aI K 120 fc)] rfl rfl (by decide) rfl (st := []) rfl (Nat.le_of_ble_eq_true rfl) (by decide) ⟨by decide, by decide⟩ dX3_list_2 (fun v9 w9 h9 => ?_)
          obtain ⟨rfl, rfl⟩ := h9
          refine lx_perm [0, 1, 2, 3, 4, 5, 6, 7, 8, 9, 10, 11, 12, 13, 14, 15, 16, 17] [(x, .inr (3, [.ref ro, .ref kc, .ref mt, .ref cn, .ref h, .ref h2, .int z])), (ro, aJ K 10 gr), (kc, .inr (0, [.ref l0, .ref il, .ref ir, .ref np, .int mn])), (l0, aI K 120 fl), (il, aI K 120 fi), (ir, aI K 120 fr), (np, aI K 120 fn), (h, .inr (1, [.ref ca, .ref co, .int (nI u)])), (ca, aI K 120 fa), (co, aJ K 120 ga), (h2, .inr (1, [.ref ca2, .ref co2, .int t2])), (ca2, aI K 120 f2), (co2, aJ K 120 g2), (mt, .inr (2, [.ref fo, .ref ba, .ref wa, .int mm])), (fo, aI K 120 ffo), (ba, aI K 120 fba), (wa, aI K 120 fwa), (cn, aI K 120 fc)] (by decide) rfl ?_
          refine lx_st (a' := 0) (b' := 0) [] rfl rfl rfl ?_
          refine lx_iload_n F dX3_list_5 3 rfl ?_
          refine lx_iconst F dX3_list_6 kc_1 ?_
          refine lx_icmpN_lt F 24 (by omega) (by omega) dX3_list_7 rfl (fun h => absurd h (by omega)) (fun _ => ?_)
          refine lx_iload_n F dX3_list_10 3 rfl ?_
          refine lx_bipush F dX3_list_11 kb_10 ?_
          refine lx_icmpN_gt F 24 (by omega) (by omega) dX3_list_13 rfl (fun h => absurd h (by omega)) (fun _ => ?_)
          refine lx_iload_n F dX3_list_16 3 rfl ?_
          refine lx_bipush F dX3_list_17 kb_10 ?_
          refine lx_iload_n F dX3_list_19 2 rfl ?_
          refine lx_isub F dX3_list_20 (pk_sub (by omega)) ?_
          refine lx_icmpN_le F 34 (by omega) (by omega) dX3_list_21 rfl (fun _ => ?_) (fun h => absurd h (by omega))
          refine lx_aload_n F dX3_list_34 0 rfl ?_
          refine lx_iload_n F dX3_list_35 3 rfl ?_
          exact lx_cvX F X (zX_roomx (xl E) K x c w u rt z hst _ ⟨_, _, _, _, _, _, _, _, _, _, _, _, _, _, _, _, _, _, _, _, _, _, _, _, _, _, _, _, _, _, _, _, _, hh, hro, rfl⟩ (m) (by omega) (c1, w1, u1, rt1, z1) hσ hfit) cv_X3_68 0 rfl rfl [0, 1, 2, 3, 4, 5, 6, 7, 8, 9, 10, 11, 12, 13, 14, 15, 16, 17] [] [] rfl rfl (by decide) rfl (st := []) rfl (Nat.le_of_ble_eq_true rfl) (by decide) ⟨by decide, by decide⟩ dX3_list_36 (fun w9 h9 => by show lm_obj K x _ _; rw [show lm_oList (nI k) (nI j) (nI m) (c, w, u, rt, z) = (3, (c1, w1, u1, rt1, z1)) by unfold lm_oList; rw [lm_none_n hk, lm_none_n hj, if_neg (by decide), hlb, if_neg (by decide), lm_ix_n10 hm2, hσ, if_neg hfit]]; exact h9)
      · skip
        exact absurd hcd (by rw [show lm_oList (nI k) (nI j) n (c, w, u, rt, z) = (2, (c, w, u, rt, z)) by unfold lm_oList; rw [lm_none_n hk, lm_none_n hj, if_neg (by decide), if_pos hlb]]; simp)
    · skip
      exact absurd hcd (by rw [show lm_oList (nI k) f n (c, w, u, rt, z) = (1, (c, w, u, rt, z)) by unfold lm_oList; rw [lm_none_n hk, hnf]; rfl]; simp)
  · skip
    exact absurd hcd (by rw [show lm_oList r f n (c, w, u, rt, z) = (1, (c, w, u, rt, z)) by unfold lm_oList; rw [hnr]; rfl]; simp)

set_option maxHeartbeats 4000000 in
set_option maxRecDepth 100000 in
theorem zX_setRest_0 (l : Launch) (K : lm_G) (x : Nat) (c : Nat → Nat) (w : Nat → lm_V) (u : Nat) (rt : Nat → lm_V) (z : Int32) (hst : lm_st c w u rt) (W : va_W) (hW : lm_obj K x (c, w, u, rt, z) W) (r f : Int32) (hcd : (lm_oSetRest r f (c, w, u, rt, z)).1 = 0) : lm_C l K mX3_setRest (rk 6) [.ref x, .int r, .int f] W (fun v9 w9 => v9 = none ∧ lm_obj K x (lm_oSetRest r f (c, w, u, rt, z)).2 w9) := by
  obtain ⟨ro, kc, l0, il, ir, np, h, ca, co, h2, ca2, co2, mt, fo, ba, wa, cn, gr, fl, fi, fr, fn, mn, fa, ga, f2, g2, t2, ffo, fba, fwa, mm, fc, hh, hro, rfl⟩ := hW
  have hh : lm_hf fa ga c w u := hh
  have hro : ∀ r, r < 10 → gr r = en (rt r) := hro
  have hw := hst.1
  have hr9 := hst.2
  have hu := hw.1
  refine lx_met RX3 pn_X3 rfl (Nat.le_of_ble_eq_true rfl) (fun E hE hnm F hR => ?_)
  have F : lx_F K 5 E cX3_setRest RX3 none (rk 6) := F
  show lx_W K 5 E 0 0 0 [(0, .ref x), (1, .int r), (2, .int f)] [] [(x, .inr (3, [.ref ro, .ref kc, .ref mt, .ref cn, .ref h, .ref h2, .int z])), (ro, aJ K 10 gr), (kc, .inr (0, [.ref l0, .ref il, .ref ir, .ref np, .int mn])), (l0, aI K 120 fl), (il, aI K 120 fi), (ir, aI K 120 fr), (np, aI K 120 fn), (h, .inr (1, [.ref ca, .ref co, .int (nI u)])), (ca, aI K 120 fa), (co, aJ K 120 ga), (h2, .inr (1, [.ref ca2, .ref co2, .int t2])), (ca2, aI K 120 f2), (co2, aJ K 120 g2), (mt, .inr (2, [.ref fo, .ref ba, .ref wa, .int mm])), (fo, aI K 120 ffo), (ba, aI K 120 fba), (wa, aI K 120 fwa), (cn, aI K 120 fc)]
  cases hnr : lm_none r
  · skip
    obtain ⟨k, hk, rfl⟩ := lm_none_f hnr
    cases hnf : lm_none f
    · skip
      obtain ⟨j, hj, rfl⟩ := lm_none_f hnf
      have hk3 := lm_ok_kind (hr9 k hk)
      by_cases h2e : (rt k).1 = 2
      · skip
        have hcl := lm_to_cl hw (hr9 k hk) h2e
        have hp1 := hcl.1
        by_cases hs : lm_same w (lm_rest c w (lm_to w (rt k))) (rt j) = true
        · skip
          refine lx_iload_n F dX3_setRest_0 1 rfl ?_
          refine lx_iload_n F dX3_setRest_1 2 rfl ?_
          refine lx_cs F (zX_cks (xl E) K k j hk hj) cs_X3_64 [] [0, 1, 2, 3, 4, 5, 6, 7, 8, 9, 10, 11, 12, 13, 14, 15, 16, 17] [(x, .inr (3, [.ref ro, .ref kc, .ref mt, .ref cn, .ref h, .ref h2, .int z])), (ro, aJ K 10 gr), (kc, .inr (0, [.ref l0, .ref il, .ref ir, .ref np, .int mn])), (l0, aI K 120 fl), (il, aI K 120 fi), (ir, aI K 120 fr), (np, aI K 120 fn), (h, .inr (1, [.ref ca, .ref co, .int (nI u)])), (ca, aI K 120 fa), (co, aJ K 120 ga), (h2, .inr (1, [.ref ca2, .ref co2, .int t2])), (ca2, aI K 120 f2), (co2, aJ K 120 g2), (mt, .inr (2, [.ref fo, .ref ba, .ref wa, .int mm])), (fo, aI K 120 ffo), (ba, aI K 120 fba), (wa, aI K 120 fwa), (cn, aI K 120 fc)] rfl rfl (by decide) rfl (st := []) rfl (Nat.le_of_ble_eq_true rfl) (by decide) ⟨by decide, by decide⟩ dX3_setRest_2 (fun v9 w9 h9 => ?_)
          obtain ⟨rfl, rfl⟩ := h9
          refine lx_perm [0, 1, 2, 3, 4, 5, 6, 7, 8, 9, 10, 11, 12, 13, 14, 15, 16, 17] [(x, .inr (3, [.ref ro, .ref kc, .ref mt, .ref cn, .ref h, .ref h2, .int z])), (ro, aJ K 10 gr), (kc, .inr (0, [.ref l0, .ref il, .ref ir, .ref np, .int mn])), (l0, aI K 120 fl), (il, aI K 120 fi), (ir, aI K 120 fr), (np, aI K 120 fn), (h, .inr (1, [.ref ca, .ref co, .int (nI u)])), (ca, aI K 120 fa), (co, aJ K 120 ga), (h2, .inr (1, [.ref ca2, .ref co2, .int t2])), (ca2, aI K 120 f2), (co2, aJ K 120 g2), (mt, .inr (2, [.ref fo, .ref ba, .ref wa, .int mm])), (fo, aI K 120 ffo), (ba, aI K 120 fba), (wa, aI K 120 fwa), (cn, aI K 120 fc)] (by decide) rfl ?_
          refine lx_st (a' := 0) (b' := 0) [] rfl rfl rfl ?_
          refine lx_aload_n F dX3_setRest_5 0 rfl ?_
          refine lx_iload_n F dX3_setRest_6 1 rfl ?_
          refine lx_cv F (zX_ckp (xl E) K x ro kc mt cn h h2 z gr k hk (rt k) (hro k hk) (by omega) h2e) cv_X3_84 0 rfl rfl [0, 1] [2, 3, 4, 5, 6, 7, 8, 9, 10, 11, 12, 13, 14, 15, 16, 17] [(kc, .inr (0, [.ref l0, .ref il, .ref ir, .ref np, .int mn])), (l0, aI K 120 fl), (il, aI K 120 fi), (ir, aI K 120 fr), (np, aI K 120 fn), (h, .inr (1, [.ref ca, .ref co, .int (nI u)])), (ca, aI K 120 fa), (co, aJ K 120 ga), (h2, .inr (1, [.ref ca2, .ref co2, .int t2])), (ca2, aI K 120 f2), (co2, aJ K 120 g2), (mt, .inr (2, [.ref fo, .ref ba, .ref wa, .int mm])), (fo, aI K 120 ffo), (ba, aI K 120 fba), (wa, aI K 120 fwa), (cn, aI K 120 fc)] rfl rfl (by decide) rfl (st := []) rfl (Nat.le_of_ble_eq_true rfl) (by decide) ⟨by decide, by decide⟩ dX3_setRest_7 (fun v9 w9 h9 => ?_)
          obtain ⟨rfl, rfl⟩ := h9
          refine lx_perm [16, 17, 0, 1, 2, 3, 4, 5, 6, 7, 8, 9, 10, 11, 12, 13, 14, 15] [(x, .inr (3, [.ref ro, .ref kc, .ref mt, .ref cn, .ref h, .ref h2, .int z])), (ro, aJ K 10 gr), (kc, .inr (0, [.ref l0, .ref il, .ref ir, .ref np, .int mn])), (l0, aI K 120 fl), (il, aI K 120 fi), (ir, aI K 120 fr), (np, aI K 120 fn), (h, .inr (1, [.ref ca, .ref co, .int (nI u)])), (ca, aI K 120 fa), (co, aJ K 120 ga), (h2, .inr (1, [.ref ca2, .ref co2, .int t2])), (ca2, aI K 120 f2), (co2, aJ K 120 g2), (mt, .inr (2, [.ref fo, .ref ba, .ref wa, .int mm])), (fo, aI K 120 ffo), (ba, aI K 120 fba), (wa, aI K 120 fwa), (cn, aI K 120 fc)] (by decide) rfl ?_
          refine lx_st (a' := 0) (b' := 0) [] rfl rfl rfl ?_
          refine lx_aload_n F dX3_setRest_10 0 rfl ?_
          refine gf_X3_34 F 0 rfl rfl dX3_setRest_11 ?_
          refine lx_aload_n F dX3_setRest_14 0 rfl ?_
          refine gf_X3_9 F 0 rfl rfl dX3_setRest_15 ?_
          refine lx_iload_n F dX3_setRest_18 1 rfl ?_
          refine lx_lald F 1 k dX3_setRest_19 rfl (by omega) (by decide) ?_
          rw [hro k hk]
          refine lx_cv F (zh_cellOf (xl E) K h ca co fa ga (nI u) c w u hw hh (rt k) (hr9 k hk) h2e) cv_X3_87 7 rfl rfl [7, 8, 9] [0, 1, 2, 3, 4, 5, 6, 10, 11, 12, 13, 14, 15, 16, 17] [(x, .inr (3, [.ref ro, .ref kc, .ref mt, .ref cn, .ref h, .ref h2, .int z])), (ro, aJ K 10 gr), (kc, .inr (0, [.ref l0, .ref il, .ref ir, .ref np, .int mn])), (l0, aI K 120 fl), (il, aI K 120 fi), (ir, aI K 120 fr), (np, aI K 120 fn), (h2, .inr (1, [.ref ca2, .ref co2, .int t2])), (ca2, aI K 120 f2), (co2, aJ K 120 g2), (mt, .inr (2, [.ref fo, .ref ba, .ref wa, .int mm])), (fo, aI K 120 ffo), (ba, aI K 120 fba), (wa, aI K 120 fwa), (cn, aI K 120 fc)] rfl rfl (by decide) rfl (st := []) rfl (Nat.le_of_ble_eq_true rfl) (by decide) ⟨by decide, by decide⟩ dX3_setRest_20 (fun v9 w9 h9 => ?_)
          obtain ⟨rfl, rfl⟩ := h9
          refine lx_perm [0, 1, 2, 3, 4, 5, 6, 15, 16, 17, 7, 8, 9, 10, 11, 12, 13, 14] [(x, .inr (3, [.ref ro, .ref kc, .ref mt, .ref cn, .ref h, .ref h2, .int z])), (ro, aJ K 10 gr), (kc, .inr (0, [.ref l0, .ref il, .ref ir, .ref np, .int mn])), (l0, aI K 120 fl), (il, aI K 120 fi), (ir, aI K 120 fr), (np, aI K 120 fn), (h, .inr (1, [.ref ca, .ref co, .int (nI u)])), (ca, aI K 120 fa), (co, aJ K 120 ga), (h2, .inr (1, [.ref ca2, .ref co2, .int t2])), (ca2, aI K 120 f2), (co2, aJ K 120 g2), (mt, .inr (2, [.ref fo, .ref ba, .ref wa, .int mm])), (fo, aI K 120 ffo), (ba, aI K 120 fba), (wa, aI K 120 fwa), (cn, aI K 120 fc)] (by decide) rfl ?_
          refine lx_st (a' := 0) (b' := 0) [.int (nI (lm_to w (rt k)))] rfl rfl rfl ?_
          refine lx_istore_n F [(0, .ref x), (1, .int (nI k)), (2, .int (nI j)), (3, .int (nI (lm_to w (rt k))))] [1, 2, 3, 0] dX3_setRest_23 rfl (by decide) ?_
          refine lx_aload_n F dX3_setRest_24 0 rfl ?_
          refine lx_aload_n F dX3_setRest_25 0 rfl ?_
          refine gf_X3_34 F 0 rfl rfl dX3_setRest_26 ?_
          refine lx_iload_n F dX3_setRest_29 3 rfl ?_
          refine lx_cv F (zh_restOf (xl E) K h ca co fa ga (nI u) c w u hw hh (lm_to w (rt k)) hcl) cv_X3_95 7 rfl rfl [7, 8, 9] [0, 1, 2, 3, 4, 5, 6, 10, 11, 12, 13, 14, 15, 16, 17] [(x, .inr (3, [.ref ro, .ref kc, .ref mt, .ref cn, .ref h, .ref h2, .int z])), (ro, aJ K 10 gr), (kc, .inr (0, [.ref l0, .ref il, .ref ir, .ref np, .int mn])), (l0, aI K 120 fl), (il, aI K 120 fi), (ir, aI K 120 fr), (np, aI K 120 fn), (h2, .inr (1, [.ref ca2, .ref co2, .int t2])), (ca2, aI K 120 f2), (co2, aJ K 120 g2), (mt, .inr (2, [.ref fo, .ref ba, .ref wa, .int mm])), (fo, aI K 120 ffo), (ba, aI K 120 fba), (wa, aI K 120 fwa), (cn, aI K 120 fc)] rfl rfl (by decide) rfl (st := [.ref x]) rfl (Nat.le_of_ble_eq_true rfl) (by decide) ⟨by decide, by decide⟩ dX3_setRest_30 (fun v9 w9 h9 => ?_)
          obtain ⟨rfl, rfl⟩ := h9
          refine lx_perm [0, 1, 2, 3, 4, 5, 6, 15, 16, 17, 7, 8, 9, 10, 11, 12, 13, 14] [(x, .inr (3, [.ref ro, .ref kc, .ref mt, .ref cn, .ref h, .ref h2, .int z])), (ro, aJ K 10 gr), (kc, .inr (0, [.ref l0, .ref il, .ref ir, .ref np, .int mn])), (l0, aI K 120 fl), (il, aI K 120 fi), (ir, aI K 120 fr), (np, aI K 120 fn), (h, .inr (1, [.ref ca, .ref co, .int (nI u)])), (ca, aI K 120 fa), (co, aJ K 120 ga), (h2, .inr (1, [.ref ca2, .ref co2, .int t2])), (ca2, aI K 120 f2), (co2, aJ K 120 g2), (mt, .inr (2, [.ref fo, .ref ba, .ref wa, .int mm])), (fo, aI K 120 ffo), (ba, aI K 120 fba), (wa, aI K 120 fwa), (cn, aI K 120 fc)] (by decide) rfl ?_
          refine lx_st (a' := 0) (b' := 0) [.long (en (lm_rest c w (lm_to w (rt k)))), .ref x] rfl rfl rfl ?_
          refine lx_aload_n F dX3_setRest_33 0 rfl ?_
          refine gf_X3_9 F 0 rfl rfl dX3_setRest_34 ?_
          refine lx_iload_n F dX3_setRest_37 2 rfl ?_
          refine lx_lald F 1 j dX3_setRest_38 rfl (by omega) (by decide) ?_
          rw [hro j hj]
          refine lx_cv F (zl_isSame (xl E) K x ro kc mt cn h2 z h ca co fa ga (nI u) c w u hw hh (lm_rest c w (lm_to w (rt k))) (rt j) (lm_rest_ok hw hcl) (hr9 j hj)) cv_X3_102 0 rfl rfl [0, 7, 8, 9] [1, 2, 3, 4, 5, 6, 10, 11, 12, 13, 14, 15, 16, 17] [(ro, aJ K 10 gr), (kc, .inr (0, [.ref l0, .ref il, .ref ir, .ref np, .int mn])), (l0, aI K 120 fl), (il, aI K 120 fi), (ir, aI K 120 fr), (np, aI K 120 fn), (h2, .inr (1, [.ref ca2, .ref co2, .int t2])), (ca2, aI K 120 f2), (co2, aJ K 120 g2), (mt, .inr (2, [.ref fo, .ref ba, .ref wa, .int mm])), (fo, aI K 120 ffo), (ba, aI K 120 fba), (wa, aI K 120 fwa), (cn, aI K 120 fc)] rfl rfl (by decide) rfl (st := []) rfl (Nat.le_of_ble_eq_true rfl) (by decide) ⟨by decide, by decide⟩ dX3_setRest_39 (fun v9 w9 h9 => ?_)
          obtain ⟨rfl, rfl⟩ := h9
          refine lx_perm [14, 0, 1, 2, 3, 4, 5, 15, 16, 17, 6, 7, 8, 9, 10, 11, 12, 13] [(x, .inr (3, [.ref ro, .ref kc, .ref mt, .ref cn, .ref h, .ref h2, .int z])), (ro, aJ K 10 gr), (kc, .inr (0, [.ref l0, .ref il, .ref ir, .ref np, .int mn])), (l0, aI K 120 fl), (il, aI K 120 fi), (ir, aI K 120 fr), (np, aI K 120 fn), (h, .inr (1, [.ref ca, .ref co, .int (nI u)])), (ca, aI K 120 fa), (co, aJ K 120 ga), (h2, .inr (1, [.ref ca2, .ref co2, .int t2])), (ca2, aI K 120 f2), (co2, aJ K 120 g2), (mt, .inr (2, [.ref fo, .ref ba, .ref wa, .int mm])), (fo, aI K 120 ffo), (ba, aI K 120 fba), (wa, aI K 120 fwa), (cn, aI K 120 fc)] (by decide) rfl ?_
          refine lx_st (a' := 0) (b' := 0) [.int (bI (lm_same w (lm_rest c w (lm_to w (rt k))) (rt j)))] rfl rfl rfl ?_
          rw [hs]
          refine lx_if_eq F 46 dX3_setRest_42 rfl (fun h => absurd h (by decide)) (fun _ => ?_)
          exact lx_vret F hR dX3_setRest_45 ⟨rfl, by rw [show lm_oSetRest (nI k) (nI j) (c, w, u, rt, z) = (0, (c, w, u, rt, z)) by unfold lm_oSetRest; rw [lm_none_n hk, lm_none_n hj, if_neg (by decide), lm_ix_n hk, if_neg (show ¬ (rt k).1 ≠ 2 from fun z9 => z9 h2e), lm_ix_n hj, if_pos hs]]; exact ⟨_, _, _, _, _, _, _, _, _, _, _, _, _, _, _, _, _, _, _, _, _, _, _, _, _, _, _, _, _, _, _, _, _, hh, hro, rfl⟩⟩
        · skip
          have hs2 : lm_same w (lm_rest c w (lm_to w (rt k))) (rt j) = false := by cases h9 : lm_same w (lm_rest c w (lm_to w (rt k))) (rt j) with
            | false => rfl
            | true => exact absurd h9 hs
          have hc3 := hw.2.1 _ hp1
          by_cases h6 : c (lm_to w (rt k)) = 2
          · skip
            have hp3 := hw.2.2.2.1 _ hp1 h6
            have hp4 := hp3.1
            refine lx_iload_n F dX3_setRest_0 1 rfl ?_
            refine lx_iload_n F dX3_setRest_1 2 rfl ?_
            refine lx_cs F (zX_cks (xl E) K k j hk hj) cs_X3_64 [] [0, 1, 2, 3, 4, 5, 6, 7, 8, 9, 10, 11, 12, 13, 14, 15, 16, 17] [(x, .inr (3, [.ref ro, .ref kc, .ref mt, .ref cn, .ref h, .ref h2, .int z])), (ro, aJ K 10 gr), (kc, .inr (0, [.ref l0, .ref il, .ref ir, .ref np, .int mn])), (l0, aI K 120 fl), (il, aI K 120 fi), (ir, aI K 120 fr), (np, aI K 120 fn), (h, .inr (1, [.ref ca, .ref co, .int (nI u)])), (ca, aI K 120 fa), (co, aJ K 120 ga), (h2, .inr (1, [.ref ca2, .ref co2, .int t2])), (ca2, aI K 120 f2), (co2, aJ K 120 g2), (mt, .inr (2, [.ref fo, .ref ba, .ref wa, .int mm])), (fo, aI K 120 ffo), (ba, aI K 120 fba), (wa, aI K 120 fwa), (cn, aI K 120 fc)] rfl rfl (by decide) rfl (st := []) rfl (Nat.le_of_ble_eq_true rfl) (by decide) ⟨by decide, by decide⟩ dX3_setRest_2 (fun v9 w9 h9 => ?_)
            obtain ⟨rfl, rfl⟩ := h9
            refine lx_perm [0, 1, 2, 3, 4, 5, 6, 7, 8, 9, 10, 11, 12, 13, 14, 15, 16, 17] [(x, .inr (3, [.ref ro, .ref kc, .ref mt, .ref cn, .ref h, .ref h2, .int z])), (ro, aJ K 10 gr), (kc, .inr (0, [.ref l0, .ref il, .ref ir, .ref np, .int mn])), (l0, aI K 120 fl), (il, aI K 120 fi), (ir, aI K 120 fr), (np, aI K 120 fn), (h, .inr (1, [.ref ca, .ref co, .int (nI u)])), (ca, aI K 120 fa), (co, aJ K 120 ga), (h2, .inr (1, [.ref ca2, .ref co2, .int t2])), (ca2, aI K 120 f2), (co2, aJ K 120 g2), (mt, .inr (2, [.ref fo, .ref ba, .ref wa, .int mm])), (fo, aI K 120 ffo), (ba, aI K 120 fba), (wa, aI K 120 fwa), (cn, aI K 120 fc)] (by decide) rfl ?_
            refine lx_st (a' := 0) (b' := 0) [] rfl rfl rfl ?_
            refine lx_aload_n F dX3_setRest_5 0 rfl ?_
            refine lx_iload_n F dX3_setRest_6 1 rfl ?_
            refine lx_cv F (zX_ckp (xl E) K x ro kc mt cn h h2 z gr k hk (rt k) (hro k hk) (by omega) h2e) cv_X3_84 0 rfl rfl [0, 1] [2, 3, 4, 5, 6, 7, 8, 9, 10, 11, 12, 13, 14, 15, 16, 17] [(kc, .inr (0, [.ref l0, .ref il, .ref ir, .ref np, .int mn])), (l0, aI K 120 fl), (il, aI K 120 fi), (ir, aI K 120 fr), (np, aI K 120 fn), (h, .inr (1, [.ref ca, .ref co, .int (nI u)])), (ca, aI K 120 fa), (co, aJ K 120 ga), (h2, .inr (1, [.ref ca2, .ref co2, .int t2])), (ca2, aI K 120 f2), (co2, aJ K 120 g2), (mt, .inr (2, [.ref fo, .ref ba, .ref wa, .int mm])), (fo, aI K 120 ffo), (ba, aI K 120 fba), (wa, aI K 120 fwa), (cn, aI K 120 fc)] rfl rfl (by decide) rfl (st := []) rfl (Nat.le_of_ble_eq_true rfl) (by decide) ⟨by decide, by decide⟩ dX3_setRest_7 (fun v9 w9 h9 => ?_)
            obtain ⟨rfl, rfl⟩ := h9
            refine lx_perm [16, 17, 0, 1, 2, 3, 4, 5, 6, 7, 8, 9, 10, 11, 12, 13, 14, 15] [(x, .inr (3, [.ref ro, .ref kc, .ref mt, .ref cn, .ref h, .ref h2, .int z])), (ro, aJ K 10 gr), (kc, .inr (0, [.ref l0, .ref il, .ref ir, .ref np, .int mn])), (l0, aI K 120 fl), (il, aI K 120 fi), (ir, aI K 120 fr), (np, aI K 120 fn), (h, .inr (1, [.ref ca, .ref co, .int (nI u)])), (ca, aI K 120 fa), (co, aJ K 120 ga), (h2, .inr (1, [.ref ca2, .ref co2, .int t2])), (ca2, aI K 120 f2), (co2, aJ K 120 g2), (mt, .inr (2, [.ref fo, .ref ba, .ref wa, .int mm])), (fo, aI K 120 ffo), (ba, aI K 120 fba), (wa, aI K 120 fwa), (cn, aI K 120 fc)] (by decide) rfl ?_
            refine lx_st (a' := 0) (b' := 0) [] rfl rfl rfl ?_
            refine lx_aload_n F dX3_setRest_10 0 rfl ?_
            refine gf_X3_34 F 0 rfl rfl dX3_setRest_11 ?_
            refine lx_aload_n F dX3_setRest_14 0 rfl ?_
            refine gf_X3_9 F 0 rfl rfl dX3_setRest_15 ?_
            refine lx_iload_n F dX3_setRest_18 1 rfl ?_
            refine lx_lald F 1 k dX3_setRest_19 rfl (by omega) (by decide) ?_
            rw [hro k hk]
            refine lx_cv F (zh_cellOf (xl E) K h ca co fa ga (nI u) c w u hw hh (rt k) (hr9 k hk) h2e) cv_X3_87 7 rfl rfl [7, 8, 9] [0, 1, 2, 3, 4, 5, 6, 10, 11, 12, 13, 14, 15, 16, 17] [(x, .inr (3, [.ref ro, .ref kc, .ref mt, .ref cn, .ref h, .ref h2, .int z])), (ro, aJ K 10 gr), (kc, .inr (0, [.ref l0, .ref il, .ref ir, .ref np, .int mn])), (l0, aI K 120 fl), (il, aI K 120 fi), (ir, aI K 120 fr), (np, aI K 120 fn), (h2, .inr (1, [.ref ca2, .ref co2, .int t2])), (ca2, aI K 120 f2), (co2, aJ K 120 g2), (mt, .inr (2, [.ref fo, .ref ba, .ref wa, .int mm])), (fo, aI K 120 ffo), (ba, aI K 120 fba), (wa, aI K 120 fwa), (cn, aI K 120 fc)] rfl rfl (by decide) rfl (st := []) rfl (Nat.le_of_ble_eq_true rfl) (by decide) ⟨by decide, by decide⟩ dX3_setRest_20 (fun v9 w9 h9 => ?_)
            obtain ⟨rfl, rfl⟩ := h9
            refine lx_perm [0, 1, 2, 3, 4, 5, 6, 15, 16, 17, 7, 8, 9, 10, 11, 12, 13, 14] [(x, .inr (3, [.ref ro, .ref kc, .ref mt, .ref cn, .ref h, .ref h2, .int z])), (ro, aJ K 10 gr), (kc, .inr (0, [.ref l0, .ref il, .ref ir, .ref np, .int mn])), (l0, aI K 120 fl), (il, aI K 120 fi), (ir, aI K 120 fr), (np, aI K 120 fn), (h, .inr (1, [.ref ca, .ref co, .int (nI u)])), (ca, aI K 120 fa), (co, aJ K 120 ga), (h2, .inr (1, [.ref ca2, .ref co2, .int t2])), (ca2, aI K 120 f2), (co2, aJ K 120 g2), (mt, .inr (2, [.ref fo, .ref ba, .ref wa, .int mm])), (fo, aI K 120 ffo), (ba, aI K 120 fba), (wa, aI K 120 fwa), (cn, aI K 120 fc)] (by decide) rfl ?_
            refine lx_st (a' := 0) (b' := 0) [.int (nI (lm_to w (rt k)))] rfl rfl rfl ?_
            refine lx_istore_n F [(0, .ref x), (1, .int (nI k)), (2, .int (nI j)), (3, .int (nI (lm_to w (rt k))))] [1, 2, 3, 0] dX3_setRest_23 rfl (by decide) ?_
            refine lx_aload_n F dX3_setRest_24 0 rfl ?_
            refine lx_aload_n F dX3_setRest_25 0 rfl ?_
            refine gf_X3_34 F 0 rfl rfl dX3_setRest_26 ?_
            refine lx_iload_n F dX3_setRest_29 3 rfl ?_
            refine lx_cv F (zh_restOf (xl E) K h ca co fa ga (nI u) c w u hw hh (lm_to w (rt k)) hcl) cv_X3_95 7 rfl rfl [7, 8, 9] [0, 1, 2, 3, 4, 5, 6, 10, 11, 12, 13, 14, 15, 16, 17] [(x, .inr (3, [.ref ro, .ref kc, .ref mt, .ref cn, .ref h, .ref h2, .int z])), (ro, aJ K 10 gr), (kc, .inr (0, [.ref l0, .ref il, .ref ir, .ref np, .int mn])), (l0, aI K 120 fl), (il, aI K 120 fi), (ir, aI K 120 fr), (np, aI K 120 fn), (h2, .inr (1, [.ref ca2, .ref co2, .int t2])), (ca2, aI K 120 f2), (co2, aJ K 120 g2), (mt, .inr (2, [.ref fo, .ref ba, .ref wa, .int mm])), (fo, aI K 120 ffo), (ba, aI K 120 fba), (wa, aI K 120 fwa), (cn, aI K 120 fc)] rfl rfl (by decide) rfl (st := [.ref x]) rfl (Nat.le_of_ble_eq_true rfl) (by decide) ⟨by decide, by decide⟩ dX3_setRest_30 (fun v9 w9 h9 => ?_)
            obtain ⟨rfl, rfl⟩ := h9
            refine lx_perm [0, 1, 2, 3, 4, 5, 6, 15, 16, 17, 7, 8, 9, 10, 11, 12, 13, 14] [(x, .inr (3, [.ref ro, .ref kc, .ref mt, .ref cn, .ref h, .ref h2, .int z])), (ro, aJ K 10 gr), (kc, .inr (0, [.ref l0, .ref il, .ref ir, .ref np, .int mn])), (l0, aI K 120 fl), (il, aI K 120 fi), (ir, aI K 120 fr), (np, aI K 120 fn), (h, .inr (1, [.ref ca, .ref co, .int (nI u)])), (ca, aI K 120 fa), (co, aJ K 120 ga), (h2, .inr (1, [.ref ca2, .ref co2, .int t2])), (ca2, aI K 120 f2), (co2, aJ K 120 g2), (mt, .inr (2, [.ref fo, .ref ba, .ref wa, .int mm])), (fo, aI K 120 ffo), (ba, aI K 120 fba), (wa, aI K 120 fwa), (cn, aI K 120 fc)] (by decide) rfl ?_
            refine lx_st (a' := 0) (b' := 0) [.long (en (lm_rest c w (lm_to w (rt k)))), .ref x] rfl rfl rfl ?_
            refine lx_aload_n F dX3_setRest_33 0 rfl ?_
            refine gf_X3_9 F 0 rfl rfl dX3_setRest_34 ?_
            refine lx_iload_n F dX3_setRest_37 2 rfl ?_
            refine lx_lald F 1 j dX3_setRest_38 rfl (by omega) (by decide) ?_
            rw [hro j hj]
            refine lx_cv F (zl_isSame (xl E) K x ro kc mt cn h2 z h ca co fa ga (nI u) c w u hw hh (lm_rest c w (lm_to w (rt k))) (rt j) (lm_rest_ok hw hcl) (hr9 j hj)) cv_X3_102 0 rfl rfl [0, 7, 8, 9] [1, 2, 3, 4, 5, 6, 10, 11, 12, 13, 14, 15, 16, 17] [(ro, aJ K 10 gr), (kc, .inr (0, [.ref l0, .ref il, .ref ir, .ref np, .int mn])), (l0, aI K 120 fl), (il, aI K 120 fi), (ir, aI K 120 fr), (np, aI K 120 fn), (h2, .inr (1, [.ref ca2, .ref co2, .int t2])), (ca2, aI K 120 f2), (co2, aJ K 120 g2), (mt, .inr (2, [.ref fo, .ref ba, .ref wa, .int mm])), (fo, aI K 120 ffo), (ba, aI K 120 fba), (wa, aI K 120 fwa), (cn, aI K 120 fc)] rfl rfl (by decide) rfl (st := []) rfl (Nat.le_of_ble_eq_true rfl) (by decide) ⟨by decide, by decide⟩ dX3_setRest_39 (fun v9 w9 h9 => ?_)
            obtain ⟨rfl, rfl⟩ := h9
            refine lx_perm [14, 0, 1, 2, 3, 4, 5, 15, 16, 17, 6, 7, 8, 9, 10, 11, 12, 13] [(x, .inr (3, [.ref ro, .ref kc, .ref mt, .ref cn, .ref h, .ref h2, .int z])), (ro, aJ K 10 gr), (kc, .inr (0, [.ref l0, .ref il, .ref ir, .ref np, .int mn])), (l0, aI K 120 fl), (il, aI K 120 fi), (ir, aI K 120 fr), (np, aI K 120 fn), (h, .inr (1, [.ref ca, .ref co, .int (nI u)])), (ca, aI K 120 fa), (co, aJ K 120 ga), (h2, .inr (1, [.ref ca2, .ref co2, .int t2])), (ca2, aI K 120 f2), (co2, aJ K 120 g2), (mt, .inr (2, [.ref fo, .ref ba, .ref wa, .int mm])), (fo, aI K 120 ffo), (ba, aI K 120 fba), (wa, aI K 120 fwa), (cn, aI K 120 fc)] (by decide) rfl ?_
            refine lx_st (a' := 0) (b' := 0) [.int (bI (lm_same w (lm_rest c w (lm_to w (rt k))) (rt j)))] rfl rfl rfl ?_
            rw [hs2]
            refine lx_if_eq F 46 dX3_setRest_42 rfl (fun _ => ?_) (fun h => absurd (by decide) h)
            refine lx_aload_n F dX3_setRest_46 0 rfl ?_
            refine gf_X3_34 F 0 rfl rfl dX3_setRest_47 ?_
            refine lx_iload_n F dX3_setRest_50 3 rfl ?_
            refine lx_cv F (zh_codeAt (xl E) K h ca co fa ga (nI u) (lm_to w (rt k)) (by omega) (nI (c (lm_to w (rt k)))) (hh _ hp1).1) cv_X3_106 7 rfl rfl [7, 8, 9] [0, 1, 2, 3, 4, 5, 6, 10, 11, 12, 13, 14, 15, 16, 17] [(x, .inr (3, [.ref ro, .ref kc, .ref mt, .ref cn, .ref h, .ref h2, .int z])), (ro, aJ K 10 gr), (kc, .inr (0, [.ref l0, .ref il, .ref ir, .ref np, .int mn])), (l0, aI K 120 fl), (il, aI K 120 fi), (ir, aI K 120 fr), (np, aI K 120 fn), (h2, .inr (1, [.ref ca2, .ref co2, .int t2])), (ca2, aI K 120 f2), (co2, aJ K 120 g2), (mt, .inr (2, [.ref fo, .ref ba, .ref wa, .int mm])), (fo, aI K 120 ffo), (ba, aI K 120 fba), (wa, aI K 120 fwa), (cn, aI K 120 fc)] rfl rfl (by decide) rfl (st := []) rfl (Nat.le_of_ble_eq_true rfl) (by decide) ⟨by decide, by decide⟩ dX3_setRest_51 (fun v9 w9 h9 => ?_)
            obtain ⟨rfl, rfl⟩ := h9
            refine lx_perm [0, 1, 2, 3, 4, 5, 6, 15, 16, 17, 7, 8, 9, 10, 11, 12, 13, 14] [(x, .inr (3, [.ref ro, .ref kc, .ref mt, .ref cn, .ref h, .ref h2, .int z])), (ro, aJ K 10 gr), (kc, .inr (0, [.ref l0, .ref il, .ref ir, .ref np, .int mn])), (l0, aI K 120 fl), (il, aI K 120 fi), (ir, aI K 120 fr), (np, aI K 120 fn), (h, .inr (1, [.ref ca, .ref co, .int (nI u)])), (ca, aI K 120 fa), (co, aJ K 120 ga), (h2, .inr (1, [.ref ca2, .ref co2, .int t2])), (ca2, aI K 120 f2), (co2, aJ K 120 g2), (mt, .inr (2, [.ref fo, .ref ba, .ref wa, .int mm])), (fo, aI K 120 ffo), (ba, aI K 120 fba), (wa, aI K 120 fwa), (cn, aI K 120 fc)] (by decide) rfl ?_
            refine lx_st (a' := 0) (b' := 0) [.int (nI (c (lm_to w (rt k))))] rfl rfl rfl ?_
            refine lx_iconst F dX3_setRest_54 kc_2 ?_
            refine lx_icmpN_eq F 77 (by omega) (by omega) dX3_setRest_55 rfl (fun _ => ?_) (fun h => absurd h (by omega))
            refine lx_aload_n F dX3_setRest_77 0 rfl ?_
            refine gf_X3_34 F 0 rfl rfl dX3_setRest_78 ?_
            refine lx_iload_n F dX3_setRest_81 3 rfl ?_
            refine lx_cv F (zh_codeAt (xl E) K h ca co fa ga (nI u) (lm_to w (rt k)) (by omega) (nI (c (lm_to w (rt k)))) (hh _ hp1).1) cv_X3_106 7 rfl rfl [7, 8, 9] [0, 1, 2, 3, 4, 5, 6, 10, 11, 12, 13, 14, 15, 16, 17] [(x, .inr (3, [.ref ro, .ref kc, .ref mt, .ref cn, .ref h, .ref h2, .int z])), (ro, aJ K 10 gr), (kc, .inr (0, [.ref l0, .ref il, .ref ir, .ref np, .int mn])), (l0, aI K 120 fl), (il, aI K 120 fi), (ir, aI K 120 fr), (np, aI K 120 fn), (h2, .inr (1, [.ref ca2, .ref co2, .int t2])), (ca2, aI K 120 f2), (co2, aJ K 120 g2), (mt, .inr (2, [.ref fo, .ref ba, .ref wa, .int mm])), (fo, aI K 120 ffo), (ba, aI K 120 fba), (wa, aI K 120 fwa), (cn, aI K 120 fc)] rfl rfl (by decide) rfl (st := []) rfl (Nat.le_of_ble_eq_true rfl) (by decide) ⟨by decide, by decide⟩ dX3_setRest_82 (fun v9 w9 h9 => ?_)
            obtain ⟨rfl, rfl⟩ := h9
            refine lx_perm [0, 1, 2, 3, 4, 5, 6, 15, 16, 17, 7, 8, 9, 10, 11, 12, 13, 14] [(x, .inr (3, [.ref ro, .ref kc, .ref mt, .ref cn, .ref h, .ref h2, .int z])), (ro, aJ K 10 gr), (kc, .inr (0, [.ref l0, .ref il, .ref ir, .ref np, .int mn])), (l0, aI K 120 fl), (il, aI K 120 fi), (ir, aI K 120 fr), (np, aI K 120 fn), (h, .inr (1, [.ref ca, .ref co, .int (nI u)])), (ca, aI K 120 fa), (co, aJ K 120 ga), (h2, .inr (1, [.ref ca2, .ref co2, .int t2])), (ca2, aI K 120 f2), (co2, aJ K 120 g2), (mt, .inr (2, [.ref fo, .ref ba, .ref wa, .int mm])), (fo, aI K 120 ffo), (ba, aI K 120 fba), (wa, aI K 120 fwa), (cn, aI K 120 fc)] (by decide) rfl ?_
            refine lx_st (a' := 0) (b' := 0) [.int (nI (c (lm_to w (rt k))))] rfl rfl rfl ?_
            refine lx_iconst F dX3_setRest_85 kc_2 ?_
            refine lx_icmpN_ne F 108 (by omega) (by omega) dX3_setRest_86 rfl (fun h => absurd h (by omega)) (fun _ => ?_)
            refine lx_aload_n F dX3_setRest_89 0 rfl ?_
            refine gf_X3_34 F 0 rfl rfl dX3_setRest_90 ?_
            refine lx_iload_n F dX3_setRest_93 3 rfl ?_
            refine lx_iconst F dX3_setRest_94 kc_1 ?_
            refine lx_iadd F dX3_setRest_95 (nI_add _ _) ?_
            refine lx_aload_n F dX3_setRest_96 0 rfl ?_
            refine gf_X3_9 F 0 rfl rfl dX3_setRest_97 ?_
            refine lx_iload_n F dX3_setRest_100 2 rfl ?_
            refine lx_lald F 1 j dX3_setRest_101 rfl (by omega) (by decide) ?_
            rw [hro j hj]
            refine lx_cv F (zh_setContent (xl E) K h ca co fa ga (nI u) (lm_to w (rt k) + 1) (by omega) (en (rt j))) cv_X3_98 7 rfl rfl [7, 8, 9] [0, 1, 2, 3, 4, 5, 6, 10, 11, 12, 13, 14, 15, 16, 17] [(x, .inr (3, [.ref ro, .ref kc, .ref mt, .ref cn, .ref h, .ref h2, .int z])), (ro, aJ K 10 gr), (kc, .inr (0, [.ref l0, .ref il, .ref ir, .ref np, .int mn])), (l0, aI K 120 fl), (il, aI K 120 fi), (ir, aI K 120 fr), (np, aI K 120 fn), (h2, .inr (1, [.ref ca2, .ref co2, .int t2])), (ca2, aI K 120 f2), (co2, aJ K 120 g2), (mt, .inr (2, [.ref fo, .ref ba, .ref wa, .int mm])), (fo, aI K 120 ffo), (ba, aI K 120 fba), (wa, aI K 120 fwa), (cn, aI K 120 fc)] rfl rfl (by decide) rfl (st := []) rfl (Nat.le_of_ble_eq_true rfl) (by decide) ⟨by decide, by decide⟩ dX3_setRest_102 (fun v9 w9 h9 => ?_)
            obtain ⟨rfl, rfl⟩ := h9
            refine lx_perm [0, 1, 2, 3, 4, 5, 6, 15, 16, 17, 7, 8, 9, 10, 11, 12, 13, 14] [(x, .inr (3, [.ref ro, .ref kc, .ref mt, .ref cn, .ref h, .ref h2, .int z])), (ro, aJ K 10 gr), (kc, .inr (0, [.ref l0, .ref il, .ref ir, .ref np, .int mn])), (l0, aI K 120 fl), (il, aI K 120 fi), (ir, aI K 120 fr), (np, aI K 120 fn), (h, .inr (1, [.ref ca, .ref co, .int (nI u)])), (ca, aI K 120 fa), (co, aJ K 120 (lm_up ga (lm_to w (rt k) + 1) (en (rt j)))), (h2, .inr (1, [.ref ca2, .ref co2, .int t2])), (ca2, aI K 120 f2), (co2, aJ K 120 g2), (mt, .inr (2, [.ref fo, .ref ba, .ref wa, .int mm])), (fo, aI K 120 ffo), (ba, aI K 120 fba), (wa, aI K 120 fwa), (cn, aI K 120 fc)] (by decide) rfl ?_
            refine lx_st (a' := 0) (b' := 0) [] rfl rfl rfl ?_
            refine lx_goto F 146 dX3_setRest_105 rfl ?_
            exact lx_vret F hR dX3_setRest_146 ⟨rfl, by rw [show lm_oSetRest (nI k) (nI j) (c, w, u, rt, z) = (0, lm_pt (c, w, u, rt, z) (lm_to w (rt k) + 1) (rt j)) by unfold lm_oSetRest; rw [lm_none_n hk, lm_none_n hj, if_neg (by decide), lm_ix_n hk, if_neg (show ¬ (rt k).1 ≠ 2 from fun z9 => z9 h2e), lm_ix_n hj, if_neg hs, if_pos h6]; exact congrArg (Prod.mk 0) (if_pos h6)]; exact ⟨_, _, _, _, _, _, _, _, _, _, _, _, _, _, _, _, _, _, _, _, _, _, _, _, _, _, _, _, _, _, _, _, _, (lm_hf_up (v := rt j) hh), hro, rfl⟩⟩
          · skip
            obtain ⟨c1, w1, u1, rt1, z1, hσ⟩ : ∃ c1 w1 u1 rt1 z1, lm_rm 2 (c, w, u, rt, z) = (c1, w1, u1, rt1, z1) := ⟨_, _, _, _, _, rfl⟩
            have hst1 : lm_st c1 w1 u1 rt1 := by have h9 : lm_sx (lm_rm 2 (c, w, u, rt, z)) := lm_sx_rm 2 hst; rw [hσ] at h9; exact h9
            have hw1 := hst1.1
            have hu1 := hw1.1
            by_cases hfit : u1 + 2 ≤ 120
            · skip
              have h21 : (rt1 k).1 = 2 := lm_rm_k hσ h2e
              have hcl1 := lm_to_cl hw1 (hst1.2 k hk) h21
              have hp2 := hcl1.1
              have hc31 := hw1.2.1 _ hp2
              by_cases h7 : c1 (lm_to w1 (rt1 k)) = 2
              · skip
                have hp3 := hw1.2.2.2.1 _ hp2 h7
                have hp4 := hp3.1
                refine lx_iload_n F dX3_setRest_0 1 rfl ?_
                refine lx_iload_n F dX3_setRest_1 2 rfl ?_
                refine lx_cs F (zX_cks (xl E) K k j hk hj) cs_X3_64 [] [0, 1, 2, 3, 4, 5, 6, 7, 8, 9, 10, 11, 12, 13, 14, 15, 16, 17] [(x, .inr (3, [.ref ro, .ref kc, .ref mt, .ref cn, .ref h, .ref h2, .int z])), (ro, aJ K 10 gr), (kc, .inr (0, [.ref l0, .ref il, .ref ir, .ref np, .int mn])), (l0, aI K 120 fl), (il, aI K 120 fi), (ir, aI K 120 fr), (np, aI K 120 fn), (h, .inr (1, [.ref ca, .ref co, .int (nI u)])), (ca, aI K 120 fa), (co, aJ K 120 ga), (h2, .inr (1, [.ref ca2, .ref co2, .int t2])), (ca2, aI K 120 f2), (co2, aJ K 120 g2), (mt, .inr (2, [.ref fo, .ref ba, .ref wa, .int mm])), (fo, aI K 120 ffo), (ba, aI K 120 fba), (wa, aI K 120 fwa), (cn, aI K 120 fc)] rfl rfl (by decide) rfl (st := []) rfl (Nat.le_of_ble_eq_true rfl) (by decide) ⟨by decide, by decide⟩ dX3_setRest_2 (fun v9 w9 h9 => ?_)
                obtain ⟨rfl, rfl⟩ := h9
                refine lx_perm [0, 1, 2, 3, 4, 5, 6, 7, 8, 9, 10, 11, 12, 13, 14, 15, 16, 17] [(x, .inr (3, [.ref ro, .ref kc, .ref mt, .ref cn, .ref h, .ref h2, .int z])), (ro, aJ K 10 gr), (kc, .inr (0, [.ref l0, .ref il, .ref ir, .ref np, .int mn])), (l0, aI K 120 fl), (il, aI K 120 fi), (ir, aI K 120 fr), (np, aI K 120 fn), (h, .inr (1, [.ref ca, .ref co, .int (nI u)])), (ca, aI K 120 fa), (co, aJ K 120 ga), (h2, .inr (1, [.ref ca2, .ref co2, .int t2])), (ca2, aI K 120 f2), (co2, aJ K 120 g2), (mt, .inr (2, [.ref fo, .ref ba, .ref wa, .int mm])), (fo, aI K 120 ffo), (ba, aI K 120 fba), (wa, aI K 120 fwa), (cn, aI K 120 fc)] (by decide) rfl ?_
                refine lx_st (a' := 0) (b' := 0) [] rfl rfl rfl ?_
                refine lx_aload_n F dX3_setRest_5 0 rfl ?_
                refine lx_iload_n F dX3_setRest_6 1 rfl ?_
                refine lx_cv F (zX_ckp (xl E) K x ro kc mt cn h h2 z gr k hk (rt k) (hro k hk) (by omega) h2e) cv_X3_84 0 rfl rfl [0, 1] [2, 3, 4, 5, 6, 7, 8, 9, 10, 11, 12, 13, 14, 15, 16, 17] [(kc, .inr (0, [.ref l0, .ref il, .ref ir, .ref np, .int mn])), (l0, aI K 120 fl), (il, aI K 120 fi), (ir, aI K 120 fr), (np, aI K 120 fn), (h, .inr (1, [.ref ca, .ref co, .int (nI u)])), (ca, aI K 120 fa), (co, aJ K 120 ga), (h2, .inr (1, [.ref ca2, .ref co2, .int t2])), (ca2, aI K 120 f2), (co2, aJ K 120 g2), (mt, .inr (2, [.ref fo, .ref ba, .ref wa, .int mm])), (fo, aI K 120 ffo), (ba, aI K 120 fba), (wa, aI K 120 fwa), (cn, aI K 120 fc)] rfl rfl (by decide) rfl (st := []) rfl (Nat.le_of_ble_eq_true rfl) (by decide) ⟨by decide, by decide⟩ dX3_setRest_7 (fun v9 w9 h9 => ?_)
                obtain ⟨rfl, rfl⟩ := h9
                refine lx_perm [16, 17, 0, 1, 2, 3, 4, 5, 6, 7, 8, 9, 10, 11, 12, 13, 14, 15] [(x, .inr (3, [.ref ro, .ref kc, .ref mt, .ref cn, .ref h, .ref h2, .int z])), (ro, aJ K 10 gr), (kc, .inr (0, [.ref l0, .ref il, .ref ir, .ref np, .int mn])), (l0, aI K 120 fl), (il, aI K 120 fi), (ir, aI K 120 fr), (np, aI K 120 fn), (h, .inr (1, [.ref ca, .ref co, .int (nI u)])), (ca, aI K 120 fa), (co, aJ K 120 ga), (h2, .inr (1, [.ref ca2, .ref co2, .int t2])), (ca2, aI K 120 f2), (co2, aJ K 120 g2), (mt, .inr (2, [.ref fo, .ref ba, .ref wa, .int mm])), (fo, aI K 120 ffo), (ba, aI K 120 fba), (wa, aI K 120 fwa), (cn, aI K 120 fc)] (by decide) rfl ?_
                refine lx_st (a' := 0) (b' := 0) [] rfl rfl rfl ?_
                refine lx_aload_n F dX3_setRest_10 0 rfl ?_
                refine gf_X3_34 F 0 rfl rfl dX3_setRest_11 ?_
                refine lx_aload_n F dX3_setRest_14 0 rfl ?_
                refine gf_X3_9 F 0 rfl rfl dX3_setRest_15 ?_
                refine lx_iload_n F dX3_setRest_18 1 rfl ?_
                refine lx_lald F 1 k dX3_setRest_19 rfl (by omega) (by decide) ?_
                rw [hro k hk]
                refine lx_cv F (zh_cellOf (xl E) K h ca co fa ga (nI u) c w u hw hh (rt k) (hr9 k hk) h2e) cv_X3_87 7 rfl rfl [7, 8, 9] [0, 1, 2, 3, 4, 5, 6, 10, 11, 12, 13, 14, 15, 16, 17] [(x, .inr (3, [.ref ro, .ref kc, .ref mt, .ref cn, .ref h, .ref h2, .int z])), (ro, aJ K 10 gr), (kc, .inr (0, [.ref l0, .ref il, .ref ir, .ref np, .int mn])), (l0, aI K 120 fl), (il, aI K 120 fi), (ir, aI K 120 fr), (np, aI K 120 fn), (h2, .inr (1, [.ref ca2, .ref co2, .int t2])), (ca2, aI K 120 f2), (co2, aJ K 120 g2), (mt, .inr (2, [.ref fo, .ref ba, .ref wa, .int mm])), (fo, aI K 120 ffo), (ba, aI K 120 fba), (wa, aI K 120 fwa), (cn, aI K 120 fc)] rfl rfl (by decide) rfl (st := []) rfl (Nat.le_of_ble_eq_true rfl) (by decide) ⟨by decide, by decide⟩ dX3_setRest_20 (fun v9 w9 h9 => ?_)
                obtain ⟨rfl, rfl⟩ := h9
                refine lx_perm [0, 1, 2, 3, 4, 5, 6, 15, 16, 17, 7, 8, 9, 10, 11, 12, 13, 14] [(x, .inr (3, [.ref ro, .ref kc, .ref mt, .ref cn, .ref h, .ref h2, .int z])), (ro, aJ K 10 gr), (kc, .inr (0, [.ref l0, .ref il, .ref ir, .ref np, .int mn])), (l0, aI K 120 fl), (il, aI K 120 fi), (ir, aI K 120 fr), (np, aI K 120 fn), (h, .inr (1, [.ref ca, .ref co, .int (nI u)])), (ca, aI K 120 fa), (co, aJ K 120 ga), (h2, .inr (1, [.ref ca2, .ref co2, .int t2])), (ca2, aI K 120 f2), (co2, aJ K 120 g2), (mt, .inr (2, [.ref fo, .ref ba, .ref wa, .int mm])), (fo, aI K 120 ffo), (ba, aI K 120 fba), (wa, aI K 120 fwa), (cn, aI K 120 fc)] (by decide) rfl ?_
                refine lx_st (a' := 0) (b' := 0) [.int (nI (lm_to w (rt k)))] rfl rfl rfl ?_
                refine lx_istore_n F [(0, .ref x), (1, .int (nI k)), (2, .int (nI j)), (3, .int (nI (lm_to w (rt k))))] [1, 2, 3, 0] dX3_setRest_23 rfl (by decide) ?_
                refine lx_aload_n F dX3_setRest_24 0 rfl ?_
                refine lx_aload_n F dX3_setRest_25 0 rfl ?_
                refine gf_X3_34 F 0 rfl rfl dX3_setRest_26 ?_
                refine lx_iload_n F dX3_setRest_29 3 rfl ?_
                refine lx_cv F (zh_restOf (xl E) K h ca co fa ga (nI u) c w u hw hh (lm_to w (rt k)) hcl) cv_X3_95 7 rfl rfl [7, 8, 9] [0, 1, 2, 3, 4, 5, 6, 10, 11, 12, 13, 14, 15, 16, 17] [(x, .inr (3, [.ref ro, .ref kc, .ref mt, .ref cn, .ref h, .ref h2, .int z])), (ro, aJ K 10 gr), (kc, .inr (0, [.ref l0, .ref il, .ref ir, .ref np, .int mn])), (l0, aI K 120 fl), (il, aI K 120 fi), (ir, aI K 120 fr), (np, aI K 120 fn), (h2, .inr (1, [.ref ca2, .ref co2, .int t2])), (ca2, aI K 120 f2), (co2, aJ K 120 g2), (mt, .inr (2, [.ref fo, .ref ba, .ref wa, .int mm])), (fo, aI K 120 ffo), (ba, aI K 120 fba), (wa, aI K 120 fwa), (cn, aI K 120 fc)] rfl rfl (by decide) rfl (st := [.ref x]) rfl (Nat.le_of_ble_eq_true rfl) (by decide) ⟨by decide, by decide⟩ dX3_setRest_30 (fun v9 w9 h9 => ?_)
                obtain ⟨rfl, rfl⟩ := h9
                refine lx_perm [0, 1, 2, 3, 4, 5, 6, 15, 16, 17, 7, 8, 9, 10, 11, 12, 13, 14] [(x, .inr (3, [.ref ro, .ref kc, .ref mt, .ref cn, .ref h, .ref h2, .int z])), (ro, aJ K 10 gr), (kc, .inr (0, [.ref l0, .ref il, .ref ir, .ref np, .int mn])), (l0, aI K 120 fl), (il, aI K 120 fi), (ir, aI K 120 fr), (np, aI K 120 fn), (h, .inr (1, [.ref ca, .ref co, .int (nI u)])), (ca, aI K 120 fa), (co, aJ K 120 ga), (h2, .inr (1, [.ref ca2, .ref co2, .int t2])), (ca2, aI K 120 f2), (co2, aJ K 120 g2), (mt, .inr (2, [.ref fo, .ref ba, .ref wa, .int mm])), (fo, aI K 120 ffo), (ba, aI K 120 fba), (wa, aI K 120 fwa), (cn, aI K 120 fc)] (by decide) rfl ?_
                refine lx_st (a' := 0) (b' := 0) [.long (en (lm_rest c w (lm_to w (rt k)))), .ref x] rfl rfl rfl ?_
                refine lx_aload_n F dX3_setRest_33 0 rfl ?_
                refine gf_X3_9 F 0 rfl rfl dX3_setRest_34 ?_
                refine lx_iload_n F dX3_setRest_37 2 rfl ?_
                refine lx_lald F 1 j dX3_setRest_38 rfl (by omega) (by decide) ?_
                rw [hro j hj]
                refine lx_cv F (zl_isSame (xl E) K x ro kc mt cn h2 z h ca co fa ga (nI u) c w u hw hh (lm_rest c w (lm_to w (rt k))) (rt j) (lm_rest_ok hw hcl) (hr9 j hj)) cv_X3_102 0 rfl rfl [0, 7, 8, 9] [1, 2, 3, 4, 5, 6, 10, 11, 12, 13, 14, 15, 16, 17] [(ro, aJ K 10 gr), (kc, .inr (0, [.ref l0, .ref il, .ref ir, .ref np, .int mn])), (l0, aI K 120 fl), (il, aI K 120 fi), (ir, aI K 120 fr), (np, aI K 120 fn), (h2, .inr (1, [.ref ca2, .ref co2, .int t2])), (ca2, aI K 120 f2), (co2, aJ K 120 g2), (mt, .inr (2, [.ref fo, .ref ba, .ref wa, .int mm])), (fo, aI K 120 ffo), (ba, aI K 120 fba), (wa, aI K 120 fwa), (cn, aI K 120 fc)] rfl rfl (by decide) rfl (st := []) rfl (Nat.le_of_ble_eq_true rfl) (by decide) ⟨by decide, by decide⟩ dX3_setRest_39 (fun v9 w9 h9 => ?_)
                obtain ⟨rfl, rfl⟩ := h9
                refine lx_perm [14, 0, 1, 2, 3, 4, 5, 15, 16, 17, 6, 7, 8, 9, 10, 11, 12, 13] [(x, .inr (3, [.ref ro, .ref kc, .ref mt, .ref cn, .ref h, .ref h2, .int z])), (ro, aJ K 10 gr), (kc, .inr (0, [.ref l0, .ref il, .ref ir, .ref np, .int mn])), (l0, aI K 120 fl), (il, aI K 120 fi), (ir, aI K 120 fr), (np, aI K 120 fn), (h, .inr (1, [.ref ca, .ref co, .int (nI u)])), (ca, aI K 120 fa), (co, aJ K 120 ga), (h2, .inr (1, [.ref ca2, .ref co2, .int t2])), (ca2, aI K 120 f2), (co2, aJ K 120 g2), (mt, .inr (2, [.ref fo, .ref ba, .ref wa, .int mm])), (fo, aI K 120 ffo), (ba, aI K 120 fba), (wa, aI K 120 fwa), (cn, aI K 120 fc)] (by decide) rfl ?_
                refine lx_st (a' := 0) (b' := 0) [.int (bI (lm_same w (lm_rest c w (lm_to w (rt k))) (rt j)))] rfl rfl rfl ?_
                rw [hs2]
                refine lx_if_eq F 46 dX3_setRest_42 rfl (fun _ => ?_) (fun h => absurd (by decide) h)
                refine lx_aload_n F dX3_setRest_46 0 rfl ?_
                refine gf_X3_34 F 0 rfl rfl dX3_setRest_47 ?_
                refine lx_iload_n F dX3_setRest_50 3 rfl ?_
                refine lx_cv F (zh_codeAt (xl E) K h ca co fa ga (nI u) (lm_to w (rt k)) (by omega) (nI (c (lm_to w (rt k)))) (hh _ hp1).1) cv_X3_106 7 rfl rfl [7, 8, 9] [0, 1, 2, 3, 4, 5, 6, 10, 11, 12, 13, 14, 15, 16, 17] [(x, .inr (3, [.ref ro, .ref kc, .ref mt, .ref cn, .ref h, .ref h2, .int z])), (ro, aJ K 10 gr), (kc, .inr (0, [.ref l0, .ref il, .ref ir, .ref np, .int mn])), (l0, aI K 120 fl), (il, aI K 120 fi), (ir, aI K 120 fr), (np, aI K 120 fn), (h2, .inr (1, [.ref ca2, .ref co2, .int t2])), (ca2, aI K 120 f2), (co2, aJ K 120 g2), (mt, .inr (2, [.ref fo, .ref ba, .ref wa, .int mm])), (fo, aI K 120 ffo), (ba, aI K 120 fba), (wa, aI K 120 fwa), (cn, aI K 120 fc)] rfl rfl (by decide) rfl (st := []) rfl (Nat.le_of_ble_eq_true rfl) (by decide) ⟨by decide, by decide⟩ dX3_setRest_51 (fun v9 w9 h9 => ?_)
                obtain ⟨rfl, rfl⟩ := h9
                refine lx_perm [0, 1, 2, 3, 4, 5, 6, 15, 16, 17, 7, 8, 9, 10, 11, 12, 13, 14] [(x, .inr (3, [.ref ro, .ref kc, .ref mt, .ref cn, .ref h, .ref h2, .int z])), (ro, aJ K 10 gr), (kc, .inr (0, [.ref l0, .ref il, .ref ir, .ref np, .int mn])), (l0, aI K 120 fl), (il, aI K 120 fi), (ir, aI K 120 fr), (np, aI K 120 fn), (h, .inr (1, [.ref ca, .ref co, .int (nI u)])), (ca, aI K 120 fa), (co, aJ K 120 ga), (h2, .inr (1, [.ref ca2, .ref co2, .int t2])), (ca2, aI K 120 f2), (co2, aJ K 120 g2), (mt, .inr (2, [.ref fo, .ref ba, .ref wa, .int mm])), (fo, aI K 120 ffo), (ba, aI K 120 fba), (wa, aI K 120 fwa), (cn, aI K 120 fc)] (by decide) rfl ?_
                refine lx_st (a' := 0) (b' := 0) [.int (nI (c (lm_to w (rt k))))] rfl rfl rfl ?_
                refine lx_iconst F dX3_setRest_54 kc_2 ?_
                refine lx_icmpN_eq F 77 (by omega) (by omega) dX3_setRest_55 rfl (fun h => absurd h (by omega)) (fun _ => ?_)
                refine lx_aload_n F dX3_setRest_58 0 rfl ?_
                refine lx_iconst F dX3_setRest_59 kc_2 ?_
                refine lx_cv F (zX_room (xl E) K x c w u rt z hst _ ⟨_, _, _, _, _, _, _, _, _, _, _, _, _, _, _, _, _, _, _, _, _, _, _, _, _, _, _, _, _, _, _, _, _, hh, hro, rfl⟩ (2) (by omega) (c1, w1, u1, rt1, z1) hσ hfit) cv_X3_68 0 rfl rfl [0, 1, 2, 3, 4, 5, 6, 7, 8, 9, 10, 11, 12, 13, 14, 15, 16, 17] [] [] rfl rfl (by decide) rfl (st := []) rfl (Nat.le_of_ble_eq_true rfl) (by decide) ⟨by decide, by decide⟩ dX3_setRest_60 (fun v9 w9 h9 => ?_)
                obtain ⟨rfl, ro_, kc_, l0_, il_, ir_, np_, h_, ca_, co_, h2_, ca2_, co2_, mt_, fo_, ba_, wa_, cn_, gr_, fl_, fi_, fr_, fn_, mn_, fa_, ga_, f2_, g2_, t2_, ffo_, fba_, fwa_, mm_, fc_, hh1, hro1, rfl⟩ := h9
                refine lx_perm [0, 1, 2, 3, 4, 5, 6, 7, 8, 9, 10, 11, 12, 13, 14, 15, 16, 17] [(x, .inr (3, [.ref ro_, .ref kc_, .ref mt_, .ref cn_, .ref h_, .ref h2_, .int z1])), (ro_, aJ K 10 gr_), (kc_, .inr (0, [.ref l0_, .ref il_, .ref ir_, .ref np_, .int mn_])), (l0_, aI K 120 fl_), (il_, aI K 120 fi_), (ir_, aI K 120 fr_), (np_, aI K 120 fn_), (h_, .inr (1, [.ref ca_, .ref co_, .int (nI u1)])), (ca_, aI K 120 fa_), (co_, aJ K 120 ga_), (h2_, .inr (1, [.ref ca2_, .ref co2_, .int t2_])), (ca2_, aI K 120 f2_), (co2_, aJ K 120 g2_), (mt_, .inr (2, [.ref fo_, .ref ba_, .ref wa_, .int mm_])), (fo_, aI K 120 ffo_), (ba_, aI K 120 fba_), (wa_, aI K 120 fwa_), (cn_, aI K 120 fc_)] (by decide) rfl ?_
                refine lx_st (a' := 0) (b' := 0) [] rfl rfl rfl ?_
                have hh1 : lm_hf fa_ ga_ c1 w1 u1 := hh1
                have hro1 : ∀ r, r < 10 → gr_ r = en (rt1 r) := hro1
                refine lx_aload_n F dX3_setRest_63 0 rfl ?_
                refine gf_X3_34 F 0 rfl rfl dX3_setRest_64 ?_
                refine lx_aload_n F dX3_setRest_67 0 rfl ?_
                refine gf_X3_9 F 0 rfl rfl dX3_setRest_68 ?_
                refine lx_iload_n F dX3_setRest_71 1 rfl ?_
                refine lx_lald F 1 k dX3_setRest_72 rfl (by omega) (by decide) ?_
                rw [hro1 k hk]
                refine lx_cv F (zh_cellOf (xl E) K h_ ca_ co_ fa_ ga_ (nI u1) c1 w1 u1 hw1 hh1 (rt1 k) (hst1.2 k hk) h21) cv_X3_87 7 rfl rfl [7, 8, 9] [0, 1, 2, 3, 4, 5, 6, 10, 11, 12, 13, 14, 15, 16, 17] [(x, .inr (3, [.ref ro_, .ref kc_, .ref mt_, .ref cn_, .ref h_, .ref h2_, .int z1])), (ro_, aJ K 10 gr_), (kc_, .inr (0, [.ref l0_, .ref il_, .ref ir_, .ref np_, .int mn_])), (l0_, aI K 120 fl_), (il_, aI K 120 fi_), (ir_, aI K 120 fr_), (np_, aI K 120 fn_), (h2_, .inr (1, [.ref ca2_, .ref co2_, .int t2_])), (ca2_, aI K 120 f2_), (co2_, aJ K 120 g2_), (mt_, .inr (2, [.ref fo_, .ref ba_, .ref wa_, .int mm_])), (fo_, aI K 120 ffo_), (ba_, aI K 120 fba_), (wa_, aI K 120 fwa_), (cn_, aI K 120 fc_)] rfl rfl (by decide) rfl (st := []) rfl (Nat.le_of_ble_eq_true rfl) (by decide) ⟨by decide, by decide⟩ dX3_setRest_73 (fun v9 w9 h9 => ?_)
                obtain ⟨rfl, rfl⟩ := h9
                refine lx_perm [0, 1, 2, 3, 4, 5, 6, 15, 16, 17, 7, 8, 9, 10, 11, 12, 13, 14] [(x, .inr (3, [.ref ro_, .ref kc_, .ref mt_, .ref cn_, .ref h_, .ref h2_, .int z1])), (ro_, aJ K 10 gr_), (kc_, .inr (0, [.ref l0_, .ref il_, .ref ir_, .ref np_, .int mn_])), (l0_, aI K 120 fl_), (il_, aI K 120 fi_), (ir_, aI K 120 fr_), (np_, aI K 120 fn_), (h_, .inr (1, [.ref ca_, .ref co_, .int (nI u1)])), (ca_, aI K 120 fa_), (co_, aJ K 120 ga_), (h2_, .inr (1, [.ref ca2_, .ref co2_, .int t2_])), (ca2_, aI K 120 f2_), (co2_, aJ K 120 g2_), (mt_, .inr (2, [.ref fo_, .ref ba_, .ref wa_, .int mm_])), (fo_, aI K 120 ffo_), (ba_, aI K 120 fba_), (wa_, aI K 120 fwa_), (cn_, aI K 120 fc_)] (by decide) rfl ?_
                refine lx_st (a' := 0) (b' := 0) [.int (nI (lm_to w1 (rt1 k)))] rfl rfl rfl ?_
                refine lx_istore_n F [(0, .ref x), (1, .int (nI k)), (2, .int (nI j)), (3, .int (nI (lm_to w1 (rt1 k))))] [1, 2, 3, 0] dX3_setRest_76 rfl (by decide) ?_
                refine lx_aload_n F dX3_setRest_77 0 rfl ?_
                refine gf_X3_34 F 0 rfl rfl dX3_setRest_78 ?_
                refine lx_iload_n F dX3_setRest_81 3 rfl ?_
                refine lx_cv F (zh_codeAt (xl E) K h_ ca_ co_ fa_ ga_ (nI u1) (lm_to w1 (rt1 k)) (by omega) (nI (c1 (lm_to w1 (rt1 k)))) (hh1 _ hp2).1) cv_X3_106 7 rfl rfl [7, 8, 9] [0, 1, 2, 3, 4, 5, 6, 10, 11, 12, 13, 14, 15, 16, 17] [(x, .inr (3, [.ref ro_, .ref kc_, .ref mt_, .ref cn_, .ref h_, .ref h2_, .int z1])), (ro_, aJ K 10 gr_), (kc_, .inr (0, [.ref l0_, .ref il_, .ref ir_, .ref np_, .int mn_])), (l0_, aI K 120 fl_), (il_, aI K 120 fi_), (ir_, aI K 120 fr_), (np_, aI K 120 fn_), (h2_, .inr (1, [.ref ca2_, .ref co2_, .int t2_])), (ca2_, aI K 120 f2_), (co2_, aJ K 120 g2_), (mt_, .inr (2, [.ref fo_, .ref ba_, .ref wa_, .int mm_])), (fo_, aI K 120 ffo_), (ba_, aI K 120 fba_), (wa_, aI K 120 fwa_), (cn_, aI K 120 fc_)] rfl rfl (by decide) rfl (st := []) rfl (Nat.le_of_ble_eq_true rfl) (by decide) ⟨by decide, by decide⟩ dX3_setRest_82 (fun v9 w9 h9 => ?_)
                obtain ⟨rfl, rfl⟩ := h9
                refine lx_perm [0, 1, 2, 3, 4, 5, 6, 15, 16, 17, 7, 8, 9, 10, 11, 12, 13, 14] [(x, .inr (3, [.ref ro_, .ref kc_, .ref mt_, .ref cn_, .ref h_, .ref h2_, .int z1])), (ro_, aJ K 10 gr_), (kc_, .inr (0, [.ref l0_, .ref il_, .ref ir_, .ref np_, .int mn_])), (l0_, aI K 120 fl_), (il_, aI K 120 fi_), (ir_, aI K 120 fr_), (np_, aI K 120 fn_), (h_, .inr (1, [.ref ca_, .ref co_, .int (nI u1)])), (ca_, aI K 120 fa_), (co_, aJ K 120 ga_), (h2_, .inr (1, [.ref ca2_, .ref co2_, .int t2_])), (ca2_, aI K 120 f2_), (co2_, aJ K 120 g2_), (mt_, .inr (2, [.ref fo_, .ref ba_, .ref wa_, .int mm_])), (fo_, aI K 120 ffo_), (ba_, aI K 120 fba_), (wa_, aI K 120 fwa_), (cn_, aI K 120 fc_)] (by decide) rfl ?_
                refine lx_st (a' := 0) (b' := 0) [.int (nI (c1 (lm_to w1 (rt1 k))))] rfl rfl rfl ?_
                refine lx_iconst F dX3_setRest_85 kc_2 ?_
                refine lx_icmpN_ne F 108 (by omega) (by omega) dX3_setRest_86 rfl (fun h => absurd h (by omega)) (fun _ => ?_)
                refine lx_aload_n F dX3_setRest_89 0 rfl ?_
                refine gf_X3_34 F 0 rfl rfl dX3_setRest_90 ?_
                refine lx_iload_n F dX3_setRest_93 3 rfl ?_
                refine lx_iconst F dX3_setRest_94 kc_1 ?_
                refine lx_iadd F dX3_setRest_95 (nI_add _ _) ?_
                refine lx_aload_n F dX3_setRest_96 0 rfl ?_
                refine gf_X3_9 F 0 rfl rfl dX3_setRest_97 ?_
                refine lx_iload_n F dX3_setRest_100 2 rfl ?_
                refine lx_lald F 1 j dX3_setRest_101 rfl (by omega) (by decide) ?_
                rw [hro1 j hj]
                refine lx_cv F (zh_setContent (xl E) K h_ ca_ co_ fa_ ga_ (nI u1) (lm_to w1 (rt1 k) + 1) (by omega) (en (rt1 j))) cv_X3_98 7 rfl rfl [7, 8, 9] [0, 1, 2, 3, 4, 5, 6, 10, 11, 12, 13, 14, 15, 16, 17] [(x, .inr (3, [.ref ro_, .ref kc_, .ref mt_, .ref cn_, .ref h_, .ref h2_, .int z1])), (ro_, aJ K 10 gr_), (kc_, .inr (0, [.ref l0_, .ref il_, .ref ir_, .ref np_, .int mn_])), (l0_, aI K 120 fl_), (il_, aI K 120 fi_), (ir_, aI K 120 fr_), (np_, aI K 120 fn_), (h2_, .inr (1, [.ref ca2_, .ref co2_, .int t2_])), (ca2_, aI K 120 f2_), (co2_, aJ K 120 g2_), (mt_, .inr (2, [.ref fo_, .ref ba_, .ref wa_, .int mm_])), (fo_, aI K 120 ffo_), (ba_, aI K 120 fba_), (wa_, aI K 120 fwa_), (cn_, aI K 120 fc_)] rfl rfl (by decide) rfl (st := []) rfl (Nat.le_of_ble_eq_true rfl) (by decide) ⟨by decide, by decide⟩ dX3_setRest_102 (fun v9 w9 h9 => ?_)
                obtain ⟨rfl, rfl⟩ := h9
                refine lx_perm [0, 1, 2, 3, 4, 5, 6, 15, 16, 17, 7, 8, 9, 10, 11, 12, 13, 14] [(x, .inr (3, [.ref ro_, .ref kc_, .ref mt_, .ref cn_, .ref h_, .ref h2_, .int z1])), (ro_, aJ K 10 gr_), (kc_, .inr (0, [.ref l0_, .ref il_, .ref ir_, .ref np_, .int mn_])), (l0_, aI K 120 fl_), (il_, aI K 120 fi_), (ir_, aI K 120 fr_), (np_, aI K 120 fn_), (h_, .inr (1, [.ref ca_, .ref co_, .int (nI u1)])), (ca_, aI K 120 fa_), (co_, aJ K 120 (lm_up ga_ (lm_to w1 (rt1 k) + 1) (en (rt1 j)))), (h2_, .inr (1, [.ref ca2_, .ref co2_, .int t2_])), (ca2_, aI K 120 f2_), (co2_, aJ K 120 g2_), (mt_, .inr (2, [.ref fo_, .ref ba_, .ref wa_, .int mm_])), (fo_, aI K 120 ffo_), (ba_, aI K 120 fba_), (wa_, aI K 120 fwa_), (cn_, aI K 120 fc_)] (by decide) rfl ?_
                refine lx_st (a' := 0) (b' := 0) [] rfl rfl rfl ?_
                refine lx_goto F 146 dX3_setRest_105 rfl ?_
                exact lx_vret F hR dX3_setRest_146 ⟨rfl, by rw [show lm_oSetRest (nI k) (nI j) (c, w, u, rt, z) = (0, lm_pt (c1, w1, u1, rt1, z1) (lm_to w1 (rt1 k) + 1) (rt1 j)) by unfold lm_oSetRest; rw [lm_none_n hk, lm_none_n hj, if_neg (by decide), lm_ix_n hk, if_neg (show ¬ (rt k).1 ≠ 2 from fun z9 => z9 h2e), lm_ix_n hj, if_neg hs, if_neg h6, hσ, if_pos hfit]; exact congrArg (Prod.mk 0) (if_pos h7)]; exact ⟨_, _, _, _, _, _, _, _, _, _, _, _, _, _, _, _, _, _, _, _, _, _, _, _, _, _, _, _, _, _, _, _, _, (lm_hf_up (v := rt1 j) hh1), hro1, rfl⟩⟩
              · skip
                refine lx_iload_n F dX3_setRest_0 1 rfl ?_
                refine lx_iload_n F dX3_setRest_1 2 rfl ?_
                refine lx_cs F (zX_cks (xl E) K k j hk hj) cs_X3_64 [] [0, 1, 2, 3, 4, 5, 6, 7, 8, 9, 10, 11, 12, 13, 14, 15, 16, 17] [(x, .inr (3, [.ref ro, .ref kc, .ref mt, .ref cn, .ref h, .ref h2, .int z])), (ro, aJ K 10 gr), (kc, .inr (0, [.ref l0, .ref il, .ref ir, .ref np, .int mn])), (l0, aI K 120 fl), (il, aI K 120 fi), (ir, aI K 120 fr), (np, aI K 120 fn), (h, .inr (1, [.ref ca, .ref co, .int (nI u)])), (ca, aI K 120 fa), (co, aJ K 120 ga), (h2, .inr (1, [.ref ca2, .ref co2, .int t2])), (ca2, aI K 120 f2), (co2, aJ K 120 g2), (mt, .inr (2, [.ref fo, .ref ba, .ref wa, .int mm])), (fo, aI K 120 ffo), (ba, aI K 120 fba), (wa, aI K 120 fwa), (cn, aI K 120 fc)] rfl rfl (by decide) rfl (st := []) rfl (Nat.le_of_ble_eq_true rfl) (by decide) ⟨by decide, by decide⟩ dX3_setRest_2 (fun v9 w9 h9 => ?_)
                obtain ⟨rfl, rfl⟩ := h9
                refine lx_perm [0, 1, 2, 3, 4, 5, 6, 7, 8, 9, 10, 11, 12, 13, 14, 15, 16, 17] [(x, .inr (3, [.ref ro, .ref kc, .ref mt, .ref cn, .ref h, .ref h2, .int z])), (ro, aJ K 10 gr), (kc, .inr (0, [.ref l0, .ref il, .ref ir, .ref np, .int mn])), (l0, aI K 120 fl), (il, aI K 120 fi), (ir, aI K 120 fr), (np, aI K 120 fn), (h, .inr (1, [.ref ca, .ref co, .int (nI u)])), (ca, aI K 120 fa), (co, aJ K 120 ga), (h2, .inr (1, [.ref ca2, .ref co2, .int t2])), (ca2, aI K 120 f2), (co2, aJ K 120 g2), (mt, .inr (2, [.ref fo, .ref ba, .ref wa, .int mm])), (fo, aI K 120 ffo), (ba, aI K 120 fba), (wa, aI K 120 fwa), (cn, aI K 120 fc)] (by decide) rfl ?_
                refine lx_st (a' := 0) (b' := 0) [] rfl rfl rfl ?_
                refine lx_aload_n F dX3_setRest_5 0 rfl ?_
                refine lx_iload_n F dX3_setRest_6 1 rfl ?_
                refine lx_cv F (zX_ckp (xl E) K x ro kc mt cn h h2 z gr k hk (rt k) (hro k hk) (by omega) h2e) cv_X3_84 0 rfl rfl [0, 1] [2, 3, 4, 5, 6, 7, 8, 9, 10, 11, 12, 13, 14, 15, 16, 17] [(kc, .inr (0, [.ref l0, .ref il, .ref ir, .ref np, .int mn])), (l0, aI K 120 fl), (il, aI K 120 fi), (ir, aI K 120 fr), (np, aI K 120 fn), (h, .inr (1, [.ref ca, .ref co, .int (nI u)])), (ca, aI K 120 fa), (co, aJ K 120 ga), (h2, .inr (1, [.ref ca2, .ref co2, .int t2])), (ca2, aI K 120 f2), (co2, aJ K 120 g2), (mt, .inr (2, [.ref fo, .ref ba, .ref wa, .int mm])), (fo, aI K 120 ffo), (ba, aI K 120 fba), (wa, aI K 120 fwa), (cn, aI K 120 fc)] rfl rfl (by decide) rfl (st := []) rfl (Nat.le_of_ble_eq_true rfl) (by decide) ⟨by decide, by decide⟩ dX3_setRest_7 (fun v9 w9 h9 => ?_)
                obtain ⟨rfl, rfl⟩ := h9
                refine lx_perm [16, 17, 0, 1, 2, 3, 4, 5, 6, 7, 8, 9, 10, 11, 12, 13, 14, 15] [(x, .inr (3, [.ref ro, .ref kc, .ref mt, .ref cn, .ref h, .ref h2, .int z])), (ro, aJ K 10 gr), (kc, .inr (0, [.ref l0, .ref il, .ref ir, .ref np, .int mn])), (l0, aI K 120 fl), (il, aI K 120 fi), (ir, aI K 120 fr), (np, aI K 120 fn), (h, .inr (1, [.ref ca, .ref co, .int (nI u)])), (ca, aI K 120 fa), (co, aJ K 120 ga), (h2, .inr (1, [.ref ca2, .ref co2, .int t2])), (ca2, aI K 120 f2), (co2, aJ K 120 g2), (mt, .inr (2, [.ref fo, .ref ba, .ref wa, .int mm])), (fo, aI K 120 ffo), (ba, aI K 120 fba), (wa, aI K 120 fwa), (cn, aI K 120 fc)] (by decide) rfl ?_
                refine lx_st (a' := 0) (b' := 0) [] rfl rfl rfl ?_
                refine lx_aload_n F dX3_setRest_10 0 rfl ?_
                refine gf_X3_34 F 0 rfl rfl dX3_setRest_11 ?_
                refine lx_aload_n F dX3_setRest_14 0 rfl ?_
                refine gf_X3_9 F 0 rfl rfl dX3_setRest_15 ?_
                refine lx_iload_n F dX3_setRest_18 1 rfl ?_
                refine lx_lald F 1 k dX3_setRest_19 rfl (by omega) (by decide) ?_
                rw [hro k hk]
                refine lx_cv F (zh_cellOf (xl E) K h ca co fa ga (nI u) c w u hw hh (rt k) (hr9 k hk) h2e) cv_X3_87 7 rfl rfl [7, 8, 9] [0, 1, 2, 3, 4, 5, 6, 10, 11, 12, 13, 14, 15, 16, 17] [(x, .inr (3, [.ref ro, .ref kc, .ref mt, .ref cn, .ref h, .ref h2, .int z])), (ro, aJ K 10 gr), (kc, .inr (0, [.ref l0, .ref il, .ref ir, .ref np, .int mn])), (l0, aI K 120 fl), (il, aI K 120 fi), (ir, aI K 120 fr), (np, aI K 120 fn), (h2, .inr (1, [.ref ca2, .ref co2, .int t2])), (ca2, aI K 120 f2), (co2, aJ K 120 g2), (mt, .inr (2, [.ref fo, .ref ba, .ref wa, .int mm])), (fo, aI K 120 ffo), (ba, aI K 120 fba), (wa, aI K 120 fwa), (cn, aI K 120 fc)] rfl rfl (by decide) rfl (st := []) rfl (Nat.le_of_ble_eq_true rfl) (by decide) ⟨by decide, by decide⟩ dX3_setRest_20 (fun v9 w9 h9 => ?_)
                obtain ⟨rfl, rfl⟩ := h9
                refine lx_perm [0, 1, 2, 3, 4, 5, 6, 15, 16, 17, 7, 8, 9, 10, 11, 12, 13, 14] [(x, .inr (3, [.ref ro, .ref kc, .ref mt, .ref cn, .ref h, .ref h2, .int z])), (ro, aJ K 10 gr), (kc, .inr (0, [.ref l0, .ref il, .ref ir, .ref np, .int mn])), (l0, aI K 120 fl), (il, aI K 120 fi), (ir, aI K 120 fr), (np, aI K 120 fn), (h, .inr (1, [.ref ca, .ref co, .int (nI u)])), (ca, aI K 120 fa), (co, aJ K 120 ga), (h2, .inr (1, [.ref ca2, .ref co2, .int t2])), (ca2, aI K 120 f2), (co2, aJ K 120 g2), (mt, .inr (2, [.ref fo, .ref ba, .ref wa, .int mm])), (fo, aI K 120 ffo), (ba, aI K 120 fba), (wa, aI K 120 fwa), (cn, aI K 120 fc)] (by decide) rfl ?_
                refine lx_st (a' := 0) (b' := 0) [.int (nI (lm_to w (rt k)))] rfl rfl rfl ?_
                refine lx_istore_n F [(0, .ref x), (1, .int (nI k)), (2, .int (nI j)), (3, .int (nI (lm_to w (rt k))))] [1, 2, 3, 0] dX3_setRest_23 rfl (by decide) ?_
                refine lx_aload_n F dX3_setRest_24 0 rfl ?_
                refine lx_aload_n F dX3_setRest_25 0 rfl ?_
                refine gf_X3_34 F 0 rfl rfl dX3_setRest_26 ?_
                refine lx_iload_n F dX3_setRest_29 3 rfl ?_
                refine lx_cv F (zh_restOf (xl E) K h ca co fa ga (nI u) c w u hw hh (lm_to w (rt k)) hcl) cv_X3_95 7 rfl rfl [7, 8, 9] [0, 1, 2, 3, 4, 5, 6, 10, 11, 12, 13, 14, 15, 16, 17] [(x, .inr (3, [.ref ro, .ref kc, .ref mt, .ref cn, .ref h, .ref h2, .int z])), (ro, aJ K 10 gr), (kc, .inr (0, [.ref l0, .ref il, .ref ir, .ref np, .int mn])), (l0, aI K 120 fl), (il, aI K 120 fi), (ir, aI K 120 fr), (np, aI K 120 fn), (h2, .inr (1, [.ref ca2, .ref co2, .int t2])), (ca2, aI K 120 f2), (co2, aJ K 120 g2), (mt, .inr (2, [.ref fo, .ref ba, .ref wa, .int mm])), (fo, aI K 120 ffo), (ba, aI K 120 fba), (wa, aI K 120 fwa), (cn, aI K 120 fc)] rfl rfl (by decide) rfl (st := [.ref x]) rfl (Nat.le_of_ble_eq_true rfl) (by decide) ⟨by decide, by decide⟩ dX3_setRest_30 (fun v9 w9 h9 => ?_)
                obtain ⟨rfl, rfl⟩ := h9
                refine lx_perm [0, 1, 2, 3, 4, 5, 6, 15, 16, 17, 7, 8, 9, 10, 11, 12, 13, 14] [(x, .inr (3, [.ref ro, .ref kc, .ref mt, .ref cn, .ref h, .ref h2, .int z])), (ro, aJ K 10 gr), (kc, .inr (0, [.ref l0, .ref il, .ref ir, .ref np, .int mn])), (l0, aI K 120 fl), (il, aI K 120 fi), (ir, aI K 120 fr), (np, aI K 120 fn), (h, .inr (1, [.ref ca, .ref co, .int (nI u)])), (ca, aI K 120 fa), (co, aJ K 120 ga), (h2, .inr (1, [.ref ca2, .ref co2, .int t2])), (ca2, aI K 120 f2), (co2, aJ K 120 g2), (mt, .inr (2, [.ref fo, .ref ba, .ref wa, .int mm])), (fo, aI K 120 ffo), (ba, aI K 120 fba), (wa, aI K 120 fwa), (cn, aI K 120 fc)] (by decide) rfl ?_
                refine lx_st (a' := 0) (b' := 0) [.long (en (lm_rest c w (lm_to w (rt k)))), .ref x] rfl rfl rfl ?_
                refine lx_aload_n F dX3_setRest_33 0 rfl ?_
                refine gf_X3_9 F 0 rfl rfl dX3_setRest_34 ?_
                refine lx_iload_n F dX3_setRest_37 2 rfl ?_
                refine lx_lald F 1 j dX3_setRest_38 rfl (by omega) (by decide) ?_
                rw [hro j hj]
                refine lx_cv F (zl_isSame (xl E) K x ro kc mt cn h2 z h ca co fa ga (nI u) c w u hw hh (lm_rest c w (lm_to w (rt k))) (rt j) (lm_rest_ok hw hcl) (hr9 j hj)) cv_X3_102 0 rfl rfl [0, 7, 8, 9] [1, 2, 3, 4, 5, 6, 10, 11, 12, 13, 14, 15, 16, 17] [(ro, aJ K 10 gr), (kc, .inr (0, [.ref l0, .ref il, .ref ir, .ref np, .int mn])), (l0, aI K 120 fl), (il, aI K 120 fi), (ir, aI K 120 fr), (np, aI K 120 fn), (h2, .inr (1, [.ref ca2, .ref co2, .int t2])), (ca2, aI K 120 f2), (co2, aJ K 120 g2), (mt, .inr (2, [.ref fo, .ref ba, .ref wa, .int mm])), (fo, aI K 120 ffo), (ba, aI K 120 fba), (wa, aI K 120 fwa), (cn, aI K 120 fc)] rfl rfl (by decide) rfl (st := []) rfl (Nat.le_of_ble_eq_true rfl) (by decide) ⟨by decide, by decide⟩ dX3_setRest_39 (fun v9 w9 h9 => ?_)
                obtain ⟨rfl, rfl⟩ := h9
                refine lx_perm [14, 0, 1, 2, 3, 4, 5, 15, 16, 17, 6, 7, 8, 9, 10, 11, 12, 13] [(x, .inr (3, [.ref ro, .ref kc, .ref mt, .ref cn, .ref h, .ref h2, .int z])), (ro, aJ K 10 gr), (kc, .inr (0, [.ref l0, .ref il, .ref ir, .ref np, .int mn])), (l0, aI K 120 fl), (il, aI K 120 fi), (ir, aI K 120 fr), (np, aI K 120 fn), (h, .inr (1, [.ref ca, .ref co, .int (nI u)])), (ca, aI K 120 fa), (co, aJ K 120 ga), (h2, .inr (1, [.ref ca2, .ref co2, .int t2])), (ca2, aI K 120 f2), (co2, aJ K 120 g2), (mt, .inr (2, [.ref fo, .ref ba, .ref wa, .int mm])), (fo, aI K 120 ffo), (ba, aI K 120 fba), (wa, aI K 120 fwa), (cn, aI K 120 fc)] (by decide) rfl ?_
                refine lx_st (a' := 0) (b' := 0) [.int (bI (lm_same w (lm_rest c w (lm_to w (rt k))) (rt j)))] rfl rfl rfl ?_
                rw [hs2]
                refine lx_if_eq F 46 dX3_setRest_42 rfl (fun _ => ?_) (fun h => absurd (by decide) h)
                refine lx_aload_n F dX3_setRest_46 0 rfl ?_
                refine gf_X3_34 F 0 rfl rfl dX3_setRest_47 ?_
                refine lx_iload_n F dX3_setRest_50 3 rfl ?_
                refine lx_cv F (zh_codeAt (xl E) K h ca co fa ga (nI u) (lm_to w (rt k)) (by omega) (nI (c (lm_to w (rt k)))) (hh _ hp1).1) cv_X3_106 7 rfl rfl [7, 8, 9] [0, 1, 2, 3, 4, 5, 6, 10, 11, 12, 13, 14, 15, 16, 17] [(x, .inr (3, [.ref ro, .ref kc, .ref mt, .ref cn, .ref h, .ref h2, .int z])), (ro, aJ K 10 gr), (kc, .inr (0, [.ref l0, .ref il, .ref ir, .ref np, .int mn])), (l0, aI K 120 fl), (il, aI K 120 fi), (ir, aI K 120 fr), (np, aI K 120 fn), (h2, .inr (1, [.ref ca2, .ref co2, .int t2])), (ca2, aI K 120 f2), (co2, aJ K 120 g2), (mt, .inr (2, [.ref fo, .ref ba, .ref wa, .int mm])), (fo, aI K 120 ffo), (ba, aI K 120 fba), (wa, aI K 120 fwa), (cn, aI K 120 fc)] rfl rfl (by decide) rfl (st := []) rfl (Nat.le_of_ble_eq_true rfl) (by decide) ⟨by decide, by decide⟩ dX3_setRest_51 (fun v9 w9 h9 => ?_)
                obtain ⟨rfl, rfl⟩ := h9
                refine lx_perm [0, 1, 2, 3, 4, 5, 6, 15, 16, 17, 7, 8, 9, 10, 11, 12, 13, 14] [(x, .inr (3, [.ref ro, .ref kc, .ref mt, .ref cn, .ref h, .ref h2, .int z])), (ro, aJ K 10 gr), (kc, .inr (0, [.ref l0, .ref il, .ref ir, .ref np, .int mn])), (l0, aI K 120 fl), (il, aI K 120 fi), (ir, aI K 120 fr), (np, aI K 120 fn), (h, .inr (1, [.ref ca, .ref co, .int (nI u)])), (ca, aI K 120 fa), (co, aJ K 120 ga), (h2, .inr (1, [.ref ca2, .ref co2, .int t2])), (ca2, aI K 120 f2), (co2, aJ K 120 g2), (mt, .inr (2, [.ref fo, .ref ba, .ref wa, .int mm])), (fo, aI K 120 ffo), (ba, aI K 120 fba), (wa, aI K 120 fwa), (cn, aI K 120 fc)] (by decide) rfl ?_
                refine lx_st (a' := 0) (b' := 0) [.int (nI (c (lm_to w (rt k))))] rfl rfl rfl ?_
                refine lx_iconst F dX3_setRest_54 kc_2 ?_
                refine lx_icmpN_eq F 77 (by omega) (by omega) dX3_setRest_55 rfl (fun h => absurd h (by omega)) (fun _ => ?_)
                refine lx_aload_n F dX3_setRest_58 0 rfl ?_
                refine lx_iconst F dX3_setRest_59 kc_2 ?_
                refine lx_cv F (zX_room (xl E) K x c w u rt z hst _ ⟨_, _, _, _, _, _, _, _, _, _, _, _, _, _, _, _, _, _, _, _, _, _, _, _, _, _, _, _, _, _, _, _, _, hh, hro, rfl⟩ (2) (by omega) (c1, w1, u1, rt1, z1) hσ hfit) cv_X3_68 0 rfl rfl [0, 1, 2, 3, 4, 5, 6, 7, 8, 9, 10, 11, 12, 13, 14, 15, 16, 17] [] [] rfl rfl (by decide) rfl (st := []) rfl (Nat.le_of_ble_eq_true rfl) (by decide) ⟨by decide, by decide⟩ dX3_setRest_60 (fun v9 w9 h9 => ?_)
                obtain ⟨rfl, ro_, kc_, l0_, il_, ir_, np_, h_, ca_, co_, h2_, ca2_, co2_, mt_, fo_, ba_, wa_, cn_, gr_, fl_, fi_, fr_, fn_, mn_, fa_, ga_, f2_, g2_, t2_, ffo_, fba_, fwa_, mm_, fc_, hh1, hro1, rfl⟩ := h9
                refine lx_perm [0, 1, 2, 3, 4, 5, 6, 7, 8, 9, 10, 11, 12, 13, 14, 15, 16, 17] [(x, .inr (3, [.ref ro_, .ref kc_, .ref mt_, .ref cn_, .ref h_, .ref h2_, .int z1])), (ro_, aJ K 10 gr_), (kc_, .inr (0, [.ref l0_, .ref il_, .ref ir_, .ref np_, .int mn_])), (l0_, aI K 120 fl_), (il_, aI K 120 fi_), (ir_, aI K 120 fr_), (np_, aI K 120 fn_), (h_, .inr (1, [.ref ca_, .ref co_, .int (nI u1)])), (ca_, aI K 120 fa_), (co_, aJ K 120 ga_), (h2_, .inr (1, [.ref ca2_, .ref co2_, .int t2_])), (ca2_, aI K 120 f2_), (co2_, aJ K 120 g2_), (mt_, .inr (2, [.ref fo_, .ref ba_, .ref wa_, .int mm_])), (fo_, aI K 120 ffo_), (ba_, aI K 120 fba_), (wa_, aI K 120 fwa_), (cn_, aI K 120 fc_)] (by decide) rfl ?_
                refine lx_st (a' := 0) (b' := 0) [] rfl rfl rfl ?_
                have hh1 : lm_hf fa_ ga_ c1 w1 u1 := hh1
                have hro1 : ∀ r, r < 10 → gr_ r = en (rt1 r) := hro1
                refine lx_aload_n F dX3_setRest_63 0 rfl ?_
                refine gf_X3_34 F 0 rfl rfl dX3_setRest_64 ?_
                refine lx_aload_n F dX3_setRest_67 0 rfl ?_
                refine gf_X3_9 F 0 rfl rfl dX3_setRest_68 ?_
                refine lx_iload_n F dX3_setRest_71 1 rfl ?_
                refine lx_lald F 1 k dX3_setRest_72 rfl (by omega) (by decide) ?_
                rw [hro1 k hk]
                refine lx_cv F (zh_cellOf (xl E) K h_ ca_ co_ fa_ ga_ (nI u1) c1 w1 u1 hw1 hh1 (rt1 k) (hst1.2 k hk) h21) cv_X3_87 7 rfl rfl [7, 8, 9] [0, 1, 2, 3, 4, 5, 6, 10, 11, 12, 13, 14, 15, 16, 17] [(x, .inr (3, [.ref ro_, .ref kc_, .ref mt_, .ref cn_, .ref h_, .ref h2_, .int z1])), (ro_, aJ K 10 gr_), (kc_, .inr (0, [.ref l0_, .ref il_, .ref ir_, .ref np_, .int mn_])), (l0_, aI K 120 fl_), (il_, aI K 120 fi_), (ir_, aI K 120 fr_), (np_, aI K 120 fn_), (h2_, .inr (1, [.ref ca2_, .ref co2_, .int t2_])), (ca2_, aI K 120 f2_), (co2_, aJ K 120 g2_), (mt_, .inr (2, [.ref fo_, .ref ba_, .ref wa_, .int mm_])), (fo_, aI K 120 ffo_), (ba_, aI K 120 fba_), (wa_, aI K 120 fwa_), (cn_, aI K 120 fc_)] rfl rfl (by decide) rfl (st := []) rfl (Nat.le_of_ble_eq_true rfl) (by decide) ⟨by decide, by decide⟩ dX3_setRest_73 (fun v9 w9 h9 => ?_)
                obtain ⟨rfl, rfl⟩ := h9
                refine lx_perm [0, 1, 2, 3, 4, 5, 6, 15, 16, 17, 7, 8, 9, 10, 11, 12, 13, 14] [(x, .inr (3, [.ref ro_, .ref kc_, .ref mt_, .ref cn_, .ref h_, .ref h2_, .int z1])), (ro_, aJ K 10 gr_), (kc_, .inr (0, [.ref l0_, .ref il_, .ref ir_, .ref np_, .int mn_])), (l0_, aI K 120 fl_), (il_, aI K 120 fi_), (ir_, aI K 120 fr_), (np_, aI K 120 fn_), (h_, .inr (1, [.ref ca_, .ref co_, .int (nI u1)])), (ca_, aI K 120 fa_), (co_, aJ K 120 ga_), (h2_, .inr (1, [.ref ca2_, .ref co2_, .int t2_])), (ca2_, aI K 120 f2_), (co2_, aJ K 120 g2_), (mt_, .inr (2, [.ref fo_, .ref ba_, .ref wa_, .int mm_])), (fo_, aI K 120 ffo_), (ba_, aI K 120 fba_), (wa_, aI K 120 fwa_), (cn_, aI K 120 fc_)] (by decide) rfl ?_
                refine lx_st (a' := 0) (b' := 0) [.int (nI (lm_to w1 (rt1 k)))] rfl rfl rfl ?_
                refine lx_istore_n F [(0, .ref x), (1, .int (nI k)), (2, .int (nI j)), (3, .int (nI (lm_to w1 (rt1 k))))] [1, 2, 3, 0] dX3_setRest_76 rfl (by decide) ?_
                refine lx_aload_n F dX3_setRest_77 0 rfl ?_
                refine gf_X3_34 F 0 rfl rfl dX3_setRest_78 ?_
                refine lx_iload_n F dX3_setRest_81 3 rfl ?_
                refine lx_cv F (zh_codeAt (xl E) K h_ ca_ co_ fa_ ga_ (nI u1) (lm_to w1 (rt1 k)) (by omega) (nI (c1 (lm_to w1 (rt1 k)))) (hh1 _ hp2).1) cv_X3_106 7 rfl rfl [7, 8, 9] [0, 1, 2, 3, 4, 5, 6, 10, 11, 12, 13, 14, 15, 16, 17] [(x, .inr (3, [.ref ro_, .ref kc_, .ref mt_, .ref cn_, .ref h_, .ref h2_, .int z1])), (ro_, aJ K 10 gr_), (kc_, .inr (0, [.ref l0_, .ref il_, .ref ir_, .ref np_, .int mn_])), (l0_, aI K 120 fl_), (il_, aI K 120 fi_), (ir_, aI K 120 fr_), (np_, aI K 120 fn_), (h2_, .inr (1, [.ref ca2_, .ref co2_, .int t2_])), (ca2_, aI K 120 f2_), (co2_, aJ K 120 g2_), (mt_, .inr (2, [.ref fo_, .ref ba_, .ref wa_, .int mm_])), (fo_, aI K 120 ffo_), (ba_, aI K 120 fba_), (wa_, aI K 120 fwa_), (cn_, aI K 120 fc_)] rfl rfl (by decide) rfl (st := []) rfl (Nat.le_of_ble_eq_true rfl) (by decide) ⟨by decide, by decide⟩ dX3_setRest_82 (fun v9 w9 h9 => ?_)
                obtain ⟨rfl, rfl⟩ := h9
                refine lx_perm [0, 1, 2, 3, 4, 5, 6, 15, 16, 17, 7, 8, 9, 10, 11, 12, 13, 14] [(x, .inr (3, [.ref ro_, .ref kc_, .ref mt_, .ref cn_, .ref h_, .ref h2_, .int z1])), (ro_, aJ K 10 gr_), (kc_, .inr (0, [.ref l0_, .ref il_, .ref ir_, .ref np_, .int mn_])), (l0_, aI K 120 fl_), (il_, aI K 120 fi_), (ir_, aI K 120 fr_), (np_, aI K 120 fn_), (h_, .inr (1, [.ref ca_, .ref co_, .int (nI u1)])), (ca_, aI K 120 fa_), (co_, aJ K 120 ga_), (h2_, .inr (1, [.ref ca2_, .ref co2_, .int t2_])), (ca2_, aI K 120 f2_), (co2_, aJ K 120 g2_), (mt_, .inr (2, [.ref fo_, .ref ba_, .ref wa_, .int mm_])), (fo_, aI K 120 ffo_), (ba_, aI K 120 fba_), (wa_, aI K 120 fwa_), (cn_, aI K 120 fc_)] (by decide) rfl ?_
                refine lx_st (a' := 0) (b' := 0) [.int (nI (c1 (lm_to w1 (rt1 k))))] rfl rfl rfl ?_
                refine lx_iconst F dX3_setRest_85 kc_2 ?_
                refine lx_icmpN_ne F 108 (by omega) (by omega) dX3_setRest_86 rfl (fun _ => ?_) (fun h => absurd h (by omega))
                refine lx_aload_n F dX3_setRest_108 0 rfl ?_
                refine gf_X3_34 F 0 rfl rfl dX3_setRest_109 ?_
                refine lx_aload_n F dX3_setRest_112 0 rfl ?_
                refine gf_X3_34 F 0 rfl rfl dX3_setRest_113 ?_
                refine lx_iload_n F dX3_setRest_116 3 rfl ?_
                refine lx_cv F (zh_contentAt (xl E) K h_ ca_ co_ fa_ ga_ (nI u1) (lm_to w1 (rt1 k)) (by omega) (en (w1 (lm_to w1 (rt1 k)))) (hh1 _ hp2).2) cv_X3_91 7 rfl rfl [7, 8, 9] [0, 1, 2, 3, 4, 5, 6, 10, 11, 12, 13, 14, 15, 16, 17] [(x, .inr (3, [.ref ro_, .ref kc_, .ref mt_, .ref cn_, .ref h_, .ref h2_, .int z1])), (ro_, aJ K 10 gr_), (kc_, .inr (0, [.ref l0_, .ref il_, .ref ir_, .ref np_, .int mn_])), (l0_, aI K 120 fl_), (il_, aI K 120 fi_), (ir_, aI K 120 fr_), (np_, aI K 120 fn_), (h2_, .inr (1, [.ref ca2_, .ref co2_, .int t2_])), (ca2_, aI K 120 f2_), (co2_, aJ K 120 g2_), (mt_, .inr (2, [.ref fo_, .ref ba_, .ref wa_, .int mm_])), (fo_, aI K 120 ffo_), (ba_, aI K 120 fba_), (wa_, aI K 120 fwa_), (cn_, aI K 120 fc_)] rfl rfl (by decide) rfl (st := [.ref h_]) rfl (Nat.le_of_ble_eq_true rfl) (by decide) ⟨by decide, by decide⟩ dX3_setRest_117 (fun v9 w9 h9 => ?_)
                obtain ⟨rfl, rfl⟩ := h9
                refine lx_perm [0, 1, 2, 3, 4, 5, 6, 15, 16, 17, 7, 8, 9, 10, 11, 12, 13, 14] [(x, .inr (3, [.ref ro_, .ref kc_, .ref mt_, .ref cn_, .ref h_, .ref h2_, .int z1])), (ro_, aJ K 10 gr_), (kc_, .inr (0, [.ref l0_, .ref il_, .ref ir_, .ref np_, .int mn_])), (l0_, aI K 120 fl_), (il_, aI K 120 fi_), (ir_, aI K 120 fr_), (np_, aI K 120 fn_), (h_, .inr (1, [.ref ca_, .ref co_, .int (nI u1)])), (ca_, aI K 120 fa_), (co_, aJ K 120 ga_), (h2_, .inr (1, [.ref ca2_, .ref co2_, .int t2_])), (ca2_, aI K 120 f2_), (co2_, aJ K 120 g2_), (mt_, .inr (2, [.ref fo_, .ref ba_, .ref wa_, .int mm_])), (fo_, aI K 120 ffo_), (ba_, aI K 120 fba_), (wa_, aI K 120 fwa_), (cn_, aI K 120 fc_)] (by decide) rfl ?_
                refine lx_st (a' := 0) (b' := 0) [.long (en (w1 (lm_to w1 (rt1 k)))), .ref h_] rfl rfl rfl ?_
                refine lx_aload_n F dX3_setRest_120 0 rfl ?_
                refine gf_X3_9 F 0 rfl rfl dX3_setRest_121 ?_
                refine lx_iload_n F dX3_setRest_124 2 rfl ?_
                refine lx_lald F 1 j dX3_setRest_125 rfl (by omega) (by decide) ?_
                rw [hro1 j hj]
                refine lx_cv F (zh_takeTwo (xl E) K h_ ca_ co_ fa_ ga_ u1 (by omega) (en (w1 (lm_to w1 (rt1 k)))) (en (rt1 j))) cv_X3_71 7 rfl rfl [7, 8, 9] [0, 1, 2, 3, 4, 5, 6, 10, 11, 12, 13, 14, 15, 16, 17] [(x, .inr (3, [.ref ro_, .ref kc_, .ref mt_, .ref cn_, .ref h_, .ref h2_, .int z1])), (ro_, aJ K 10 gr_), (kc_, .inr (0, [.ref l0_, .ref il_, .ref ir_, .ref np_, .int mn_])), (l0_, aI K 120 fl_), (il_, aI K 120 fi_), (ir_, aI K 120 fr_), (np_, aI K 120 fn_), (h2_, .inr (1, [.ref ca2_, .ref co2_, .int t2_])), (ca2_, aI K 120 f2_), (co2_, aJ K 120 g2_), (mt_, .inr (2, [.ref fo_, .ref ba_, .ref wa_, .int mm_])), (fo_, aI K 120 ffo_), (ba_, aI K 120 fba_), (wa_, aI K 120 fwa_), (cn_, aI K 120 fc_)] rfl rfl (by decide) rfl (st := []) rfl (Nat.le_of_ble_eq_true rfl) (by decide) ⟨by decide, by decide⟩ dX3_setRest_126 (fun v9 w9 h9 => ?_)
                obtain ⟨rfl, rfl⟩ := h9
                refine lx_perm [0, 1, 2, 3, 4, 5, 6, 15, 16, 17, 7, 8, 9, 10, 11, 12, 13, 14] [(x, .inr (3, [.ref ro_, .ref kc_, .ref mt_, .ref cn_, .ref h_, .ref h2_, .int z1])), (ro_, aJ K 10 gr_), (kc_, .inr (0, [.ref l0_, .ref il_, .ref ir_, .ref np_, .int mn_])), (l0_, aI K 120 fl_), (il_, aI K 120 fi_), (ir_, aI K 120 fr_), (np_, aI K 120 fn_), (h_, .inr (1, [.ref ca_, .ref co_, .int (nI (u1 + 1 + 1))])), (ca_, aI K 120 (lm_up (lm_up fa_ u1 (nI 2)) (u1 + 1) (nI 3))), (co_, aJ K 120 (lm_up (lm_up ga_ u1 (en (w1 (lm_to w1 (rt1 k))))) (u1 + 1) (en (rt1 j)))), (h2_, .inr (1, [.ref ca2_, .ref co2_, .int t2_])), (ca2_, aI K 120 f2_), (co2_, aJ K 120 g2_), (mt_, .inr (2, [.ref fo_, .ref ba_, .ref wa_, .int mm_])), (fo_, aI K 120 ffo_), (ba_, aI K 120 fba_), (wa_, aI K 120 fwa_), (cn_, aI K 120 fc_)] (by decide) rfl ?_
                refine lx_st (a' := 0) (b' := 0) [.int (nI u1)] rfl rfl rfl ?_
                refine lx_istore F [(0, .ref x), (1, .int (nI k)), (2, .int (nI j)), (3, .int (nI (lm_to w1 (rt1 k)))), (4, .int (nI u1))] [1, 2, 3, 4, 0] dX3_setRest_129 rfl (by decide) ?_
                refine lx_aload_n F dX3_setRest_131 0 rfl ?_
                refine gf_X3_34 F 0 rfl rfl dX3_setRest_132 ?_
                refine lx_iload_n F dX3_setRest_135 3 rfl ?_
                refine lx_iconst F dX3_setRest_136 kc_3 ?_
                refine lx_iload F dX3_setRest_137 4 rfl ?_
                refine lx_i2l F dX3_setRest_139 (jI_i2l (by omega)) ?_
                refine lx_cs F (zs_content (xl E) K 3 ((u1 : Nat) : Int) (by omega)) cs_X3_60 [] [0, 1, 2, 3, 4, 5, 6, 7, 8, 9, 10, 11, 12, 13, 14, 15, 16, 17] [(x, .inr (3, [.ref ro_, .ref kc_, .ref mt_, .ref cn_, .ref h_, .ref h2_, .int z1])), (ro_, aJ K 10 gr_), (kc_, .inr (0, [.ref l0_, .ref il_, .ref ir_, .ref np_, .int mn_])), (l0_, aI K 120 fl_), (il_, aI K 120 fi_), (ir_, aI K 120 fr_), (np_, aI K 120 fn_), (h_, .inr (1, [.ref ca_, .ref co_, .int (nI (u1 + 1 + 1))])), (ca_, aI K 120 (lm_up (lm_up fa_ u1 (nI 2)) (u1 + 1) (nI 3))), (co_, aJ K 120 (lm_up (lm_up ga_ u1 (en (w1 (lm_to w1 (rt1 k))))) (u1 + 1) (en (rt1 j)))), (h2_, .inr (1, [.ref ca2_, .ref co2_, .int t2_])), (ca2_, aI K 120 f2_), (co2_, aJ K 120 g2_), (mt_, .inr (2, [.ref fo_, .ref ba_, .ref wa_, .int mm_])), (fo_, aI K 120 ffo_), (ba_, aI K 120 fba_), (wa_, aI K 120 fwa_), (cn_, aI K 120 fc_)] rfl rfl (by decide) rfl (st := [.int (nI (lm_to w1 (rt1 k))), .ref h_]) rfl (Nat.le_of_ble_eq_true rfl) (by decide) ⟨by decide, by decide⟩ dX3_setRest_140 (fun v9 w9 h9 => ?_)
                obtain ⟨rfl, rfl⟩ := h9
                refine lx_perm [0, 1, 2, 3, 4, 5, 6, 7, 8, 9, 10, 11, 12, 13, 14, 15, 16, 17] [(x, .inr (3, [.ref ro_, .ref kc_, .ref mt_, .ref cn_, .ref h_, .ref h2_, .int z1])), (ro_, aJ K 10 gr_), (kc_, .inr (0, [.ref l0_, .ref il_, .ref ir_, .ref np_, .int mn_])), (l0_, aI K 120 fl_), (il_, aI K 120 fi_), (ir_, aI K 120 fr_), (np_, aI K 120 fn_), (h_, .inr (1, [.ref ca_, .ref co_, .int (nI (u1 + 1 + 1))])), (ca_, aI K 120 (lm_up (lm_up fa_ u1 (nI 2)) (u1 + 1) (nI 3))), (co_, aJ K 120 (lm_up (lm_up ga_ u1 (en (w1 (lm_to w1 (rt1 k))))) (u1 + 1) (en (rt1 j)))), (h2_, .inr (1, [.ref ca2_, .ref co2_, .int t2_])), (ca2_, aI K 120 f2_), (co2_, aJ K 120 g2_), (mt_, .inr (2, [.ref fo_, .ref ba_, .ref wa_, .int mm_])), (fo_, aI K 120 ffo_), (ba_, aI K 120 fba_), (wa_, aI K 120 fwa_), (cn_, aI K 120 fc_)] (by decide) rfl ?_
                refine lx_st (a' := 0) (b' := 0) [.long (en (3, ((u1 : Nat) : Int))), .int (nI (lm_to w1 (rt1 k))), .ref h_] rfl rfl rfl ?_
                refine lx_cv F (zh_setContent (xl E) K h_ ca_ co_ (lm_up (lm_up fa_ u1 (nI 2)) (u1 + 1) (nI 3)) (lm_up (lm_up ga_ u1 (en (w1 (lm_to w1 (rt1 k))))) (u1 + 1) (en (rt1 j))) (nI (u1 + 1 + 1)) (lm_to w1 (rt1 k)) (by omega) (en (3, ((u1 : Nat) : Int)))) cv_X3_98 7 rfl rfl [7, 8, 9] [0, 1, 2, 3, 4, 5, 6, 10, 11, 12, 13, 14, 15, 16, 17] [(x, .inr (3, [.ref ro_, .ref kc_, .ref mt_, .ref cn_, .ref h_, .ref h2_, .int z1])), (ro_, aJ K 10 gr_), (kc_, .inr (0, [.ref l0_, .ref il_, .ref ir_, .ref np_, .int mn_])), (l0_, aI K 120 fl_), (il_, aI K 120 fi_), (ir_, aI K 120 fr_), (np_, aI K 120 fn_), (h2_, .inr (1, [.ref ca2_, .ref co2_, .int t2_])), (ca2_, aI K 120 f2_), (co2_, aJ K 120 g2_), (mt_, .inr (2, [.ref fo_, .ref ba_, .ref wa_, .int mm_])), (fo_, aI K 120 ffo_), (ba_, aI K 120 fba_), (wa_, aI K 120 fwa_), (cn_, aI K 120 fc_)] rfl rfl (by decide) rfl (st := []) rfl (Nat.le_of_ble_eq_true rfl) (by decide) ⟨by decide, by decide⟩ dX3_setRest_143 (fun v9 w9 h9 => ?_)
                obtain ⟨rfl, rfl⟩ := h9
                refine lx_perm [0, 1, 2, 3, 4, 5, 6, 15, 16, 17, 7, 8, 9, 10, 11, 12, 13, 14] [(x, .inr (3, [.ref ro_, .ref kc_, .ref mt_, .ref cn_, .ref h_, .ref h2_, .int z1])), (ro_, aJ K 10 gr_), (kc_, .inr (0, [.ref l0_, .ref il_, .ref ir_, .ref np_, .int mn_])), (l0_, aI K 120 fl_), (il_, aI K 120 fi_), (ir_, aI K 120 fr_), (np_, aI K 120 fn_), (h_, .inr (1, [.ref ca_, .ref co_, .int (nI (u1 + 1 + 1))])), (ca_, aI K 120 (lm_up (lm_up fa_ u1 (nI 2)) (u1 + 1) (nI 3))), (co_, aJ K 120 (lm_up (lm_up (lm_up ga_ u1 (en (w1 (lm_to w1 (rt1 k))))) (u1 + 1) (en (rt1 j))) (lm_to w1 (rt1 k)) (en (3, ((u1 : Nat) : Int))))), (h2_, .inr (1, [.ref ca2_, .ref co2_, .int t2_])), (ca2_, aI K 120 f2_), (co2_, aJ K 120 g2_), (mt_, .inr (2, [.ref fo_, .ref ba_, .ref wa_, .int mm_])), (fo_, aI K 120 ffo_), (ba_, aI K 120 fba_), (wa_, aI K 120 fwa_), (cn_, aI K 120 fc_)] (by decide) rfl ?_
                refine lx_st (a' := 0) (b' := 0) [] rfl rfl rfl ?_
                exact lx_vret F hR dX3_setRest_146 ⟨rfl, by rw [show lm_oSetRest (nI k) (nI j) (c, w, u, rt, z) = (0, lm_pt (lm_ap (c1, w1, u1, rt1, z1) [(2, w1 (lm_to w1 (rt1 k))), (3, rt1 j)]) (lm_to w1 (rt1 k)) (3, ((u1 : Nat) : Int))) by unfold lm_oSetRest; rw [lm_none_n hk, lm_none_n hj, if_neg (by decide), lm_ix_n hk, if_neg (show ¬ (rt k).1 ≠ 2 from fun z9 => z9 h2e), lm_ix_n hj, if_neg hs, if_neg h6, hσ, if_pos hfit]; exact congrArg (Prod.mk 0) (if_neg h7)]; exact ⟨_, _, _, _, _, _, _, _, _, _, _, _, _, _, _, _, _, _, _, _, _, _, _, _, _, _, _, _, _, _, _, _, _, (lm_hf_up (v := (3, ((u1 : Nat) : Int))) (lm_hf_2 hh1)), hro1, rfl⟩⟩
            · skip
              exact absurd hcd (by rw [show lm_oSetRest (nI k) (nI j) (c, w, u, rt, z) = (3, (c1, w1, u1, rt1, z1)) by unfold lm_oSetRest; rw [lm_none_n hk, lm_none_n hj, if_neg (by decide), lm_ix_n hk, if_neg (show ¬ (rt k).1 ≠ 2 from fun z9 => z9 h2e), lm_ix_n hj, if_neg hs, if_neg h6, hσ, if_neg hfit]]; simp)
      · skip
        exact absurd hcd (by rw [show lm_oSetRest (nI k) (nI j) (c, w, u, rt, z) = (2, (c, w, u, rt, z)) by unfold lm_oSetRest; rw [lm_none_n hk, lm_none_n hj, if_neg (by decide), lm_ix_n hk, if_pos h2e]]; simp)
    · skip
      exact absurd hcd (by rw [show lm_oSetRest (nI k) f (c, w, u, rt, z) = (1, (c, w, u, rt, z)) by unfold lm_oSetRest; rw [lm_none_n hk, hnf]; rfl]; simp)
  · skip
    exact absurd hcd (by rw [show lm_oSetRest r f (c, w, u, rt, z) = (1, (c, w, u, rt, z)) by unfold lm_oSetRest; rw [hnr]; rfl]; simp)

set_option maxHeartbeats 4000000 in
set_option maxRecDepth 100000 in
theorem zX_setRest_1 (l : Launch) (K : lm_G) (x : Nat) (c : Nat → Nat) (w : Nat → lm_V) (u : Nat) (rt : Nat → lm_V) (z : Int32) (hst : lm_st c w u rt) (W : va_W) (hW : lm_obj K x (c, w, u, rt, z) W) (r f : Int32) (hcd : (lm_oSetRest r f (c, w, u, rt, z)).1 = 1) : lm_CX l K mX3_setRest (rx 8) [.ref x, .int r, .int f] W eN (fun w9 => lm_obj K x (lm_oSetRest r f (c, w, u, rt, z)).2 w9) := by
  obtain ⟨ro, kc, l0, il, ir, np, h, ca, co, h2, ca2, co2, mt, fo, ba, wa, cn, gr, fl, fi, fr, fn, mn, fa, ga, f2, g2, t2, ffo, fba, fwa, mm, fc, hh, hro, rfl⟩ := hW
  have hh : lm_hf fa ga c w u := hh
  have hro : ∀ r, r < 10 → gr r = en (rt r) := hro
  have hw := hst.1
  have hr9 := hst.2
  have hu := hw.1
  refine lx_metX RX3 pn_X3 rfl (Nat.le_of_ble_eq_true rfl) (fun E hE F X => ?_)
  have F : lx_F K 5 E cX3_setRest RX3 none (rx 8) := F
  show lx_W K 5 E 0 0 0 [(0, .ref x), (1, .int r), (2, .int f)] [] [(x, .inr (3, [.ref ro, .ref kc, .ref mt, .ref cn, .ref h, .ref h2, .int z])), (ro, aJ K 10 gr), (kc, .inr (0, [.ref l0, .ref il, .ref ir, .ref np, .int mn])), (l0, aI K 120 fl), (il, aI K 120 fi), (ir, aI K 120 fr), (np, aI K 120 fn), (h, .inr (1, [.ref ca, .ref co, .int (nI u)])), (ca, aI K 120 fa), (co, aJ K 120 ga), (h2, .inr (1, [.ref ca2, .ref co2, .int t2])), (ca2, aI K 120 f2), (co2, aJ K 120 g2), (mt, .inr (2, [.ref fo, .ref ba, .ref wa, .int mm])), (fo, aI K 120 ffo), (ba, aI K 120 fba), (wa, aI K 120 fwa), (cn, aI K 120 fc)]
  cases hnr : lm_none r
  · skip
    obtain ⟨k, hk, rfl⟩ := lm_none_f hnr
    cases hnf : lm_none f
    · skip
      obtain ⟨j, hj, rfl⟩ := lm_none_f hnf
      have hk3 := lm_ok_kind (hr9 k hk)
      by_cases h2e : (rt k).1 = 2
      · skip
        have hcl := lm_to_cl hw (hr9 k hk) h2e
        have hp1 := hcl.1
        by_cases hs : lm_same w (lm_rest c w (lm_to w (rt k))) (rt j) = true
        · skip
          exact absurd hcd (by rw [show lm_oSetRest (nI k) (nI j) (c, w, u, rt, z) = (0, (c, w, u, rt, z)) by unfold lm_oSetRest; rw [lm_none_n hk, lm_none_n hj, if_neg (by decide), lm_ix_n hk, if_neg (show ¬ (rt k).1 ≠ 2 from fun z9 => z9 h2e), lm_ix_n hj, if_pos hs]]; simp)
        · skip
          have hs2 : lm_same w (lm_rest c w (lm_to w (rt k))) (rt j) = false := by cases h9 : lm_same w (lm_rest c w (lm_to w (rt k))) (rt j) with
            | false => rfl
            | true => exact absurd h9 hs
          have hc3 := hw.2.1 _ hp1
          by_cases h6 : c (lm_to w (rt k)) = 2
          · skip
            have hp3 := hw.2.2.2.1 _ hp1 h6
            have hp4 := hp3.1
            exact absurd hcd (by rw [show lm_oSetRest (nI k) (nI j) (c, w, u, rt, z) = (0, lm_pt (c, w, u, rt, z) (lm_to w (rt k) + 1) (rt j)) by unfold lm_oSetRest; rw [lm_none_n hk, lm_none_n hj, if_neg (by decide), lm_ix_n hk, if_neg (show ¬ (rt k).1 ≠ 2 from fun z9 => z9 h2e), lm_ix_n hj, if_neg hs, if_pos h6]; exact congrArg (Prod.mk 0) (if_pos h6)]; simp)
          · skip
            obtain ⟨c1, w1, u1, rt1, z1, hσ⟩ : ∃ c1 w1 u1 rt1 z1, lm_rm 2 (c, w, u, rt, z) = (c1, w1, u1, rt1, z1) := ⟨_, _, _, _, _, rfl⟩
            have hst1 : lm_st c1 w1 u1 rt1 := by have h9 : lm_sx (lm_rm 2 (c, w, u, rt, z)) := lm_sx_rm 2 hst; rw [hσ] at h9; exact h9
            have hw1 := hst1.1
            have hu1 := hw1.1
            by_cases hfit : u1 + 2 ≤ 120
            · skip
              have h21 : (rt1 k).1 = 2 := lm_rm_k hσ h2e
              have hcl1 := lm_to_cl hw1 (hst1.2 k hk) h21
              have hp2 := hcl1.1
              have hc31 := hw1.2.1 _ hp2
              by_cases h7 : c1 (lm_to w1 (rt1 k)) = 2
              · skip
                have hp3 := hw1.2.2.2.1 _ hp2 h7
                have hp4 := hp3.1
                exact absurd hcd (by rw [show lm_oSetRest (nI k) (nI j) (c, w, u, rt, z) = (0, lm_pt (c1, w1, u1, rt1, z1) (lm_to w1 (rt1 k) + 1) (rt1 j)) by unfold lm_oSetRest; rw [lm_none_n hk, lm_none_n hj, if_neg (by decide), lm_ix_n hk, if_neg (show ¬ (rt k).1 ≠ 2 from fun z9 => z9 h2e), lm_ix_n hj, if_neg hs, if_neg h6, hσ, if_pos hfit]; exact congrArg (Prod.mk 0) (if_pos h7)]; simp)
              · skip
                exact absurd hcd (by rw [show lm_oSetRest (nI k) (nI j) (c, w, u, rt, z) = (0, lm_pt (lm_ap (c1, w1, u1, rt1, z1) [(2, w1 (lm_to w1 (rt1 k))), (3, rt1 j)]) (lm_to w1 (rt1 k)) (3, ((u1 : Nat) : Int))) by unfold lm_oSetRest; rw [lm_none_n hk, lm_none_n hj, if_neg (by decide), lm_ix_n hk, if_neg (show ¬ (rt k).1 ≠ 2 from fun z9 => z9 h2e), lm_ix_n hj, if_neg hs, if_neg h6, hσ, if_pos hfit]; exact congrArg (Prod.mk 0) (if_neg h7)]; simp)
            · skip
              exact absurd hcd (by rw [show lm_oSetRest (nI k) (nI j) (c, w, u, rt, z) = (3, (c1, w1, u1, rt1, z1)) by unfold lm_oSetRest; rw [lm_none_n hk, lm_none_n hj, if_neg (by decide), lm_ix_n hk, if_neg (show ¬ (rt k).1 ≠ 2 from fun z9 => z9 h2e), lm_ix_n hj, if_neg hs, if_neg h6, hσ, if_neg hfit]]; simp)
      · skip
        exact absurd hcd (by rw [show lm_oSetRest (nI k) (nI j) (c, w, u, rt, z) = (2, (c, w, u, rt, z)) by unfold lm_oSetRest; rw [lm_none_n hk, lm_none_n hj, if_neg (by decide), lm_ix_n hk, if_pos h2e]]; simp)
    · skip
      refine lx_iload_n F dX3_setRest_0 1 rfl ?_
      refine lx_iload_n F dX3_setRest_1 2 rfl ?_
      exact lx_csX F X (zX_cksx (xl E) K (nI k) f (by rw [lm_none_n hk, hnf]; rfl)) cs_X3_64 [] [0, 1, 2, 3, 4, 5, 6, 7, 8, 9, 10, 11, 12, 13, 14, 15, 16, 17] [(x, .inr (3, [.ref ro, .ref kc, .ref mt, .ref cn, .ref h, .ref h2, .int z])), (ro, aJ K 10 gr), (kc, .inr (0, [.ref l0, .ref il, .ref ir, .ref np, .int mn])), (l0, aI K 120 fl), (il, aI K 120 fi), (ir, aI K 120 fr), (np, aI K 120 fn), (h, .inr (1, [.ref ca, .ref co, .int (nI u)])), (ca, aI K 120 fa), (co, aJ K 120 ga), (h2, .inr (1, [.ref ca2, .ref co2, .int t2])), (ca2, aI K 120 f2), (co2, aJ K 120 g2), (mt, .inr (2, [.ref fo, .ref ba, .ref wa, .int mm])), (fo, aI K 120 ffo), (ba, aI K 120 fba), (wa, aI K 120 fwa), (cn, aI K 120 fc)] rfl rfl (by decide) rfl (st := []) rfl (Nat.le_of_ble_eq_true rfl) (by decide) ⟨by decide, by decide⟩ dX3_setRest_2 (fun w9 h9 => by subst h9; exact (by show lm_obj K x _ _; rw [show lm_oSetRest (nI k) f (c, w, u, rt, z) = (1, (c, w, u, rt, z)) by unfold lm_oSetRest; rw [lm_none_n hk, hnf]; rfl]; exact ⟨_, _, _, _, _, _, _, _, _, _, _, _, _, _, _, _, _, _, _, _, _, _, _, _, _, _, _, _, _, _, _, _, _, hh, hro, rfl⟩))
  · skip
    refine lx_iload_n F dX3_setRest_0 1 rfl ?_
    refine lx_iload_n F dX3_setRest_1 2 rfl ?_
    exact lx_csX F X (zX_cksx (xl E) K r f (by rw [hnr]; rfl)) cs_X3_64 [] [0, 1, 2, 3, 4, 5, 6, 7, 8, 9, 10, 11, 12, 13, 14, 15, 16, 17] [(x, .inr (3, [.ref ro, .ref kc, .ref mt, .ref cn, .ref h, .ref h2, .int z])), (ro, aJ K 10 gr), (kc, .inr (0, [.ref l0, .ref il, .ref ir, .ref np, .int mn])), (l0, aI K 120 fl), (il, aI K 120 fi), (ir, aI K 120 fr), (np, aI K 120 fn), (h, .inr (1, [.ref ca, .ref co, .int (nI u)])), (ca, aI K 120 fa), (co, aJ K 120 ga), (h2, .inr (1, [.ref ca2, .ref co2, .int t2])), (ca2, aI K 120 f2), (co2, aJ K 120 g2), (mt, .inr (2, [.ref fo, .ref ba, .ref wa, .int mm])), (fo, aI K 120 ffo), (ba, aI K 120 fba), (wa, aI K 120 fwa), (cn, aI K 120 fc)] rfl rfl (by decide) rfl (st := []) rfl (Nat.le_of_ble_eq_true rfl) (by decide) ⟨by decide, by decide⟩ dX3_setRest_2 (fun w9 h9 => by subst h9; exact (by show lm_obj K x _ _; rw [show lm_oSetRest r f (c, w, u, rt, z) = (1, (c, w, u, rt, z)) by unfold lm_oSetRest; rw [hnr]; rfl]; exact ⟨_, _, _, _, _, _, _, _, _, _, _, _, _, _, _, _, _, _, _, _, _, _, _, _, _, _, _, _, _, _, _, _, _, hh, hro, rfl⟩))

set_option maxHeartbeats 4000000 in
set_option maxRecDepth 100000 in
theorem zX_setRest_2 (l : Launch) (K : lm_G) (x : Nat) (c : Nat → Nat) (w : Nat → lm_V) (u : Nat) (rt : Nat → lm_V) (z : Int32) (hst : lm_st c w u rt) (W : va_W) (hW : lm_obj K x (c, w, u, rt, z) W) (r f : Int32) (hcd : (lm_oSetRest r f (c, w, u, rt, z)).1 = 2) : lm_CX l K mX3_setRest (rx 8) [.ref x, .int r, .int f] W eS (fun w9 => lm_obj K x (lm_oSetRest r f (c, w, u, rt, z)).2 w9) := by
  obtain ⟨ro, kc, l0, il, ir, np, h, ca, co, h2, ca2, co2, mt, fo, ba, wa, cn, gr, fl, fi, fr, fn, mn, fa, ga, f2, g2, t2, ffo, fba, fwa, mm, fc, hh, hro, rfl⟩ := hW
  have hh : lm_hf fa ga c w u := hh
  have hro : ∀ r, r < 10 → gr r = en (rt r) := hro
  have hw := hst.1
  have hr9 := hst.2
  have hu := hw.1
  refine lx_metX RX3 pn_X3 rfl (Nat.le_of_ble_eq_true rfl) (fun E hE F X => ?_)
  have F : lx_F K 5 E cX3_setRest RX3 none (rx 8) := F
  show lx_W K 5 E 0 0 0 [(0, .ref x), (1, .int r), (2, .int f)] [] [(x, .inr (3, [.ref ro, .ref kc, .ref mt, .ref cn, .ref h, .ref h2, .int z])), (ro, aJ K 10 gr), (kc, .inr (0, [.ref l0, .ref il, .ref ir, .ref np, .int mn])), (l0, aI K 120 fl), (il, aI K 120 fi), (ir, aI K 120 fr), (np, aI K 120 fn), (h, .inr (1, [.ref ca, .ref co, .int (nI u)])), (ca, aI K 120 fa), (co, aJ K 120 ga), (h2, .inr (1, [.ref ca2, .ref co2, .int t2])), (ca2, aI K 120 f2), (co2, aJ K 120 g2), (mt, .inr (2, [.ref fo, .ref ba, .ref wa, .int mm])), (fo, aI K 120 ffo), (ba, aI K 120 fba), (wa, aI K 120 fwa), (cn, aI K 120 fc)]
  cases hnr : lm_none r
  · skip
    obtain ⟨k, hk, rfl⟩ := lm_none_f hnr
    cases hnf : lm_none f
    · skip
      obtain ⟨j, hj, rfl⟩ := lm_none_f hnf
      have hk3 := lm_ok_kind (hr9 k hk)
      by_cases h2e : (rt k).1 = 2
      · skip
        have hcl := lm_to_cl hw (hr9 k hk) h2e
        have hp1 := hcl.1
        by_cases hs : lm_same w (lm_rest c w (lm_to w (rt k))) (rt j) = true
        · skip
          exact absurd hcd (by rw [show lm_oSetRest (nI k) (nI j) (c, w, u, rt, z) = (0, (c, w, u, rt, z)) by unfold lm_oSetRest; rw [lm_none_n hk, lm_none_n hj, if_neg (by decide), lm_ix_n hk, if_neg (show ¬ (rt k).1 ≠ 2 from fun z9 => z9 h2e), lm_ix_n hj, if_pos hs]]; simp)
        · skip
          have hs2 : lm_same w (lm_rest c w (lm_to w (rt k))) (rt j) = false := by cases h9 : lm_same w (lm_rest c w (lm_to w (rt k))) (rt j) with
            | false => rfl
            | true => exact absurd h9 hs
          have hc3 := hw.2.1 _ hp1
          by_cases h6 : c (lm_to w (rt k)) = 2
          · skip
            have hp3 := hw.2.2.2.1 _ hp1 h6
            have hp4 := hp3.1
            exact absurd hcd (by rw [show lm_oSetRest (nI k) (nI j) (c, w, u, rt, z) = (0, lm_pt (c, w, u, rt, z) (lm_to w (rt k) + 1) (rt j)) by unfold lm_oSetRest; rw [lm_none_n hk, lm_none_n hj, if_neg (by decide), lm_ix_n hk, if_neg (show ¬ (rt k).1 ≠ 2 from fun z9 => z9 h2e), lm_ix_n hj, if_neg hs, if_pos h6]; exact congrArg (Prod.mk 0) (if_pos h6)]; simp)
          · skip
            obtain ⟨c1, w1, u1, rt1, z1, hσ⟩ : ∃ c1 w1 u1 rt1 z1, lm_rm 2 (c, w, u, rt, z) = (c1, w1, u1, rt1, z1) := ⟨_, _, _, _, _, rfl⟩
            have hst1 : lm_st c1 w1 u1 rt1 := by have h9 : lm_sx (lm_rm 2 (c, w, u, rt, z)) := lm_sx_rm 2 hst; rw [hσ] at h9; exact h9
            have hw1 := hst1.1
            have hu1 := hw1.1
            by_cases hfit : u1 + 2 ≤ 120
            · skip
              have h21 : (rt1 k).1 = 2 := lm_rm_k hσ h2e
              have hcl1 := lm_to_cl hw1 (hst1.2 k hk) h21
              have hp2 := hcl1.1
              have hc31 := hw1.2.1 _ hp2
              by_cases h7 : c1 (lm_to w1 (rt1 k)) = 2
              · skip
                have hp3 := hw1.2.2.2.1 _ hp2 h7
                have hp4 := hp3.1
                exact absurd hcd (by rw [show lm_oSetRest (nI k) (nI j) (c, w, u, rt, z) = (0, lm_pt (c1, w1, u1, rt1, z1) (lm_to w1 (rt1 k) + 1) (rt1 j)) by unfold lm_oSetRest; rw [lm_none_n hk, lm_none_n hj, if_neg (by decide), lm_ix_n hk, if_neg (show ¬ (rt k).1 ≠ 2 from fun z9 => z9 h2e), lm_ix_n hj, if_neg hs, if_neg h6, hσ, if_pos hfit]; exact congrArg (Prod.mk 0) (if_pos h7)]; simp)
              · skip
                exact absurd hcd (by rw [show lm_oSetRest (nI k) (nI j) (c, w, u, rt, z) = (0, lm_pt (lm_ap (c1, w1, u1, rt1, z1) [(2, w1 (lm_to w1 (rt1 k))), (3, rt1 j)]) (lm_to w1 (rt1 k)) (3, ((u1 : Nat) : Int))) by unfold lm_oSetRest; rw [lm_none_n hk, lm_none_n hj, if_neg (by decide), lm_ix_n hk, if_neg (show ¬ (rt k).1 ≠ 2 from fun z9 => z9 h2e), lm_ix_n hj, if_neg hs, if_neg h6, hσ, if_pos hfit]; exact congrArg (Prod.mk 0) (if_neg h7)]; simp)
            · skip
              exact absurd hcd (by rw [show lm_oSetRest (nI k) (nI j) (c, w, u, rt, z) = (3, (c1, w1, u1, rt1, z1)) by unfold lm_oSetRest; rw [lm_none_n hk, lm_none_n hj, if_neg (by decide), lm_ix_n hk, if_neg (show ¬ (rt k).1 ≠ 2 from fun z9 => z9 h2e), lm_ix_n hj, if_neg hs, if_neg h6, hσ, if_neg hfit]]; simp)
      · skip
        refine lx_iload_n F dX3_setRest_0 1 rfl ?_
        refine lx_iload_n F dX3_setRest_1 2 rfl ?_
        refine lx_cs F (zX_cks (xl E) K k j hk hj) cs_X3_64 [] [0, 1, 2, 3, 4, 5, 6, 7, 8, 9, 10, 11, 12, 13, 14, 15, 16, 17] [(x, .inr (3, [.ref ro, .ref kc, .ref mt, .ref cn, .ref h, .ref h2, .int z])), (ro, aJ K 10 gr), (kc, .inr (0, [.ref l0, .ref il, .ref ir, .ref np, .int mn])), (l0, aI K 120 fl), (il, aI K 120 fi), (ir, aI K 120 fr), (np, aI K 120 fn), (h, .inr (1, [.ref ca, .ref co, .int (nI u)])), (ca, aI K 120 fa), (co, aJ K 120 ga), (h2, .inr (1, [.ref ca2, .ref co2, .int t2])), (ca2, aI K 120 f2), (co2, aJ K 120 g2), (mt, .inr (2, [.ref fo, .ref ba, .ref wa, .int mm])), (fo, aI K 120 ffo), (ba, aI K 120 fba), (wa, aI K 120 fwa), (cn, aI K 120 fc)] rfl rfl (by decide) rfl (st := []) rfl (Nat.le_of_ble_eq_true rfl) (by decide) ⟨by decide, by decide⟩ dX3_setRest_2 (fun v9 w9 h9 => ?_)
        obtain ⟨rfl, rfl⟩ := h9
        refine lx_perm [0, 1, 2, 3, 4, 5, 6, 7, 8, 9, 10, 11, 12, 13, 14, 15, 16, 17] [(x, .inr (3, [.ref ro, .ref kc, .ref mt, .ref cn, .ref h, .ref h2, .int z])), (ro, aJ K 10 gr), (kc, .inr (0, [.ref l0, .ref il, .ref ir, .ref np, .int mn])), (l0, aI K 120 fl), (il, aI K 120 fi), (ir, aI K 120 fr), (np, aI K 120 fn), (h, .inr (1, [.ref ca, .ref co, .int (nI u)])), (ca, aI K 120 fa), (co, aJ K 120 ga), (h2, .inr (1, [.ref ca2, .ref co2, .int t2])), (ca2, aI K 120 f2), (co2, aJ K 120 g2), (mt, .inr (2, [.ref fo, .ref ba, .ref wa, .int mm])), (fo, aI K 120 ffo), (ba, aI K 120 fba), (wa, aI K 120 fwa), (cn, aI K 120 fc)] (by decide) rfl ?_
        refine lx_st (a' := 0) (b' := 0) [] rfl rfl rfl ?_
        refine lx_aload_n F dX3_setRest_5 0 rfl ?_
        refine lx_iload_n F dX3_setRest_6 1 rfl ?_
        exact lx_cvXP F X (zX_ckpx (xl E) K x ro kc mt cn h h2 z gr k hk (rt k) (hro k hk) (by omega) h2e) cv_X3_84 0 rfl rfl [0, 1] [2, 3, 4, 5, 6, 7, 8, 9, 10, 11, 12, 13, 14, 15, 16, 17] [(kc, .inr (0, [.ref l0, .ref il, .ref ir, .ref np, .int mn])), (l0, aI K 120 fl), (il, aI K 120 fi), (ir, aI K 120 fr), (np, aI K 120 fn), (h, .inr (1, [.ref ca, .ref co, .int (nI u)])), (ca, aI K 120 fa), (co, aJ K 120 ga), (h2, .inr (1, [.ref ca2, .ref co2, .int t2])), (ca2, aI K 120 f2), (co2, aJ K 120 g2), (mt, .inr (2, [.ref fo, .ref ba, .ref wa, .int mm])), (fo, aI K 120 ffo), (ba, aI K 120 fba), (wa, aI K 120 fwa), (cn, aI K 120 fc)] rfl rfl (by decide) rfl (st := []) rfl (Nat.le_of_ble_eq_true rfl) (by decide) ⟨by decide, by decide⟩ dX3_setRest_7 [16, 17, 0, 1, 2, 3, 4, 5, 6, 7, 8, 9, 10, 11, 12, 13, 14, 15] [(x, .inr (3, [.ref ro, .ref kc, .ref mt, .ref cn, .ref h, .ref h2, .int z])), (ro, aJ K 10 gr), (kc, .inr (0, [.ref l0, .ref il, .ref ir, .ref np, .int mn])), (l0, aI K 120 fl), (il, aI K 120 fi), (ir, aI K 120 fr), (np, aI K 120 fn), (h, .inr (1, [.ref ca, .ref co, .int (nI u)])), (ca, aI K 120 fa), (co, aJ K 120 ga), (h2, .inr (1, [.ref ca2, .ref co2, .int t2])), (ca2, aI K 120 f2), (co2, aJ K 120 g2), (mt, .inr (2, [.ref fo, .ref ba, .ref wa, .int mm])), (fo, aI K 120 ffo), (ba, aI K 120 fba), (wa, aI K 120 fwa), (cn, aI K 120 fc)] (by decide) (fun w9 h9 => ⟨by subst h9; rfl, by show lm_obj K x _ _; rw [show lm_oSetRest (nI k) (nI j) (c, w, u, rt, z) = (2, (c, w, u, rt, z)) by unfold lm_oSetRest; rw [lm_none_n hk, lm_none_n hj, if_neg (by decide), lm_ix_n hk, if_pos h2e]]; exact ⟨_, _, _, _, _, _, _, _, _, _, _, _, _, _, _, _, _, _, _, _, _, _, _, _, _, _, _, _, _, _, _, _, _, hh, hro, rfl⟩⟩)
    · skip
      exact absurd hcd (by rw [show lm_oSetRest (nI k) f (c, w, u, rt, z) = (1, (c, w, u, rt, z)) by unfold lm_oSetRest; rw [lm_none_n hk, hnf]; rfl]; simp)
  · skip
    exact absurd hcd (by rw [show lm_oSetRest r f (c, w, u, rt, z) = (1, (c, w, u, rt, z)) by unfold lm_oSetRest; rw [hnr]; rfl]; simp)

set_option maxHeartbeats 4000000 in
set_option maxRecDepth 100000 in
theorem zX_setRest_3 (l : Launch) (K : lm_G) (x : Nat) (c : Nat → Nat) (w : Nat → lm_V) (u : Nat) (rt : Nat → lm_V) (z : Int32) (hst : lm_st c w u rt) (W : va_W) (hW : lm_obj K x (c, w, u, rt, z) W) (r f : Int32) (hcd : (lm_oSetRest r f (c, w, u, rt, z)).1 = 3) : lm_CX l K mX3_setRest (rx 8) [.ref x, .int r, .int f] W eU (fun w9 => lm_obj K x (lm_oSetRest r f (c, w, u, rt, z)).2 w9) := by
  obtain ⟨ro, kc, l0, il, ir, np, h, ca, co, h2, ca2, co2, mt, fo, ba, wa, cn, gr, fl, fi, fr, fn, mn, fa, ga, f2, g2, t2, ffo, fba, fwa, mm, fc, hh, hro, rfl⟩ := hW
  have hh : lm_hf fa ga c w u := hh
  have hro : ∀ r, r < 10 → gr r = en (rt r) := hro
  have hw := hst.1
  have hr9 := hst.2
  have hu := hw.1
  refine lx_metX RX3 pn_X3 rfl (Nat.le_of_ble_eq_true rfl) (fun E hE F X => ?_)
  have F : lx_F K 5 E cX3_setRest RX3 none (rx 8) := F
  show lx_W K 5 E 0 0 0 [(0, .ref x), (1, .int r), (2, .int f)] [] [(x, .inr (3, [.ref ro, .ref kc, .ref mt, .ref cn, .ref h, .ref h2, .int z])), (ro, aJ K 10 gr), (kc, .inr (0, [.ref l0, .ref il, .ref ir, .ref np, .int mn])), (l0, aI K 120 fl), (il, aI K 120 fi), (ir, aI K 120 fr), (np, aI K 120 fn), (h, .inr (1, [.ref ca, .ref co, .int (nI u)])), (ca, aI K 120 fa), (co, aJ K 120 ga), (h2, .inr (1, [.ref ca2, .ref co2, .int t2])), (ca2, aI K 120 f2), (co2, aJ K 120 g2), (mt, .inr (2, [.ref fo, .ref ba, .ref wa, .int mm])), (fo, aI K 120 ffo), (ba, aI K 120 fba), (wa, aI K 120 fwa), (cn, aI K 120 fc)]
  cases hnr : lm_none r
  · skip
    obtain ⟨k, hk, rfl⟩ := lm_none_f hnr
    cases hnf : lm_none f
    · skip
      obtain ⟨j, hj, rfl⟩ := lm_none_f hnf
      have hk3 := lm_ok_kind (hr9 k hk)
      by_cases h2e : (rt k).1 = 2
      · skip
        have hcl := lm_to_cl hw (hr9 k hk) h2e
        have hp1 := hcl.1
        by_cases hs : lm_same w (lm_rest c w (lm_to w (rt k))) (rt j) = true
        · skip
          exact absurd hcd (by rw [show lm_oSetRest (nI k) (nI j) (c, w, u, rt, z) = (0, (c, w, u, rt, z)) by unfold lm_oSetRest; rw [lm_none_n hk, lm_none_n hj, if_neg (by decide), lm_ix_n hk, if_neg (show ¬ (rt k).1 ≠ 2 from fun z9 => z9 h2e), lm_ix_n hj, if_pos hs]]; simp)
        · skip
          have hs2 : lm_same w (lm_rest c w (lm_to w (rt k))) (rt j) = false := by cases h9 : lm_same w (lm_rest c w (lm_to w (rt k))) (rt j) with
            | false => rfl
            | true => exact absurd h9 hs
          have hc3 := hw.2.1 _ hp1
          by_cases h6 : c (lm_to w (rt k)) = 2
          · skip
            have hp3 := hw.2.2.2.1 _ hp1 h6
            have hp4 := hp3.1
            exact absurd hcd (by rw [show lm_oSetRest (nI k) (nI j) (c, w, u, rt, z) = (0, lm_pt (c, w, u, rt, z) (lm_to w (rt k) + 1) (rt j)) by unfold lm_oSetRest; rw [lm_none_n hk, lm_none_n hj, if_neg (by decide), lm_ix_n hk, if_neg (show ¬ (rt k).1 ≠ 2 from fun z9 => z9 h2e), lm_ix_n hj, if_neg hs, if_pos h6]; exact congrArg (Prod.mk 0) (if_pos h6)]; simp)
          · skip
            obtain ⟨c1, w1, u1, rt1, z1, hσ⟩ : ∃ c1 w1 u1 rt1 z1, lm_rm 2 (c, w, u, rt, z) = (c1, w1, u1, rt1, z1) := ⟨_, _, _, _, _, rfl⟩
            have hst1 : lm_st c1 w1 u1 rt1 := by have h9 : lm_sx (lm_rm 2 (c, w, u, rt, z)) := lm_sx_rm 2 hst; rw [hσ] at h9; exact h9
            have hw1 := hst1.1
            have hu1 := hw1.1
            by_cases hfit : u1 + 2 ≤ 120
            · skip
              have h21 : (rt1 k).1 = 2 := lm_rm_k hσ h2e
              have hcl1 := lm_to_cl hw1 (hst1.2 k hk) h21
              have hp2 := hcl1.1
              have hc31 := hw1.2.1 _ hp2
              by_cases h7 : c1 (lm_to w1 (rt1 k)) = 2
              · skip
                have hp3 := hw1.2.2.2.1 _ hp2 h7
                have hp4 := hp3.1
                exact absurd hcd (by rw [show lm_oSetRest (nI k) (nI j) (c, w, u, rt, z) = (0, lm_pt (c1, w1, u1, rt1, z1) (lm_to w1 (rt1 k) + 1) (rt1 j)) by unfold lm_oSetRest; rw [lm_none_n hk, lm_none_n hj, if_neg (by decide), lm_ix_n hk, if_neg (show ¬ (rt k).1 ≠ 2 from fun z9 => z9 h2e), lm_ix_n hj, if_neg hs, if_neg h6, hσ, if_pos hfit]; exact congrArg (Prod.mk 0) (if_pos h7)]; simp)
              · skip
                exact absurd hcd (by rw [show lm_oSetRest (nI k) (nI j) (c, w, u, rt, z) = (0, lm_pt (lm_ap (c1, w1, u1, rt1, z1) [(2, w1 (lm_to w1 (rt1 k))), (3, rt1 j)]) (lm_to w1 (rt1 k)) (3, ((u1 : Nat) : Int))) by unfold lm_oSetRest; rw [lm_none_n hk, lm_none_n hj, if_neg (by decide), lm_ix_n hk, if_neg (show ¬ (rt k).1 ≠ 2 from fun z9 => z9 h2e), lm_ix_n hj, if_neg hs, if_neg h6, hσ, if_pos hfit]; exact congrArg (Prod.mk 0) (if_neg h7)]; simp)
            · skip
              refine lx_iload_n F dX3_setRest_0 1 rfl ?_
              refine lx_iload_n F dX3_setRest_1 2 rfl ?_
              refine lx_cs F (zX_cks (xl E) K k j hk hj) cs_X3_64 [] [0, 1, 2, 3, 4, 5, 6, 7, 8, 9, 10, 11, 12, 13, 14, 15, 16, 17] [(x, .inr (3, [.ref ro, .ref kc, .ref mt, .ref cn, .ref h, .ref h2, .int z])), (ro, aJ K 10 gr), (kc, .inr (0, [.ref l0, .ref il, .ref ir, .ref np, .int mn])), (l0, aI K 120 fl), (il, aI K 120 fi), (ir, aI K 120 fr), (np, aI K 120 fn), (h, .inr (1, [.ref ca, .ref co, .int (nI u)])), (ca, aI K 120 fa), (co, aJ K 120 ga), (h2, .inr (1, [.ref ca2, .ref co2, .int t2])), (ca2, aI K 120 f2), (co2, aJ K 120 g2), (mt, .inr (2, [.ref fo, .ref ba, .ref wa, .int mm])), (fo, aI K 120 ffo), (ba, aI K 120 fba), (wa, aI K 120 fwa), (cn, aI K 120 fc)] rfl rfl (by decide) rfl (st := []) rfl (Nat.le_of_ble_eq_true rfl) (by decide) ⟨by decide, by decide⟩ dX3_setRest_2 (fun v9 w9 h9 => ?_)
              obtain ⟨rfl, rfl⟩ := h9
              refine lx_perm [0, 1, 2, 3, 4, 5, 6, 7, 8, 9, 10, 11, 12, 13, 14, 15, 16, 17] [(x, .inr (3, [.ref ro, .ref kc, .ref mt, .ref cn, .ref h, .ref h2, .int z])), (ro, aJ K 10 gr), (kc, .inr (0, [.ref l0, .ref il, .ref ir, .ref np, .int mn])), (l0, aI K 120 fl), (il, aI K 120 fi), (ir, aI K 120 fr), (np, aI K 120 fn), (h, .inr (1, [.ref ca, .ref co, .int (nI u)])), (ca, aI K 120 fa), (co, aJ K 120 ga), (h2, .inr (1, [.ref ca2, .ref co2, .int t2])), (ca2, aI K 120 f2), (co2, aJ K 120 g2), (mt, .inr (2, [.ref fo, .ref ba, .ref wa, .int mm])), (fo, aI K 120 ffo), (ba, aI K 120 fba), (wa, aI K 120 fwa), (cn, aI K 120 fc)] (by decide) rfl ?_
              refine lx_st (a' := 0) (b' := 0) [] rfl rfl rfl ?_
              refine lx_aload_n F dX3_setRest_5 0 rfl ?_
              refine lx_iload_n F dX3_setRest_6 1 rfl ?_
              refine lx_cv F (zX_ckp (xl E) K x ro kc mt cn h h2 z gr k hk (rt k) (hro k hk) (by omega) h2e) cv_X3_84 0 rfl rfl [0, 1] [2, 3, 4, 5, 6, 7, 8, 9, 10, 11, 12, 13, 14, 15, 16, 17] [(kc, .inr (0, [.ref l0, .ref il, .ref ir, .ref np, .int mn])), (l0, aI K 120 fl), (il, aI K 120 fi), (ir, aI K 120 fr), (np, aI K 120 fn), (h, .inr (1, [.ref ca, .ref co, .int (nI u)])), (ca, aI K 120 fa), (co, aJ K 120 ga), (h2, .inr (1, [.ref ca2, .ref co2, .int t2])), (ca2, aI K 120 f2), (co2, aJ K 120 g2), (mt, .inr (2, [.ref fo, .ref ba, .ref wa, .int mm])), (fo, aI K 120 ffo), (ba, aI K 120 fba), (wa, aI K 120 fwa), (cn, aI K 120 fc)] rfl rfl (by decide) rfl (st := []) rfl (Nat.le_of_ble_eq_true rfl) (by decide) ⟨by decide, by decide⟩ dX3_setRest_7 (fun v9 w9 h9 => ?_)
              obtain ⟨rfl, rfl⟩ := h9
              refine lx_perm [16, 17, 0, 1, 2, 3, 4, 5, 6, 7, 8, 9, 10, 11, 12, 13, 14, 15] [(x, .inr (3, [.ref ro, .ref kc, .ref mt, .ref cn, .ref h, .ref h2, .int z])), (ro, aJ K 10 gr), (kc, .inr (0, [.ref l0, .ref il, .ref ir, .ref np, .int mn])), (l0, aI K 120 fl), (il, aI K 120 fi), (ir, aI K 120 fr), (np, aI K 120 fn), (h, .inr (1, [.ref ca, .ref co, .int (nI u)])), (ca, aI K 120 fa), (co, aJ K 120 ga), (h2, .inr (1, [.ref ca2, .ref co2, .int t2])), (ca2, aI K 120 f2), (co2, aJ K 120 g2), (mt, .inr (2, [.ref fo, .ref ba, .ref wa, .int mm])), (fo, aI K 120 ffo), (ba, aI K 120 fba), (wa, aI K 120 fwa), (cn, aI K 120 fc)] (by decide) rfl ?_
              refine lx_st (a' := 0) (b' := 0) [] rfl rfl rfl ?_
              refine lx_aload_n F dX3_setRest_10 0 rfl ?_
              refine gf_X3_34 F 0 rfl rfl dX3_setRest_11 ?_
              refine lx_aload_n F dX3_setRest_14 0 rfl ?_
              refine gf_X3_9 F 0 rfl rfl dX3_setRest_15 ?_
              refine lx_iload_n F dX3_setRest_18 1 rfl ?_
              refine lx_lald F 1 k dX3_setRest_19 rfl (by omega) (by decide) ?_
              rw [hro k hk]
              refine lx_cv F (zh_cellOf (xl E) K h ca co fa ga (nI u) c w u hw hh (rt k) (hr9 k hk) h2e) cv_X3_87 7 rfl rfl [7, 8, 9] [0, 1, 2, 3, 4, 5, 6, 10, 11, 12, 13, 14, 15, 16, 17] [(x, .inr (3, [.ref ro, .ref kc, .ref mt, .ref cn, .ref h, .ref h2, .int z])), (ro, aJ K 10 gr), (kc, .inr (0, [.ref l0, .ref il, .ref ir, .ref np, .int mn])), (l0, aI K 120 fl), (il, aI K 120 fi), (ir, aI K 120 fr), (np, aI K 120 fn), (h2, .inr (1, [.ref ca2, .ref co2, .int t2])), (ca2, aI K 120 f2), (co2, aJ K 120 g2), (mt, .inr (2, [.ref fo, .ref ba, .ref wa, .int mm])), (fo, aI K 120 ffo), (ba, aI K 120 fba), (wa, aI K 120 fwa), (cn, aI K 120 fc)] rfl rfl (by decide) rfl (st := []) rfl (Nat.le_of_ble_eq_true rfl) (by decide) ⟨by decide, by decide⟩ dX3_setRest_20 (fun v9 w9 h9 => ?_)
              obtain ⟨rfl, rfl⟩ := h9
              refine lx_perm [0, 1, 2, 3, 4, 5, 6, 15, 16, 17, 7, 8, 9, 10, 11, 12, 13, 14] [(x, .inr (3, [.ref ro, .ref kc, .ref mt, .ref cn, .ref h, .ref h2, .int z])), (ro, aJ K 10 gr), (kc, .inr (0, [.ref l0, .ref il, .ref ir, .ref np, .int mn])), (l0, aI K 120 fl), (il, aI K 120 fi), (ir, aI K 120 fr), (np, aI K 120 fn), (h, .inr (1, [.ref ca, .ref co, .int (nI u)])), (ca, aI K 120 fa), (co, aJ K 120 ga), (h2, .inr (1, [.ref ca2, .ref co2, .int t2])), (ca2, aI K 120 f2), (co2, aJ K 120 g2), (mt, .inr (2, [.ref fo, .ref ba, .ref wa, .int mm])), (fo, aI K 120 ffo), (ba, aI K 120 fba), (wa, aI K 120 fwa), (cn, aI K 120 fc)] (by decide) rfl ?_
              refine lx_st (a' := 0) (b' := 0) [.int (nI (lm_to w (rt k)))] rfl rfl rfl ?_
              refine lx_istore_n F [(0, .ref x), (1, .int (nI k)), (2, .int (nI j)), (3, .int (nI (lm_to w (rt k))))] [1, 2, 3, 0] dX3_setRest_23 rfl (by decide) ?_
              refine lx_aload_n F dX3_setRest_24 0 rfl ?_
              refine lx_aload_n F dX3_setRest_25 0 rfl ?_
              refine gf_X3_34 F 0 rfl rfl dX3_setRest_26 ?_
              refine lx_iload_n F dX3_setRest_29 3 rfl ?_
              refine lx_cv F (zh_restOf (xl E) K h ca co fa ga (nI u) c w u hw hh (lm_to w (rt k)) hcl) cv_X3_95 7 rfl rfl [7, 8, 9] [0, 1, 2, 3, 4, 5, 6, 10, 11, 12, 13, 14, 15, 16, 17] [(x, .inr (3, [.ref ro, .ref kc, .ref mt, .ref cn, .ref h, .ref h2, .int z])), (ro, aJ K 10 gr), (kc, .inr (0, [.ref l0, .ref il, .ref ir, .ref np, .int mn])), (l0, aI K 120 fl), (il, aI K 120 fi), (ir, aI K 120 fr), (np, aI K 120 fn), (h2, .inr (1, [.ref ca2, .ref co2, .int t2])), (ca2, aI K 120 f2), (co2, aJ K 120 g2), (mt, .inr (2, [.ref fo, .ref ba, .ref wa, .int mm])), (fo, aI K 120 ffo), (ba, aI K 120 fba), (wa, aI K 120 fwa), (cn, aI K 120 fc)] rfl rfl (by decide) rfl (st := [.ref x]) rfl (Nat.le_of_ble_eq_true rfl) (by decide) ⟨by decide, by decide⟩ dX3_setRest_30 (fun v9 w9 h9 => ?_)
              obtain ⟨rfl, rfl⟩ := h9
              refine lx_perm [0, 1, 2, 3, 4, 5, 6, 15, 16, 17, 7, 8, 9, 10, 11, 12, 13, 14] [(x, .inr (3, [.ref ro, .ref kc, .ref mt, .ref cn, .ref h, .ref h2, .int z])), (ro, aJ K 10 gr), (kc, .inr (0, [.ref l0, .ref il, .ref ir, .ref np, .int mn])), (l0, aI K 120 fl), (il, aI K 120 fi), (ir, aI K 120 fr), (np, aI K 120 fn), (h, .inr (1, [.ref ca, .ref co, .int (nI u)])), (ca, aI K 120 fa), (co, aJ K 120 ga), (h2, .inr (1, [.ref ca2, .ref co2, .int t2])), (ca2, aI K 120 f2), (co2, aJ K 120 g2), (mt, .inr (2, [.ref fo, .ref ba, .ref wa, .int mm])), (fo, aI K 120 ffo), (ba, aI K 120 fba), (wa, aI K 120 fwa), (cn, aI K 120 fc)] (by decide) rfl ?_
              refine lx_st (a' := 0) (b' := 0) [.long (en (lm_rest c w (lm_to w (rt k)))), .ref x] rfl rfl rfl ?_
              refine lx_aload_n F dX3_setRest_33 0 rfl ?_
              refine gf_X3_9 F 0 rfl rfl dX3_setRest_34 ?_
              refine lx_iload_n F dX3_setRest_37 2 rfl ?_
              refine lx_lald F 1 j dX3_setRest_38 rfl (by omega) (by decide) ?_
              rw [hro j hj]
              refine lx_cv F (zl_isSame (xl E) K x ro kc mt cn h2 z h ca co fa ga (nI u) c w u hw hh (lm_rest c w (lm_to w (rt k))) (rt j) (lm_rest_ok hw hcl) (hr9 j hj)) cv_X3_102 0 rfl rfl [0, 7, 8, 9] [1, 2, 3, 4, 5, 6, 10, 11, 12, 13, 14, 15, 16, 17] [(ro, aJ K 10 gr), (kc, .inr (0, [.ref l0, .ref il, .ref ir, .ref np, .int mn])), (l0, aI K 120 fl), (il, aI K 120 fi), (ir, aI K 120 fr), (np, aI K 120 fn), (h2, .inr (1, [.ref ca2, .ref co2, .int t2])), (ca2, aI K 120 f2), (co2, aJ K 120 g2), (mt, .inr (2, [.ref fo, .ref ba, .ref wa, .int mm])), (fo, aI K 120 ffo), (ba, aI K 120 fba), (wa, aI K 120 fwa), (cn, aI K 120 fc)] rfl rfl (by decide) rfl (st := []) rfl (Nat.le_of_ble_eq_true rfl) (by decide) ⟨by decide, by decide⟩ dX3_setRest_39 (fun v9 w9 h9 => ?_)
              obtain ⟨rfl, rfl⟩ := h9
              refine lx_perm [14, 0, 1, 2, 3, 4, 5, 15, 16, 17, 6, 7, 8, 9, 10, 11, 12, 13] [(x, .inr (3, [.ref ro, .ref kc, .ref mt, .ref cn, .ref h, .ref h2, .int z])), (ro, aJ K 10 gr), (kc, .inr (0, [.ref l0, .ref il, .ref ir, .ref np, .int mn])), (l0, aI K 120 fl), (il, aI K 120 fi), (ir, aI K 120 fr), (np, aI K 120 fn), (h, .inr (1, [.ref ca, .ref co, .int (nI u)])), (ca, aI K 120 fa), (co, aJ K 120 ga), (h2, .inr (1, [.ref ca2, .ref co2, .int t2])), (ca2, aI K 120 f2), (co2, aJ K 120 g2), (mt, .inr (2, [.ref fo, .ref ba, .ref wa, .int mm])), (fo, aI K 120 ffo), (ba, aI K 120 fba), (wa, aI K 120 fwa), (cn, aI K 120 fc)] (by decide) rfl ?_
              refine lx_st (a' := 0) (b' := 0) [.int (bI (lm_same w (lm_rest c w (lm_to w (rt k))) (rt j)))] rfl rfl rfl ?_
              rw [hs2]
              refine lx_if_eq F 46 dX3_setRest_42 rfl (fun _ => ?_) (fun h => absurd (by decide) h)
              refine lx_aload_n F dX3_setRest_46 0 rfl ?_
              refine gf_X3_34 F 0 rfl rfl dX3_setRest_47 ?_
              refine lx_iload_n F dX3_setRest_50 3 rfl ?_
              refine lx_cv F (zh_codeAt (xl E) K h ca co fa ga (nI u) (lm_to w (rt k)) (by omega) (nI (c (lm_to w (rt k)))) (hh _ hp1).1) cv_X3_106 7 rfl rfl [7, 8, 9] [0, 1, 2, 3, 4, 5, 6, 10, 11, 12, 13, 14, 15, 16, 17] [(x, .inr (3, [.ref ro, .ref kc, .ref mt, .ref cn, .ref h, .ref h2, .int z])), (ro, aJ K 10 gr), (kc, .inr (0, [.ref l0, .ref il, .ref ir, .ref np, .int mn])), (l0, aI K 120 fl), (il, aI K 120 fi), (ir, aI K 120 fr), (np, aI K 120 fn), (h2, .inr (1, [.ref ca2, .ref co2, .int t2])), (ca2, aI K 120 f2), (co2, aJ K 120 g2), (mt, .inr (2, [.ref fo, .ref ba, .ref wa, .int mm])), (fo, aI K 120 ffo), (ba, aI K 120 fba), (wa, aI K 120 fwa), (cn, aI K 120 fc)] rfl rfl (by decide) rfl (st := []) rfl (Nat.le_of_ble_eq_true rfl) (by decide) ⟨by decide, by decide⟩ dX3_setRest_51 (fun v9 w9 h9 => ?_)
              obtain ⟨rfl, rfl⟩ := h9
              refine lx_perm [0, 1, 2, 3, 4, 5, 6, 15, 16, 17, 7, 8, 9, 10, 11, 12, 13, 14] [(x, .inr (3, [.ref ro, .ref kc, .ref mt, .ref cn, .ref h, .ref h2, .int z])), (ro, aJ K 10 gr), (kc, .inr (0, [.ref l0, .ref il, .ref ir, .ref np, .int mn])), (l0, aI K 120 fl), (il, aI K 120 fi), (ir, aI K 120 fr), (np, aI K 120 fn), (h, .inr (1, [.ref ca, .ref co, .int (nI u)])), (ca, aI K 120 fa), (co, aJ K 120 ga), (h2, .inr (1, [.ref ca2, .ref co2, .int t2])), (ca2, aI K 120 f2), (co2, aJ K 120 g2), (mt, .inr (2, [.ref fo, .ref ba, .ref wa, .int mm])), (fo, aI K 120 ffo), (ba, aI K 120 fba), (wa, aI K 120 fwa), (cn, aI K 120 fc)] (by decide) rfl ?_
              refine lx_st (a' := 0) (b' := 0) [.int (nI (c (lm_to w (rt k))))] rfl rfl rfl ?_
              refine lx_iconst F dX3_setRest_54 kc_2 ?_
              refine lx_icmpN_eq F 77 (by omega) (by omega) dX3_setRest_55 rfl (fun h => absurd h (by omega)) (fun _ => ?_)
              refine lx_aload_n F dX3_setRest_58 0 rfl ?_
              refine lx_iconst F dX3_setRest_59 kc_2 ?_
              exact lx_cvX F X (zX_roomx (xl E) K x c w u rt z hst _ ⟨_, _, _, _, _, _, _, _, _, _, _, _, _, _, _, _, _, _, _, _, _, _, _, _, _, _, _, _, _, _, _, _, _, hh, hro, rfl⟩ (2) (by omega) (c1, w1, u1, rt1, z1) hσ hfit) cv_X3_68 0 rfl rfl [0, 1, 2, 3, 4, 5, 6, 7, 8, 9, 10, 11, 12, 13, 14, 15, 16, 17] [] [] rfl rfl (by decide) rfl (st := []) rfl (Nat.le_of_ble_eq_true rfl) (by decide) ⟨by decide, by decide⟩ dX3_setRest_60 (fun w9 h9 => by show lm_obj K x _ _; rw [show lm_oSetRest (nI k) (nI j) (c, w, u, rt, z) = (3, (c1, w1, u1, rt1, z1)) by unfold lm_oSetRest; rw [lm_none_n hk, lm_none_n hj, if_neg (by decide), lm_ix_n hk, if_neg (show ¬ (rt k).1 ≠ 2 from fun z9 => z9 h2e), lm_ix_n hj, if_neg hs, if_neg h6, hσ, if_neg hfit]]; exact h9)
      · skip
        exact absurd hcd (by rw [show lm_oSetRest (nI k) (nI j) (c, w, u, rt, z) = (2, (c, w, u, rt, z)) by unfold lm_oSetRest; rw [lm_none_n hk, lm_none_n hj, if_neg (by decide), lm_ix_n hk, if_pos h2e]]; simp)
    · skip
      exact absurd hcd (by rw [show lm_oSetRest (nI k) f (c, w, u, rt, z) = (1, (c, w, u, rt, z)) by unfold lm_oSetRest; rw [lm_none_n hk, hnf]; rfl]; simp)
  · skip
    exact absurd hcd (by rw [show lm_oSetRest r f (c, w, u, rt, z) = (1, (c, w, u, rt, z)) by unfold lm_oSetRest; rw [hnr]; rfl]; simp)

set_option maxHeartbeats 4000000 in
set_option maxRecDepth 100000 in
theorem zX_append_0 (l : Launch) (K : lm_G) (x : Nat) (c : Nat → Nat) (w : Nat → lm_V) (u : Nat) (rt : Nat → lm_V) (z : Int32) (hst : lm_st c w u rt) (W : va_W) (hW : lm_obj K x (c, w, u, rt, z) W) (r f t : Int32) (hcd : (lm_oAppend r f t (c, w, u, rt, z)).1 = 0) : lm_C l K mX3_append (rk 6) [.ref x, .int r, .int f, .int t] W (fun v9 w9 => v9 = none ∧ lm_obj K x (lm_oAppend r f t (c, w, u, rt, z)).2 w9) := by
  obtain ⟨ro, kc, l0, il, ir, np, h, ca, co, h2, ca2, co2, mt, fo, ba, wa, cn, gr, fl, fi, fr, fn, mn, fa, ga, f2, g2, t2, ffo, fba, fwa, mm, fc, hh, hro, rfl⟩ := hW
  have hh : lm_hf fa ga c w u := hh
  have hro : ∀ r, r < 10 → gr r = en (rt r) := hro
  have hw := hst.1
  have hr9 := hst.2
  have hu := hw.1
  refine lx_met RX3 pn_X3 rfl (Nat.le_of_ble_eq_true rfl) (fun E hE hnm F hR => ?_)
  have F : lx_F K 6 E cX3_append RX3 none (rk 6) := F
  show lx_W K 6 E 0 0 0 [(0, .ref x), (1, .int r), (2, .int f), (3, .int t)] [] [(x, .inr (3, [.ref ro, .ref kc, .ref mt, .ref cn, .ref h, .ref h2, .int z])), (ro, aJ K 10 gr), (kc, .inr (0, [.ref l0, .ref il, .ref ir, .ref np, .int mn])), (l0, aI K 120 fl), (il, aI K 120 fi), (ir, aI K 120 fr), (np, aI K 120 fn), (h, .inr (1, [.ref ca, .ref co, .int (nI u)])), (ca, aI K 120 fa), (co, aJ K 120 ga), (h2, .inr (1, [.ref ca2, .ref co2, .int t2])), (ca2, aI K 120 f2), (co2, aJ K 120 g2), (mt, .inr (2, [.ref fo, .ref ba, .ref wa, .int mm])), (fo, aI K 120 ffo), (ba, aI K 120 fba), (wa, aI K 120 fwa), (cn, aI K 120 fc)]
  cases hnr : lm_none r
  · skip
    obtain ⟨k, hk, rfl⟩ := lm_none_f hnr
    cases hnf : lm_none f
    · skip
      obtain ⟨j, hj, rfl⟩ := lm_none_f hnf
      cases hnt : lm_none t
      · skip
        obtain ⟨i, hi, rfl⟩ := lm_none_f hnt
        by_cases hneg : lm_len c w 121 0 (rt j) < 0
        · skip
          exact absurd hcd (by rw [show lm_oAppend (nI k) (nI j) (nI i) (c, w, u, rt, z) = (2, (c, w, u, rt, z)) by unfold lm_oAppend; rw [lm_none_n hk, lm_none_n hj, lm_none_n hi, if_neg (by decide), lm_ix_n hj, if_pos hneg]]; simp)
        · skip
          obtain ⟨n, hlen, hn121, hisL0⟩ := lm_len_L 121 0 (rt j) hneg
          rw [Nat.zero_add] at hlen
          by_cases hn0 : n = 0
          · skip
            refine lx_iload_n F dX3_append_0 1 rfl ?_
            refine lx_iload_n F dX3_append_1 2 rfl ?_
            refine lx_cs F (zX_cks (xl E) K k j hk hj) cs_X3_64 [] [0, 1, 2, 3, 4, 5, 6, 7, 8, 9, 10, 11, 12, 13, 14, 15, 16, 17] [(x, .inr (3, [.ref ro, .ref kc, .ref mt, .ref cn, .ref h, .ref h2, .int z])), (ro, aJ K 10 gr), (kc, .inr (0, [.ref l0, .ref il, .ref ir, .ref np, .int mn])), (l0, aI K 120 fl), (il, aI K 120 fi), (ir, aI K 120 fr), (np, aI K 120 fn), (h, .inr (1, [.ref ca, .ref co, .int (nI u)])), (ca, aI K 120 fa), (co, aJ K 120 ga), (h2, .inr (1, [.ref ca2, .ref co2, .int t2])), (ca2, aI K 120 f2), (co2, aJ K 120 g2), (mt, .inr (2, [.ref fo, .ref ba, .ref wa, .int mm])), (fo, aI K 120 ffo), (ba, aI K 120 fba), (wa, aI K 120 fwa), (cn, aI K 120 fc)] rfl rfl (by decide) rfl (st := []) rfl (Nat.le_of_ble_eq_true rfl) (by decide) ⟨by decide, by decide⟩ dX3_append_2 (fun v9 w9 h9 => ?_)
            obtain ⟨rfl, rfl⟩ := h9
            refine lx_perm [0, 1, 2, 3, 4, 5, 6, 7, 8, 9, 10, 11, 12, 13, 14, 15, 16, 17] [(x, .inr (3, [.ref ro, .ref kc, .ref mt, .ref cn, .ref h, .ref h2, .int z])), (ro, aJ K 10 gr), (kc, .inr (0, [.ref l0, .ref il, .ref ir, .ref np, .int mn])), (l0, aI K 120 fl), (il, aI K 120 fi), (ir, aI K 120 fr), (np, aI K 120 fn), (h, .inr (1, [.ref ca, .ref co, .int (nI u)])), (ca, aI K 120 fa), (co, aJ K 120 ga), (h2, .inr (1, [.ref ca2, .ref co2, .int t2])), (ca2, aI K 120 f2), (co2, aJ K 120 g2), (mt, .inr (2, [.ref fo, .ref ba, .ref wa, .int mm])), (fo, aI K 120 ffo), (ba, aI K 120 fba), (wa, aI K 120 fwa), (cn, aI K 120 fc)] (by decide) rfl ?_
            refine lx_st (a' := 0) (b' := 0) [] rfl rfl rfl ?_
            refine lx_iload_n F dX3_append_5 3 rfl ?_
            refine lx_cs F (zX_ck (xl E) K i hi) cs_X3_45 [] [0, 1, 2, 3, 4, 5, 6, 7, 8, 9, 10, 11, 12, 13, 14, 15, 16, 17] [(x, .inr (3, [.ref ro, .ref kc, .ref mt, .ref cn, .ref h, .ref h2, .int z])), (ro, aJ K 10 gr), (kc, .inr (0, [.ref l0, .ref il, .ref ir, .ref np, .int mn])), (l0, aI K 120 fl), (il, aI K 120 fi), (ir, aI K 120 fr), (np, aI K 120 fn), (h, .inr (1, [.ref ca, .ref co, .int (nI u)])), (ca, aI K 120 fa), (co, aJ K 120 ga), (h2, .inr (1, [.ref ca2, .ref co2, .int t2])), (ca2, aI K 120 f2), (co2, aJ K 120 g2), (mt, .inr (2, [.ref fo, .ref ba, .ref wa, .int mm])), (fo, aI K 120 ffo), (ba, aI K 120 fba), (wa, aI K 120 fwa), (cn, aI K 120 fc)] rfl rfl (by decide) rfl (st := []) rfl (Nat.le_of_ble_eq_true rfl) (by decide) ⟨by decide, by decide⟩ dX3_append_6 (fun v9 w9 h9 => ?_)
            obtain ⟨rfl, rfl⟩ := h9
            refine lx_perm [0, 1, 2, 3, 4, 5, 6, 7, 8, 9, 10, 11, 12, 13, 14, 15, 16, 17] [(x, .inr (3, [.ref ro, .ref kc, .ref mt, .ref cn, .ref h, .ref h2, .int z])), (ro, aJ K 10 gr), (kc, .inr (0, [.ref l0, .ref il, .ref ir, .ref np, .int mn])), (l0, aI K 120 fl), (il, aI K 120 fi), (ir, aI K 120 fr), (np, aI K 120 fn), (h, .inr (1, [.ref ca, .ref co, .int (nI u)])), (ca, aI K 120 fa), (co, aJ K 120 ga), (h2, .inr (1, [.ref ca2, .ref co2, .int t2])), (ca2, aI K 120 f2), (co2, aJ K 120 g2), (mt, .inr (2, [.ref fo, .ref ba, .ref wa, .int mm])), (fo, aI K 120 ffo), (ba, aI K 120 fba), (wa, aI K 120 fwa), (cn, aI K 120 fc)] (by decide) rfl ?_
            refine lx_st (a' := 0) (b' := 0) [] rfl rfl rfl ?_
            refine lx_aload_n F dX3_append_9 0 rfl ?_
            refine lx_aload_n F dX3_append_10 0 rfl ?_
            refine gf_X3_9 F 0 rfl rfl dX3_append_11 ?_
            refine lx_iload_n F dX3_append_14 2 rfl ?_
            refine lx_lald F 1 j dX3_append_15 rfl (by omega) (by decide) ?_
            rw [hro j hj]
            refine lx_cv F (zl_countPairs (xl E) K x ro kc mt cn h2 z h ca co fa ga (nI u) c w u hw hh (rt j) (hr9 j hj)) cv_X3_110 0 rfl rfl [0, 7, 8, 9] [1, 2, 3, 4, 5, 6, 10, 11, 12, 13, 14, 15, 16, 17] [(ro, aJ K 10 gr), (kc, .inr (0, [.ref l0, .ref il, .ref ir, .ref np, .int mn])), (l0, aI K 120 fl), (il, aI K 120 fi), (ir, aI K 120 fr), (np, aI K 120 fn), (h2, .inr (1, [.ref ca2, .ref co2, .int t2])), (ca2, aI K 120 f2), (co2, aJ K 120 g2), (mt, .inr (2, [.ref fo, .ref ba, .ref wa, .int mm])), (fo, aI K 120 ffo), (ba, aI K 120 fba), (wa, aI K 120 fwa), (cn, aI K 120 fc)] rfl rfl (by decide) rfl (st := []) rfl (Nat.le_of_ble_eq_true rfl) (by decide) ⟨by decide, by decide⟩ dX3_append_16 (fun v9 w9 h9 => ?_)
            obtain ⟨rfl, rfl⟩ := h9
            refine lx_perm [14, 0, 1, 2, 3, 4, 5, 15, 16, 17, 6, 7, 8, 9, 10, 11, 12, 13] [(x, .inr (3, [.ref ro, .ref kc, .ref mt, .ref cn, .ref h, .ref h2, .int z])), (ro, aJ K 10 gr), (kc, .inr (0, [.ref l0, .ref il, .ref ir, .ref np, .int mn])), (l0, aI K 120 fl), (il, aI K 120 fi), (ir, aI K 120 fr), (np, aI K 120 fn), (h, .inr (1, [.ref ca, .ref co, .int (nI u)])), (ca, aI K 120 fa), (co, aJ K 120 ga), (h2, .inr (1, [.ref ca2, .ref co2, .int t2])), (ca2, aI K 120 f2), (co2, aJ K 120 g2), (mt, .inr (2, [.ref fo, .ref ba, .ref wa, .int mm])), (fo, aI K 120 ffo), (ba, aI K 120 fba), (wa, aI K 120 fwa), (cn, aI K 120 fc)] (by decide) rfl ?_
            refine lx_st (a' := 0) (b' := 0) [.int (Int32.ofInt (lm_len c w 121 0 (rt j)))] rfl rfl rfl ?_
            rw [show Int32.ofInt (lm_len c w 121 0 (rt j)) = nI n by rw [hlen]; rfl]
            refine lx_istore F [(0, .ref x), (1, .int (nI k)), (2, .int (nI j)), (3, .int (nI i)), (4, .int (nI n))] [1, 2, 3, 4, 0] dX3_append_19 rfl (by decide) ?_
            refine lx_iload F dX3_append_21 4 rfl ?_
            refine lx_ifN_ge F 36 (by omega) dX3_append_23 rfl (fun _ => ?_) (fun h => absurd h (by omega))
            refine lx_iload F dX3_append_36 4 rfl ?_
            refine lx_ifN_ne F 54 (by omega) dX3_append_38 rfl (fun h => absurd h (by omega)) (fun _ => ?_)
            refine lx_aload_n F dX3_append_41 0 rfl ?_
            refine gf_X3_9 F 0 rfl rfl dX3_append_42 ?_
            refine lx_iload_n F dX3_append_45 1 rfl ?_
            refine lx_aload_n F dX3_append_46 0 rfl ?_
            refine gf_X3_9 F 0 rfl rfl dX3_append_47 ?_
            refine lx_iload_n F dX3_append_50 3 rfl ?_
            refine lx_lald F 1 i dX3_append_51 rfl (by omega) (by decide) ?_
            rw [hro i hi]
            refine lx_last F 1 k [(x, .inr (3, [.ref ro, .ref kc, .ref mt, .ref cn, .ref h, .ref h2, .int z])), (ro, aJ K 10 (lm_up gr k (en (rt i)))), (kc, .inr (0, [.ref l0, .ref il, .ref ir, .ref np, .int mn])), (l0, aI K 120 fl), (il, aI K 120 fi), (ir, aI K 120 fr), (np, aI K 120 fn), (h, .inr (1, [.ref ca, .ref co, .int (nI u)])), (ca, aI K 120 fa), (co, aJ K 120 ga), (h2, .inr (1, [.ref ca2, .ref co2, .int t2])), (ca2, aI K 120 f2), (co2, aJ K 120 g2), (mt, .inr (2, [.ref fo, .ref ba, .ref wa, .int mm])), (fo, aI K 120 ffo), (ba, aI K 120 fba), (wa, aI K 120 fwa), (cn, aI K 120 fc)] dX3_append_52 rfl (by omega) (by decide) rfl ?_
            exact lx_vret F hR dX3_append_53 ⟨rfl, by rw [show lm_oAppend (nI k) (nI j) (nI i) (c, w, u, rt, z) = (0, lm_set (c, w, u, rt, z) k (rt i)) by unfold lm_oAppend; rw [lm_none_n hk, lm_none_n hj, lm_none_n hi, if_neg (by decide), lm_ix_n hj, if_neg hneg, if_pos (show lm_len c w 121 0 (rt j) = 0 by rw [hlen, hn0]; rfl), lm_ix_n hk, lm_ix_n hi]]; exact ⟨_, _, _, _, _, _, _, _, _, _, _, _, _, _, _, _, _, _, _, _, _, _, _, _, _, _, _, _, _, _, _, _, _, hh, (lm_rc_up (v := rt i) hro), rfl⟩⟩
          · skip
            by_cases hz : (rt i).1 = 0
            · skip
              have han : lm_an n (rt i) = n := by unfold lm_an; rw [if_pos hz]; exact Nat.add_zero n
              have hlen0 : ¬ lm_len c w 121 0 (rt j) = 0 := by rw [hlen]; omega
              have hltn : (lm_len c w 121 0 (rt j)).toNat = n := by rw [hlen]; simp
              have hk3 := lm_ok_kind (hr9 i hi)
              obtain ⟨c1, w1, u1, rt1, z1, hσ⟩ : ∃ c1 w1 u1 rt1 z1, lm_rm (n) (c, w, u, rt, z) = (c1, w1, u1, rt1, z1) := ⟨_, _, _, _, _, rfl⟩
              have hst1 : lm_st c1 w1 u1 rt1 := by have h9 : lm_sx (lm_rm (n) (c, w, u, rt, z)) := lm_sx_rm (n) hst; rw [hσ] at h9; exact h9
              have hw1 := hst1.1
              have hu1 := hw1.1
              by_cases hfit : u1 + (n) ≤ 120
              · skip
                obtain ⟨n8, hn8⟩ : ∃ n8, n = n8 + 1 := ⟨n - 1, by omega⟩
                have htot : (lm_apM c1 w1 n (rt1 j) (rt1 i)).length = n := by have h9 := lm_an_len (c := c1) (w := w1) n8 (rt1 j) (rt1 i); rw [← hn8] at h9; rw [h9]; unfold lm_an; rw [lm_rm_k2 (k := i) hσ]; exact han
                have hL1 := lm_isL_rm hst hσ hj hisL0
                refine lx_iload_n F dX3_append_0 1 rfl ?_
                refine lx_iload_n F dX3_append_1 2 rfl ?_
                refine lx_cs F (zX_cks (xl E) K k j hk hj) cs_X3_64 [] [0, 1, 2, 3, 4, 5, 6, 7, 8, 9, 10, 11, 12, 13, 14, 15, 16, 17] [(x, .inr (3, [.ref ro, .ref kc, .ref mt, .ref cn, .ref h, .ref h2, .int z])), (ro, aJ K 10 gr), (kc, .inr (0, [.ref l0, .ref il, .ref ir, .ref np, .int mn])), (l0, aI K 120 fl), (il, aI K 120 fi), (ir, aI K 120 fr), (np, aI K 120 fn), (h, .inr (1, [.ref ca, .ref co, .int (nI u)])), (ca, aI K 120 fa), (co, aJ K 120 ga), (h2, .inr (1, [.ref ca2, .ref co2, .int t2])), (ca2, aI K 120 f2), (co2, aJ K 120 g2), (mt, .inr (2, [.ref fo, .ref ba, .ref wa, .int mm])), (fo, aI K 120 ffo), (ba, aI K 120 fba), (wa, aI K 120 fwa), (cn, aI K 120 fc)] rfl rfl (by decide) rfl (st := []) rfl (Nat.le_of_ble_eq_true rfl) (by decide) ⟨by decide, by decide⟩ dX3_append_2 (fun v9 w9 h9 => ?_)
                obtain ⟨rfl, rfl⟩ := h9
                refine lx_perm [0, 1, 2, 3, 4, 5, 6, 7, 8, 9, 10, 11, 12, 13, 14, 15, 16, 17] [(x, .inr (3, [.ref ro, .ref kc, .ref mt, .ref cn, .ref h, .ref h2, .int z])), (ro, aJ K 10 gr), (kc, .inr (0, [.ref l0, .ref il, .ref ir, .ref np, .int mn])), (l0, aI K 120 fl), (il, aI K 120 fi), (ir, aI K 120 fr), (np, aI K 120 fn), (h, .inr (1, [.ref ca, .ref co, .int (nI u)])), (ca, aI K 120 fa), (co, aJ K 120 ga), (h2, .inr (1, [.ref ca2, .ref co2, .int t2])), (ca2, aI K 120 f2), (co2, aJ K 120 g2), (mt, .inr (2, [.ref fo, .ref ba, .ref wa, .int mm])), (fo, aI K 120 ffo), (ba, aI K 120 fba), (wa, aI K 120 fwa), (cn, aI K 120 fc)] (by decide) rfl ?_
                refine lx_st (a' := 0) (b' := 0) [] rfl rfl rfl ?_
                refine lx_iload_n F dX3_append_5 3 rfl ?_
                refine lx_cs F (zX_ck (xl E) K i hi) cs_X3_45 [] [0, 1, 2, 3, 4, 5, 6, 7, 8, 9, 10, 11, 12, 13, 14, 15, 16, 17] [(x, .inr (3, [.ref ro, .ref kc, .ref mt, .ref cn, .ref h, .ref h2, .int z])), (ro, aJ K 10 gr), (kc, .inr (0, [.ref l0, .ref il, .ref ir, .ref np, .int mn])), (l0, aI K 120 fl), (il, aI K 120 fi), (ir, aI K 120 fr), (np, aI K 120 fn), (h, .inr (1, [.ref ca, .ref co, .int (nI u)])), (ca, aI K 120 fa), (co, aJ K 120 ga), (h2, .inr (1, [.ref ca2, .ref co2, .int t2])), (ca2, aI K 120 f2), (co2, aJ K 120 g2), (mt, .inr (2, [.ref fo, .ref ba, .ref wa, .int mm])), (fo, aI K 120 ffo), (ba, aI K 120 fba), (wa, aI K 120 fwa), (cn, aI K 120 fc)] rfl rfl (by decide) rfl (st := []) rfl (Nat.le_of_ble_eq_true rfl) (by decide) ⟨by decide, by decide⟩ dX3_append_6 (fun v9 w9 h9 => ?_)
                obtain ⟨rfl, rfl⟩ := h9
                refine lx_perm [0, 1, 2, 3, 4, 5, 6, 7, 8, 9, 10, 11, 12, 13, 14, 15, 16, 17] [(x, .inr (3, [.ref ro, .ref kc, .ref mt, .ref cn, .ref h, .ref h2, .int z])), (ro, aJ K 10 gr), (kc, .inr (0, [.ref l0, .ref il, .ref ir, .ref np, .int mn])), (l0, aI K 120 fl), (il, aI K 120 fi), (ir, aI K 120 fr), (np, aI K 120 fn), (h, .inr (1, [.ref ca, .ref co, .int (nI u)])), (ca, aI K 120 fa), (co, aJ K 120 ga), (h2, .inr (1, [.ref ca2, .ref co2, .int t2])), (ca2, aI K 120 f2), (co2, aJ K 120 g2), (mt, .inr (2, [.ref fo, .ref ba, .ref wa, .int mm])), (fo, aI K 120 ffo), (ba, aI K 120 fba), (wa, aI K 120 fwa), (cn, aI K 120 fc)] (by decide) rfl ?_
                refine lx_st (a' := 0) (b' := 0) [] rfl rfl rfl ?_
                refine lx_aload_n F dX3_append_9 0 rfl ?_
                refine lx_aload_n F dX3_append_10 0 rfl ?_
                refine gf_X3_9 F 0 rfl rfl dX3_append_11 ?_
                refine lx_iload_n F dX3_append_14 2 rfl ?_
                refine lx_lald F 1 j dX3_append_15 rfl (by omega) (by decide) ?_
                rw [hro j hj]
                refine lx_cv F (zl_countPairs (xl E) K x ro kc mt cn h2 z h ca co fa ga (nI u) c w u hw hh (rt j) (hr9 j hj)) cv_X3_110 0 rfl rfl [0, 7, 8, 9] [1, 2, 3, 4, 5, 6, 10, 11, 12, 13, 14, 15, 16, 17] [(ro, aJ K 10 gr), (kc, .inr (0, [.ref l0, .ref il, .ref ir, .ref np, .int mn])), (l0, aI K 120 fl), (il, aI K 120 fi), (ir, aI K 120 fr), (np, aI K 120 fn), (h2, .inr (1, [.ref ca2, .ref co2, .int t2])), (ca2, aI K 120 f2), (co2, aJ K 120 g2), (mt, .inr (2, [.ref fo, .ref ba, .ref wa, .int mm])), (fo, aI K 120 ffo), (ba, aI K 120 fba), (wa, aI K 120 fwa), (cn, aI K 120 fc)] rfl rfl (by decide) rfl (st := []) rfl (Nat.le_of_ble_eq_true rfl) (by decide) ⟨by decide, by decide⟩ dX3_append_16 (fun v9 w9 h9 => ?_)
                obtain ⟨rfl, rfl⟩ := h9
                refine lx_perm [14, 0, 1, 2, 3, 4, 5, 15, 16, 17, 6, 7, 8, 9, 10, 11, 12, 13] [(x, .inr (3, [.ref ro, .ref kc, .ref mt, .ref cn, .ref h, .ref h2, .int z])), (ro, aJ K 10 gr), (kc, .inr (0, [.ref l0, .ref il, .ref ir, .ref np, .int mn])), (l0, aI K 120 fl), (il, aI K 120 fi), (ir, aI K 120 fr), (np, aI K 120 fn), (h, .inr (1, [.ref ca, .ref co, .int (nI u)])), (ca, aI K 120 fa), (co, aJ K 120 ga), (h2, .inr (1, [.ref ca2, .ref co2, .int t2])), (ca2, aI K 120 f2), (co2, aJ K 120 g2), (mt, .inr (2, [.ref fo, .ref ba, .ref wa, .int mm])), (fo, aI K 120 ffo), (ba, aI K 120 fba), (wa, aI K 120 fwa), (cn, aI K 120 fc)] (by decide) rfl ?_
                refine lx_st (a' := 0) (b' := 0) [.int (Int32.ofInt (lm_len c w 121 0 (rt j)))] rfl rfl rfl ?_
                rw [show Int32.ofInt (lm_len c w 121 0 (rt j)) = nI n by rw [hlen]; rfl]
                refine lx_istore F [(0, .ref x), (1, .int (nI k)), (2, .int (nI j)), (3, .int (nI i)), (4, .int (nI n))] [1, 2, 3, 4, 0] dX3_append_19 rfl (by decide) ?_
                refine lx_iload F dX3_append_21 4 rfl ?_
                refine lx_ifN_ge F 36 (by omega) dX3_append_23 rfl (fun _ => ?_) (fun h => absurd h (by omega))
                refine lx_iload F dX3_append_36 4 rfl ?_
                refine lx_ifN_ne F 54 (by omega) dX3_append_38 rfl (fun _ => ?_) (fun h => absurd h (by omega))
                refine lx_aload_n F dX3_append_54 0 rfl ?_
                refine lx_aload_n F dX3_append_55 0 rfl ?_
                refine gf_X3_9 F 0 rfl rfl dX3_append_56 ?_
                refine lx_iload_n F dX3_append_59 3 rfl ?_
                refine lx_lald F 1 i dX3_append_60 rfl (by omega) (by decide) ?_
                rw [hro i hi]
                refine lx_cs F (zs_kindOf (xl E) K (rt i) (by omega)) cs_X3_118 [] [0, 1, 2, 3, 4, 5, 6, 7, 8, 9, 10, 11, 12, 13, 14, 15, 16, 17] [(x, .inr (3, [.ref ro, .ref kc, .ref mt, .ref cn, .ref h, .ref h2, .int z])), (ro, aJ K 10 gr), (kc, .inr (0, [.ref l0, .ref il, .ref ir, .ref np, .int mn])), (l0, aI K 120 fl), (il, aI K 120 fi), (ir, aI K 120 fr), (np, aI K 120 fn), (h, .inr (1, [.ref ca, .ref co, .int (nI u)])), (ca, aI K 120 fa), (co, aJ K 120 ga), (h2, .inr (1, [.ref ca2, .ref co2, .int t2])), (ca2, aI K 120 f2), (co2, aJ K 120 g2), (mt, .inr (2, [.ref fo, .ref ba, .ref wa, .int mm])), (fo, aI K 120 ffo), (ba, aI K 120 fba), (wa, aI K 120 fwa), (cn, aI K 120 fc)] rfl rfl (by decide) rfl (st := [.ref x]) rfl (Nat.le_of_ble_eq_true rfl) (by decide) ⟨by decide, by decide⟩ dX3_append_61 (fun v9 w9 h9 => ?_)
                obtain ⟨rfl, rfl⟩ := h9
                refine lx_perm [0, 1, 2, 3, 4, 5, 6, 7, 8, 9, 10, 11, 12, 13, 14, 15, 16, 17] [(x, .inr (3, [.ref ro, .ref kc, .ref mt, .ref cn, .ref h, .ref h2, .int z])), (ro, aJ K 10 gr), (kc, .inr (0, [.ref l0, .ref il, .ref ir, .ref np, .int mn])), (l0, aI K 120 fl), (il, aI K 120 fi), (ir, aI K 120 fr), (np, aI K 120 fn), (h, .inr (1, [.ref ca, .ref co, .int (nI u)])), (ca, aI K 120 fa), (co, aJ K 120 ga), (h2, .inr (1, [.ref ca2, .ref co2, .int t2])), (ca2, aI K 120 f2), (co2, aJ K 120 g2), (mt, .inr (2, [.ref fo, .ref ba, .ref wa, .int mm])), (fo, aI K 120 ffo), (ba, aI K 120 fba), (wa, aI K 120 fwa), (cn, aI K 120 fc)] (by decide) rfl ?_
                refine lx_st (a' := 0) (b' := 0) [.int (nI ((rt i).1)), .ref x] rfl rfl rfl ?_
                refine lx_ifN_ne F 72 (by omega) dX3_append_64 rfl (fun h => absurd h (by omega)) (fun _ => ?_)
                refine lx_iload F dX3_append_67 4 rfl ?_
                refine lx_goto F 76 dX3_append_69 rfl ?_
                refine lx_cv F (zX_room (xl E) K x c w u rt z hst _ ⟨_, _, _, _, _, _, _, _, _, _, _, _, _, _, _, _, _, _, _, _, _, _, _, _, _, _, _, _, _, _, _, _, _, hh, hro, rfl⟩ (n) (by omega) (c1, w1, u1, rt1, z1) hσ hfit) cv_X3_68 0 rfl rfl [0, 1, 2, 3, 4, 5, 6, 7, 8, 9, 10, 11, 12, 13, 14, 15, 16, 17] [] [] rfl rfl (by decide) rfl (st := []) rfl (Nat.le_of_ble_eq_true rfl) (by decide) ⟨by decide, by decide⟩ dX3_append_76 (fun v9 w9 h9 => ?_)
                obtain ⟨rfl, ro_, kc_, l0_, il_, ir_, np_, h_, ca_, co_, h2_, ca2_, co2_, mt_, fo_, ba_, wa_, cn_, gr_, fl_, fi_, fr_, fn_, mn_, fa_, ga_, f2_, g2_, t2_, ffo_, fba_, fwa_, mm_, fc_, hh1, hro1, rfl⟩ := h9
                refine lx_perm [0, 1, 2, 3, 4, 5, 6, 7, 8, 9, 10, 11, 12, 13, 14, 15, 16, 17] [(x, .inr (3, [.ref ro_, .ref kc_, .ref mt_, .ref cn_, .ref h_, .ref h2_, .int z1])), (ro_, aJ K 10 gr_), (kc_, .inr (0, [.ref l0_, .ref il_, .ref ir_, .ref np_, .int mn_])), (l0_, aI K 120 fl_), (il_, aI K 120 fi_), (ir_, aI K 120 fr_), (np_, aI K 120 fn_), (h_, .inr (1, [.ref ca_, .ref co_, .int (nI u1)])), (ca_, aI K 120 fa_), (co_, aJ K 120 ga_), (h2_, .inr (1, [.ref ca2_, .ref co2_, .int t2_])), (ca2_, aI K 120 f2_), (co2_, aJ K 120 g2_), (mt_, .inr (2, [.ref fo_, .ref ba_, .ref wa_, .int mm_])), (fo_, aI K 120 ffo_), (ba_, aI K 120 fba_), (wa_, aI K 120 fwa_), (cn_, aI K 120 fc_)] (by decide) rfl ?_
                refine lx_st (a' := 0) (b' := 0) [] rfl rfl rfl ?_
                have hh1 : lm_hf fa_ ga_ c1 w1 u1 := hh1
                have hro1 : ∀ r, r < 10 → gr_ r = en (rt1 r) := hro1
                refine lx_aload_n F dX3_append_79 0 rfl ?_
                refine gf_X3_34 F 0 rfl rfl dX3_append_80 ?_
                refine gf_X3_77 F 7 rfl rfl dX3_append_83 ?_
                refine lx_istore F [(0, .ref x), (1, .int (nI k)), (2, .int (nI j)), (3, .int (nI i)), (4, .int (nI n)), (5, .int (nI u1))] [1, 2, 3, 4, 5, 0] dX3_append_86 rfl (by decide) ?_
                refine lx_aload_n F dX3_append_88 0 rfl ?_
                refine lx_aload_n F dX3_append_89 0 rfl ?_
                refine gf_X3_9 F 0 rfl rfl dX3_append_90 ?_
                refine lx_iload_n F dX3_append_93 2 rfl ?_
                refine lx_lald F 1 j dX3_append_94 rfl (by omega) (by decide) ?_
                rw [hro1 j hj]
                refine lx_iload F dX3_append_95 4 rfl ?_
                refine lx_aload_n F dX3_append_97 0 rfl ?_
                refine gf_X3_9 F 0 rfl rfl dX3_append_98 ?_
                refine lx_iload_n F dX3_append_101 3 rfl ?_
                refine lx_lald F 1 i dX3_append_102 rfl (by omega) (by decide) ?_
                rw [hro1 i hi]
                refine lx_cv F (zl_takeFirsts (xl E) K x ro_ kc_ mt_ cn_ h2_ z1 h_ ca_ co_ fa_ ga_ c1 w1 u1 hw1 hh1 (rt1 j) (hst1.2 j hj) n (by omega) hL1 (rt1 i) (hst1.2 i hi) (by omega)) cv_X3_121 0 rfl rfl [0, 7, 8, 9] [1, 2, 3, 4, 5, 6, 10, 11, 12, 13, 14, 15, 16, 17] [(ro_, aJ K 10 gr_), (kc_, .inr (0, [.ref l0_, .ref il_, .ref ir_, .ref np_, .int mn_])), (l0_, aI K 120 fl_), (il_, aI K 120 fi_), (ir_, aI K 120 fr_), (np_, aI K 120 fn_), (h2_, .inr (1, [.ref ca2_, .ref co2_, .int t2_])), (ca2_, aI K 120 f2_), (co2_, aJ K 120 g2_), (mt_, .inr (2, [.ref fo_, .ref ba_, .ref wa_, .int mm_])), (fo_, aI K 120 ffo_), (ba_, aI K 120 fba_), (wa_, aI K 120 fwa_), (cn_, aI K 120 fc_)] rfl rfl (by decide) rfl (st := []) rfl (Nat.le_of_ble_eq_true rfl) (by decide) ⟨by decide, by decide⟩ dX3_append_103 (fun v9 w9 h9 => ?_)
                obtain ⟨rfl, f8, g8, hh8, rfl⟩ := h9
                refine lx_perm [14, 0, 1, 2, 3, 4, 5, 15, 16, 17, 6, 7, 8, 9, 10, 11, 12, 13] [(x, .inr (3, [.ref ro_, .ref kc_, .ref mt_, .ref cn_, .ref h_, .ref h2_, .int z1])), (ro_, aJ K 10 gr_), (kc_, .inr (0, [.ref l0_, .ref il_, .ref ir_, .ref np_, .int mn_])), (l0_, aI K 120 fl_), (il_, aI K 120 fi_), (ir_, aI K 120 fr_), (np_, aI K 120 fn_), (h_, .inr (1, [.ref ca_, .ref co_, .int (nI (u1 + (lm_apM c1 w1 n (rt1 j) (rt1 i)).length))])), (ca_, aI K 120 f8), (co_, aJ K 120 g8), (h2_, .inr (1, [.ref ca2_, .ref co2_, .int t2_])), (ca2_, aI K 120 f2_), (co2_, aJ K 120 g2_), (mt_, .inr (2, [.ref fo_, .ref ba_, .ref wa_, .int mm_])), (fo_, aI K 120 ffo_), (ba_, aI K 120 fba_), (wa_, aI K 120 fwa_), (cn_, aI K 120 fc_)] (by decide) rfl ?_
                refine lx_st (a' := 0) (b' := 0) [] rfl rfl rfl ?_
                refine lx_aload_n F dX3_append_106 0 rfl ?_
                refine gf_X3_9 F 0 rfl rfl dX3_append_107 ?_
                refine lx_iload_n F dX3_append_110 1 rfl ?_
                refine lx_iconst F dX3_append_111 kc_2 ?_
                refine lx_iload F dX3_append_112 5 rfl ?_
                refine lx_i2l F dX3_append_114 (jI_i2l (by omega)) ?_
                refine lx_cs F (zs_content (xl E) K 2 ((u1 : Nat) : Int) (by omega)) cs_X3_60 [] [0, 1, 2, 3, 4, 5, 6, 7, 8, 9, 10, 11, 12, 13, 14, 15, 16, 17] [(x, .inr (3, [.ref ro_, .ref kc_, .ref mt_, .ref cn_, .ref h_, .ref h2_, .int z1])), (ro_, aJ K 10 gr_), (kc_, .inr (0, [.ref l0_, .ref il_, .ref ir_, .ref np_, .int mn_])), (l0_, aI K 120 fl_), (il_, aI K 120 fi_), (ir_, aI K 120 fr_), (np_, aI K 120 fn_), (h_, .inr (1, [.ref ca_, .ref co_, .int (nI (u1 + (lm_apM c1 w1 n (rt1 j) (rt1 i)).length))])), (ca_, aI K 120 f8), (co_, aJ K 120 g8), (h2_, .inr (1, [.ref ca2_, .ref co2_, .int t2_])), (ca2_, aI K 120 f2_), (co2_, aJ K 120 g2_), (mt_, .inr (2, [.ref fo_, .ref ba_, .ref wa_, .int mm_])), (fo_, aI K 120 ffo_), (ba_, aI K 120 fba_), (wa_, aI K 120 fwa_), (cn_, aI K 120 fc_)] rfl rfl (by decide) rfl (st := [.int (nI k), .ref ro_]) rfl (Nat.le_of_ble_eq_true rfl) (by decide) ⟨by decide, by decide⟩ dX3_append_115 (fun v9 w9 h9 => ?_)
                obtain ⟨rfl, rfl⟩ := h9
                refine lx_perm [0, 1, 2, 3, 4, 5, 6, 7, 8, 9, 10, 11, 12, 13, 14, 15, 16, 17] [(x, .inr (3, [.ref ro_, .ref kc_, .ref mt_, .ref cn_, .ref h_, .ref h2_, .int z1])), (ro_, aJ K 10 gr_), (kc_, .inr (0, [.ref l0_, .ref il_, .ref ir_, .ref np_, .int mn_])), (l0_, aI K 120 fl_), (il_, aI K 120 fi_), (ir_, aI K 120 fr_), (np_, aI K 120 fn_), (h_, .inr (1, [.ref ca_, .ref co_, .int (nI (u1 + (lm_apM c1 w1 n (rt1 j) (rt1 i)).length))])), (ca_, aI K 120 f8), (co_, aJ K 120 g8), (h2_, .inr (1, [.ref ca2_, .ref co2_, .int t2_])), (ca2_, aI K 120 f2_), (co2_, aJ K 120 g2_), (mt_, .inr (2, [.ref fo_, .ref ba_, .ref wa_, .int mm_])), (fo_, aI K 120 ffo_), (ba_, aI K 120 fba_), (wa_, aI K 120 fwa_), (cn_, aI K 120 fc_)] (by decide) rfl ?_
                refine lx_st (a' := 0) (b' := 0) [.long (en (2, ((u1 : Nat) : Int))), .int (nI k), .ref ro_] rfl rfl rfl ?_
                refine lx_last F 1 k [(x, .inr (3, [.ref ro_, .ref kc_, .ref mt_, .ref cn_, .ref h_, .ref h2_, .int z1])), (ro_, aJ K 10 (lm_up gr_ k (en (2, ((u1 : Nat) : Int))))), (kc_, .inr (0, [.ref l0_, .ref il_, .ref ir_, .ref np_, .int mn_])), (l0_, aI K 120 fl_), (il_, aI K 120 fi_), (ir_, aI K 120 fr_), (np_, aI K 120 fn_), (h_, .inr (1, [.ref ca_, .ref co_, .int (nI (u1 + (lm_apM c1 w1 n (rt1 j) (rt1 i)).length))])), (ca_, aI K 120 f8), (co_, aJ K 120 g8), (h2_, .inr (1, [.ref ca2_, .ref co2_, .int t2_])), (ca2_, aI K 120 f2_), (co2_, aJ K 120 g2_), (mt_, .inr (2, [.ref fo_, .ref ba_, .ref wa_, .int mm_])), (fo_, aI K 120 ffo_), (ba_, aI K 120 fba_), (wa_, aI K 120 fwa_), (cn_, aI K 120 fc_)] dX3_append_118 rfl (by omega) (by decide) rfl ?_
                exact lx_vret F hR dX3_append_119 ⟨rfl, by rw [show lm_oAppend (nI k) (nI j) (nI i) (c, w, u, rt, z) = (0, lm_set (lm_ap (c1, w1, u1, rt1, z1) (lm_apM c1 w1 n (rt1 j) (rt1 i))) k (2, ((u1 : Nat) : Int))) by unfold lm_oAppend; rw [lm_none_n hk, lm_none_n hj, lm_none_n hi, if_neg (by decide), lm_ix_n hj, lm_ix_n hi, lm_ix_n hk, if_neg hneg, if_neg hlen0, hltn, han, hσ, if_pos hfit]]; exact ⟨_, _, _, _, _, _, _, _, _, _, _, _, _, _, _, _, _, _, _, _, _, _, _, _, _, _, _, _, _, _, _, _, _, hh8, (lm_rc_up (v := (2, ((u1 : Nat) : Int))) hro1), rfl⟩⟩
              · skip
                exact absurd hcd (by rw [show lm_oAppend (nI k) (nI j) (nI i) (c, w, u, rt, z) = (3, (c1, w1, u1, rt1, z1)) by unfold lm_oAppend; rw [lm_none_n hk, lm_none_n hj, lm_none_n hi, if_neg (by decide), lm_ix_n hj, lm_ix_n hi, lm_ix_n hk, if_neg hneg, if_neg hlen0, hltn, han, hσ, if_neg hfit]]; simp)
            · skip
              have han : lm_an n (rt i) = n + 1 := by unfold lm_an; rw [if_neg hz]
              have hlen0 : ¬ lm_len c w 121 0 (rt j) = 0 := by rw [hlen]; omega
              have hltn : (lm_len c w 121 0 (rt j)).toNat = n := by rw [hlen]; simp
              have hk3 := lm_ok_kind (hr9 i hi)
              obtain ⟨c1, w1, u1, rt1, z1, hσ⟩ : ∃ c1 w1 u1 rt1 z1, lm_rm (n + 1) (c, w, u, rt, z) = (c1, w1, u1, rt1, z1) := ⟨_, _, _, _, _, rfl⟩
              have hst1 : lm_st c1 w1 u1 rt1 := by have h9 : lm_sx (lm_rm (n + 1) (c, w, u, rt, z)) := lm_sx_rm (n + 1) hst; rw [hσ] at h9; exact h9
              have hw1 := hst1.1
              have hu1 := hw1.1
              by_cases hfit : u1 + (n + 1) ≤ 120
              · skip
                obtain ⟨n8, hn8⟩ : ∃ n8, n = n8 + 1 := ⟨n - 1, by omega⟩
                have htot : (lm_apM c1 w1 n (rt1 j) (rt1 i)).length = n + 1 := by have h9 := lm_an_len (c := c1) (w := w1) n8 (rt1 j) (rt1 i); rw [← hn8] at h9; rw [h9]; unfold lm_an; rw [lm_rm_k2 (k := i) hσ]; exact han
                have hL1 := lm_isL_rm hst hσ hj hisL0
                refine lx_iload_n F dX3_append_0 1 rfl ?_
                refine lx_iload_n F dX3_append_1 2 rfl ?_
                refine lx_cs F (zX_cks (xl E) K k j hk hj) cs_X3_64 [] [0, 1, 2, 3, 4, 5, 6, 7, 8, 9, 10, 11, 12, 13, 14, 15, 16, 17] [(x, .inr (3, [.ref ro, .ref kc, .ref mt, .ref cn, .ref h, .ref h2, .int z])), (ro, aJ K 10 gr), (kc, .inr (0, [.ref l0, .ref il, .ref ir, .ref np, .int mn])), (l0, aI K 120 fl), (il, aI K 120 fi), (ir, aI K 120 fr), (np, aI K 120 fn), (h, .inr (1, [.ref ca, .ref co, .int (nI u)])), (ca, aI K 120 fa), (co, aJ K 120 ga), (h2, .inr (1, [.ref ca2, .ref co2, .int t2])), (ca2, aI K 120 f2), (co2, aJ K 120 g2), (mt, .inr (2, [.ref fo, .ref ba, .ref wa, .int mm])), (fo, aI K 120 ffo), (ba, aI K 120 fba), (wa, aI K 120 fwa), (cn, aI K 120 fc)] rfl rfl (by decide) rfl (st := []) rfl (Nat.le_of_ble_eq_true rfl) (by decide) ⟨by decide, by decide⟩ dX3_append_2 (fun v9 w9 h9 => ?_)
                obtain ⟨rfl, rfl⟩ := h9
                refine lx_perm [0, 1, 2, 3, 4, 5, 6, 7, 8, 9, 10, 11, 12, 13, 14, 15, 16, 17] [(x, .inr (3, [.ref ro, .ref kc, .ref mt, .ref cn, .ref h, .ref h2, .int z])), (ro, aJ K 10 gr), (kc, .inr (0, [.ref l0, .ref il, .ref ir, .ref np, .int mn])), (l0, aI K 120 fl), (il, aI K 120 fi), (ir, aI K 120 fr), (np, aI K 120 fn), (h, .inr (1, [.ref ca, .ref co, .int (nI u)])), (ca, aI K 120 fa), (co, aJ K 120 ga), (h2, .inr (1, [.ref ca2, .ref co2, .int t2])), (ca2, aI K 120 f2), (co2, aJ K 120 g2), (mt, .inr (2, [.ref fo, .ref ba, .ref wa, .int mm])), (fo, aI K 120 ffo), (ba, aI K 120 fba), (wa, aI K 120 fwa), (cn, aI K 120 fc)] (by decide) rfl ?_
                refine lx_st (a' := 0) (b' := 0) [] rfl rfl rfl ?_
                refine lx_iload_n F dX3_append_5 3 rfl ?_
                refine lx_cs F (zX_ck (xl E) K i hi) cs_X3_45 [] [0, 1, 2, 3, 4, 5, 6, 7, 8, 9, 10, 11, 12, 13, 14, 15, 16, 17] [(x, .inr (3, [.ref ro, .ref kc, .ref mt, .ref cn, .ref h, .ref h2, .int z])), (ro, aJ K 10 gr), (kc, .inr (0, [.ref l0, .ref il, .ref ir, .ref np, .int mn])), (l0, aI K 120 fl), (il, aI K 120 fi), (ir, aI K 120 fr), (np, aI K 120 fn), (h, .inr (1, [.ref ca, .ref co, .int (nI u)])), (ca, aI K 120 fa), (co, aJ K 120 ga), (h2, .inr (1, [.ref ca2, .ref co2, .int t2])), (ca2, aI K 120 f2), (co2, aJ K 120 g2), (mt, .inr (2, [.ref fo, .ref ba, .ref wa, .int mm])), (fo, aI K 120 ffo), (ba, aI K 120 fba), (wa, aI K 120 fwa), (cn, aI K 120 fc)] rfl rfl (by decide) rfl (st := []) rfl (Nat.le_of_ble_eq_true rfl) (by decide) ⟨by decide, by decide⟩ dX3_append_6 (fun v9 w9 h9 => ?_)
                obtain ⟨rfl, rfl⟩ := h9
                refine lx_perm [0, 1, 2, 3, 4, 5, 6, 7, 8, 9, 10, 11, 12, 13, 14, 15, 16, 17] [(x, .inr (3, [.ref ro, .ref kc, .ref mt, .ref cn, .ref h, .ref h2, .int z])), (ro, aJ K 10 gr), (kc, .inr (0, [.ref l0, .ref il, .ref ir, .ref np, .int mn])), (l0, aI K 120 fl), (il, aI K 120 fi), (ir, aI K 120 fr), (np, aI K 120 fn), (h, .inr (1, [.ref ca, .ref co, .int (nI u)])), (ca, aI K 120 fa), (co, aJ K 120 ga), (h2, .inr (1, [.ref ca2, .ref co2, .int t2])), (ca2, aI K 120 f2), (co2, aJ K 120 g2), (mt, .inr (2, [.ref fo, .ref ba, .ref wa, .int mm])), (fo, aI K 120 ffo), (ba, aI K 120 fba), (wa, aI K 120 fwa), (cn, aI K 120 fc)] (by decide) rfl ?_
                refine lx_st (a' := 0) (b' := 0) [] rfl rfl rfl ?_
                refine lx_aload_n F dX3_append_9 0 rfl ?_
                refine lx_aload_n F dX3_append_10 0 rfl ?_
                refine gf_X3_9 F 0 rfl rfl dX3_append_11 ?_
                refine lx_iload_n F dX3_append_14 2 rfl ?_
                refine lx_lald F 1 j dX3_append_15 rfl (by omega) (by decide) ?_
                rw [hro j hj]
                refine lx_cv F (zl_countPairs (xl E) K x ro kc mt cn h2 z h ca co fa ga (nI u) c w u hw hh (rt j) (hr9 j hj)) cv_X3_110 0 rfl rfl [0, 7, 8, 9] [1, 2, 3, 4, 5, 6, 10, 11, 12, 13, 14, 15, 16, 17] [(ro, aJ K 10 gr), (kc, .inr (0, [.ref l0, .ref il, .ref ir, .ref np, .int mn])), (l0, aI K 120 fl), (il, aI K 120 fi), (ir, aI K 120 fr), (np, aI K 120 fn), (h2, .inr (1, [.ref ca2, .ref co2, .int t2])), (ca2, aI K 120 f2), (co2, aJ K 120 g2), (mt, .inr (2, [.ref fo, .ref ba, .ref wa, .int mm])), (fo, aI K 120 ffo), (ba, aI K 120 fba), (wa, aI K 120 fwa), (cn, aI K 120 fc)] rfl rfl (by decide) rfl (st := []) rfl (Nat.le_of_ble_eq_true rfl) (by decide) ⟨by decide, by decide⟩ dX3_append_16 (fun v9 w9 h9 => ?_)
                obtain ⟨rfl, rfl⟩ := h9
                refine lx_perm [14, 0, 1, 2, 3, 4, 5, 15, 16, 17, 6, 7, 8, 9, 10, 11, 12, 13] [(x, .inr (3, [.ref ro, .ref kc, .ref mt, .ref cn, .ref h, .ref h2, .int z])), (ro, aJ K 10 gr), (kc, .inr (0, [.ref l0, .ref il, .ref ir, .ref np, .int mn])), (l0, aI K 120 fl), (il, aI K 120 fi), (ir, aI K 120 fr), (np, aI K 120 fn), (h, .inr (1, [.ref ca, .ref co, .int (nI u)])), (ca, aI K 120 fa), (co, aJ K 120 ga), (h2, .inr (1, [.ref ca2, .ref co2, .int t2])), (ca2, aI K 120 f2), (co2, aJ K 120 g2), (mt, .inr (2, [.ref fo, .ref ba, .ref wa, .int mm])), (fo, aI K 120 ffo), (ba, aI K 120 fba), (wa, aI K 120 fwa), (cn, aI K 120 fc)] (by decide) rfl ?_
                refine lx_st (a' := 0) (b' := 0) [.int (Int32.ofInt (lm_len c w 121 0 (rt j)))] rfl rfl rfl ?_
                rw [show Int32.ofInt (lm_len c w 121 0 (rt j)) = nI n by rw [hlen]; rfl]
                refine lx_istore F [(0, .ref x), (1, .int (nI k)), (2, .int (nI j)), (3, .int (nI i)), (4, .int (nI n))] [1, 2, 3, 4, 0] dX3_append_19 rfl (by decide) ?_
                refine lx_iload F dX3_append_21 4 rfl ?_
                refine lx_ifN_ge F 36 (by omega) dX3_append_23 rfl (fun _ => ?_) (fun h => absurd h (by omega))
                refine lx_iload F dX3_append_36 4 rfl ?_
                refine lx_ifN_ne F 54 (by omega) dX3_append_38 rfl (fun _ => ?_) (fun h => absurd h (by omega))
                refine lx_aload_n F dX3_append_54 0 rfl ?_
                refine lx_aload_n F dX3_append_55 0 rfl ?_
                refine gf_X3_9 F 0 rfl rfl dX3_append_56 ?_
                refine lx_iload_n F dX3_append_59 3 rfl ?_
                refine lx_lald F 1 i dX3_append_60 rfl (by omega) (by decide) ?_
                rw [hro i hi]
                refine lx_cs F (zs_kindOf (xl E) K (rt i) (by omega)) cs_X3_118 [] [0, 1, 2, 3, 4, 5, 6, 7, 8, 9, 10, 11, 12, 13, 14, 15, 16, 17] [(x, .inr (3, [.ref ro, .ref kc, .ref mt, .ref cn, .ref h, .ref h2, .int z])), (ro, aJ K 10 gr), (kc, .inr (0, [.ref l0, .ref il, .ref ir, .ref np, .int mn])), (l0, aI K 120 fl), (il, aI K 120 fi), (ir, aI K 120 fr), (np, aI K 120 fn), (h, .inr (1, [.ref ca, .ref co, .int (nI u)])), (ca, aI K 120 fa), (co, aJ K 120 ga), (h2, .inr (1, [.ref ca2, .ref co2, .int t2])), (ca2, aI K 120 f2), (co2, aJ K 120 g2), (mt, .inr (2, [.ref fo, .ref ba, .ref wa, .int mm])), (fo, aI K 120 ffo), (ba, aI K 120 fba), (wa, aI K 120 fwa), (cn, aI K 120 fc)] rfl rfl (by decide) rfl (st := [.ref x]) rfl (Nat.le_of_ble_eq_true rfl) (by decide) ⟨by decide, by decide⟩ dX3_append_61 (fun v9 w9 h9 => ?_)
                obtain ⟨rfl, rfl⟩ := h9
                refine lx_perm [0, 1, 2, 3, 4, 5, 6, 7, 8, 9, 10, 11, 12, 13, 14, 15, 16, 17] [(x, .inr (3, [.ref ro, .ref kc, .ref mt, .ref cn, .ref h, .ref h2, .int z])), (ro, aJ K 10 gr), (kc, .inr (0, [.ref l0, .ref il, .ref ir, .ref np, .int mn])), (l0, aI K 120 fl), (il, aI K 120 fi), (ir, aI K 120 fr), (np, aI K 120 fn), (h, .inr (1, [.ref ca, .ref co, .int (nI u)])), (ca, aI K 120 fa), (co, aJ K 120 ga), (h2, .inr (1, [.ref ca2, .ref co2, .int t2])), (ca2, aI K 120 f2), (co2, aJ K 120 g2), (mt, .inr (2, [.ref fo, .ref ba, .ref wa, .int mm])), (fo, aI K 120 ffo), (ba, aI K 120 fba), (wa, aI K 120 fwa), (cn, aI K 120 fc)] (by decide) rfl ?_
                refine lx_st (a' := 0) (b' := 0) [.int (nI ((rt i).1)), .ref x] rfl rfl rfl ?_
                refine lx_ifN_ne F 72 (by omega) dX3_append_64 rfl (fun _ => ?_) (fun h => absurd h (by omega))
                refine lx_iload F dX3_append_72 4 rfl ?_
                refine lx_iconst F dX3_append_74 kc_1 ?_
                refine lx_iadd F dX3_append_75 (nI_add _ _) ?_
                refine lx_cv F (zX_room (xl E) K x c w u rt z hst _ ⟨_, _, _, _, _, _, _, _, _, _, _, _, _, _, _, _, _, _, _, _, _, _, _, _, _, _, _, _, _, _, _, _, _, hh, hro, rfl⟩ (n + 1) (by omega) (c1, w1, u1, rt1, z1) hσ hfit) cv_X3_68 0 rfl rfl [0, 1, 2, 3, 4, 5, 6, 7, 8, 9, 10, 11, 12, 13, 14, 15, 16, 17] [] [] rfl rfl (by decide) rfl (st := []) rfl (Nat.le_of_ble_eq_true rfl) (by decide) ⟨by decide, by decide⟩ dX3_append_76 (fun v9 w9 h9 => ?_)
                obtain ⟨rfl, ro_, kc_, l0_, il_, ir_, np_, h_, ca_, co_, h2_, ca2_, co2_, mt_, fo_, ba_, wa_, cn_, gr_, fl_, fi_, fr_, fn_, mn_, fa_, ga_, f2_, g2_, t2_, ffo_, fba_, fwa_, mm_, fc_, hh1, hro1, rfl⟩ := h9
                refine lx_perm [0, 1, 2, 3, 4, 5, 6, 7, 8, 9, 10, 11, 12, 13, 14, 15, 16, 17] [(x, .inr (3, [.ref ro_, .ref kc_, .ref mt_, .ref cn_, .ref h_, .ref h2_, .int z1])), (ro_, aJ K 10 gr_), (kc_, .inr (0, [.ref l0_, .ref il_, .ref ir_, .ref np_, .int mn_])), (l0_, aI K 120 fl_), (il_, aI K 120 fi_), (ir_, aI K 120 fr_), (np_, aI K 120 fn_), (h_, .inr (1, [.ref ca_, .ref co_, .int (nI u1)])), (ca_, aI K 120 fa_), (co_, aJ K 120 ga_), (h2_, .inr (1, [.ref ca2_, .ref co2_, .int t2_])), (ca2_, aI K 120 f2_), (co2_, aJ K 120 g2_), (mt_, .inr (2, [.ref fo_, .ref ba_, .ref wa_, .int mm_])), (fo_, aI K 120 ffo_), (ba_, aI K 120 fba_), (wa_, aI K 120 fwa_), (cn_, aI K 120 fc_)] (by decide) rfl ?_
                refine lx_st (a' := 0) (b' := 0) [] rfl rfl rfl ?_
                have hh1 : lm_hf fa_ ga_ c1 w1 u1 := hh1
                have hro1 : ∀ r, r < 10 → gr_ r = en (rt1 r) := hro1
                refine lx_aload_n F dX3_append_79 0 rfl ?_
                refine gf_X3_34 F 0 rfl rfl dX3_append_80 ?_
                refine gf_X3_77 F 7 rfl rfl dX3_append_83 ?_
                refine lx_istore F [(0, .ref x), (1, .int (nI k)), (2, .int (nI j)), (3, .int (nI i)), (4, .int (nI n)), (5, .int (nI u1))] [1, 2, 3, 4, 5, 0] dX3_append_86 rfl (by decide) ?_
                refine lx_aload_n F dX3_append_88 0 rfl ?_
                refine lx_aload_n F dX3_append_89 0 rfl ?_
                refine gf_X3_9 F 0 rfl rfl dX3_append_90 ?_
                refine lx_iload_n F dX3_append_93 2 rfl ?_
                refine lx_lald F 1 j dX3_append_94 rfl (by omega) (by decide) ?_
                rw [hro1 j hj]
                refine lx_iload F dX3_append_95 4 rfl ?_
                refine lx_aload_n F dX3_append_97 0 rfl ?_
                refine gf_X3_9 F 0 rfl rfl dX3_append_98 ?_
                refine lx_iload_n F dX3_append_101 3 rfl ?_
                refine lx_lald F 1 i dX3_append_102 rfl (by omega) (by decide) ?_
                rw [hro1 i hi]
                refine lx_cv F (zl_takeFirsts (xl E) K x ro_ kc_ mt_ cn_ h2_ z1 h_ ca_ co_ fa_ ga_ c1 w1 u1 hw1 hh1 (rt1 j) (hst1.2 j hj) n (by omega) hL1 (rt1 i) (hst1.2 i hi) (by omega)) cv_X3_121 0 rfl rfl [0, 7, 8, 9] [1, 2, 3, 4, 5, 6, 10, 11, 12, 13, 14, 15, 16, 17] [(ro_, aJ K 10 gr_), (kc_, .inr (0, [.ref l0_, .ref il_, .ref ir_, .ref np_, .int mn_])), (l0_, aI K 120 fl_), (il_, aI K 120 fi_), (ir_, aI K 120 fr_), (np_, aI K 120 fn_), (h2_, .inr (1, [.ref ca2_, .ref co2_, .int t2_])), (ca2_, aI K 120 f2_), (co2_, aJ K 120 g2_), (mt_, .inr (2, [.ref fo_, .ref ba_, .ref wa_, .int mm_])), (fo_, aI K 120 ffo_), (ba_, aI K 120 fba_), (wa_, aI K 120 fwa_), (cn_, aI K 120 fc_)] rfl rfl (by decide) rfl (st := []) rfl (Nat.le_of_ble_eq_true rfl) (by decide) ⟨by decide, by decide⟩ dX3_append_103 (fun v9 w9 h9 => ?_)
                obtain ⟨rfl, f8, g8, hh8, rfl⟩ := h9
                refine lx_perm [14, 0, 1, 2, 3, 4, 5, 15, 16, 17, 6, 7, 8, 9, 10, 11, 12, 13] [(x, .inr (3, [.ref ro_, .ref kc_, .ref mt_, .ref cn_, .ref h_, .ref h2_, .int z1])), (ro_, aJ K 10 gr_), (kc_, .inr (0, [.ref l0_, .ref il_, .ref ir_, .ref np_, .int mn_])), (l0_, aI K 120 fl_), (il_, aI K 120 fi_), (ir_, aI K 120 fr_), (np_, aI K 120 fn_), (h_, .inr (1, [.ref ca_, .ref co_, .int (nI (u1 + (lm_apM c1 w1 n (rt1 j) (rt1 i)).length))])), (ca_, aI K 120 f8), (co_, aJ K 120 g8), (h2_, .inr (1, [.ref ca2_, .ref co2_, .int t2_])), (ca2_, aI K 120 f2_), (co2_, aJ K 120 g2_), (mt_, .inr (2, [.ref fo_, .ref ba_, .ref wa_, .int mm_])), (fo_, aI K 120 ffo_), (ba_, aI K 120 fba_), (wa_, aI K 120 fwa_), (cn_, aI K 120 fc_)] (by decide) rfl ?_
                refine lx_st (a' := 0) (b' := 0) [] rfl rfl rfl ?_
                refine lx_aload_n F dX3_append_106 0 rfl ?_
                refine gf_X3_9 F 0 rfl rfl dX3_append_107 ?_
                refine lx_iload_n F dX3_append_110 1 rfl ?_
                refine lx_iconst F dX3_append_111 kc_2 ?_
                refine lx_iload F dX3_append_112 5 rfl ?_
                refine lx_i2l F dX3_append_114 (jI_i2l (by omega)) ?_
                refine lx_cs F (zs_content (xl E) K 2 ((u1 : Nat) : Int) (by omega)) cs_X3_60 [] [0, 1, 2, 3, 4, 5, 6, 7, 8, 9, 10, 11, 12, 13, 14, 15, 16, 17] [(x, .inr (3, [.ref ro_, .ref kc_, .ref mt_, .ref cn_, .ref h_, .ref h2_, .int z1])), (ro_, aJ K 10 gr_), (kc_, .inr (0, [.ref l0_, .ref il_, .ref ir_, .ref np_, .int mn_])), (l0_, aI K 120 fl_), (il_, aI K 120 fi_), (ir_, aI K 120 fr_), (np_, aI K 120 fn_), (h_, .inr (1, [.ref ca_, .ref co_, .int (nI (u1 + (lm_apM c1 w1 n (rt1 j) (rt1 i)).length))])), (ca_, aI K 120 f8), (co_, aJ K 120 g8), (h2_, .inr (1, [.ref ca2_, .ref co2_, .int t2_])), (ca2_, aI K 120 f2_), (co2_, aJ K 120 g2_), (mt_, .inr (2, [.ref fo_, .ref ba_, .ref wa_, .int mm_])), (fo_, aI K 120 ffo_), (ba_, aI K 120 fba_), (wa_, aI K 120 fwa_), (cn_, aI K 120 fc_)] rfl rfl (by decide) rfl (st := [.int (nI k), .ref ro_]) rfl (Nat.le_of_ble_eq_true rfl) (by decide) ⟨by decide, by decide⟩ dX3_append_115 (fun v9 w9 h9 => ?_)
                obtain ⟨rfl, rfl⟩ := h9
                refine lx_perm [0, 1, 2, 3, 4, 5, 6, 7, 8, 9, 10, 11, 12, 13, 14, 15, 16, 17] [(x, .inr (3, [.ref ro_, .ref kc_, .ref mt_, .ref cn_, .ref h_, .ref h2_, .int z1])), (ro_, aJ K 10 gr_), (kc_, .inr (0, [.ref l0_, .ref il_, .ref ir_, .ref np_, .int mn_])), (l0_, aI K 120 fl_), (il_, aI K 120 fi_), (ir_, aI K 120 fr_), (np_, aI K 120 fn_), (h_, .inr (1, [.ref ca_, .ref co_, .int (nI (u1 + (lm_apM c1 w1 n (rt1 j) (rt1 i)).length))])), (ca_, aI K 120 f8), (co_, aJ K 120 g8), (h2_, .inr (1, [.ref ca2_, .ref co2_, .int t2_])), (ca2_, aI K 120 f2_), (co2_, aJ K 120 g2_), (mt_, .inr (2, [.ref fo_, .ref ba_, .ref wa_, .int mm_])), (fo_, aI K 120 ffo_), (ba_, aI K 120 fba_), (wa_, aI K 120 fwa_), (cn_, aI K 120 fc_)] (by decide) rfl ?_
                refine lx_st (a' := 0) (b' := 0) [.long (en (2, ((u1 : Nat) : Int))), .int (nI k), .ref ro_] rfl rfl rfl ?_
                refine lx_last F 1 k [(x, .inr (3, [.ref ro_, .ref kc_, .ref mt_, .ref cn_, .ref h_, .ref h2_, .int z1])), (ro_, aJ K 10 (lm_up gr_ k (en (2, ((u1 : Nat) : Int))))), (kc_, .inr (0, [.ref l0_, .ref il_, .ref ir_, .ref np_, .int mn_])), (l0_, aI K 120 fl_), (il_, aI K 120 fi_), (ir_, aI K 120 fr_), (np_, aI K 120 fn_), (h_, .inr (1, [.ref ca_, .ref co_, .int (nI (u1 + (lm_apM c1 w1 n (rt1 j) (rt1 i)).length))])), (ca_, aI K 120 f8), (co_, aJ K 120 g8), (h2_, .inr (1, [.ref ca2_, .ref co2_, .int t2_])), (ca2_, aI K 120 f2_), (co2_, aJ K 120 g2_), (mt_, .inr (2, [.ref fo_, .ref ba_, .ref wa_, .int mm_])), (fo_, aI K 120 ffo_), (ba_, aI K 120 fba_), (wa_, aI K 120 fwa_), (cn_, aI K 120 fc_)] dX3_append_118 rfl (by omega) (by decide) rfl ?_
                exact lx_vret F hR dX3_append_119 ⟨rfl, by rw [show lm_oAppend (nI k) (nI j) (nI i) (c, w, u, rt, z) = (0, lm_set (lm_ap (c1, w1, u1, rt1, z1) (lm_apM c1 w1 n (rt1 j) (rt1 i))) k (2, ((u1 : Nat) : Int))) by unfold lm_oAppend; rw [lm_none_n hk, lm_none_n hj, lm_none_n hi, if_neg (by decide), lm_ix_n hj, lm_ix_n hi, lm_ix_n hk, if_neg hneg, if_neg hlen0, hltn, han, hσ, if_pos hfit]]; exact ⟨_, _, _, _, _, _, _, _, _, _, _, _, _, _, _, _, _, _, _, _, _, _, _, _, _, _, _, _, _, _, _, _, _, hh8, (lm_rc_up (v := (2, ((u1 : Nat) : Int))) hro1), rfl⟩⟩
              · skip
                exact absurd hcd (by rw [show lm_oAppend (nI k) (nI j) (nI i) (c, w, u, rt, z) = (3, (c1, w1, u1, rt1, z1)) by unfold lm_oAppend; rw [lm_none_n hk, lm_none_n hj, lm_none_n hi, if_neg (by decide), lm_ix_n hj, lm_ix_n hi, lm_ix_n hk, if_neg hneg, if_neg hlen0, hltn, han, hσ, if_neg hfit]]; simp)
      · skip
        exact absurd hcd (by rw [show lm_oAppend (nI k) (nI j) t (c, w, u, rt, z) = (1, (c, w, u, rt, z)) by unfold lm_oAppend; rw [lm_none_n hk, lm_none_n hj, hnt]; rfl]; simp)
    · skip
      exact absurd hcd (by rw [show lm_oAppend (nI k) f t (c, w, u, rt, z) = (1, (c, w, u, rt, z)) by unfold lm_oAppend; rw [lm_none_n hk, hnf]; rfl]; simp)
  · skip
    exact absurd hcd (by rw [show lm_oAppend r f t (c, w, u, rt, z) = (1, (c, w, u, rt, z)) by unfold lm_oAppend; rw [hnr]; rfl]; simp)

set_option maxHeartbeats 4000000 in
set_option maxRecDepth 100000 in
theorem zX_append_1 (l : Launch) (K : lm_G) (x : Nat) (c : Nat → Nat) (w : Nat → lm_V) (u : Nat) (rt : Nat → lm_V) (z : Int32) (hst : lm_st c w u rt) (W : va_W) (hW : lm_obj K x (c, w, u, rt, z) W) (r f t : Int32) (hcd : (lm_oAppend r f t (c, w, u, rt, z)).1 = 1) : lm_CX l K mX3_append (rx 8) [.ref x, .int r, .int f, .int t] W eN (fun w9 => lm_obj K x (lm_oAppend r f t (c, w, u, rt, z)).2 w9) := by
  obtain ⟨ro, kc, l0, il, ir, np, h, ca, co, h2, ca2, co2, mt, fo, ba, wa, cn, gr, fl, fi, fr, fn, mn, fa, ga, f2, g2, t2, ffo, fba, fwa, mm, fc, hh, hro, rfl⟩ := hW
  have hh : lm_hf fa ga c w u := hh
  have hro : ∀ r, r < 10 → gr r = en (rt r) := hro
  have hw := hst.1
  have hr9 := hst.2
  have hu := hw.1
  refine lx_metX RX3 pn_X3 rfl (Nat.le_of_ble_eq_true rfl) (fun E hE F X => ?_)
  have F : lx_F K 6 E cX3_append RX3 none (rx 8) := F
  show lx_W K 6 E 0 0 0 [(0, .ref x), (1, .int r), (2, .int f), (3, .int t)] [] [(x, .inr (3, [.ref ro, .ref kc, .ref mt, .ref cn, .ref h, .ref h2, .int z])), (ro, aJ K 10 gr), (kc, .inr (0, [.ref l0, .ref il, .ref ir, .ref np, .int mn])), (l0, aI K 120 fl), (il, aI K 120 fi), (ir, aI K 120 fr), (np, aI K 120 fn), (h, .inr (1, [.ref ca, .ref co, .int (nI u)])), (ca, aI K 120 fa), (co, aJ K 120 ga), (h2, .inr (1, [.ref ca2, .ref co2, .int t2])), (ca2, aI K 120 f2), (co2, aJ K 120 g2), (mt, .inr (2, [.ref fo, .ref ba, .ref wa, .int mm])), (fo, aI K 120 ffo), (ba, aI K 120 fba), (wa, aI K 120 fwa), (cn, aI K 120 fc)]
  cases hnr : lm_none r
  · skip
    obtain ⟨k, hk, rfl⟩ := lm_none_f hnr
    cases hnf : lm_none f
    · skip
      obtain ⟨j, hj, rfl⟩ := lm_none_f hnf
      cases hnt : lm_none t
      · skip
        obtain ⟨i, hi, rfl⟩ := lm_none_f hnt
        by_cases hneg : lm_len c w 121 0 (rt j) < 0
        · skip
          exact absurd hcd (by rw [show lm_oAppend (nI k) (nI j) (nI i) (c, w, u, rt, z) = (2, (c, w, u, rt, z)) by unfold lm_oAppend; rw [lm_none_n hk, lm_none_n hj, lm_none_n hi, if_neg (by decide), lm_ix_n hj, if_pos hneg]]; simp)
        · skip
          obtain ⟨n, hlen, hn121, hisL0⟩ := lm_len_L 121 0 (rt j) hneg
          rw [Nat.zero_add] at hlen
          by_cases hn0 : n = 0
          · skip
            exact absurd hcd (by rw [show lm_oAppend (nI k) (nI j) (nI i) (c, w, u, rt, z) = (0, lm_set (c, w, u, rt, z) k (rt i)) by unfold lm_oAppend; rw [lm_none_n hk, lm_none_n hj, lm_none_n hi, if_neg (by decide), lm_ix_n hj, if_neg hneg, if_pos (show lm_len c w 121 0 (rt j) = 0 by rw [hlen, hn0]; rfl), lm_ix_n hk, lm_ix_n hi]]; simp)
          · skip
            by_cases hz : (rt i).1 = 0
            · skip
              have han : lm_an n (rt i) = n := by unfold lm_an; rw [if_pos hz]; exact Nat.add_zero n
              have hlen0 : ¬ lm_len c w 121 0 (rt j) = 0 := by rw [hlen]; omega
              have hltn : (lm_len c w 121 0 (rt j)).toNat = n := by rw [hlen]; simp
              have hk3 := lm_ok_kind (hr9 i hi)
              obtain ⟨c1, w1, u1, rt1, z1, hσ⟩ : ∃ c1 w1 u1 rt1 z1, lm_rm (n) (c, w, u, rt, z) = (c1, w1, u1, rt1, z1) := ⟨_, _, _, _, _, rfl⟩
              have hst1 : lm_st c1 w1 u1 rt1 := by have h9 : lm_sx (lm_rm (n) (c, w, u, rt, z)) := lm_sx_rm (n) hst; rw [hσ] at h9; exact h9
              have hw1 := hst1.1
              have hu1 := hw1.1
              by_cases hfit : u1 + (n) ≤ 120
              · skip
                obtain ⟨n8, hn8⟩ : ∃ n8, n = n8 + 1 := ⟨n - 1, by omega⟩
                have htot : (lm_apM c1 w1 n (rt1 j) (rt1 i)).length = n := by have h9 := lm_an_len (c := c1) (w := w1) n8 (rt1 j) (rt1 i); rw [← hn8] at h9; rw [h9]; unfold lm_an; rw [lm_rm_k2 (k := i) hσ]; exact han
                have hL1 := lm_isL_rm hst hσ hj hisL0
                exact absurd hcd (by rw [show lm_oAppend (nI k) (nI j) (nI i) (c, w, u, rt, z) = (0, lm_set (lm_ap (c1, w1, u1, rt1, z1) (lm_apM c1 w1 n (rt1 j) (rt1 i))) k (2, ((u1 : Nat) : Int))) by unfold lm_oAppend; rw [lm_none_n hk, lm_none_n hj, lm_none_n hi, if_neg (by decide), lm_ix_n hj, lm_ix_n hi, lm_ix_n hk, if_neg hneg, if_neg hlen0, hltn, han, hσ, if_pos hfit]]; simp)
              · skip
                exact absurd hcd (by rw [show lm_oAppend (nI k) (nI j) (nI i) (c, w, u, rt, z) = (3, (c1, w1, u1, rt1, z1)) by unfold lm_oAppend; rw [lm_none_n hk, lm_none_n hj, lm_none_n hi, if_neg (by decide), lm_ix_n hj, lm_ix_n hi, lm_ix_n hk, if_neg hneg, if_neg hlen0, hltn, han, hσ, if_neg hfit]]; simp)
            · skip
              have han : lm_an n (rt i) = n + 1 := by unfold lm_an; rw [if_neg hz]
              have hlen0 : ¬ lm_len c w 121 0 (rt j) = 0 := by rw [hlen]; omega
              have hltn : (lm_len c w 121 0 (rt j)).toNat = n := by rw [hlen]; simp
              have hk3 := lm_ok_kind (hr9 i hi)
              obtain ⟨c1, w1, u1, rt1, z1, hσ⟩ : ∃ c1 w1 u1 rt1 z1, lm_rm (n + 1) (c, w, u, rt, z) = (c1, w1, u1, rt1, z1) := ⟨_, _, _, _, _, rfl⟩
              have hst1 : lm_st c1 w1 u1 rt1 := by have h9 : lm_sx (lm_rm (n + 1) (c, w, u, rt, z)) := lm_sx_rm (n + 1) hst; rw [hσ] at h9; exact h9
              have hw1 := hst1.1
              have hu1 := hw1.1
              by_cases hfit : u1 + (n + 1) ≤ 120
              · skip
                obtain ⟨n8, hn8⟩ : ∃ n8, n = n8 + 1 := ⟨n - 1, by omega⟩
                have htot : (lm_apM c1 w1 n (rt1 j) (rt1 i)).length = n + 1 := by have h9 := lm_an_len (c := c1) (w := w1) n8 (rt1 j) (rt1 i); rw [← hn8] at h9; rw [h9]; unfold lm_an; rw [lm_rm_k2 (k := i) hσ]; exact han
                have hL1 := lm_isL_rm hst hσ hj hisL0
                exact absurd hcd (by rw [show lm_oAppend (nI k) (nI j) (nI i) (c, w, u, rt, z) = (0, lm_set (lm_ap (c1, w1, u1, rt1, z1) (lm_apM c1 w1 n (rt1 j) (rt1 i))) k (2, ((u1 : Nat) : Int))) by unfold lm_oAppend; rw [lm_none_n hk, lm_none_n hj, lm_none_n hi, if_neg (by decide), lm_ix_n hj, lm_ix_n hi, lm_ix_n hk, if_neg hneg, if_neg hlen0, hltn, han, hσ, if_pos hfit]]; simp)
              · skip
                exact absurd hcd (by rw [show lm_oAppend (nI k) (nI j) (nI i) (c, w, u, rt, z) = (3, (c1, w1, u1, rt1, z1)) by unfold lm_oAppend; rw [lm_none_n hk, lm_none_n hj, lm_none_n hi, if_neg (by decide), lm_ix_n hj, lm_ix_n hi, lm_ix_n hk, if_neg hneg, if_neg hlen0, hltn, han, hσ, if_neg hfit]]; simp)
      · skip
        refine lx_iload_n F dX3_append_0 1 rfl ?_
        refine lx_iload_n F dX3_append_1 2 rfl ?_
        refine lx_cs F (zX_cks (xl E) K k j hk hj) cs_X3_64 [] [0, 1, 2, 3, 4, 5, 6, 7, 8, 9, 10, 11, 12, 13, 14, 15, 16, 17] [(x, .inr (3, [.ref ro, .ref kc, .ref mt, .ref cn, .ref h, .ref h2, .int z])), (ro, aJ K 10 gr), (kc, .inr (0, [.ref l0, .ref il, .ref ir, .ref np, .int mn])), (l0, aI K 120 fl), (il, aI K 120 fi), (ir, aI K 120 fr), (np, aI K 120 fn), (h, .inr (1, [.ref ca, .ref co, .int (nI u)])), (ca, aI K 120 fa), (co, aJ K 120 ga), (h2, .inr (1, [.ref ca2, .ref co2, .int t2])), (ca2, aI K 120 f2), (co2, aJ K 120 g2), (mt, .inr (2, [.ref fo, .ref ba, .ref wa, .int mm])), (fo, aI K 120 ffo), (ba, aI K 120 fba), (wa, aI K 120 fwa), (cn, aI K 120 fc)] rfl rfl (by decide) rfl (st := []) rfl (Nat.le_of_ble_eq_true rfl) (by decide) ⟨by decide, by decide⟩ dX3_append_2 (fun v9 w9 h9 => ?_)
        obtain ⟨rfl, rfl⟩ := h9
        refine lx_perm [0, 1, 2, 3, 4, 5, 6, 7, 8, 9, 10, 11, 12, 13, 14, 15, 16, 17] [(x, .inr (3, [.ref ro, .ref kc, .ref mt, .ref cn, .ref h, .ref h2, .int z])), (ro, aJ K 10 gr), (kc, .inr (0, [.ref l0, .ref il, .ref ir, .ref np, .int mn])), (l0, aI K 120 fl), (il, aI K 120 fi), (ir, aI K 120 fr), (np, aI K 120 fn), (h, .inr (1, [.ref ca, .ref co, .int (nI u)])), (ca, aI K 120 fa), (co, aJ K 120 ga), (h2, .inr (1, [.ref ca2, .ref co2, .int t2])), (ca2, aI K 120 f2), (co2, aJ K 120 g2), (mt, .inr (2, [.ref fo, .ref ba, .ref wa, .int mm])), (fo, aI K 120 ffo), (ba, aI K 120 fba), (wa, aI K 120 fwa), (cn, aI K 120 fc)] (by decide) rfl ?_
        refine lx_st (a' := 0) (b' := 0) [] rfl rfl rfl ?_
        refine lx_iload_n F dX3_append_5 3 rfl ?_
        exact lx_csX F X (zX_ckx (xl E) K t hnt) cs_X3_45 [] [0, 1, 2, 3, 4, 5, 6, 7, 8, 9, 10, 11, 12, 13, 14, 15, 16, 17] [(x, .inr (3, [.ref ro, .ref kc, .ref mt, .ref cn, .ref h, .ref h2, .int z])), (ro, aJ K 10 gr), (kc, .inr (0, [.ref l0, .ref il, .ref ir, .ref np, .int mn])), (l0, aI K 120 fl), (il, aI K 120 fi), (ir, aI K 120 fr), (np, aI K 120 fn), (h, .inr (1, [.ref ca, .ref co, .int (nI u)])), (ca, aI K 120 fa), (co, aJ K 120 ga), (h2, .inr (1, [.ref ca2, .ref co2, .int t2])), (ca2, aI K 120 f2), (co2, aJ K 120 g2), (mt, .inr (2, [.ref fo, .ref ba, .ref wa, .int mm])), (fo, aI K 120 ffo), (ba, aI K 120 fba), (wa, aI K 120 fwa), (cn, aI K 120 fc)] rfl rfl (by decide) rfl (st := []) rfl (Nat.le_of_ble_eq_true rfl) (by decide) ⟨by decide, by decide⟩ dX3_append_6 (fun w9 h9 => by subst h9; exact (by show lm_obj K x _ _; rw [show lm_oAppend (nI k) (nI j) t (c, w, u, rt, z) = (1, (c, w, u, rt, z)) by unfold lm_oAppend; rw [lm_none_n hk, lm_none_n hj, hnt]; rfl]; exact ⟨_, _, _, _, _, _, _, _, _, _, _, _, _, _, _, _, _, _, _, _, _, _, _, _, _, _, _, _, _, _, _, _, _, hh, hro, rfl⟩))
    · skip
      refine lx_iload_n F dX3_append_0 1 rfl ?_
      refine lx_iload_n F dX3_append_1 2 rfl ?_
      exact lx_csX F X (zX_cksx (xl E) K (nI k) f (by rw [lm_none_n hk, hnf]; rfl)) cs_X3_64 [] [0, 1, 2, 3, 4, 5, 6, 7, 8, 9, 10, 11, 12, 13, 14, 15, 16, 17] [(x, .inr (3, [.ref ro, .ref kc, .ref mt, .ref cn, .ref h, .ref h2, .int z])), (ro, aJ K 10 gr), (kc, .inr (0, [.ref l0, .ref il, .ref ir, .ref np, .int mn])), (l0, aI K 120 fl), (il, aI K 120 fi), (ir, aI K 120 fr), (np, aI K 120 fn), (h, .inr (1, [.ref ca, .ref co, .int (nI u)])), (ca, aI K 120 fa), (co, aJ K 120 ga), (h2, .inr (1, [.ref ca2, .ref co2, .int t2])), (ca2, aI K 120 f2), (co2, aJ K 120 g2), (mt, .inr (2, [.ref fo, .ref ba, .ref wa, .int mm])), (fo, aI K 120 ffo), (ba, aI K 120 fba), (wa, aI K 120 fwa), (cn, aI K 120 fc)] rfl rfl (by decide) rfl (st := []) rfl (Nat.le_of_ble_eq_true rfl) (by decide) ⟨by decide, by decide⟩ dX3_append_2 (fun w9 h9 => by subst h9; exact (by show lm_obj K x _ _; rw [show lm_oAppend (nI k) f t (c, w, u, rt, z) = (1, (c, w, u, rt, z)) by unfold lm_oAppend; rw [lm_none_n hk, hnf]; rfl]; exact ⟨_, _, _, _, _, _, _, _, _, _, _, _, _, _, _, _, _, _, _, _, _, _, _, _, _, _, _, _, _, _, _, _, _, hh, hro, rfl⟩))
  · skip
    refine lx_iload_n F dX3_append_0 1 rfl ?_
    refine lx_iload_n F dX3_append_1 2 rfl ?_
    exact lx_csX F X (zX_cksx (xl E) K r f (by rw [hnr]; rfl)) cs_X3_64 [] [0, 1, 2, 3, 4, 5, 6, 7, 8, 9, 10, 11, 12, 13, 14, 15, 16, 17] [(x, .inr (3, [.ref ro, .ref kc, .ref mt, .ref cn, .ref h, .ref h2, .int z])), (ro, aJ K 10 gr), (kc, .inr (0, [.ref l0, .ref il, .ref ir, .ref np, .int mn])), (l0, aI K 120 fl), (il, aI K 120 fi), (ir, aI K 120 fr), (np, aI K 120 fn), (h, .inr (1, [.ref ca, .ref co, .int (nI u)])), (ca, aI K 120 fa), (co, aJ K 120 ga), (h2, .inr (1, [.ref ca2, .ref co2, .int t2])), (ca2, aI K 120 f2), (co2, aJ K 120 g2), (mt, .inr (2, [.ref fo, .ref ba, .ref wa, .int mm])), (fo, aI K 120 ffo), (ba, aI K 120 fba), (wa, aI K 120 fwa), (cn, aI K 120 fc)] rfl rfl (by decide) rfl (st := []) rfl (Nat.le_of_ble_eq_true rfl) (by decide) ⟨by decide, by decide⟩ dX3_append_2 (fun w9 h9 => by subst h9; exact (by show lm_obj K x _ _; rw [show lm_oAppend r f t (c, w, u, rt, z) = (1, (c, w, u, rt, z)) by unfold lm_oAppend; rw [hnr]; rfl]; exact ⟨_, _, _, _, _, _, _, _, _, _, _, _, _, _, _, _, _, _, _, _, _, _, _, _, _, _, _, _, _, _, _, _, _, hh, hro, rfl⟩))

set_option maxHeartbeats 4000000 in
set_option maxRecDepth 100000 in
theorem zX_append_2 (l : Launch) (K : lm_G) (x : Nat) (c : Nat → Nat) (w : Nat → lm_V) (u : Nat) (rt : Nat → lm_V) (z : Int32) (hst : lm_st c w u rt) (W : va_W) (hW : lm_obj K x (c, w, u, rt, z) W) (r f t : Int32) (hcd : (lm_oAppend r f t (c, w, u, rt, z)).1 = 2) : lm_CX l K mX3_append (rx 8) [.ref x, .int r, .int f, .int t] W eS (fun w9 => lm_obj K x (lm_oAppend r f t (c, w, u, rt, z)).2 w9) := by
  obtain ⟨ro, kc, l0, il, ir, np, h, ca, co, h2, ca2, co2, mt, fo, ba, wa, cn, gr, fl, fi, fr, fn, mn, fa, ga, f2, g2, t2, ffo, fba, fwa, mm, fc, hh, hro, rfl⟩ := hW
  have hh : lm_hf fa ga c w u := hh
  have hro : ∀ r, r < 10 → gr r = en (rt r) := hro
  have hw := hst.1
  have hr9 := hst.2
  have hu := hw.1
  refine lx_metX RX3 pn_X3 rfl (Nat.le_of_ble_eq_true rfl) (fun E hE F X => ?_)
  have F : lx_F K 6 E cX3_append RX3 none (rx 8) := F
  show lx_W K 6 E 0 0 0 [(0, .ref x), (1, .int r), (2, .int f), (3, .int t)] [] [(x, .inr (3, [.ref ro, .ref kc, .ref mt, .ref cn, .ref h, .ref h2, .int z])), (ro, aJ K 10 gr), (kc, .inr (0, [.ref l0, .ref il, .ref ir, .ref np, .int mn])), (l0, aI K 120 fl), (il, aI K 120 fi), (ir, aI K 120 fr), (np, aI K 120 fn), (h, .inr (1, [.ref ca, .ref co, .int (nI u)])), (ca, aI K 120 fa), (co, aJ K 120 ga), (h2, .inr (1, [.ref ca2, .ref co2, .int t2])), (ca2, aI K 120 f2), (co2, aJ K 120 g2), (mt, .inr (2, [.ref fo, .ref ba, .ref wa, .int mm])), (fo, aI K 120 ffo), (ba, aI K 120 fba), (wa, aI K 120 fwa), (cn, aI K 120 fc)]
  cases hnr : lm_none r
  · skip
    obtain ⟨k, hk, rfl⟩ := lm_none_f hnr
    cases hnf : lm_none f
    · skip
      obtain ⟨j, hj, rfl⟩ := lm_none_f hnf
      cases hnt : lm_none t
      · skip
        obtain ⟨i, hi, rfl⟩ := lm_none_f hnt
        by_cases hneg : lm_len c w 121 0 (rt j) < 0
        · skip
          refine lx_iload_n F dX3_append_0 1 rfl ?_
          refine lx_iload_n F dX3_append_1 2 rfl ?_
          refine lx_cs F (zX_cks (xl E) K k j hk hj) cs_X3_64 [] [0, 1, 2, 3, 4, 5, 6, 7, 8, 9, 10, 11, 12, 13, 14, 15, 16, 17] [(x, .inr (3, [.ref ro, .ref kc, .ref mt, .ref cn, .ref h, .ref h2, .int z])), (ro, aJ K 10 gr), (kc, .inr (0, [.ref l0, .ref il, .ref ir, .ref np, .int mn])), (l0, aI K 120 fl), (il, aI K 120 fi), (ir, aI K 120 fr), (np, aI K 120 fn), (h, .inr (1, [.ref ca, .ref co, .int (nI u)])), (ca, aI K 120 fa), (co, aJ K 120 ga), (h2, .inr (1, [.ref ca2, .ref co2, .int t2])), (ca2, aI K 120 f2), (co2, aJ K 120 g2), (mt, .inr (2, [.ref fo, .ref ba, .ref wa, .int mm])), (fo, aI K 120 ffo), (ba, aI K 120 fba), (wa, aI K 120 fwa), (cn, aI K 120 fc)] rfl rfl (by decide) rfl (st := []) rfl (Nat.le_of_ble_eq_true rfl) (by decide) ⟨by decide, by decide⟩ dX3_append_2 (fun v9 w9 h9 => ?_)
          obtain ⟨rfl, rfl⟩ := h9
          refine lx_perm [0, 1, 2, 3, 4, 5, 6, 7, 8, 9, 10, 11, 12, 13, 14, 15, 16, 17] [(x, .inr (3, [.ref ro, .ref kc, .ref mt, .ref cn, .ref h, .ref h2, .int z])), (ro, aJ K 10 gr), (kc, .inr (0, [.ref l0, .ref il, .ref ir, .ref np, .int mn])), (l0, aI K 120 fl), (il, aI K 120 fi), (ir, aI K 120 fr), (np, aI K 120 fn), (h, .inr (1, [.ref ca, .ref co, .int (nI u)])), (ca, aI K 120 fa), (co, aJ K 120 ga), (h2, .inr (1, [.ref ca2, .ref co2, .int t2])), (ca2, aI K 120 f2), (co2, aJ K 120 g2), (mt, .inr (2, [.ref fo, .ref ba, .ref wa, .int mm])), (fo, aI K 120 ffo), (ba, aI K 120 fba), (wa, aI K 120 fwa), (cn, aI K 120 fc)] (by decide) rfl ?_
          refine lx_st (a' := 0) (b' := 0) [] rfl rfl rfl ?_
          refine lx_iload_n F dX3_append_5 3 rfl ?_
          refine lx_cs F (zX_ck (xl E) K i hi) cs_X3_45 [] [0, 1, 2, 3, 4, 5, 6, 7, 8, 9, 10, 11, 12, 13, 14, 15, 16, 17] [(x, .inr (3, [.ref ro, .ref kc, .ref mt, .ref cn, .ref h, .ref h2, .int z])), (ro, aJ K 10 gr), (kc, .inr (0, [.ref l0, .ref il, .ref ir, .ref np, .int mn])), (l0, aI K 120 fl), (il, aI K 120 fi), (ir, aI K 120 fr), (np, aI K 120 fn), (h, .inr (1, [.ref ca, .ref co, .int (nI u)])), (ca, aI K 120 fa), (co, aJ K 120 ga), (h2, .inr (1, [.ref ca2, .ref co2, .int t2])), (ca2, aI K 120 f2), (co2, aJ K 120 g2), (mt, .inr (2, [.ref fo, .ref ba, .ref wa, .int mm])), (fo, aI K 120 ffo), (ba, aI K 120 fba), (wa, aI K 120 fwa), (cn, aI K 120 fc)] rfl rfl (by decide) rfl (st := []) rfl (Nat.le_of_ble_eq_true rfl) (by decide) ⟨by decide, by decide⟩ dX3_append_6 (fun v9 w9 h9 => ?_)
          obtain ⟨rfl, rfl⟩ := h9
          refine lx_perm [0, 1, 2, 3, 4, 5, 6, 7, 8, 9, 10, 11, 12, 13, 14, 15, 16, 17] [(x, .inr (3, [.ref ro, .ref kc, .ref mt, .ref cn, .ref h, .ref h2, .int z])), (ro, aJ K 10 gr), (kc, .inr (0, [.ref l0, .ref il, .ref ir, .ref np, .int mn])), (l0, aI K 120 fl), (il, aI K 120 fi), (ir, aI K 120 fr), (np, aI K 120 fn), (h, .inr (1, [.ref ca, .ref co, .int (nI u)])), (ca, aI K 120 fa), (co, aJ K 120 ga), (h2, .inr (1, [.ref ca2, .ref co2, .int t2])), (ca2, aI K 120 f2), (co2, aJ K 120 g2), (mt, .inr (2, [.ref fo, .ref ba, .ref wa, .int mm])), (fo, aI K 120 ffo), (ba, aI K 120 fba), (wa, aI K 120 fwa), (cn, aI K 120 fc)] (by decide) rfl ?_
          refine lx_st (a' := 0) (b' := 0) [] rfl rfl rfl ?_
          refine lx_aload_n F dX3_append_9 0 rfl ?_
          refine lx_aload_n F dX3_append_10 0 rfl ?_
          refine gf_X3_9 F 0 rfl rfl dX3_append_11 ?_
          refine lx_iload_n F dX3_append_14 2 rfl ?_
          refine lx_lald F 1 j dX3_append_15 rfl (by omega) (by decide) ?_
          rw [hro j hj]
          refine lx_cv F (zl_countPairs (xl E) K x ro kc mt cn h2 z h ca co fa ga (nI u) c w u hw hh (rt j) (hr9 j hj)) cv_X3_110 0 rfl rfl [0, 7, 8, 9] [1, 2, 3, 4, 5, 6, 10, 11, 12, 13, 14, 15, 16, 17] [(ro, aJ K 10 gr), (kc, .inr (0, [.ref l0, .ref il, .ref ir, .ref np, .int mn])), (l0, aI K 120 fl), (il, aI K 120 fi), (ir, aI K 120 fr), (np, aI K 120 fn), (h2, .inr (1, [.ref ca2, .ref co2, .int t2])), (ca2, aI K 120 f2), (co2, aJ K 120 g2), (mt, .inr (2, [.ref fo, .ref ba, .ref wa, .int mm])), (fo, aI K 120 ffo), (ba, aI K 120 fba), (wa, aI K 120 fwa), (cn, aI K 120 fc)] rfl rfl (by decide) rfl (st := []) rfl (Nat.le_of_ble_eq_true rfl) (by decide) ⟨by decide, by decide⟩ dX3_append_16 (fun v9 w9 h9 => ?_)
          obtain ⟨rfl, rfl⟩ := h9
          refine lx_perm [14, 0, 1, 2, 3, 4, 5, 15, 16, 17, 6, 7, 8, 9, 10, 11, 12, 13] [(x, .inr (3, [.ref ro, .ref kc, .ref mt, .ref cn, .ref h, .ref h2, .int z])), (ro, aJ K 10 gr), (kc, .inr (0, [.ref l0, .ref il, .ref ir, .ref np, .int mn])), (l0, aI K 120 fl), (il, aI K 120 fi), (ir, aI K 120 fr), (np, aI K 120 fn), (h, .inr (1, [.ref ca, .ref co, .int (nI u)])), (ca, aI K 120 fa), (co, aJ K 120 ga), (h2, .inr (1, [.ref ca2, .ref co2, .int t2])), (ca2, aI K 120 f2), (co2, aJ K 120 g2), (mt, .inr (2, [.ref fo, .ref ba, .ref wa, .int mm])), (fo, aI K 120 ffo), (ba, aI K 120 fba), (wa, aI K 120 fwa), (cn, aI K 120 fc)] (by decide) rfl ?_
          refine lx_st (a' := 0) (b' := 0) [.int (Int32.ofInt (lm_len c w 121 0 (rt j)))] rfl rfl rfl ?_
          refine lx_istore F [(0, .ref x), (1, .int (nI k)), (2, .int (nI j)), (3, .int (nI i)), (4, .int (Int32.ofInt (lm_len c w 121 0 (rt j))))] [1, 2, 3, 4, 0] dX3_append_19 rfl (by decide) ?_
          refine lx_iload F dX3_append_21 4 rfl ?_
          refine lx_if_ge F 36 dX3_append_23 rfl (fun h => absurd h (lm_len_neg hneg (lm_len_ge 121 0 (rt j)))) (fun _ => ?_)
          exact lx_throw F X (is := 115) (text := "not a list with an end") wt_113_117 rfl (by simp [lm_strs]) dX3_append_26 dX3_append_29 dX3_append_30 dX3_append_32 dX3_append_35 ⟨by decide, by decide, by decide, by decide⟩ (Nat.le_of_ble_eq_true rfl) (by show lm_obj K x _ _; rw [show lm_oAppend (nI k) (nI j) (nI i) (c, w, u, rt, z) = (2, (c, w, u, rt, z)) by unfold lm_oAppend; rw [lm_none_n hk, lm_none_n hj, lm_none_n hi, if_neg (by decide), lm_ix_n hj, if_pos hneg]]; exact ⟨_, _, _, _, _, _, _, _, _, _, _, _, _, _, _, _, _, _, _, _, _, _, _, _, _, _, _, _, _, _, _, _, _, hh, hro, rfl⟩)
        · skip
          obtain ⟨n, hlen, hn121, hisL0⟩ := lm_len_L 121 0 (rt j) hneg
          rw [Nat.zero_add] at hlen
          by_cases hn0 : n = 0
          · skip
            exact absurd hcd (by rw [show lm_oAppend (nI k) (nI j) (nI i) (c, w, u, rt, z) = (0, lm_set (c, w, u, rt, z) k (rt i)) by unfold lm_oAppend; rw [lm_none_n hk, lm_none_n hj, lm_none_n hi, if_neg (by decide), lm_ix_n hj, if_neg hneg, if_pos (show lm_len c w 121 0 (rt j) = 0 by rw [hlen, hn0]; rfl), lm_ix_n hk, lm_ix_n hi]]; simp)
          · skip
            by_cases hz : (rt i).1 = 0
            · skip
              have han : lm_an n (rt i) = n := by unfold lm_an; rw [if_pos hz]; exact Nat.add_zero n
              have hlen0 : ¬ lm_len c w 121 0 (rt j) = 0 := by rw [hlen]; omega
              have hltn : (lm_len c w 121 0 (rt j)).toNat = n := by rw [hlen]; simp
              have hk3 := lm_ok_kind (hr9 i hi)
              obtain ⟨c1, w1, u1, rt1, z1, hσ⟩ : ∃ c1 w1 u1 rt1 z1, lm_rm (n) (c, w, u, rt, z) = (c1, w1, u1, rt1, z1) := ⟨_, _, _, _, _, rfl⟩
              have hst1 : lm_st c1 w1 u1 rt1 := by have h9 : lm_sx (lm_rm (n) (c, w, u, rt, z)) := lm_sx_rm (n) hst; rw [hσ] at h9; exact h9
              have hw1 := hst1.1
              have hu1 := hw1.1
              by_cases hfit : u1 + (n) ≤ 120
              · skip
                obtain ⟨n8, hn8⟩ : ∃ n8, n = n8 + 1 := ⟨n - 1, by omega⟩
                have htot : (lm_apM c1 w1 n (rt1 j) (rt1 i)).length = n := by have h9 := lm_an_len (c := c1) (w := w1) n8 (rt1 j) (rt1 i); rw [← hn8] at h9; rw [h9]; unfold lm_an; rw [lm_rm_k2 (k := i) hσ]; exact han
                have hL1 := lm_isL_rm hst hσ hj hisL0
                exact absurd hcd (by rw [show lm_oAppend (nI k) (nI j) (nI i) (c, w, u, rt, z) = (0, lm_set (lm_ap (c1, w1, u1, rt1, z1) (lm_apM c1 w1 n (rt1 j) (rt1 i))) k (2, ((u1 : Nat) : Int))) by unfold lm_oAppend; rw [lm_none_n hk, lm_none_n hj, lm_none_n hi, if_neg (by decide), lm_ix_n hj, lm_ix_n hi, lm_ix_n hk, if_neg hneg, if_neg hlen0, hltn, han, hσ, if_pos hfit]]; simp)
              · skip
                exact absurd hcd (by rw [show lm_oAppend (nI k) (nI j) (nI i) (c, w, u, rt, z) = (3, (c1, w1, u1, rt1, z1)) by unfold lm_oAppend; rw [lm_none_n hk, lm_none_n hj, lm_none_n hi, if_neg (by decide), lm_ix_n hj, lm_ix_n hi, lm_ix_n hk, if_neg hneg, if_neg hlen0, hltn, han, hσ, if_neg hfit]]; simp)
            · skip
              have han : lm_an n (rt i) = n + 1 := by unfold lm_an; rw [if_neg hz]
              have hlen0 : ¬ lm_len c w 121 0 (rt j) = 0 := by rw [hlen]; omega
              have hltn : (lm_len c w 121 0 (rt j)).toNat = n := by rw [hlen]; simp
              have hk3 := lm_ok_kind (hr9 i hi)
              obtain ⟨c1, w1, u1, rt1, z1, hσ⟩ : ∃ c1 w1 u1 rt1 z1, lm_rm (n + 1) (c, w, u, rt, z) = (c1, w1, u1, rt1, z1) := ⟨_, _, _, _, _, rfl⟩
              have hst1 : lm_st c1 w1 u1 rt1 := by have h9 : lm_sx (lm_rm (n + 1) (c, w, u, rt, z)) := lm_sx_rm (n + 1) hst; rw [hσ] at h9; exact h9
              have hw1 := hst1.1
              have hu1 := hw1.1
              by_cases hfit : u1 + (n + 1) ≤ 120
              · skip
                obtain ⟨n8, hn8⟩ : ∃ n8, n = n8 + 1 := ⟨n - 1, by omega⟩
                have htot : (lm_apM c1 w1 n (rt1 j) (rt1 i)).length = n + 1 := by have h9 := lm_an_len (c := c1) (w := w1) n8 (rt1 j) (rt1 i); rw [← hn8] at h9; rw [h9]; unfold lm_an; rw [lm_rm_k2 (k := i) hσ]; exact han
                have hL1 := lm_isL_rm hst hσ hj hisL0
                exact absurd hcd (by rw [show lm_oAppend (nI k) (nI j) (nI i) (c, w, u, rt, z) = (0, lm_set (lm_ap (c1, w1, u1, rt1, z1) (lm_apM c1 w1 n (rt1 j) (rt1 i))) k (2, ((u1 : Nat) : Int))) by unfold lm_oAppend; rw [lm_none_n hk, lm_none_n hj, lm_none_n hi, if_neg (by decide), lm_ix_n hj, lm_ix_n hi, lm_ix_n hk, if_neg hneg, if_neg hlen0, hltn, han, hσ, if_pos hfit]]; simp)
              · skip
                exact absurd hcd (by rw [show lm_oAppend (nI k) (nI j) (nI i) (c, w, u, rt, z) = (3, (c1, w1, u1, rt1, z1)) by unfold lm_oAppend; rw [lm_none_n hk, lm_none_n hj, lm_none_n hi, if_neg (by decide), lm_ix_n hj, lm_ix_n hi, lm_ix_n hk, if_neg hneg, if_neg hlen0, hltn, han, hσ, if_neg hfit]]; simp)
      · skip
        exact absurd hcd (by rw [show lm_oAppend (nI k) (nI j) t (c, w, u, rt, z) = (1, (c, w, u, rt, z)) by unfold lm_oAppend; rw [lm_none_n hk, lm_none_n hj, hnt]; rfl]; simp)
    · skip
      exact absurd hcd (by rw [show lm_oAppend (nI k) f t (c, w, u, rt, z) = (1, (c, w, u, rt, z)) by unfold lm_oAppend; rw [lm_none_n hk, hnf]; rfl]; simp)
  · skip
    exact absurd hcd (by rw [show lm_oAppend r f t (c, w, u, rt, z) = (1, (c, w, u, rt, z)) by unfold lm_oAppend; rw [hnr]; rfl]; simp)

set_option maxHeartbeats 4000000 in
set_option maxRecDepth 100000 in
theorem zX_append_3 (l : Launch) (K : lm_G) (x : Nat) (c : Nat → Nat) (w : Nat → lm_V) (u : Nat) (rt : Nat → lm_V) (z : Int32) (hst : lm_st c w u rt) (W : va_W) (hW : lm_obj K x (c, w, u, rt, z) W) (r f t : Int32) (hcd : (lm_oAppend r f t (c, w, u, rt, z)).1 = 3) : lm_CX l K mX3_append (rx 8) [.ref x, .int r, .int f, .int t] W eU (fun w9 => lm_obj K x (lm_oAppend r f t (c, w, u, rt, z)).2 w9) := by
  obtain ⟨ro, kc, l0, il, ir, np, h, ca, co, h2, ca2, co2, mt, fo, ba, wa, cn, gr, fl, fi, fr, fn, mn, fa, ga, f2, g2, t2, ffo, fba, fwa, mm, fc, hh, hro, rfl⟩ := hW
  have hh : lm_hf fa ga c w u := hh
  have hro : ∀ r, r < 10 → gr r = en (rt r) := hro
  have hw := hst.1
  have hr9 := hst.2
  have hu := hw.1
  refine lx_metX RX3 pn_X3 rfl (Nat.le_of_ble_eq_true rfl) (fun E hE F X => ?_)
  have F : lx_F K 6 E cX3_append RX3 none (rx 8) := F
  show lx_W K 6 E 0 0 0 [(0, .ref x), (1, .int r), (2, .int f), (3, .int t)] [] [(x, .inr (3, [.ref ro, .ref kc, .ref mt, .ref cn, .ref h, .ref h2, .int z])), (ro, aJ K 10 gr), (kc, .inr (0, [.ref l0, .ref il, .ref ir, .ref np, .int mn])), (l0, aI K 120 fl), (il, aI K 120 fi), (ir, aI K 120 fr), (np, aI K 120 fn), (h, .inr (1, [.ref ca, .ref co, .int (nI u)])), (ca, aI K 120 fa), (co, aJ K 120 ga), (h2, .inr (1, [.ref ca2, .ref co2, .int t2])), (ca2, aI K 120 f2), (co2, aJ K 120 g2), (mt, .inr (2, [.ref fo, .ref ba, .ref wa, .int mm])), (fo, aI K 120 ffo), (ba, aI K 120 fba), (wa, aI K 120 fwa), (cn, aI K 120 fc)]
  cases hnr : lm_none r
  · skip
    obtain ⟨k, hk, rfl⟩ := lm_none_f hnr
    cases hnf : lm_none f
    · skip
      obtain ⟨j, hj, rfl⟩ := lm_none_f hnf
      cases hnt : lm_none t
      · skip
        obtain ⟨i, hi, rfl⟩ := lm_none_f hnt
        by_cases hneg : lm_len c w 121 0 (rt j) < 0
        · skip
          exact absurd hcd (by rw [show lm_oAppend (nI k) (nI j) (nI i) (c, w, u, rt, z) = (2, (c, w, u, rt, z)) by unfold lm_oAppend; rw [lm_none_n hk, lm_none_n hj, lm_none_n hi, if_neg (by decide), lm_ix_n hj, if_pos hneg]]; simp)
        · skip
          obtain ⟨n, hlen, hn121, hisL0⟩ := lm_len_L 121 0 (rt j) hneg
          rw [Nat.zero_add] at hlen
          by_cases hn0 : n = 0
          · skip
            exact absurd hcd (by rw [show lm_oAppend (nI k) (nI j) (nI i) (c, w, u, rt, z) = (0, lm_set (c, w, u, rt, z) k (rt i)) by unfold lm_oAppend; rw [lm_none_n hk, lm_none_n hj, lm_none_n hi, if_neg (by decide), lm_ix_n hj, if_neg hneg, if_pos (show lm_len c w 121 0 (rt j) = 0 by rw [hlen, hn0]; rfl), lm_ix_n hk, lm_ix_n hi]]; simp)
          · skip
            by_cases hz : (rt i).1 = 0
            · skip
              have han : lm_an n (rt i) = n := by unfold lm_an; rw [if_pos hz]; exact Nat.add_zero n
              have hlen0 : ¬ lm_len c w 121 0 (rt j) = 0 := by rw [hlen]; omega
              have hltn : (lm_len c w 121 0 (rt j)).toNat = n := by rw [hlen]; simp
              have hk3 := lm_ok_kind (hr9 i hi)
              obtain ⟨c1, w1, u1, rt1, z1, hσ⟩ : ∃ c1 w1 u1 rt1 z1, lm_rm (n) (c, w, u, rt, z) = (c1, w1, u1, rt1, z1) := ⟨_, _, _, _, _, rfl⟩
              have hst1 : lm_st c1 w1 u1 rt1 := by have h9 : lm_sx (lm_rm (n) (c, w, u, rt, z)) := lm_sx_rm (n) hst; rw [hσ] at h9; exact h9
              have hw1 := hst1.1
              have hu1 := hw1.1
              by_cases hfit : u1 + (n) ≤ 120
              · skip
                obtain ⟨n8, hn8⟩ : ∃ n8, n = n8 + 1 := ⟨n - 1, by omega⟩
                have htot : (lm_apM c1 w1 n (rt1 j) (rt1 i)).length = n := by have h9 := lm_an_len (c := c1) (w := w1) n8 (rt1 j) (rt1 i); rw [← hn8] at h9; rw [h9]; unfold lm_an; rw [lm_rm_k2 (k := i) hσ]; exact han
                have hL1 := lm_isL_rm hst hσ hj hisL0
                exact absurd hcd (by rw [show lm_oAppend (nI k) (nI j) (nI i) (c, w, u, rt, z) = (0, lm_set (lm_ap (c1, w1, u1, rt1, z1) (lm_apM c1 w1 n (rt1 j) (rt1 i))) k (2, ((u1 : Nat) : Int))) by unfold lm_oAppend; rw [lm_none_n hk, lm_none_n hj, lm_none_n hi, if_neg (by decide), lm_ix_n hj, lm_ix_n hi, lm_ix_n hk, if_neg hneg, if_neg hlen0, hltn, han, hσ, if_pos hfit]]; simp)
              · skip
                refine lx_iload_n F dX3_append_0 1 rfl ?_
                refine lx_iload_n F dX3_append_1 2 rfl ?_
                refine lx_cs F (zX_cks (xl E) K k j hk hj) cs_X3_64 [] [0, 1, 2, 3, 4, 5, 6, 7, 8, 9, 10, 11, 12, 13, 14, 15, 16, 17] [(x, .inr (3, [.ref ro, .ref kc, .ref mt, .ref cn, .ref h, .ref h2, .int z])), (ro, aJ K 10 gr), (kc, .inr (0, [.ref l0, .ref il, .ref ir, .ref np, .int mn])), (l0, aI K 120 fl), (il, aI K 120 fi), (ir, aI K 120 fr), (np, aI K 120 fn), (h, .inr (1, [.ref ca, .ref co, .int (nI u)])), (ca, aI K 120 fa), (co, aJ K 120 ga), (h2, .inr (1, [.ref ca2, .ref co2, .int t2])), (ca2, aI K 120 f2), (co2, aJ K 120 g2), (mt, .inr (2, [.ref fo, .ref ba, .ref wa, .int mm])), (fo, aI K 120 ffo), (ba, aI K 120 fba), (wa, aI K 120 fwa), (cn, aI K 120 fc)] rfl rfl (by decide) rfl (st := []) rfl (Nat.le_of_ble_eq_true rfl) (by decide) ⟨by decide, by decide⟩ dX3_append_2 (fun v9 w9 h9 => ?_)
                obtain ⟨rfl, rfl⟩ := h9
                refine lx_perm [0, 1, 2, 3, 4, 5, 6, 7, 8, 9, 10, 11, 12, 13, 14, 15, 16, 17] [(x, .inr (3, [.ref ro, .ref kc, .ref mt, .ref cn, .ref h, .ref h2, .int z])), (ro, aJ K 10 gr), (kc, .inr (0, [.ref l0, .ref il, .ref ir, .ref np, .int mn])), (l0, aI K 120 fl), (il, aI K 120 fi), (ir, aI K 120 fr), (np, aI K 120 fn), (h, .inr (1, [.ref ca, .ref co, .int (nI u)])), (ca, aI K 120 fa), (co, aJ K 120 ga), (h2, .inr (1, [.ref ca2, .ref co2, .int t2])), (ca2, aI K 120 f2), (co2, aJ K 120 g2), (mt, .inr (2, [.ref fo, .ref ba, .ref wa, .int mm])), (fo, aI K 120 ffo), (ba, aI K 120 fba), (wa, aI K 120 fwa), (cn, aI K 120 fc)] (by decide) rfl ?_
                refine lx_st (a' := 0) (b' := 0) [] rfl rfl rfl ?_
                refine lx_iload_n F dX3_append_5 3 rfl ?_
                refine lx_cs F (zX_ck (xl E) K i hi) cs_X3_45 [] [0, 1, 2, 3, 4, 5, 6, 7, 8, 9, 10, 11, 12, 13, 14, 15, 16, 17] [(x, .inr (3, [.ref ro, .ref kc, .ref mt, .ref cn, .ref h, .ref h2, .int z])), (ro, aJ K 10 gr), (kc, .inr (0, [.ref l0, .ref il, .ref ir, .ref np, .int mn])), (l0, aI K 120 fl), (il, aI K 120 fi), (ir, aI K 120 fr), (np, aI K 120 fn), (h, .inr (1, [.ref ca, .ref co, .int (nI u)])), (ca, aI K 120 fa), (co, aJ K 120 ga), (h2, .inr (1, [.ref ca2, .ref co2, .int t2])), (ca2, aI K 120 f2), (co2, aJ K 120 g2), (mt, .inr (2, [.ref fo, .ref ba, .ref wa, .int mm])), (fo, aI K 120 ffo), (ba, aI K 120 fba), (wa, aI K 120 fwa), (cn, aI K 120 fc)] rfl rfl (by decide) rfl (st := []) rfl (Nat.le_of_ble_eq_true rfl) (by decide) ⟨by decide, by decide⟩ dX3_append_6 (fun v9 w9 h9 => ?_)
                obtain ⟨rfl, rfl⟩ := h9
                refine lx_perm [0, 1, 2, 3, 4, 5, 6, 7, 8, 9, 10, 11, 12, 13, 14, 15, 16, 17] [(x, .inr (3, [.ref ro, .ref kc, .ref mt, .ref cn, .ref h, .ref h2, .int z])), (ro, aJ K 10 gr), (kc, .inr (0, [.ref l0, .ref il, .ref ir, .ref np, .int mn])), (l0, aI K 120 fl), (il, aI K 120 fi), (ir, aI K 120 fr), (np, aI K 120 fn), (h, .inr (1, [.ref ca, .ref co, .int (nI u)])), (ca, aI K 120 fa), (co, aJ K 120 ga), (h2, .inr (1, [.ref ca2, .ref co2, .int t2])), (ca2, aI K 120 f2), (co2, aJ K 120 g2), (mt, .inr (2, [.ref fo, .ref ba, .ref wa, .int mm])), (fo, aI K 120 ffo), (ba, aI K 120 fba), (wa, aI K 120 fwa), (cn, aI K 120 fc)] (by decide) rfl ?_
                refine lx_st (a' := 0) (b' := 0) [] rfl rfl rfl ?_
                refine lx_aload_n F dX3_append_9 0 rfl ?_
                refine lx_aload_n F dX3_append_10 0 rfl ?_
                refine gf_X3_9 F 0 rfl rfl dX3_append_11 ?_
                refine lx_iload_n F dX3_append_14 2 rfl ?_
                refine lx_lald F 1 j dX3_append_15 rfl (by omega) (by decide) ?_
                rw [hro j hj]
                refine lx_cv F (zl_countPairs (xl E) K x ro kc mt cn h2 z h ca co fa ga (nI u) c w u hw hh (rt j) (hr9 j hj)) cv_X3_110 0 rfl rfl [0, 7, 8, 9] [1, 2, 3, 4, 5, 6, 10, 11, 12, 13, 14, 15, 16, 17] [(ro, aJ K 10 gr), (kc, .inr (0, [.ref l0, .ref il, .ref ir, .ref np, .int mn])), (l0, aI K 120 fl), (il, aI K 120 fi), (ir, aI K 120 fr), (np, aI K 120 fn), (h2, .inr (1, [.ref ca2, .ref co2, .int t2])), (ca2, aI K 120 f2), (co2, aJ K 120 g2), (mt, .inr (2, [.ref fo, .ref ba, .ref wa, .int mm])), (fo, aI K 120 ffo), (ba, aI K 120 fba), (wa, aI K 120 fwa), (cn, aI K 120 fc)] rfl rfl (by decide) rfl (st := []) rfl (Nat.le_of_ble_eq_true rfl) (by decide) ⟨by decide, by decide⟩ dX3_append_16 (fun v9 w9 h9 => ?_)
                obtain ⟨rfl, rfl⟩ := h9
                refine lx_perm [14, 0, 1, 2, 3, 4, 5, 15, 16, 17, 6, 7, 8, 9, 10, 11, 12, 13] [(x, .inr (3, [.ref ro, .ref kc, .ref mt, .ref cn, .ref h, .ref h2, .int z])), (ro, aJ K 10 gr), (kc, .inr (0, [.ref l0, .ref il, .ref ir, .ref np, .int mn])), (l0, aI K 120 fl), (il, aI K 120 fi), (ir, aI K 120 fr), (np, aI K 120 fn), (h, .inr (1, [.ref ca, .ref co, .int (nI u)])), (ca, aI K 120 fa), (co, aJ K 120 ga), (h2, .inr (1, [.ref ca2, .ref co2, .int t2])), (ca2, aI K 120 f2), (co2, aJ K 120 g2), (mt, .inr (2, [.ref fo, .ref ba, .ref wa, .int mm])), (fo, aI K 120 ffo), (ba, aI K 120 fba), (wa, aI K 120 fwa), (cn, aI K 120 fc)] (by decide) rfl ?_
                refine lx_st (a' := 0) (b' := 0) [.int (Int32.ofInt (lm_len c w 121 0 (rt j)))] rfl rfl rfl ?_
                rw [show Int32.ofInt (lm_len c w 121 0 (rt j)) = nI n by rw [hlen]; rfl]
                refine lx_istore F [(0, .ref x), (1, .int (nI k)), (2, .int (nI j)), (3, .int (nI i)), (4, .int (nI n))] [1, 2, 3, 4, 0] dX3_append_19 rfl (by decide) ?_
                refine lx_iload F dX3_append_21 4 rfl ?_
                refine lx_ifN_ge F 36 (by omega) dX3_append_23 rfl (fun _ => ?_) (fun h => absurd h (by omega))
                refine lx_iload F dX3_append_36 4 rfl ?_
                refine lx_ifN_ne F 54 (by omega) dX3_append_38 rfl (fun _ => ?_) (fun h => absurd h (by omega))
                refine lx_aload_n F dX3_append_54 0 rfl ?_
                refine lx_aload_n F dX3_append_55 0 rfl ?_
                refine gf_X3_9 F 0 rfl rfl dX3_append_56 ?_
                refine lx_iload_n F dX3_append_59 3 rfl ?_
                refine lx_lald F 1 i dX3_append_60 rfl (by omega) (by decide) ?_
                rw [hro i hi]
                refine lx_cs F (zs_kindOf (xl E) K (rt i) (by omega)) cs_X3_118 [] [0, 1, 2, 3, 4, 5, 6, 7, 8, 9, 10, 11, 12, 13, 14, 15, 16, 17] [(x, .inr (3, [.ref ro, .ref kc, .ref mt, .ref cn, .ref h, .ref h2, .int z])), (ro, aJ K 10 gr), (kc, .inr (0, [.ref l0, .ref il, .ref ir, .ref np, .int mn])), (l0, aI K 120 fl), (il, aI K 120 fi), (ir, aI K 120 fr), (np, aI K 120 fn), (h, .inr (1, [.ref ca, .ref co, .int (nI u)])), (ca, aI K 120 fa), (co, aJ K 120 ga), (h2, .inr (1, [.ref ca2, .ref co2, .int t2])), (ca2, aI K 120 f2), (co2, aJ K 120 g2), (mt, .inr (2, [.ref fo, .ref ba, .ref wa, .int mm])), (fo, aI K 120 ffo), (ba, aI K 120 fba), (wa, aI K 120 fwa), (cn, aI K 120 fc)] rfl rfl (by decide) rfl (st := [.ref x]) rfl (Nat.le_of_ble_eq_true rfl) (by decide) ⟨by decide, by decide⟩ dX3_append_61 (fun v9 w9 h9 => ?_)
                obtain ⟨rfl, rfl⟩ := h9
                refine lx_perm [0, 1, 2, 3, 4, 5, 6, 7, 8, 9, 10, 11, 12, 13, 14, 15, 16, 17] [(x, .inr (3, [.ref ro, .ref kc, .ref mt, .ref cn, .ref h, .ref h2, .int z])), (ro, aJ K 10 gr), (kc, .inr (0, [.ref l0, .ref il, .ref ir, .ref np, .int mn])), (l0, aI K 120 fl), (il, aI K 120 fi), (ir, aI K 120 fr), (np, aI K 120 fn), (h, .inr (1, [.ref ca, .ref co, .int (nI u)])), (ca, aI K 120 fa), (co, aJ K 120 ga), (h2, .inr (1, [.ref ca2, .ref co2, .int t2])), (ca2, aI K 120 f2), (co2, aJ K 120 g2), (mt, .inr (2, [.ref fo, .ref ba, .ref wa, .int mm])), (fo, aI K 120 ffo), (ba, aI K 120 fba), (wa, aI K 120 fwa), (cn, aI K 120 fc)] (by decide) rfl ?_
                refine lx_st (a' := 0) (b' := 0) [.int (nI ((rt i).1)), .ref x] rfl rfl rfl ?_
                refine lx_ifN_ne F 72 (by omega) dX3_append_64 rfl (fun h => absurd h (by omega)) (fun _ => ?_)
                refine lx_iload F dX3_append_67 4 rfl ?_
                refine lx_goto F 76 dX3_append_69 rfl ?_
                exact lx_cvX F X (zX_roomx (xl E) K x c w u rt z hst _ ⟨_, _, _, _, _, _, _, _, _, _, _, _, _, _, _, _, _, _, _, _, _, _, _, _, _, _, _, _, _, _, _, _, _, hh, hro, rfl⟩ (n) (by omega) (c1, w1, u1, rt1, z1) hσ hfit) cv_X3_68 0 rfl rfl [0, 1, 2, 3, 4, 5, 6, 7, 8, 9, 10, 11, 12, 13, 14, 15, 16, 17] [] [] rfl rfl (by decide) rfl (st := []) rfl (Nat.le_of_ble_eq_true rfl) (by decide) ⟨by decide, by decide⟩ dX3_append_76 (fun w9 h9 => by show lm_obj K x _ _; rw [show lm_oAppend (nI k) (nI j) (nI i) (c, w, u, rt, z) = (3, (c1, w1, u1, rt1, z1)) by unfold lm_oAppend; rw [lm_none_n hk, lm_none_n hj, lm_none_n hi, if_neg (by decide), lm_ix_n hj, lm_ix_n hi, lm_ix_n hk, if_neg hneg, if_neg hlen0, hltn, han, hσ, if_neg hfit]]; exact h9)
            · skip
              have han : lm_an n (rt i) = n + 1 := by unfold lm_an; rw [if_neg hz]
              have hlen0 : ¬ lm_len c w 121 0 (rt j) = 0 := by rw [hlen]; omega
              have hltn : (lm_len c w 121 0 (rt j)).toNat = n := by rw [hlen]; simp
              have hk3 := lm_ok_kind (hr9 i hi)
              obtain ⟨c1, w1, u1, rt1, z1, hσ⟩ : ∃ c1 w1 u1 rt1 z1, lm_rm (n + 1) (c, w, u, rt, z) = (c1, w1, u1, rt1, z1) := ⟨_, _, _, _, _, rfl⟩
              have hst1 : lm_st c1 w1 u1 rt1 := by have h9 : lm_sx (lm_rm (n + 1) (c, w, u, rt, z)) := lm_sx_rm (n + 1) hst; rw [hσ] at h9; exact h9
              have hw1 := hst1.1
              have hu1 := hw1.1
              by_cases hfit : u1 + (n + 1) ≤ 120
              · skip
                obtain ⟨n8, hn8⟩ : ∃ n8, n = n8 + 1 := ⟨n - 1, by omega⟩
                have htot : (lm_apM c1 w1 n (rt1 j) (rt1 i)).length = n + 1 := by have h9 := lm_an_len (c := c1) (w := w1) n8 (rt1 j) (rt1 i); rw [← hn8] at h9; rw [h9]; unfold lm_an; rw [lm_rm_k2 (k := i) hσ]; exact han
                have hL1 := lm_isL_rm hst hσ hj hisL0
                exact absurd hcd (by rw [show lm_oAppend (nI k) (nI j) (nI i) (c, w, u, rt, z) = (0, lm_set (lm_ap (c1, w1, u1, rt1, z1) (lm_apM c1 w1 n (rt1 j) (rt1 i))) k (2, ((u1 : Nat) : Int))) by unfold lm_oAppend; rw [lm_none_n hk, lm_none_n hj, lm_none_n hi, if_neg (by decide), lm_ix_n hj, lm_ix_n hi, lm_ix_n hk, if_neg hneg, if_neg hlen0, hltn, han, hσ, if_pos hfit]]; simp)
              · skip
                refine lx_iload_n F dX3_append_0 1 rfl ?_
                refine lx_iload_n F dX3_append_1 2 rfl ?_
                refine lx_cs F (zX_cks (xl E) K k j hk hj) cs_X3_64 [] [0, 1, 2, 3, 4, 5, 6, 7, 8, 9, 10, 11, 12, 13, 14, 15, 16, 17] [(x, .inr (3, [.ref ro, .ref kc, .ref mt, .ref cn, .ref h, .ref h2, .int z])), (ro, aJ K 10 gr), (kc, .inr (0, [.ref l0, .ref il, .ref ir, .ref np, .int mn])), (l0, aI K 120 fl), (il, aI K 120 fi), (ir, aI K 120 fr), (np, aI K 120 fn), (h, .inr (1, [.ref ca, .ref co, .int (nI u)])), (ca, aI K 120 fa), (co, aJ K 120 ga), (h2, .inr (1, [.ref ca2, .ref co2, .int t2])), (ca2, aI K 120 f2), (co2, aJ K 120 g2), (mt, .inr (2, [.ref fo, .ref ba, .ref wa, .int mm])), (fo, aI K 120 ffo), (ba, aI K 120 fba), (wa, aI K 120 fwa), (cn, aI K 120 fc)] rfl rfl (by decide) rfl (st := []) rfl (Nat.le_of_ble_eq_true rfl) (by decide) ⟨by decide, by decide⟩ dX3_append_2 (fun v9 w9 h9 => ?_)
                obtain ⟨rfl, rfl⟩ := h9
                refine lx_perm [0, 1, 2, 3, 4, 5, 6, 7, 8, 9, 10, 11, 12, 13, 14, 15, 16, 17] [(x, .inr (3, [.ref ro, .ref kc, .ref mt, .ref cn, .ref h, .ref h2, .int z])), (ro, aJ K 10 gr), (kc, .inr (0, [.ref l0, .ref il, .ref ir, .ref np, .int mn])), (l0, aI K 120 fl), (il, aI K 120 fi), (ir, aI K 120 fr), (np, aI K 120 fn), (h, .inr (1, [.ref ca, .ref co, .int (nI u)])), (ca, aI K 120 fa), (co, aJ K 120 ga), (h2, .inr (1, [.ref ca2, .ref co2, .int t2])), (ca2, aI K 120 f2), (co2, aJ K 120 g2), (mt, .inr (2, [.ref fo, .ref ba, .ref wa, .int mm])), (fo, aI K 120 ffo), (ba, aI K 120 fba), (wa, aI K 120 fwa), (cn, aI K 120 fc)] (by decide) rfl ?_
                refine lx_st (a' := 0) (b' := 0) [] rfl rfl rfl ?_
                refine lx_iload_n F dX3_append_5 3 rfl ?_
                refine lx_cs F (zX_ck (xl E) K i hi) cs_X3_45 [] [0, 1, 2, 3, 4, 5, 6, 7, 8, 9, 10, 11, 12, 13, 14, 15, 16, 17] [(x, .inr (3, [.ref ro, .ref kc, .ref mt, .ref cn, .ref h, .ref h2, .int z])), (ro, aJ K 10 gr), (kc, .inr (0, [.ref l0, .ref il, .ref ir, .ref np, .int mn])), (l0, aI K 120 fl), (il, aI K 120 fi), (ir, aI K 120 fr), (np, aI K 120 fn), (h, .inr (1, [.ref ca, .ref co, .int (nI u)])), (ca, aI K 120 fa), (co, aJ K 120 ga), (h2, .inr (1, [.ref ca2, .ref co2, .int t2])), (ca2, aI K 120 f2), (co2, aJ K 120 g2), (mt, .inr (2, [.ref fo, .ref ba, .ref wa, .int mm])), (fo, aI K 120 ffo), (ba, aI K 120 fba), (wa, aI K 120 fwa), (cn, aI K 120 fc)] rfl rfl (by decide) rfl (st := []) rfl (Nat.le_of_ble_eq_true rfl) (by decide) ⟨by decide, by decide⟩ dX3_append_6 (fun v9 w9 h9 => ?_)
                obtain ⟨rfl, rfl⟩ := h9
                refine lx_perm [0, 1, 2, 3, 4, 5, 6, 7, 8, 9, 10, 11, 12, 13, 14, 15, 16, 17] [(x, .inr (3, [.ref ro, .ref kc, .ref mt, .ref cn, .ref h, .ref h2, .int z])), (ro, aJ K 10 gr), (kc, .inr (0, [.ref l0, .ref il, .ref ir, .ref np, .int mn])), (l0, aI K 120 fl), (il, aI K 120 fi), (ir, aI K 120 fr), (np, aI K 120 fn), (h, .inr (1, [.ref ca, .ref co, .int (nI u)])), (ca, aI K 120 fa), (co, aJ K 120 ga), (h2, .inr (1, [.ref ca2, .ref co2, .int t2])), (ca2, aI K 120 f2), (co2, aJ K 120 g2), (mt, .inr (2, [.ref fo, .ref ba, .ref wa, .int mm])), (fo, aI K 120 ffo), (ba, aI K 120 fba), (wa, aI K 120 fwa), (cn, aI K 120 fc)] (by decide) rfl ?_
                refine lx_st (a' := 0) (b' := 0) [] rfl rfl rfl ?_
                refine lx_aload_n F dX3_append_9 0 rfl ?_
                refine lx_aload_n F dX3_append_10 0 rfl ?_
                refine gf_X3_9 F 0 rfl rfl dX3_append_11 ?_
                refine lx_iload_n F dX3_append_14 2 rfl ?_
                refine lx_lald F 1 j dX3_append_15 rfl (by omega) (by decide) ?_
                rw [hro j hj]
                refine lx_cv F (zl_countPairs (xl E) K x ro kc mt cn h2 z h ca co fa ga (nI u) c w u hw hh (rt j) (hr9 j hj)) cv_X3_110 0 rfl rfl [0, 7, 8, 9] [1, 2, 3, 4, 5, 6, 10, 11, 12, 13, 14, 15, 16, 17] [(ro, aJ K 10 gr), (kc, .inr (0, [.ref l0, .ref il, .ref ir, .ref np, .int mn])), (l0, aI K 120 fl), (il, aI K 120 fi), (ir, aI K 120 fr), (np, aI K 120 fn), (h2, .inr (1, [.ref ca2, .ref co2, .int t2])), (ca2, aI K 120 f2), (co2, aJ K 120 g2), (mt, .inr (2, [.ref fo, .ref ba, .ref wa, .int mm])), (fo, aI K 120 ffo), (ba, aI K 120 fba), (wa, aI K 120 fwa), (cn, aI K 120 fc)] rfl rfl (by decide) rfl (st := []) rfl (Nat.le_of_ble_eq_true rfl) (by decide) ⟨by decide, by decide⟩ dX3_append_16 (fun v9 w9 h9 => ?_)
                obtain ⟨rfl, rfl⟩ := h9
                refine lx_perm [14, 0, 1, 2, 3, 4, 5, 15, 16, 17, 6, 7, 8, 9, 10, 11, 12, 13] [(x, .inr (3, [.ref ro, .ref kc, .ref mt, .ref cn, .ref h, .ref h2, .int z])), (ro, aJ K 10 gr), (kc, .inr (0, [.ref l0, .ref il, .ref ir, .ref np, .int mn])), (l0, aI K 120 fl), (il, aI K 120 fi), (ir, aI K 120 fr), (np, aI K 120 fn), (h, .inr (1, [.ref ca, .ref co, .int (nI u)])), (ca, aI K 120 fa), (co, aJ K 120 ga), (h2, .inr (1, [.ref ca2, .ref co2, .int t2])), (ca2, aI K 120 f2), (co2, aJ K 120 g2), (mt, .inr (2, [.ref fo, .ref ba, .ref wa, .int mm])), (fo, aI K 120 ffo), (ba, aI K 120 fba), (wa, aI K 120 fwa), (cn, aI K 120 fc)] (by decide) rfl ?_
                refine lx_st (a' := 0) (b' := 0) [.int (Int32.ofInt (lm_len c w 121 0 (rt j)))] rfl rfl rfl ?_
                rw [show Int32.ofInt (lm_len c w 121 0 (rt j)) = nI n by rw [hlen]; rfl]
                refine lx_istore F [(0, .ref x), (1, .int (nI k)), (2, .int (nI j)), (3, .int (nI i)), (4, .int (nI n))] [1, 2, 3, 4, 0] dX3_append_19 rfl (by decide) ?_
                refine lx_iload F dX3_append_21 4 rfl ?_
                refine lx_ifN_ge F 36 (by omega) dX3_append_23 rfl (fun _ => ?_) (fun h => absurd h (by omega))
                refine lx_iload F dX3_append_36 4 rfl ?_
                refine lx_ifN_ne F 54 (by omega) dX3_append_38 rfl (fun _ => ?_) (fun h => absurd h (by omega))
                refine lx_aload_n F dX3_append_54 0 rfl ?_
                refine lx_aload_n F dX3_append_55 0 rfl ?_
                refine gf_X3_9 F 0 rfl rfl dX3_append_56 ?_
                refine lx_iload_n F dX3_append_59 3 rfl ?_
                refine lx_lald F 1 i dX3_append_60 rfl (by omega) (by decide) ?_
                rw [hro i hi]
                refine lx_cs F (zs_kindOf (xl E) K (rt i) (by omega)) cs_X3_118 [] [0, 1, 2, 3, 4, 5, 6, 7, 8, 9, 10, 11, 12, 13, 14, 15, 16, 17] [(x, .inr (3, [.ref ro, .ref kc, .ref mt, .ref cn, .ref h, .ref h2, .int z])), (ro, aJ K 10 gr), (kc, .inr (0, [.ref l0, .ref il, .ref ir, .ref np, .int mn])), (l0, aI K 120 fl), (il, aI K 120 fi), (ir, aI K 120 fr), (np, aI K 120 fn), (h, .inr (1, [.ref ca, .ref co, .int (nI u)])), (ca, aI K 120 fa), (co, aJ K 120 ga), (h2, .inr (1, [.ref ca2, .ref co2, .int t2])), (ca2, aI K 120 f2), (co2, aJ K 120 g2), (mt, .inr (2, [.ref fo, .ref ba, .ref wa, .int mm])), (fo, aI K 120 ffo), (ba, aI K 120 fba), (wa, aI K 120 fwa), (cn, aI K 120 fc)] rfl rfl (by decide) rfl (st := [.ref x]) rfl (Nat.le_of_ble_eq_true rfl) (by decide) ⟨by decide, by decide⟩ dX3_append_61 (fun v9 w9 h9 => ?_)
                obtain ⟨rfl, rfl⟩ := h9
                refine lx_perm [0, 1, 2, 3, 4, 5, 6, 7, 8, 9, 10, 11, 12, 13, 14, 15, 16, 17] [(x, .inr (3, [.ref ro, .ref kc, .ref mt, .ref cn, .ref h, .ref h2, .int z])), (ro, aJ K 10 gr), (kc, .inr (0, [.ref l0, .ref il, .ref ir, .ref np, .int mn])), (l0, aI K 120 fl), (il, aI K 120 fi), (ir, aI K 120 fr), (np, aI K 120 fn), (h, .inr (1, [.ref ca, .ref co, .int (nI u)])), (ca, aI K 120 fa), (co, aJ K 120 ga), (h2, .inr (1, [.ref ca2, .ref co2, .int t2])), (ca2, aI K 120 f2), (co2, aJ K 120 g2), (mt, .inr (2, [.ref fo, .ref ba, .ref wa, .int mm])), (fo, aI K 120 ffo), (ba, aI K 120 fba), (wa, aI K 120 fwa), (cn, aI K 120 fc)] (by decide) rfl ?_
                refine lx_st (a' := 0) (b' := 0) [.int (nI ((rt i).1)), .ref x] rfl rfl rfl ?_
                refine lx_ifN_ne F 72 (by omega) dX3_append_64 rfl (fun _ => ?_) (fun h => absurd h (by omega))
                refine lx_iload F dX3_append_72 4 rfl ?_
                refine lx_iconst F dX3_append_74 kc_1 ?_
                refine lx_iadd F dX3_append_75 (nI_add _ _) ?_
                exact lx_cvX F X (zX_roomx (xl E) K x c w u rt z hst _ ⟨_, _, _, _, _, _, _, _, _, _, _, _, _, _, _, _, _, _, _, _, _, _, _, _, _, _, _, _, _, _, _, _, _, hh, hro, rfl⟩ (n + 1) (by omega) (c1, w1, u1, rt1, z1) hσ hfit) cv_X3_68 0 rfl rfl [0, 1, 2, 3, 4, 5, 6, 7, 8, 9, 10, 11, 12, 13, 14, 15, 16, 17] [] [] rfl rfl (by decide) rfl (st := []) rfl (Nat.le_of_ble_eq_true rfl) (by decide) ⟨by decide, by decide⟩ dX3_append_76 (fun w9 h9 => by show lm_obj K x _ _; rw [show lm_oAppend (nI k) (nI j) (nI i) (c, w, u, rt, z) = (3, (c1, w1, u1, rt1, z1)) by unfold lm_oAppend; rw [lm_none_n hk, lm_none_n hj, lm_none_n hi, if_neg (by decide), lm_ix_n hj, lm_ix_n hi, lm_ix_n hk, if_neg hneg, if_neg hlen0, hltn, han, hσ, if_neg hfit]]; exact h9)
      · skip
        exact absurd hcd (by rw [show lm_oAppend (nI k) (nI j) t (c, w, u, rt, z) = (1, (c, w, u, rt, z)) by unfold lm_oAppend; rw [lm_none_n hk, lm_none_n hj, hnt]; rfl]; simp)
    · skip
      exact absurd hcd (by rw [show lm_oAppend (nI k) f t (c, w, u, rt, z) = (1, (c, w, u, rt, z)) by unfold lm_oAppend; rw [lm_none_n hk, hnf]; rfl]; simp)
  · skip
    exact absurd hcd (by rw [show lm_oAppend r f t (c, w, u, rt, z) = (1, (c, w, u, rt, z)) by unfold lm_oAppend; rw [hnr]; rfl]; simp)
