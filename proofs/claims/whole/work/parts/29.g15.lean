theorem wt_53_57 : lx_wT RX3 53 57 eA := ⟨List.mem_filter.mpr ⟨by decide +kernel, by decide +kernel⟩, List.mem_filter.mpr ⟨by decide +kernel, by decide +kernel⟩, by decide +kernel, by decide +kernel, by decide +kernel⟩
theorem wt_113_117 : lx_wT RX3 113 117 eS := ⟨List.mem_filter.mpr ⟨by decide +kernel, by decide +kernel⟩, List.mem_filter.mpr ⟨by decide +kernel, by decide +kernel⟩, by decide +kernel, by decide +kernel, by decide +kernel⟩
theorem wt_149_153 : lx_wT RX3 149 153 eB := ⟨List.mem_filter.mpr ⟨by decide +kernel, by decide +kernel⟩, List.mem_filter.mpr ⟨by decide +kernel, by decide +kernel⟩, by decide +kernel, by decide +kernel, by decide +kernel⟩
theorem wt_160_164 : lx_wN RX3 160 164 eN 13 prog_16_method_4_code := ⟨List.mem_filter.mpr ⟨by decide +kernel, by decide +kernel⟩, List.mem_filter.mpr ⟨by decide +kernel, by decide +kernel⟩, by decide +kernel, by decide +kernel, by decide +kernel, by decide +kernel, by decide +kernel, by decide +kernel, by decide +kernel⟩
theorem wt_170_174 : lx_wT RX3 170 174 eU := ⟨List.mem_filter.mpr ⟨by decide +kernel, by decide +kernel⟩, List.mem_filter.mpr ⟨by decide +kernel, by decide +kernel⟩, by decide +kernel, by decide +kernel, by decide +kernel⟩
theorem lm_none_x {r : Int32} (h : lm_none r = true) (h0 : ¬ r < 0) : ¬ r < nI 10 := by
  unfold lm_none at h
  have h := of_decide_eq_true h
  rw [Int32.lt_iff_toInt_lt, Int32.toInt_zero] at h0
  rw [Int32.lt_iff_toInt_lt, nI_toInt (by omega)]
  omega
theorem lm_rc_0 {gr : Nat → Int64} {rt : Nat → lm_V} {k : Nat} (h : ∀ r, r < 10 → gr r = en (rt r)) : ∀ r, r < 10 → lm_up gr k (jI 0) r = en (lm_up rt k (0, 0) r) := lm_rc_up (v := (0, 0)) h
theorem lm_rc_1 {gr : Nat → Int64} {rt : Nat → lm_V} {k : Nat} {x : Int64} (h : ∀ r, r < 10 → gr r = en (rt r)) : ∀ r, r < 10 → lm_up gr k (en (1, x.toInt)) r = en (lm_up rt k (1, x.toInt) r) := lm_rc_up (v := (1, x.toInt)) h

/-- the class's object x holds the state σ -/
def lm_obj (K : lm_G) (x : Nat) (σ : lm_X) (W : va_W) : Prop := ∃ (ro kc l0 il ir np h ca co h2 ca2 co2 mt fo ba wa cn : Nat) (gr : Nat → Int64) (fl : Nat → Int32) (fi : Nat → Int32) (fr : Nat → Int32) (fn : Nat → Int32) (mn : Int32) (fa : Nat → Int32) (ga : Nat → Int64) (f2 : Nat → Int32) (g2 : Nat → Int64) (t2 : Int32) (ffo : Nat → Int32) (fba : Nat → Int32) (fwa : Nat → Int32) (mm : Int32) (fc : Nat → Int32), lm_hf fa ga σ.1 σ.2.1 σ.2.2.1 ∧ (∀ r, r < 10 → gr r = en (σ.2.2.2.1 r)) ∧ W = [(x, .inr (3, [.ref ro, .ref kc, .ref mt, .ref cn, .ref h, .ref h2, .int σ.2.2.2.2])), (ro, aJ K 10 gr), (kc, .inr (0, [.ref l0, .ref il, .ref ir, .ref np, .int mn])), (l0, aI K 120 fl), (il, aI K 120 fi), (ir, aI K 120 fr), (np, aI K 120 fn), (h, .inr (1, [.ref ca, .ref co, .int (nI σ.2.2.1)])), (ca, aI K 120 fa), (co, aJ K 120 ga), (h2, .inr (1, [.ref ca2, .ref co2, .int t2])), (ca2, aI K 120 f2), (co2, aJ K 120 g2), (mt, .inr (2, [.ref fo, .ref ba, .ref wa, .int mm])), (fo, aI K 120 ffo), (ba, aI K 120 fba), (wa, aI K 120 fwa), (cn, aI K 120 fc)]

set_option maxHeartbeats 4000000 in
set_option maxRecDepth 100000 in
theorem zX_ck (l : Launch) (K : lm_G) (k : Nat) (hk : k < 10) : lm_C l K mX3_checkRoot (rk 0) [.int (nI k)] [] (fun v9 w9 => v9 = none ∧ w9 = []) := by
  refine lx_met RX3 pn_X3 rfl (Nat.le_of_ble_eq_true rfl) (fun E hE hnm F hR => ?_)
  have F : lx_F K 1 E cX3_checkRoot RX3 none (rk 0) := F
  show lx_W K 1 E 0 0 0 [(0, .int (nI k))] [] []
  refine lx_iload_n F dX3_checkRoot_0 0 rfl ?_
  refine lx_ifN_lt F 10 (by omega) dX3_checkRoot_1 rfl (fun h => absurd h (by omega)) (fun _ => ?_)
  refine lx_iload_n F dX3_checkRoot_4 0 rfl ?_
  refine lx_bipush F dX3_checkRoot_5 kb_10 ?_
  refine lx_icmpN_lt F 20 (by omega) (by omega) dX3_checkRoot_7 rfl (fun _ => ?_) (fun h => absurd h (by omega))
  exact lx_vret F hR dX3_checkRoot_20 ⟨rfl, rfl⟩

set_option maxHeartbeats 4000000 in
set_option maxRecDepth 100000 in
theorem zX_ckx (l : Launch) (K : lm_G) (r : Int32) (hn : lm_none r = true) : lm_CX l K mX3_checkRoot (rx 6) [.int r] [] eN (fun w9 => w9 = []) := by
  refine lx_metX RX3 pn_X3 rfl (Nat.le_of_ble_eq_true rfl) (fun E hE F X => ?_)
  have F : lx_F K 1 E cX3_checkRoot RX3 none (rx 6) := F
  show lx_W K 1 E 0 0 0 [(0, .int r)] [] []
  refine lx_iload_n F dX3_checkRoot_0 0 rfl ?_
  refine lx_if_lt F 10 dX3_checkRoot_1 rfl (fun h0 => ?_) (fun h0 => ?_)
  · skip
    exact lx_throwN F X (is := 162) (text := "no such root") wt_160_164 rfl (by simp [lm_strs]) dX3_checkRoot_10 dX3_checkRoot_13 dX3_checkRoot_14 dX3_checkRoot_16 dX3_checkRoot_19 ⟨by decide, by decide, by decide, by decide⟩ (Nat.le_of_ble_eq_true rfl) (rfl)
  · skip
    refine lx_iload_n F dX3_checkRoot_4 0 rfl ?_
    refine lx_bipush F dX3_checkRoot_5 kb_10 ?_
    refine lx_icmp_lt F 20 dX3_checkRoot_7 rfl (fun h => absurd h (lm_none_x hn h0)) (fun _ => ?_)
    exact lx_throwN F X (is := 162) (text := "no such root") wt_160_164 rfl (by simp [lm_strs]) dX3_checkRoot_10 dX3_checkRoot_13 dX3_checkRoot_14 dX3_checkRoot_16 dX3_checkRoot_19 ⟨by decide, by decide, by decide, by decide⟩ (Nat.le_of_ble_eq_true rfl) (rfl)

set_option maxHeartbeats 4000000 in
set_option maxRecDepth 100000 in
theorem zX_cks (l : Launch) (K : lm_G) (k j : Nat) (hk : k < 10) (hj : j < 10) : lm_C l K mX3_checkRoots (rk 1) [.int (nI k), .int (nI j)] [] (fun v9 w9 => v9 = none ∧ w9 = []) := by
  refine lx_met RX3 pn_X3 rfl (Nat.le_of_ble_eq_true rfl) (fun E hE hnm F hR => ?_)
  have F : lx_F K 2 E cX3_checkRoots RX3 none (rk 1) := F
  show lx_W K 2 E 0 0 0 [(0, .int (nI k)), (1, .int (nI j))] [] []
  refine lx_iload_n F dX3_checkRoots_0 0 rfl ?_
  refine lx_cs F (zX_ck (xl E) K k hk) cs_X3_45 [] [] [] rfl rfl (by decide) rfl (st := []) rfl (Nat.le_of_ble_eq_true rfl) (by decide) ⟨by decide, by decide⟩ dX3_checkRoots_1 (fun v9 w9 h9 => ?_)
  obtain ⟨rfl, rfl⟩ := h9
  refine lx_perm [] [] (by decide) rfl ?_
  refine lx_st (a' := 0) (b' := 0) [] rfl rfl rfl ?_
  refine lx_iload_n F dX3_checkRoots_4 1 rfl ?_
  refine lx_cs F (zX_ck (xl E) K j hj) cs_X3_45 [] [] [] rfl rfl (by decide) rfl (st := []) rfl (Nat.le_of_ble_eq_true rfl) (by decide) ⟨by decide, by decide⟩ dX3_checkRoots_5 (fun v9 w9 h9 => ?_)
  obtain ⟨rfl, rfl⟩ := h9
  refine lx_perm [] [] (by decide) rfl ?_
  refine lx_st (a' := 0) (b' := 0) [] rfl rfl rfl ?_
  exact lx_vret F hR dX3_checkRoots_8 ⟨rfl, rfl⟩

set_option maxHeartbeats 4000000 in
set_option maxRecDepth 100000 in
theorem zX_cksx (l : Launch) (K : lm_G) (r f : Int32) (hn : (lm_none r || lm_none f) = true) : lm_CX l K mX3_checkRoots (rx 7) [.int r, .int f] [] eN (fun w9 => w9 = []) := by
  refine lx_metX RX3 pn_X3 rfl (Nat.le_of_ble_eq_true rfl) (fun E hE F X => ?_)
  have F : lx_F K 2 E cX3_checkRoots RX3 none (rx 7) := F
  show lx_W K 2 E 0 0 0 [(0, .int r), (1, .int f)] [] []
  cases hnr : lm_none r
  · skip
    have hnf : lm_none f = true := by rw [hnr] at hn; exact hn
    obtain ⟨k, hk, rfl⟩ := lm_none_f hnr
    refine lx_iload_n F dX3_checkRoots_0 0 rfl ?_
    refine lx_cs F (zX_ck (xl E) K k hk) cs_X3_45 [] [] [] rfl rfl (by decide) rfl (st := []) rfl (Nat.le_of_ble_eq_true rfl) (by decide) ⟨by decide, by decide⟩ dX3_checkRoots_1 (fun v9 w9 h9 => ?_)
    obtain ⟨rfl, rfl⟩ := h9
    refine lx_perm [] [] (by decide) rfl ?_
    refine lx_st (a' := 0) (b' := 0) [] rfl rfl rfl ?_
    refine lx_iload_n F dX3_checkRoots_4 1 rfl ?_
    exact lx_csX F X (zX_ckx (xl E) K f hnf) cs_X3_45 [] [] [] rfl rfl (by decide) rfl (st := []) rfl (Nat.le_of_ble_eq_true rfl) (by decide) ⟨by decide, by decide⟩ dX3_checkRoots_5 (fun w9 h9 => h9)
  · skip
    refine lx_iload_n F dX3_checkRoots_0 0 rfl ?_
    exact lx_csX F X (zX_ckx (xl E) K r hnr) cs_X3_45 [] [] [] rfl rfl (by decide) rfl (st := []) rfl (Nat.le_of_ble_eq_true rfl) (by decide) ⟨by decide, by decide⟩ dX3_checkRoots_1 (fun w9 h9 => h9)

set_option maxHeartbeats 4000000 in
set_option maxRecDepth 100000 in
theorem zX_ckp (l : Launch) (K : lm_G) (x ro k mt cn h h2 : Nat) (z : Int32) (gr : Nat → Int64) (i : Nat) (hi : i < 10) (v : lm_V) (hv : gr i = en v) (hk : v.1 < 4) (h2e : v.1 = 2) : lm_C l K mX3_checkHoldsPair (rk 1) [.ref x, .int (nI i)] [(x, .inr (3, [.ref ro, .ref k, .ref mt, .ref cn, .ref h, .ref h2, .int z])), (ro, aJ K 10 gr)] (fun v9 w9 => v9 = none ∧ w9 = [(x, .inr (3, [.ref ro, .ref k, .ref mt, .ref cn, .ref h, .ref h2, .int z])), (ro, aJ K 10 gr)]) := by
  refine lx_met RX3 pn_X3 rfl (Nat.le_of_ble_eq_true rfl) (fun E hE hnm F hR => ?_)
  have F : lx_F K 2 E cX3_checkHoldsPair RX3 none (rk 1) := F
  show lx_W K 2 E 0 0 0 [(0, .ref x), (1, .int (nI i))] [] [(x, .inr (3, [.ref ro, .ref k, .ref mt, .ref cn, .ref h, .ref h2, .int z])), (ro, aJ K 10 gr)]
  refine lx_aload_n F dX3_checkHoldsPair_0 0 rfl ?_
  refine gf_X3_9 F 0 rfl rfl dX3_checkHoldsPair_1 ?_
  refine lx_iload_n F dX3_checkHoldsPair_4 1 rfl ?_
  refine lx_lald F 1 i dX3_checkHoldsPair_5 rfl (by omega) (by decide) ?_
  rw [hv]
  refine lx_cs F (zs_kindOf (xl E) K v hk) cs_X3_118 [] [0, 1] [(x, .inr (3, [.ref ro, .ref k, .ref mt, .ref cn, .ref h, .ref h2, .int z])), (ro, aJ K 10 gr)] rfl rfl (by decide) rfl (st := []) rfl (Nat.le_of_ble_eq_true rfl) (by decide) ⟨by decide, by decide⟩ dX3_checkHoldsPair_6 (fun v9 w9 h9 => ?_)
  obtain ⟨rfl, rfl⟩ := h9
  refine lx_perm [0, 1] [(x, .inr (3, [.ref ro, .ref k, .ref mt, .ref cn, .ref h, .ref h2, .int z])), (ro, aJ K 10 gr)] (by decide) rfl ?_
  refine lx_st (a' := 0) (b' := 0) [.int (nI v.1)] rfl rfl rfl ?_
  refine lx_iconst F dX3_checkHoldsPair_9 kc_2 ?_
  refine lx_icmpN_eq F 23 (by omega) (by omega) dX3_checkHoldsPair_10 rfl (fun _ => ?_) (fun h => absurd h (by omega))
  exact lx_vret F hR dX3_checkHoldsPair_23 ⟨rfl, rfl⟩

set_option maxHeartbeats 4000000 in
set_option maxRecDepth 100000 in
theorem zX_ckpx (l : Launch) (K : lm_G) (x ro k mt cn h h2 : Nat) (z : Int32) (gr : Nat → Int64) (i : Nat) (hi : i < 10) (v : lm_V) (hv : gr i = en v) (hk : v.1 < 4) (h2e : v.1 ≠ 2) : lm_CX l K mX3_checkHoldsPair (rx 6) [.ref x, .int (nI i)] [(x, .inr (3, [.ref ro, .ref k, .ref mt, .ref cn, .ref h, .ref h2, .int z])), (ro, aJ K 10 gr)] eS (fun w9 => w9 = [(x, .inr (3, [.ref ro, .ref k, .ref mt, .ref cn, .ref h, .ref h2, .int z])), (ro, aJ K 10 gr)]) := by
  refine lx_metX RX3 pn_X3 rfl (Nat.le_of_ble_eq_true rfl) (fun E hE F X => ?_)
  have F : lx_F K 2 E cX3_checkHoldsPair RX3 none (rx 6) := F
  show lx_W K 2 E 0 0 0 [(0, .ref x), (1, .int (nI i))] [] [(x, .inr (3, [.ref ro, .ref k, .ref mt, .ref cn, .ref h, .ref h2, .int z])), (ro, aJ K 10 gr)]
  refine lx_aload_n F dX3_checkHoldsPair_0 0 rfl ?_
  refine gf_X3_9 F 0 rfl rfl dX3_checkHoldsPair_1 ?_
  refine lx_iload_n F dX3_checkHoldsPair_4 1 rfl ?_
  refine lx_lald F 1 i dX3_checkHoldsPair_5 rfl (by omega) (by decide) ?_
  rw [hv]
  refine lx_cs F (zs_kindOf (xl E) K v hk) cs_X3_118 [] [0, 1] [(x, .inr (3, [.ref ro, .ref k, .ref mt, .ref cn, .ref h, .ref h2, .int z])), (ro, aJ K 10 gr)] rfl rfl (by decide) rfl (st := []) rfl (Nat.le_of_ble_eq_true rfl) (by decide) ⟨by decide, by decide⟩ dX3_checkHoldsPair_6 (fun v9 w9 h9 => ?_)
  obtain ⟨rfl, rfl⟩ := h9
  refine lx_perm [0, 1] [(x, .inr (3, [.ref ro, .ref k, .ref mt, .ref cn, .ref h, .ref h2, .int z])), (ro, aJ K 10 gr)] (by decide) rfl ?_
  refine lx_st (a' := 0) (b' := 0) [.int (nI v.1)] rfl rfl rfl ?_
  refine lx_iconst F dX3_checkHoldsPair_9 kc_2 ?_
  refine lx_icmpN_eq F 23 (by omega) (by omega) dX3_checkHoldsPair_10 rfl (fun h => absurd h (by omega)) (fun _ => ?_)
  exact lx_throw F X (is := 165) (text := "the root holds no pair") wt_113_117 rfl (by simp [lm_strs]) dX3_checkHoldsPair_13 dX3_checkHoldsPair_16 dX3_checkHoldsPair_17 dX3_checkHoldsPair_19 dX3_checkHoldsPair_22 ⟨by decide, by decide, by decide, by decide⟩ (Nat.le_of_ble_eq_true rfl) (rfl)

set_option maxHeartbeats 4000000 in
set_option maxRecDepth 100000 in
theorem zX_room (l : Launch) (K : lm_G) (x : Nat) (c : Nat → Nat) (w : Nat → lm_V) (u : Nat) (rt : Nat → lm_V) (z : Int32) (hst : lm_st c w u rt) (W : va_W) (hW : lm_obj K x (c, w, u, rt, z) W) (n : Nat) (hn : n ≤ 200) (σ : lm_X) (hσ : lm_rm n (c, w, u, rt, z) = σ) (hfit : σ.2.2.1 + n ≤ 120) : lm_C l K mX3_makeRoom (rk 5) [.ref x, .int (nI n)] W (fun v9 w9 => v9 = none ∧ lm_obj K x σ w9) := by
  obtain ⟨ro, kc, l0, il, ir, np, h, ca, co, h2, ca2, co2, mt, fo, ba, wa, cn, gr, fl, fi, fr, fn, mn, fa, ga, f2, g2, t2, ffo, fba, fwa, mm, fc, hh, hro, rfl⟩ := hW
  have hh : lm_hf fa ga c w u := hh
  have hro : ∀ r, r < 10 → gr r = en (rt r) := hro
  have hw := hst.1
  have hr9 := hst.2
  have hu := hw.1
  refine lx_met RX3 pn_X3 rfl (Nat.le_of_ble_eq_true rfl) (fun E hE hnm F hR => ?_)
  have F : lx_F K 2 E cX3_makeRoom RX3 none (rk 5) := F
  show lx_W K 2 E 0 0 0 [(0, .ref x), (1, .int (nI n))] [] [(x, .inr (3, [.ref ro, .ref kc, .ref mt, .ref cn, .ref h, .ref h2, .int z])), (ro, aJ K 10 gr), (kc, .inr (0, [.ref l0, .ref il, .ref ir, .ref np, .int mn])), (l0, aI K 120 fl), (il, aI K 120 fi), (ir, aI K 120 fr), (np, aI K 120 fn), (h, .inr (1, [.ref ca, .ref co, .int (nI u)])), (ca, aI K 120 fa), (co, aJ K 120 ga), (h2, .inr (1, [.ref ca2, .ref co2, .int t2])), (ca2, aI K 120 f2), (co2, aJ K 120 g2), (mt, .inr (2, [.ref fo, .ref ba, .ref wa, .int mm])), (fo, aI K 120 ffo), (ba, aI K 120 fba), (wa, aI K 120 fwa), (cn, aI K 120 fc)]
  by_cases hf0 : u + n ≤ 120
  · skip
    have hσ2 : σ = (c, w, u, rt, z) := by rw [← hσ]; exact lm_rm_y hf0
    subst hσ2
    refine lx_iload_n F dX3_makeRoom_0 1 rfl ?_
    refine lx_aload_n F dX3_makeRoom_1 0 rfl ?_
    refine gf_X3_34 F 0 rfl rfl dX3_makeRoom_2 ?_
    refine lx_cv F (zh_wordsLeft (xl E) K h ca co fa ga (u) hu) cv_X3_167 7 rfl rfl [7, 8, 9] [0, 1, 2, 3, 4, 5, 6, 10, 11, 12, 13, 14, 15, 16, 17] [(x, .inr (3, [.ref ro, .ref kc, .ref mt, .ref cn, .ref h, .ref h2, .int z])), (ro, aJ K 10 gr), (kc, .inr (0, [.ref l0, .ref il, .ref ir, .ref np, .int mn])), (l0, aI K 120 fl), (il, aI K 120 fi), (ir, aI K 120 fr), (np, aI K 120 fn), (h2, .inr (1, [.ref ca2, .ref co2, .int t2])), (ca2, aI K 120 f2), (co2, aJ K 120 g2), (mt, .inr (2, [.ref fo, .ref ba, .ref wa, .int mm])), (fo, aI K 120 ffo), (ba, aI K 120 fba), (wa, aI K 120 fwa), (cn, aI K 120 fc)] rfl rfl (by decide) rfl (st := [.int (nI n)]) rfl (Nat.le_of_ble_eq_true rfl) (by decide) ⟨by decide, by decide⟩ dX3_makeRoom_5 (fun v9 w9 h9 => ?_)
    obtain ⟨rfl, rfl⟩ := h9
    refine lx_perm [0, 1, 2, 3, 4, 5, 6, 15, 16, 17, 7, 8, 9, 10, 11, 12, 13, 14] [(x, .inr (3, [.ref ro, .ref kc, .ref mt, .ref cn, .ref h, .ref h2, .int z])), (ro, aJ K 10 gr), (kc, .inr (0, [.ref l0, .ref il, .ref ir, .ref np, .int mn])), (l0, aI K 120 fl), (il, aI K 120 fi), (ir, aI K 120 fr), (np, aI K 120 fn), (h, .inr (1, [.ref ca, .ref co, .int (nI u)])), (ca, aI K 120 fa), (co, aJ K 120 ga), (h2, .inr (1, [.ref ca2, .ref co2, .int t2])), (ca2, aI K 120 f2), (co2, aJ K 120 g2), (mt, .inr (2, [.ref fo, .ref ba, .ref wa, .int mm])), (fo, aI K 120 ffo), (ba, aI K 120 fba), (wa, aI K 120 fwa), (cn, aI K 120 fc)] (by decide) rfl ?_
    refine lx_st (a' := 0) (b' := 0) [.int (nI (120 - u)), .int (nI n)] rfl rfl rfl ?_
    refine lx_icmpN_le F 15 (by omega) (by omega) dX3_makeRoom_8 rfl (fun _ => ?_) (fun h => absurd h (by omega))
    refine lx_iload_n F dX3_makeRoom_15 1 rfl ?_
    refine lx_aload_n F dX3_makeRoom_16 0 rfl ?_
    refine gf_X3_34 F 0 rfl rfl dX3_makeRoom_17 ?_
    refine lx_cv F (zh_wordsLeft (xl E) K h ca co fa ga (u) hu) cv_X3_167 7 rfl rfl [7, 8, 9] [0, 1, 2, 3, 4, 5, 6, 10, 11, 12, 13, 14, 15, 16, 17] [(x, .inr (3, [.ref ro, .ref kc, .ref mt, .ref cn, .ref h, .ref h2, .int z])), (ro, aJ K 10 gr), (kc, .inr (0, [.ref l0, .ref il, .ref ir, .ref np, .int mn])), (l0, aI K 120 fl), (il, aI K 120 fi), (ir, aI K 120 fr), (np, aI K 120 fn), (h2, .inr (1, [.ref ca2, .ref co2, .int t2])), (ca2, aI K 120 f2), (co2, aJ K 120 g2), (mt, .inr (2, [.ref fo, .ref ba, .ref wa, .int mm])), (fo, aI K 120 ffo), (ba, aI K 120 fba), (wa, aI K 120 fwa), (cn, aI K 120 fc)] rfl rfl (by decide) rfl (st := [.int (nI n)]) rfl (Nat.le_of_ble_eq_true rfl) (by decide) ⟨by decide, by decide⟩ dX3_makeRoom_20 (fun v9 w9 h9 => ?_)
    obtain ⟨rfl, rfl⟩ := h9
    refine lx_perm [0, 1, 2, 3, 4, 5, 6, 15, 16, 17, 7, 8, 9, 10, 11, 12, 13, 14] [(x, .inr (3, [.ref ro, .ref kc, .ref mt, .ref cn, .ref h, .ref h2, .int z])), (ro, aJ K 10 gr), (kc, .inr (0, [.ref l0, .ref il, .ref ir, .ref np, .int mn])), (l0, aI K 120 fl), (il, aI K 120 fi), (ir, aI K 120 fr), (np, aI K 120 fn), (h, .inr (1, [.ref ca, .ref co, .int (nI u)])), (ca, aI K 120 fa), (co, aJ K 120 ga), (h2, .inr (1, [.ref ca2, .ref co2, .int t2])), (ca2, aI K 120 f2), (co2, aJ K 120 g2), (mt, .inr (2, [.ref fo, .ref ba, .ref wa, .int mm])), (fo, aI K 120 ffo), (ba, aI K 120 fba), (wa, aI K 120 fwa), (cn, aI K 120 fc)] (by decide) rfl ?_
    refine lx_st (a' := 0) (b' := 0) [.int (nI (120 - u)), .int (nI n)] rfl rfl rfl ?_
    refine lx_icmpN_le F 36 (by omega) (by omega) dX3_makeRoom_23 rfl (fun _ => ?_) (fun h => absurd h (by omega))
    exact lx_vret F hR dX3_makeRoom_36 ⟨rfl, ⟨_, _, _, _, _, _, _, _, _, _, _, _, _, _, _, _, _, _, _, _, _, _, _, _, _, _, _, _, _, _, _, _, _, hh, hro, rfl⟩⟩
  · skip
    have hσ2 : σ = lm_col (c, w, u, rt, z) := by rw [← hσ]; exact lm_rm_n hf0
    subst hσ2
    have hfit : lm_gu c w rt + n ≤ 120 := hfit
    refine lx_iload_n F dX3_makeRoom_0 1 rfl ?_
    refine lx_aload_n F dX3_makeRoom_1 0 rfl ?_
    refine gf_X3_34 F 0 rfl rfl dX3_makeRoom_2 ?_
    refine lx_cv F (zh_wordsLeft (xl E) K h ca co fa ga (u) hu) cv_X3_167 7 rfl rfl [7, 8, 9] [0, 1, 2, 3, 4, 5, 6, 10, 11, 12, 13, 14, 15, 16, 17] [(x, .inr (3, [.ref ro, .ref kc, .ref mt, .ref cn, .ref h, .ref h2, .int z])), (ro, aJ K 10 gr), (kc, .inr (0, [.ref l0, .ref il, .ref ir, .ref np, .int mn])), (l0, aI K 120 fl), (il, aI K 120 fi), (ir, aI K 120 fr), (np, aI K 120 fn), (h2, .inr (1, [.ref ca2, .ref co2, .int t2])), (ca2, aI K 120 f2), (co2, aJ K 120 g2), (mt, .inr (2, [.ref fo, .ref ba, .ref wa, .int mm])), (fo, aI K 120 ffo), (ba, aI K 120 fba), (wa, aI K 120 fwa), (cn, aI K 120 fc)] rfl rfl (by decide) rfl (st := [.int (nI n)]) rfl (Nat.le_of_ble_eq_true rfl) (by decide) ⟨by decide, by decide⟩ dX3_makeRoom_5 (fun v9 w9 h9 => ?_)
    obtain ⟨rfl, rfl⟩ := h9
    refine lx_perm [0, 1, 2, 3, 4, 5, 6, 15, 16, 17, 7, 8, 9, 10, 11, 12, 13, 14] [(x, .inr (3, [.ref ro, .ref kc, .ref mt, .ref cn, .ref h, .ref h2, .int z])), (ro, aJ K 10 gr), (kc, .inr (0, [.ref l0, .ref il, .ref ir, .ref np, .int mn])), (l0, aI K 120 fl), (il, aI K 120 fi), (ir, aI K 120 fr), (np, aI K 120 fn), (h, .inr (1, [.ref ca, .ref co, .int (nI u)])), (ca, aI K 120 fa), (co, aJ K 120 ga), (h2, .inr (1, [.ref ca2, .ref co2, .int t2])), (ca2, aI K 120 f2), (co2, aJ K 120 g2), (mt, .inr (2, [.ref fo, .ref ba, .ref wa, .int mm])), (fo, aI K 120 ffo), (ba, aI K 120 fba), (wa, aI K 120 fwa), (cn, aI K 120 fc)] (by decide) rfl ?_
    refine lx_st (a' := 0) (b' := 0) [.int (nI (120 - u)), .int (nI n)] rfl rfl rfl ?_
    refine lx_icmpN_le F 15 (by omega) (by omega) dX3_makeRoom_8 rfl (fun h => absurd h (by omega)) (fun _ => ?_)
    refine lx_aload_n F dX3_makeRoom_11 0 rfl ?_
    refine lx_cv F (zl_makeCollection (xl E) K x ro kc mt cn z l0 il ir np fl fi fr fn gr mn h ca co fa ga (nI u) h2 ca2 co2 f2 g2 t2 c w u rt hst hh hro) cv_X3_138 0 rfl rfl [0, 1, 2, 3, 4, 5, 6, 7, 8, 9, 10, 11, 12] [13, 14, 15, 16, 17] [(mt, .inr (2, [.ref fo, .ref ba, .ref wa, .int mm])), (fo, aI K 120 ffo), (ba, aI K 120 fba), (wa, aI K 120 fwa), (cn, aI K 120 fc)] rfl rfl (by decide) rfl (st := []) rfl (Nat.le_of_ble_eq_true rfl) (by decide) ⟨by decide, by decide⟩ dX3_makeRoom_12 (fun v9 w9 h9 => ?_)
    obtain ⟨rfl, gr1, fl1, fi1, fr1, fn1, mn1, f3, g3, hh1, hro1, rfl⟩ := h9
    refine lx_perm [5, 6, 7, 8, 9, 10, 11, 15, 16, 17, 12, 13, 14, 0, 1, 2, 3, 4] [(x, .inr (3, [.ref ro, .ref kc, .ref mt, .ref cn, .ref h2, .ref h, .int (z + nI 1)])), (ro, aJ K 10 gr1), (kc, .inr (0, [.ref l0, .ref il, .ref ir, .ref np, .int mn1])), (l0, aI K 120 fl1), (il, aI K 120 fi1), (ir, aI K 120 fr1), (np, aI K 120 fn1), (h, .inr (1, [.ref ca, .ref co, .int (nI u)])), (ca, aI K 120 fa), (co, aJ K 120 ga), (h2, .inr (1, [.ref ca2, .ref co2, .int (nI (lm_gu c w rt))])), (ca2, aI K 120 f3), (co2, aJ K 120 g3), (mt, .inr (2, [.ref fo, .ref ba, .ref wa, .int mm])), (fo, aI K 120 ffo), (ba, aI K 120 fba), (wa, aI K 120 fwa), (cn, aI K 120 fc)] (by decide) rfl ?_
    refine lx_st (a' := 0) (b' := 0) [] rfl rfl rfl ?_
    refine lx_iload_n F dX3_makeRoom_15 1 rfl ?_
    refine lx_aload_n F dX3_makeRoom_16 0 rfl ?_
    refine gf_X3_34 F 0 rfl rfl dX3_makeRoom_17 ?_
    refine lx_cv F (zh_wordsLeft (xl E) K h2 ca2 co2 f3 g3 (lm_gu c w rt) (by omega)) cv_X3_167 10 rfl rfl [10, 11, 12] [0, 1, 2, 3, 4, 5, 6, 7, 8, 9, 13, 14, 15, 16, 17] [(x, .inr (3, [.ref ro, .ref kc, .ref mt, .ref cn, .ref h2, .ref h, .int (z + nI 1)])), (ro, aJ K 10 gr1), (kc, .inr (0, [.ref l0, .ref il, .ref ir, .ref np, .int mn1])), (l0, aI K 120 fl1), (il, aI K 120 fi1), (ir, aI K 120 fr1), (np, aI K 120 fn1), (h, .inr (1, [.ref ca, .ref co, .int (nI u)])), (ca, aI K 120 fa), (co, aJ K 120 ga), (mt, .inr (2, [.ref fo, .ref ba, .ref wa, .int mm])), (fo, aI K 120 ffo), (ba, aI K 120 fba), (wa, aI K 120 fwa), (cn, aI K 120 fc)] rfl rfl (by decide) rfl (st := [.int (nI n)]) rfl (Nat.le_of_ble_eq_true rfl) (by decide) ⟨by decide, by decide⟩ dX3_makeRoom_20 (fun v9 w9 h9 => ?_)
    obtain ⟨rfl, rfl⟩ := h9
    refine lx_perm [0, 1, 2, 3, 4, 5, 6, 7, 8, 9, 15, 16, 17, 10, 11, 12, 13, 14] [(x, .inr (3, [.ref ro, .ref kc, .ref mt, .ref cn, .ref h2, .ref h, .int (z + nI 1)])), (ro, aJ K 10 gr1), (kc, .inr (0, [.ref l0, .ref il, .ref ir, .ref np, .int mn1])), (l0, aI K 120 fl1), (il, aI K 120 fi1), (ir, aI K 120 fr1), (np, aI K 120 fn1), (h, .inr (1, [.ref ca, .ref co, .int (nI u)])), (ca, aI K 120 fa), (co, aJ K 120 ga), (h2, .inr (1, [.ref ca2, .ref co2, .int (nI (lm_gu c w rt))])), (ca2, aI K 120 f3), (co2, aJ K 120 g3), (mt, .inr (2, [.ref fo, .ref ba, .ref wa, .int mm])), (fo, aI K 120 ffo), (ba, aI K 120 fba), (wa, aI K 120 fwa), (cn, aI K 120 fc)] (by decide) rfl ?_
    refine lx_st (a' := 0) (b' := 0) [.int (nI (120 - (lm_gu c w rt))), .int (nI n)] rfl rfl rfl ?_
    refine lx_icmpN_le F 36 (by omega) (by omega) dX3_makeRoom_23 rfl (fun _ => ?_) (fun h => absurd h (by omega))
    refine lx_perm [0, 1, 2, 3, 4, 5, 6, 10, 11, 12, 7, 8, 9, 13, 14, 15, 16, 17] [(x, .inr (3, [.ref ro, .ref kc, .ref mt, .ref cn, .ref h2, .ref h, .int (z + nI 1)])), (ro, aJ K 10 gr1), (kc, .inr (0, [.ref l0, .ref il, .ref ir, .ref np, .int mn1])), (l0, aI K 120 fl1), (il, aI K 120 fi1), (ir, aI K 120 fr1), (np, aI K 120 fn1), (h2, .inr (1, [.ref ca2, .ref co2, .int (nI (lm_gu c w rt))])), (ca2, aI K 120 f3), (co2, aJ K 120 g3), (h, .inr (1, [.ref ca, .ref co, .int (nI u)])), (ca, aI K 120 fa), (co, aJ K 120 ga), (mt, .inr (2, [.ref fo, .ref ba, .ref wa, .int mm])), (fo, aI K 120 ffo), (ba, aI K 120 fba), (wa, aI K 120 fwa), (cn, aI K 120 fc)] (by decide) rfl ?_
    exact lx_vret F hR dX3_makeRoom_36 ⟨rfl, ⟨_, _, _, _, _, _, _, _, _, _, _, _, _, _, _, _, _, _, _, _, _, _, _, _, _, _, _, _, _, _, _, _, _, hh1, hro1, rfl⟩⟩

set_option maxHeartbeats 4000000 in
set_option maxRecDepth 100000 in
theorem zX_roomx (l : Launch) (K : lm_G) (x : Nat) (c : Nat → Nat) (w : Nat → lm_V) (u : Nat) (rt : Nat → lm_V) (z : Int32) (hst : lm_st c w u rt) (W : va_W) (hW : lm_obj K x (c, w, u, rt, z) W) (n : Nat) (hn : n ≤ 200) (σ : lm_X) (hσ : lm_rm n (c, w, u, rt, z) = σ) (hfit : ¬ σ.2.2.1 + n ≤ 120) : lm_CX l K mX3_makeRoom (rx 6) [.ref x, .int (nI n)] W eU (fun w9 => lm_obj K x σ w9) := by
  obtain ⟨ro, kc, l0, il, ir, np, h, ca, co, h2, ca2, co2, mt, fo, ba, wa, cn, gr, fl, fi, fr, fn, mn, fa, ga, f2, g2, t2, ffo, fba, fwa, mm, fc, hh, hro, rfl⟩ := hW
  have hh : lm_hf fa ga c w u := hh
  have hro : ∀ r, r < 10 → gr r = en (rt r) := hro
  have hw := hst.1
  have hr9 := hst.2
  have hu := hw.1
  refine lx_metX RX3 pn_X3 rfl (Nat.le_of_ble_eq_true rfl) (fun E hE F X => ?_)
  have F : lx_F K 2 E cX3_makeRoom RX3 none (rx 6) := F
  show lx_W K 2 E 0 0 0 [(0, .ref x), (1, .int (nI n))] [] [(x, .inr (3, [.ref ro, .ref kc, .ref mt, .ref cn, .ref h, .ref h2, .int z])), (ro, aJ K 10 gr), (kc, .inr (0, [.ref l0, .ref il, .ref ir, .ref np, .int mn])), (l0, aI K 120 fl), (il, aI K 120 fi), (ir, aI K 120 fr), (np, aI K 120 fn), (h, .inr (1, [.ref ca, .ref co, .int (nI u)])), (ca, aI K 120 fa), (co, aJ K 120 ga), (h2, .inr (1, [.ref ca2, .ref co2, .int t2])), (ca2, aI K 120 f2), (co2, aJ K 120 g2), (mt, .inr (2, [.ref fo, .ref ba, .ref wa, .int mm])), (fo, aI K 120 ffo), (ba, aI K 120 fba), (wa, aI K 120 fwa), (cn, aI K 120 fc)]
  by_cases hf0 : u + n ≤ 120
  · skip
    have hσ2 : σ = (c, w, u, rt, z) := by rw [← hσ]; exact lm_rm_y hf0
    subst hσ2
    exact absurd hf0 hfit
  · skip
    have hσ2 : σ = lm_col (c, w, u, rt, z) := by rw [← hσ]; exact lm_rm_n hf0
    subst hσ2
    have hfit : ¬ lm_gu c w rt + n ≤ 120 := hfit
    have hgu : lm_gu c w rt ≤ 120 := (lm_sx_col (σ := (c, w, u, rt, z)) hst).1.1
    refine lx_iload_n F dX3_makeRoom_0 1 rfl ?_
    refine lx_aload_n F dX3_makeRoom_1 0 rfl ?_
    refine gf_X3_34 F 0 rfl rfl dX3_makeRoom_2 ?_
    refine lx_cv F (zh_wordsLeft (xl E) K h ca co fa ga (u) hu) cv_X3_167 7 rfl rfl [7, 8, 9] [0, 1, 2, 3, 4, 5, 6, 10, 11, 12, 13, 14, 15, 16, 17] [(x, .inr (3, [.ref ro, .ref kc, .ref mt, .ref cn, .ref h, .ref h2, .int z])), (ro, aJ K 10 gr), (kc, .inr (0, [.ref l0, .ref il, .ref ir, .ref np, .int mn])), (l0, aI K 120 fl), (il, aI K 120 fi), (ir, aI K 120 fr), (np, aI K 120 fn), (h2, .inr (1, [.ref ca2, .ref co2, .int t2])), (ca2, aI K 120 f2), (co2, aJ K 120 g2), (mt, .inr (2, [.ref fo, .ref ba, .ref wa, .int mm])), (fo, aI K 120 ffo), (ba, aI K 120 fba), (wa, aI K 120 fwa), (cn, aI K 120 fc)] rfl rfl (by decide) rfl (st := [.int (nI n)]) rfl (Nat.le_of_ble_eq_true rfl) (by decide) ⟨by decide, by decide⟩ dX3_makeRoom_5 (fun v9 w9 h9 => ?_)
    obtain ⟨rfl, rfl⟩ := h9
    refine lx_perm [0, 1, 2, 3, 4, 5, 6, 15, 16, 17, 7, 8, 9, 10, 11, 12, 13, 14] [(x, .inr (3, [.ref ro, .ref kc, .ref mt, .ref cn, .ref h, .ref h2, .int z])), (ro, aJ K 10 gr), (kc, .inr (0, [.ref l0, .ref il, .ref ir, .ref np, .int mn])), (l0, aI K 120 fl), (il, aI K 120 fi), (ir, aI K 120 fr), (np, aI K 120 fn), (h, .inr (1, [.ref ca, .ref co, .int (nI u)])), (ca, aI K 120 fa), (co, aJ K 120 ga), (h2, .inr (1, [.ref ca2, .ref co2, .int t2])), (ca2, aI K 120 f2), (co2, aJ K 120 g2), (mt, .inr (2, [.ref fo, .ref ba, .ref wa, .int mm])), (fo, aI K 120 ffo), (ba, aI K 120 fba), (wa, aI K 120 fwa), (cn, aI K 120 fc)] (by decide) rfl ?_
    refine lx_st (a' := 0) (b' := 0) [.int (nI (120 - u)), .int (nI n)] rfl rfl rfl ?_
    refine lx_icmpN_le F 15 (by omega) (by omega) dX3_makeRoom_8 rfl (fun h => absurd h (by omega)) (fun _ => ?_)
    refine lx_aload_n F dX3_makeRoom_11 0 rfl ?_
    refine lx_cv F (zl_makeCollection (xl E) K x ro kc mt cn z l0 il ir np fl fi fr fn gr mn h ca co fa ga (nI u) h2 ca2 co2 f2 g2 t2 c w u rt hst hh hro) cv_X3_138 0 rfl rfl [0, 1, 2, 3, 4, 5, 6, 7, 8, 9, 10, 11, 12] [13, 14, 15, 16, 17] [(mt, .inr (2, [.ref fo, .ref ba, .ref wa, .int mm])), (fo, aI K 120 ffo), (ba, aI K 120 fba), (wa, aI K 120 fwa), (cn, aI K 120 fc)] rfl rfl (by decide) rfl (st := []) rfl (Nat.le_of_ble_eq_true rfl) (by decide) ⟨by decide, by decide⟩ dX3_makeRoom_12 (fun v9 w9 h9 => ?_)
    obtain ⟨rfl, gr1, fl1, fi1, fr1, fn1, mn1, f3, g3, hh1, hro1, rfl⟩ := h9
    refine lx_perm [5, 6, 7, 8, 9, 10, 11, 15, 16, 17, 12, 13, 14, 0, 1, 2, 3, 4] [(x, .inr (3, [.ref ro, .ref kc, .ref mt, .ref cn, .ref h2, .ref h, .int (z + nI 1)])), (ro, aJ K 10 gr1), (kc, .inr (0, [.ref l0, .ref il, .ref ir, .ref np, .int mn1])), (l0, aI K 120 fl1), (il, aI K 120 fi1), (ir, aI K 120 fr1), (np, aI K 120 fn1), (h, .inr (1, [.ref ca, .ref co, .int (nI u)])), (ca, aI K 120 fa), (co, aJ K 120 ga), (h2, .inr (1, [.ref ca2, .ref co2, .int (nI (lm_gu c w rt))])), (ca2, aI K 120 f3), (co2, aJ K 120 g3), (mt, .inr (2, [.ref fo, .ref ba, .ref wa, .int mm])), (fo, aI K 120 ffo), (ba, aI K 120 fba), (wa, aI K 120 fwa), (cn, aI K 120 fc)] (by decide) rfl ?_
    refine lx_st (a' := 0) (b' := 0) [] rfl rfl rfl ?_
    refine lx_iload_n F dX3_makeRoom_15 1 rfl ?_
    refine lx_aload_n F dX3_makeRoom_16 0 rfl ?_
    refine gf_X3_34 F 0 rfl rfl dX3_makeRoom_17 ?_
    refine lx_cv F (zh_wordsLeft (xl E) K h2 ca2 co2 f3 g3 (lm_gu c w rt) hgu) cv_X3_167 10 rfl rfl [10, 11, 12] [0, 1, 2, 3, 4, 5, 6, 7, 8, 9, 13, 14, 15, 16, 17] [(x, .inr (3, [.ref ro, .ref kc, .ref mt, .ref cn, .ref h2, .ref h, .int (z + nI 1)])), (ro, aJ K 10 gr1), (kc, .inr (0, [.ref l0, .ref il, .ref ir, .ref np, .int mn1])), (l0, aI K 120 fl1), (il, aI K 120 fi1), (ir, aI K 120 fr1), (np, aI K 120 fn1), (h, .inr (1, [.ref ca, .ref co, .int (nI u)])), (ca, aI K 120 fa), (co, aJ K 120 ga), (mt, .inr (2, [.ref fo, .ref ba, .ref wa, .int mm])), (fo, aI K 120 ffo), (ba, aI K 120 fba), (wa, aI K 120 fwa), (cn, aI K 120 fc)] rfl rfl (by decide) rfl (st := [.int (nI n)]) rfl (Nat.le_of_ble_eq_true rfl) (by decide) ⟨by decide, by decide⟩ dX3_makeRoom_20 (fun v9 w9 h9 => ?_)
    obtain ⟨rfl, rfl⟩ := h9
    refine lx_perm [0, 1, 2, 3, 4, 5, 6, 7, 8, 9, 15, 16, 17, 10, 11, 12, 13, 14] [(x, .inr (3, [.ref ro, .ref kc, .ref mt, .ref cn, .ref h2, .ref h, .int (z + nI 1)])), (ro, aJ K 10 gr1), (kc, .inr (0, [.ref l0, .ref il, .ref ir, .ref np, .int mn1])), (l0, aI K 120 fl1), (il, aI K 120 fi1), (ir, aI K 120 fr1), (np, aI K 120 fn1), (h, .inr (1, [.ref ca, .ref co, .int (nI u)])), (ca, aI K 120 fa), (co, aJ K 120 ga), (h2, .inr (1, [.ref ca2, .ref co2, .int (nI (lm_gu c w rt))])), (ca2, aI K 120 f3), (co2, aJ K 120 g3), (mt, .inr (2, [.ref fo, .ref ba, .ref wa, .int mm])), (fo, aI K 120 ffo), (ba, aI K 120 fba), (wa, aI K 120 fwa), (cn, aI K 120 fc)] (by decide) rfl ?_
    refine lx_st (a' := 0) (b' := 0) [.int (nI (120 - (lm_gu c w rt))), .int (nI n)] rfl rfl rfl ?_
    refine lx_icmpN_le F 36 (by omega) (by omega) dX3_makeRoom_23 rfl (fun h => absurd h (by omega)) (fun _ => ?_)
    refine lx_perm [0, 1, 2, 3, 4, 5, 6, 10, 11, 12, 7, 8, 9, 13, 14, 15, 16, 17] [(x, .inr (3, [.ref ro, .ref kc, .ref mt, .ref cn, .ref h2, .ref h, .int (z + nI 1)])), (ro, aJ K 10 gr1), (kc, .inr (0, [.ref l0, .ref il, .ref ir, .ref np, .int mn1])), (l0, aI K 120 fl1), (il, aI K 120 fi1), (ir, aI K 120 fr1), (np, aI K 120 fn1), (h2, .inr (1, [.ref ca2, .ref co2, .int (nI (lm_gu c w rt))])), (ca2, aI K 120 f3), (co2, aJ K 120 g3), (h, .inr (1, [.ref ca, .ref co, .int (nI u)])), (ca, aI K 120 fa), (co, aJ K 120 ga), (mt, .inr (2, [.ref fo, .ref ba, .ref wa, .int mm])), (fo, aI K 120 ffo), (ba, aI K 120 fba), (wa, aI K 120 fwa), (cn, aI K 120 fc)] (by decide) rfl ?_
    exact lx_throw F X (is := 172) (text := "not enough words left") wt_170_174 rfl (by simp [lm_strs]) dX3_makeRoom_26 dX3_makeRoom_29 dX3_makeRoom_30 dX3_makeRoom_32 dX3_makeRoom_35 ⟨by decide, by decide, by decide, by decide⟩ (Nat.le_of_ble_eq_true rfl) (⟨_, _, _, _, _, _, _, _, _, _, _, _, _, _, _, _, _, _, _, _, _, _, _, _, _, _, _, _, _, _, _, _, _, hh1, hro1, rfl⟩)
