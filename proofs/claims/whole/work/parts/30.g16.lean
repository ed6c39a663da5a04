theorem lx_cvXP {K : lm_G} {nL : Nat} {E : lx_E} {cc : ByteArray} {own : String} {ret : Option FieldType} {rm : Room} {a b pc : Nat} {lv : List (Nat × Value)} {st : List Value} {ws : va_W} {M : lm_Me} {rm' : Room} {as stk : List Value} {wc : va_W} {index n : Nat} {cls : String} {post postc : va_W → Prop} (F : lx_F K nL E cc own ret rm) (X : lx_X K E rm cls post) {r : Nat} (hM : lm_CX (xl E) K M rm' (.ref r :: as) wc cls postc) (hw : lx_wV own index M n) (q0 : Nat) {ci : Nat} {fs : List Value} {T : u_T} {N : Nat} (hc : lmCl[ci]? = some (M.1.cls, T, N)) (he : ws[q0]? = some (r, .inr (ci, fs))) (isC isR : List Nat) (wr : va_W) (hC : isC.map (fun i => ws[i]?) = wc.map some) (hRs : isR.map (fun i => ws[i]?) = wr.map some) (hq : va_nd isC = true ∧ va_nd isR = true ∧ ∀ i ∈ isR, i ∉ isC) (hn : as.length = n) (hst : stk = as.reverse ++ .ref r :: st) (hcat : (st.map fun v => v.category).sum ≤ 8) (hR : rm'.frames + 1 ≤ rm.frames ∧ 8 + (M.2.2.1 + 11) + rm'.locals ≤ rm.locals) (hf : a + rm'.cells ≤ rm.cells ∧ b + rm'.slots ≤ rm.slots) (hd : decode cc pc = .ok (.invokevirtual index, 3))
    (is : List Nat) (w1 : va_W) (hnd : va_nd is = true) (k : ∀ w : va_W, postc w → is.map (fun i => (wr ++ w)[i]?) = w1.map some ∧ post w1) : lx_W K nL E a b pc lv stk ws := by
  intro H L ls h hP hD hS
  have hRm : xR E = rm := F.2.2.2.2.2.2
  have hpre := lx_preX (as := .ref r :: as) F X.1 hP hD hS isC hC hq.1
  exact lx_thr F isC isR hC hRs hq.2.1 hq.2.2 hP hD hS (vx_runV (ret := M.2.2.2) (C := M.1.cls) F.1 (hM H.size) ⟨callB_of n F.1.2.2.2.2 (lx_goodIn hw.1) rfl rfl rfl (F.1.2.2.2.2 _ hw.2.1) (F.1.2.2.2.2 _ hw.2.2.1) hw.2.2.2.2 (by rw [hRm]; exact hR), F.1.2.2.2.2 _ hw.2.2.2.1.1, F.1.2.2.2.2 _ hw.2.2.2.1.2⟩ ⟨hpre.1, va_recv F.2.1 hP hc he, hpre.2⟩ rfl hn h.1 hst (lv_room hcat) hd (by rw [hRm]; exact hf)) (fun w H1 L1 q ce hp hP' hD' hS' hce hcv hcl => lx_gone F X (k w hp).2 (hP'.sub is (lx_fm (k w hp).1)) (hD'.sub is hnd (k w hp).1) hS' hce hcv hcl hf)

set_option maxHeartbeats 4000000 in
set_option maxRecDepth 100000 in
theorem zX_number_0 (l : Launch) (K : lm_G) (x : Nat) (c : Nat → Nat) (w : Nat → lm_V) (u : Nat) (rt : Nat → lm_V) (z : Int32) (hst : lm_st c w u rt) (W : va_W) (hW : lm_obj K x (c, w, u, rt, z) W) (r : Int32) (x9 : Int64) (hcd : (lm_oNumber r x9 (c, w, u, rt, z)).1 = 0) : lm_C l K mX3_number (rk 6) [.ref x, .int r, .long x9] W (fun v9 w9 => v9 = none ∧ lm_obj K x (lm_oNumber r x9 (c, w, u, rt, z)).2 w9) := by
  obtain ⟨ro, kc, l0, il, ir, np, h, ca, co, h2, ca2, co2, mt, fo, ba, wa, cn, gr, fl, fi, fr, fn, mn, fa, ga, f2, g2, t2, ffo, fba, fwa, mm, fc, hh, hro, rfl⟩ := hW
  have hh : lm_hf fa ga c w u := hh
  have hro : ∀ r, r < 10 → gr r = en (rt r) := hro
  have hw := hst.1
  have hr9 := hst.2
  have hu := hw.1
  refine lx_met RX3 pn_X3 rfl (Nat.le_of_ble_eq_true rfl) (fun E hE hnm F hR => ?_)
  have F : lx_F K 4 E cX3_number RX3 none (rk 6) := F
  show lx_W K 4 E 0 0 0 [(0, .ref x), (1, .int r), (2, .long x9)] [] [(x, .inr (3, [.ref ro, .ref kc, .ref mt, .ref cn, .ref h, .ref h2, .int z])), (ro, aJ K 10 gr), (kc, .inr (0, [.ref l0, .ref il, .ref ir, .ref np, .int mn])), (l0, aI K 120 fl), (il, aI K 120 fi), (ir, aI K 120 fr), (np, aI K 120 fn), (h, .inr (1, [.ref ca, .ref co, .int (nI u)])), (ca, aI K 120 fa), (co, aJ K 120 ga), (h2, .inr (1, [.ref ca2, .ref co2, .int t2])), (ca2, aI K 120 f2), (co2, aJ K 120 g2), (mt, .inr (2, [.ref fo, .ref ba, .ref wa, .int mm])), (fo, aI K 120 ffo), (ba, aI K 120 fba), (wa, aI K 120 fwa), (cn, aI K 120 fc)]
  cases hnr : lm_none r
  · skip
    obtain ⟨k, hk, rfl⟩ := lm_none_f hnr
    cases hrg : lm_rg x9
    · skip
      refine lx_iload_n F dX3_number_0 1 rfl ?_
      refine lx_cs F (zX_ck (xl E) K k hk) cs_X3_45 [] [0, 1, 2, 3, 4, 5, 6, 7, 8, 9, 10, 11, 12, 13, 14, 15, 16, 17] [(x, .inr (3, [.ref ro, .ref kc, .ref mt, .ref cn, .ref h, .ref h2, .int z])), (ro, aJ K 10 gr), (kc, .inr (0, [.ref l0, .ref il, .ref ir, .ref np, .int mn])), (l0, aI K 120 fl), (il, aI K 120 fi), (ir, aI K 120 fr), (np, aI K 120 fn), (h, .inr (1, [.ref ca, .ref co, .int (nI u)])), (ca, aI K 120 fa), (co, aJ K 120 ga), (h2, .inr (1, [.ref ca2, .ref co2, .int t2])), (ca2, aI K 120 f2), (co2, aJ K 120 g2), (mt, .inr (2, [.ref fo, .ref ba, .ref wa, .int mm])), (fo, aI K 120 ffo), (ba, aI K 120 fba), (wa, aI K 120 fwa), (cn, aI K 120 fc)] rfl rfl (by decide) rfl (st := []) rfl (Nat.le_of_ble_eq_true rfl) (by decide) ⟨by decide, by decide⟩ dX3_number_1 (fun v9 w9 h9 => ?_)
      obtain ⟨rfl, rfl⟩ := h9
      refine lx_perm [0, 1, 2, 3, 4, 5, 6, 7, 8, 9, 10, 11, 12, 13, 14, 15, 16, 17] [(x, .inr (3, [.ref ro, .ref kc, .ref mt, .ref cn, .ref h, .ref h2, .int z])), (ro, aJ K 10 gr), (kc, .inr (0, [.ref l0, .ref il, .ref ir, .ref np, .int mn])), (l0, aI K 120 fl), (il, aI K 120 fi), (ir, aI K 120 fr), (np, aI K 120 fn), (h, .inr (1, [.ref ca, .ref co, .int (nI u)])), (ca, aI K 120 fa), (co, aJ K 120 ga), (h2, .inr (1, [.ref ca2, .ref co2, .int t2])), (ca2, aI K 120 f2), (co2, aJ K 120 g2), (mt, .inr (2, [.ref fo, .ref ba, .ref wa, .int mm])), (fo, aI K 120 ffo), (ba, aI K 120 fba), (wa, aI K 120 fwa), (cn, aI K 120 fc)] (by decide) rfl ?_
      refine lx_st (a' := 0) (b' := 0) [] rfl rfl rfl ?_
      refine lx_lload_n F dX3_number_4 2 rfl ?_
      refine lx_ldc2 F dX3_number_5 kj_X3_49 ?_
      refine lx_lcmp_iflt F 20 dX3_number_8 dX3_number_9 rfl (fun h => absurd hrg (by rw [lm_rg_1 h]; decide)) (fun _ => ?_)
      refine lx_lload_n F dX3_number_12 2 rfl ?_
      refine lx_ldc2 F dX3_number_13 kj_X3_51 ?_
      refine lx_lcmp_ifle F 30 dX3_number_16 dX3_number_17 rfl (fun _ => ?_) (fun h => absurd hrg (by rw [lm_rg_2 h]; decide))
      refine lx_aload_n F dX3_number_30 0 rfl ?_
      refine gf_X3_9 F 0 rfl rfl dX3_number_31 ?_
      refine lx_iload_n F dX3_number_34 1 rfl ?_
      refine lx_iconst F dX3_number_35 kc_1 ?_
      refine lx_lload_n F dX3_number_36 2 rfl ?_
      refine lx_st (a' := 0) (b' := 0) [.long (jI x9.toInt), .int (nI 1), .int (nI k), .ref ro] rfl rfl (by rw [jI_toInt]) ?_
      refine lx_cs F (zs_content (xl E) K 1 x9.toInt (by omega)) cs_X3_60 [] [0, 1, 2, 3, 4, 5, 6, 7, 8, 9, 10, 11, 12, 13, 14, 15, 16, 17] [(x, .inr (3, [.ref ro, .ref kc, .ref mt, .ref cn, .ref h, .ref h2, .int z])), (ro, aJ K 10 gr), (kc, .inr (0, [.ref l0, .ref il, .ref ir, .ref np, .int mn])), (l0, aI K 120 fl), (il, aI K 120 fi), (ir, aI K 120 fr), (np, aI K 120 fn), (h, .inr (1, [.ref ca, .ref co, .int (nI u)])), (ca, aI K 120 fa), (co, aJ K 120 ga), (h2, .inr (1, [.ref ca2, .ref co2, .int t2])), (ca2, aI K 120 f2), (co2, aJ K 120 g2), (mt, .inr (2, [.ref fo, .ref ba, .ref wa, .int mm])), (fo, aI K 120 ffo), (ba, aI K 120 fba), (wa, aI K 120 fwa), (cn, aI K 120 fc)] rfl rfl (by decide) rfl (st := [.int (nI k), .ref ro]) rfl (Nat.le_of_ble_eq_true rfl) (by decide) ⟨by decide, by decide⟩ dX3_number_37 (fun v9 w9 h9 => ?_)
      obtain ⟨rfl, rfl⟩ := h9
      refine lx_perm [0, 1, 2, 3, 4, 5, 6, 7, 8, 9, 10, 11, 12, 13, 14, 15, 16, 17] [(x, .inr (3, [.ref ro, .ref kc, .ref mt, .ref cn, .ref h, .ref h2, .int z])), (ro, aJ K 10 gr), (kc, .inr (0, [.ref l0, .ref il, .ref ir, .ref np, .int mn])), (l0, aI K 120 fl), (il, aI K 120 fi), (ir, aI K 120 fr), (np, aI K 120 fn), (h, .inr (1, [.ref ca, .ref co, .int (nI u)])), (ca, aI K 120 fa), (co, aJ K 120 ga), (h2, .inr (1, [.ref ca2, .ref co2, .int t2])), (ca2, aI K 120 f2), (co2, aJ K 120 g2), (mt, .inr (2, [.ref fo, .ref ba, .ref wa, .int mm])), (fo, aI K 120 ffo), (ba, aI K 120 fba), (wa, aI K 120 fwa), (cn, aI K 120 fc)] (by decide) rfl ?_
      refine lx_st (a' := 0) (b' := 0) [.long (en (1, x9.toInt)), .int (nI k), .ref ro] rfl rfl rfl ?_
      refine lx_last F 1 k [(x, .inr (3, [.ref ro, .ref kc, .ref mt, .ref cn, .ref h, .ref h2, .int z])), (ro, aJ K 10 (lm_up gr k (en (1, x9.toInt)))), (kc, .inr (0, [.ref l0, .ref il, .ref ir, .ref np, .int mn])), (l0, aI K 120 fl), (il, aI K 120 fi), (ir, aI K 120 fr), (np, aI K 120 fn), (h, .inr (1, [.ref ca, .ref co, .int (nI u)])), (ca, aI K 120 fa), (co, aJ K 120 ga), (h2, .inr (1, [.ref ca2, .ref co2, .int t2])), (ca2, aI K 120 f2), (co2, aJ K 120 g2), (mt, .inr (2, [.ref fo, .ref ba, .ref wa, .int mm])), (fo, aI K 120 ffo), (ba, aI K 120 fba), (wa, aI K 120 fwa), (cn, aI K 120 fc)] dX3_number_40 rfl (by omega) (by decide) rfl ?_
      exact lx_vret F hR dX3_number_41 ⟨rfl, by rw [show lm_oNumber (nI k) x9 (c, w, u, rt, z) = (0, lm_set (c, w, u, rt, z) k (1, x9.toInt)) by unfold lm_oNumber; rw [lm_none_n hk, if_neg (by decide), hrg, if_neg (by decide), lm_ix_n hk]]; exact ⟨_, _, _, _, _, _, _, _, _, _, _, _, _, _, _, _, _, _, _, _, _, _, _, _, _, _, _, _, _, _, _, _, _, hh, (lm_rc_1 hro), rfl⟩⟩
    · skip
      exact absurd hcd (by rw [show lm_oNumber (nI k) x9 (c, w, u, rt, z) = (2, (c, w, u, rt, z)) by unfold lm_oNumber; rw [lm_none_n hk, if_neg (by decide), if_pos hrg]]; simp)
  · skip
    exact absurd hcd (by rw [show lm_oNumber r x9 (c, w, u, rt, z) = (1, (c, w, u, rt, z)) by unfold lm_oNumber; rw [if_pos hnr]]; simp)

set_option maxHeartbeats 4000000 in
set_option maxRecDepth 100000 in
theorem zX_number_1 (l : Launch) (K : lm_G) (x : Nat) (c : Nat → Nat) (w : Nat → lm_V) (u : Nat) (rt : Nat → lm_V) (z : Int32) (hst : lm_st c w u rt) (W : va_W) (hW : lm_obj K x (c, w, u, rt, z) W) (r : Int32) (x9 : Int64) (hcd : (lm_oNumber r x9 (c, w, u, rt, z)).1 = 1) : lm_CX l K mX3_number (rx 8) [.ref x, .int r, .long x9] W eN (fun w9 => lm_obj K x (lm_oNumber r x9 (c, w, u, rt, z)).2 w9) := by
  obtain ⟨ro, kc, l0, il, ir, np, h, ca, co, h2, ca2, co2, mt, fo, ba, wa, cn, gr, fl, fi, fr, fn, mn, fa, ga, f2, g2, t2, ffo, fba, fwa, mm, fc, hh, hro, rfl⟩ := hW
  have hh : lm_hf fa ga c w u := hh
  have hro : ∀ r, r < 10 → gr r = en (rt r) := hro
  have hw := hst.1
  have hr9 := hst.2
  have hu := hw.1
  refine lx_metX RX3 pn_X3 rfl (Nat.le_of_ble_eq_true rfl) (fun E hE F X => ?_)
  have F : lx_F K 4 E cX3_number RX3 none (rx 8) := F
  show lx_W K 4 E 0 0 0 [(0, .ref x), (1, .int r), (2, .long x9)] [] [(x, .inr (3, [.ref ro, .ref kc, .ref mt, .ref cn, .ref h, .ref h2, .int z])), (ro, aJ K 10 gr), (kc, .inr (0, [.ref l0, .ref il, .ref ir, .ref np, .int mn])), (l0, aI K 120 fl), (il, aI K 120 fi), (ir, aI K 120 fr), (np, aI K 120 fn), (h, .inr (1, [.ref ca, .ref co, .int (nI u)])), (ca, aI K 120 fa), (co, aJ K 120 ga), (h2, .inr (1, [.ref ca2, .ref co2, .int t2])), (ca2, aI K 120 f2), (co2, aJ K 120 g2), (mt, .inr (2, [.ref fo, .ref ba, .ref wa, .int mm])), (fo, aI K 120 ffo), (ba, aI K 120 fba), (wa, aI K 120 fwa), (cn, aI K 120 fc)]
  cases hnr : lm_none r
  · skip
    obtain ⟨k, hk, rfl⟩ := lm_none_f hnr
    cases hrg : lm_rg x9
    · skip
      exact absurd hcd (by rw [show lm_oNumber (nI k) x9 (c, w, u, rt, z) = (0, lm_set (c, w, u, rt, z) k (1, x9.toInt)) by unfold lm_oNumber; rw [lm_none_n hk, if_neg (by decide), hrg, if_neg (by decide), lm_ix_n hk]]; simp)
    · skip
      exact absurd hcd (by rw [show lm_oNumber (nI k) x9 (c, w, u, rt, z) = (2, (c, w, u, rt, z)) by unfold lm_oNumber; rw [lm_none_n hk, if_neg (by decide), if_pos hrg]]; simp)
  · skip
    refine lx_iload_n F dX3_number_0 1 rfl ?_
    exact lx_csX F X (zX_ckx (xl E) K r hnr) cs_X3_45 [] [0, 1, 2, 3, 4, 5, 6, 7, 8, 9, 10, 11, 12, 13, 14, 15, 16, 17] [(x, .inr (3, [.ref ro, .ref kc, .ref mt, .ref cn, .ref h, .ref h2, .int z])), (ro, aJ K 10 gr), (kc, .inr (0, [.ref l0, .ref il, .ref ir, .ref np, .int mn])), (l0, aI K 120 fl), (il, aI K 120 fi), (ir, aI K 120 fr), (np, aI K 120 fn), (h, .inr (1, [.ref ca, .ref co, .int (nI u)])), (ca, aI K 120 fa), (co, aJ K 120 ga), (h2, .inr (1, [.ref ca2, .ref co2, .int t2])), (ca2, aI K 120 f2), (co2, aJ K 120 g2), (mt, .inr (2, [.ref fo, .ref ba, .ref wa, .int mm])), (fo, aI K 120 ffo), (ba, aI K 120 fba), (wa, aI K 120 fwa), (cn, aI K 120 fc)] rfl rfl (by decide) rfl (st := []) rfl (Nat.le_of_ble_eq_true rfl) (by decide) ⟨by decide, by decide⟩ dX3_number_1 (fun w9 h9 => by subst h9; exact (by show lm_obj K x _ _; rw [show lm_oNumber r x9 (c, w, u, rt, z) = (1, (c, w, u, rt, z)) by unfold lm_oNumber; rw [if_pos hnr]]; exact ⟨_, _, _, _, _, _, _, _, _, _, _, _, _, _, _, _, _, _, _, _, _, _, _, _, _, _, _, _, _, _, _, _, _, hh, hro, rfl⟩))

set_option maxHeartbeats 4000000 in
set_option maxRecDepth 100000 in
theorem zX_number_2 (l : Launch) (K : lm_G) (x : Nat) (c : Nat → Nat) (w : Nat → lm_V) (u : Nat) (rt : Nat → lm_V) (z : Int32) (hst : lm_st c w u rt) (W : va_W) (hW : lm_obj K x (c, w, u, rt, z) W) (r : Int32) (x9 : Int64) (hcd : (lm_oNumber r x9 (c, w, u, rt, z)).1 = 2) : lm_CX l K mX3_number (rx 8) [.ref x, .int r, .long x9] W eA (fun w9 => lm_obj K x (lm_oNumber r x9 (c, w, u, rt, z)).2 w9) := by
  obtain ⟨ro, kc, l0, il, ir, np, h, ca, co, h2, ca2, co2, mt, fo, ba, wa, cn, gr, fl, fi, fr, fn, mn, fa, ga, f2, g2, t2, ffo, fba, fwa, mm, fc, hh, hro, rfl⟩ := hW
  have hh : lm_hf fa ga c w u := hh
  have hro : ∀ r, r < 10 → gr r = en (rt r) := hro
  have hw := hst.1
  have hr9 := hst.2
  have hu := hw.1
  refine lx_metX RX3 pn_X3 rfl (Nat.le_of_ble_eq_true rfl) (fun E hE F X => ?_)
  have F : lx_F K 4 E cX3_number RX3 none (rx 8) := F
  show lx_W K 4 E 0 0 0 [(0, .ref x), (1, .int r), (2, .long x9)] [] [(x, .inr (3, [.ref ro, .ref kc, .ref mt, .ref cn, .ref h, .ref h2, .int z])), (ro, aJ K 10 gr), (kc, .inr (0, [.ref l0, .ref il, .ref ir, .ref np, .int mn])), (l0, aI K 120 fl), (il, aI K 120 fi), (ir, aI K 120 fr), (np, aI K 120 fn), (h, .inr (1, [.ref ca, .ref co, .int (nI u)])), (ca, aI K 120 fa), (co, aJ K 120 ga), (h2, .inr (1, [.ref ca2, .ref co2, .int t2])), (ca2, aI K 120 f2), (co2, aJ K 120 g2), (mt, .inr (2, [.ref fo, .ref ba, .ref wa, .int mm])), (fo, aI K 120 ffo), (ba, aI K 120 fba), (wa, aI K 120 fwa), (cn, aI K 120 fc)]
  cases hnr : lm_none r
  · skip
    obtain ⟨k, hk, rfl⟩ := lm_none_f hnr
    cases hrg : lm_rg x9
    · skip
      exact absurd hcd (by rw [show lm_oNumber (nI k) x9 (c, w, u, rt, z) = (0, lm_set (c, w, u, rt, z) k (1, x9.toInt)) by unfold lm_oNumber; rw [lm_none_n hk, if_neg (by decide), hrg, if_neg (by decide), lm_ix_n hk]]; simp)
    · skip
      refine lx_iload_n F dX3_number_0 1 rfl ?_
      refine lx_cs F (zX_ck (xl E) K k hk) cs_X3_45 [] [0, 1, 2, 3, 4, 5, 6, 7, 8, 9, 10, 11, 12, 13, 14, 15, 16, 17] [(x, .inr (3, [.ref ro, .ref kc, .ref mt, .ref cn, .ref h, .ref h2, .int z])), (ro, aJ K 10 gr), (kc, .inr (0, [.ref l0, .ref il, .ref ir, .ref np, .int mn])), (l0, aI K 120 fl), (il, aI K 120 fi), (ir, aI K 120 fr), (np, aI K 120 fn), (h, .inr (1, [.ref ca, .ref co, .int (nI u)])), (ca, aI K 120 fa), (co, aJ K 120 ga), (h2, .inr (1, [.ref ca2, .ref co2, .int t2])), (ca2, aI K 120 f2), (co2, aJ K 120 g2), (mt, .inr (2, [.ref fo, .ref ba, .ref wa, .int mm])), (fo, aI K 120 ffo), (ba, aI K 120 fba), (wa, aI K 120 fwa), (cn, aI K 120 fc)] rfl rfl (by decide) rfl (st := []) rfl (Nat.le_of_ble_eq_true rfl) (by decide) ⟨by decide, by decide⟩ dX3_number_1 (fun v9 w9 h9 => ?_)
      obtain ⟨rfl, rfl⟩ := h9
      refine lx_perm [0, 1, 2, 3, 4, 5, 6, 7, 8, 9, 10, 11, 12, 13, 14, 15, 16, 17] [(x, .inr (3, [.ref ro, .ref kc, .ref mt, .ref cn, .ref h, .ref h2, .int z])), (ro, aJ K 10 gr), (kc, .inr (0, [.ref l0, .ref il, .ref ir, .ref np, .int mn])), (l0, aI K 120 fl), (il, aI K 120 fi), (ir, aI K 120 fr), (np, aI K 120 fn), (h, .inr (1, [.ref ca, .ref co, .int (nI u)])), (ca, aI K 120 fa), (co, aJ K 120 ga), (h2, .inr (1, [.ref ca2, .ref co2, .int t2])), (ca2, aI K 120 f2), (co2, aJ K 120 g2), (mt, .inr (2, [.ref fo, .ref ba, .ref wa, .int mm])), (fo, aI K 120 ffo), (ba, aI K 120 fba), (wa, aI K 120 fwa), (cn, aI K 120 fc)] (by decide) rfl ?_
      refine lx_st (a' := 0) (b' := 0) [] rfl rfl rfl ?_
      refine lx_lload_n F dX3_number_4 2 rfl ?_
      refine lx_ldc2 F dX3_number_5 kj_X3_49 ?_
      refine lx_lcmp_iflt F 20 dX3_number_8 dX3_number_9 rfl (fun h1 => ?_) (fun h1 => ?_)
      · skip
        exact lx_throw F X (is := 55) (text := "no number") wt_53_57 rfl (by simp [lm_strs]) dX3_number_20 dX3_number_23 dX3_number_24 dX3_number_26 dX3_number_29 ⟨by decide, by decide, by decide, by decide⟩ (Nat.le_of_ble_eq_true rfl) (by show lm_obj K x _ _; rw [show lm_oNumber (nI k) x9 (c, w, u, rt, z) = (2, (c, w, u, rt, z)) by unfold lm_oNumber; rw [lm_none_n hk, if_neg (by decide), if_pos hrg]]; exact ⟨_, _, _, _, _, _, _, _, _, _, _, _, _, _, _, _, _, _, _, _, _, _, _, _, _, _, _, _, _, _, _, _, _, hh, hro, rfl⟩)
      · skip
        refine lx_lload_n F dX3_number_12 2 rfl ?_
        refine lx_ldc2 F dX3_number_13 kj_X3_51 ?_
        refine lx_lcmp_ifle F 30 dX3_number_16 dX3_number_17 rfl (fun h => absurd hrg (by rw [lm_rg_3 h1 h]; decide)) (fun _ => ?_)
        exact lx_throw F X (is := 55) (text := "no number") wt_53_57 rfl (by simp [lm_strs]) dX3_number_20 dX3_number_23 dX3_number_24 dX3_number_26 dX3_number_29 ⟨by decide, by decide, by decide, by decide⟩ (Nat.le_of_ble_eq_true rfl) (by show lm_obj K x _ _; rw [show lm_oNumber (nI k) x9 (c, w, u, rt, z) = (2, (c, w, u, rt, z)) by unfold lm_oNumber; rw [lm_none_n hk, if_neg (by decide), if_pos hrg]]; exact ⟨_, _, _, _, _, _, _, _, _, _, _, _, _, _, _, _, _, _, _, _, _, _, _, _, _, _, _, _, _, _, _, _, _, hh, hro, rfl⟩)
  · skip
    exact absurd hcd (by rw [show lm_oNumber r x9 (c, w, u, rt, z) = (1, (c, w, u, rt, z)) by unfold lm_oNumber; rw [if_pos hnr]]; simp)

set_option maxHeartbeats 4000000 in
set_option maxRecDepth 100000 in
theorem zX_drop_0 (l : Launch) (K : lm_G) (x : Nat) (c : Nat → Nat) (w : Nat → lm_V) (u : Nat) (rt : Nat → lm_V) (z : Int32) (hst : lm_st c w u rt) (W : va_W) (hW : lm_obj K x (c, w, u, rt, z) W) (r : Int32) (hcd : (lm_oDrop r (c, w, u, rt, z)).1 = 0) : lm_C l K mX3_drop (rk 6) [.ref x, .int r] W (fun v9 w9 => v9 = none ∧ lm_obj K x (lm_oDrop r (c, w, u, rt, z)).2 w9) := by
  obtain ⟨ro, kc, l0, il, ir, np, h, ca, co, h2, ca2, co2, mt, fo, ba, wa, cn, gr, fl, fi, fr, fn, mn, fa, ga, f2, g2, t2, ffo, fba, fwa, mm, fc, hh, hro, rfl⟩ := hW
  have hh : lm_hf fa ga c w u := hh
  have hro : ∀ r, r < 10 → gr r = en (rt r) := hro
  have hw := hst.1
  have hr9 := hst.2
  have hu := hw.1
  refine lx_met RX3 pn_X3 rfl (Nat.le_of_ble_eq_true rfl) (fun E hE hnm F hR => ?_)
  have F : lx_F K 2 E cX3_drop RX3 none (rk 6) := F
  show lx_W K 2 E 0 0 0 [(0, .ref x), (1, .int r)] [] [(x, .inr (3, [.ref ro, .ref kc, .ref mt, .ref cn, .ref h, .ref h2, .int z])), (ro, aJ K 10 gr), (kc, .inr (0, [.ref l0, .ref il, .ref ir, .ref np, .int mn])), (l0, aI K 120 fl), (il, aI K 120 fi), (ir, aI K 120 fr), (np, aI K 120 fn), (h, .inr (1, [.ref ca, .ref co, .int (nI u)])), (ca, aI K 120 fa), (co, aJ K 120 ga), (h2, .inr (1, [.ref ca2, .ref co2, .int t2])), (ca2, aI K 120 f2), (co2, aJ K 120 g2), (mt, .inr (2, [.ref fo, .ref ba, .ref wa, .int mm])), (fo, aI K 120 ffo), (ba, aI K 120 fba), (wa, aI K 120 fwa), (cn, aI K 120 fc)]
  cases hnr : lm_none r
  · skip
    obtain ⟨k, hk, rfl⟩ := lm_none_f hnr
    refine lx_iload_n F dX3_drop_0 1 rfl ?_
    refine lx_cs F (zX_ck (xl E) K k hk) cs_X3_45 [] [0, 1, 2, 3, 4, 5, 6, 7, 8, 9, 10, 11, 12, 13, 14, 15, 16, 17] [(x, .inr (3, [.ref ro, .ref kc, .ref mt, .ref cn, .ref h, .ref h2, .int z])), (ro, aJ K 10 gr), (kc, .inr (0, [.ref l0, .ref il, .ref ir, .ref np, .int mn])), (l0, aI K 120 fl), (il, aI K 120 fi), (ir, aI K 120 fr), (np, aI K 120 fn), (h, .inr (1, [.ref ca, .ref co, .int (nI u)])), (ca, aI K 120 fa), (co, aJ K 120 ga), (h2, .inr (1, [.ref ca2, .ref co2, .int t2])), (ca2, aI K 120 f2), (co2, aJ K 120 g2), (mt, .inr (2, [.ref fo, .ref ba, .ref wa, .int mm])), (fo, aI K 120 ffo), (ba, aI K 120 fba), (wa, aI K 120 fwa), (cn, aI K 120 fc)] rfl rfl (by decide) rfl (st := []) rfl (Nat.le_of_ble_eq_true rfl) (by decide) ⟨by decide, by decide⟩ dX3_drop_1 (fun v9 w9 h9 => ?_)
    obtain ⟨rfl, rfl⟩ := h9
    refine lx_perm [0, 1, 2, 3, 4, 5, 6, 7, 8, 9, 10, 11, 12, 13, 14, 15, 16, 17] [(x, .inr (3, [.ref ro, .ref kc, .ref mt, .ref cn, .ref h, .ref h2, .int z])), (ro, aJ K 10 gr), (kc, .inr (0, [.ref l0, .ref il, .ref ir, .ref np, .int mn])), (l0, aI K 120 fl), (il, aI K 120 fi), (ir, aI K 120 fr), (np, aI K 120 fn), (h, .inr (1, [.ref ca, .ref co, .int (nI u)])), (ca, aI K 120 fa), (co, aJ K 120 ga), (h2, .inr (1, [.ref ca2, .ref co2, .int t2])), (ca2, aI K 120 f2), (co2, aJ K 120 g2), (mt, .inr (2, [.ref fo, .ref ba, .ref wa, .int mm])), (fo, aI K 120 ffo), (ba, aI K 120 fba), (wa, aI K 120 fwa), (cn, aI K 120 fc)] (by decide) rfl ?_
    refine lx_st (a' := 0) (b' := 0) [] rfl rfl rfl ?_
    refine lx_aload_n F dX3_drop_4 0 rfl ?_
    refine gf_X3_9 F 0 rfl rfl dX3_drop_5 ?_
    refine lx_iload_n F dX3_drop_8 1 rfl ?_
    refine lx_lconst F dX3_drop_9 kl_0 ?_
    refine lx_last F 1 k [(x, .inr (3, [.ref ro, .ref kc, .ref mt, .ref cn, .ref h, .ref h2, .int z])), (ro, aJ K 10 (lm_up gr k (jI 0))), (kc, .inr (0, [.ref l0, .ref il, .ref ir, .ref np, .int mn])), (l0, aI K 120 fl), (il, aI K 120 fi), (ir, aI K 120 fr), (np, aI K 120 fn), (h, .inr (1, [.ref ca, .ref co, .int (nI u)])), (ca, aI K 120 fa), (co, aJ K 120 ga), (h2, .inr (1, [.ref ca2, .ref co2, .int t2])), (ca2, aI K 120 f2), (co2, aJ K 120 g2), (mt, .inr (2, [.ref fo, .ref ba, .ref wa, .int mm])), (fo, aI K 120 ffo), (ba, aI K 120 fba), (wa, aI K 120 fwa), (cn, aI K 120 fc)] dX3_drop_10 rfl (by omega) (by decide) rfl ?_
    exact lx_vret F hR dX3_drop_11 ⟨rfl, by rw [show lm_oDrop (nI k) (c, w, u, rt, z) = (0, lm_set (c, w, u, rt, z) k (0, 0)) by unfold lm_oDrop; rw [lm_none_n hk, if_neg (by decide), lm_ix_n hk]]; exact ⟨_, _, _, _, _, _, _, _, _, _, _, _, _, _, _, _, _, _, _, _, _, _, _, _, _, _, _, _, _, _, _, _, _, hh, (lm_rc_0 hro), rfl⟩⟩
  · skip
    exact absurd hcd (by rw [show lm_oDrop r (c, w, u, rt, z) = (1, (c, w, u, rt, z)) by unfold lm_oDrop; rw [if_pos hnr]]; simp)

set_option maxHeartbeats 4000000 in
set_option maxRecDepth 100000 in
theorem zX_drop_1 (l : Launch) (K : lm_G) (x : Nat) (c : Nat → Nat) (w : Nat → lm_V) (u : Nat) (rt : Nat → lm_V) (z : Int32) (hst : lm_st c w u rt) (W : va_W) (hW : lm_obj K x (c, w, u, rt, z) W) (r : Int32) (hcd : (lm_oDrop r (c, w, u, rt, z)).1 = 1) : lm_CX l K mX3_drop (rx 8) [.ref x, .int r] W eN (fun w9 => lm_obj K x (lm_oDrop r (c, w, u, rt, z)).2 w9) := by
  obtain ⟨ro, kc, l0, il, ir, np, h, ca, co, h2, ca2, co2, mt, fo, ba, wa, cn, gr, fl, fi, fr, fn, mn, fa, ga, f2, g2, t2, ffo, fba, fwa, mm, fc, hh, hro, rfl⟩ := hW
  have hh : lm_hf fa ga c w u := hh
  have hro : ∀ r, r < 10 → gr r = en (rt r) := hro
  have hw := hst.1
  have hr9 := hst.2
  have hu := hw.1
  refine lx_metX RX3 pn_X3 rfl (Nat.le_of_ble_eq_true rfl) (fun E hE F X => ?_)
  have F : lx_F K 2 E cX3_drop RX3 none (rx 8) := F
  show lx_W K 2 E 0 0 0 [(0, .ref x), (1, .int r)] [] [(x, .inr (3, [.ref ro, .ref kc, .ref mt, .ref cn, .ref h, .ref h2, .int z])), (ro, aJ K 10 gr), (kc, .inr (0, [.ref l0, .ref il, .ref ir, .ref np, .int mn])), (l0, aI K 120 fl), (il, aI K 120 fi), (ir, aI K 120 fr), (np, aI K 120 fn), (h, .inr (1, [.ref ca, .ref co, .int (nI u)])), (ca, aI K 120 fa), (co, aJ K 120 ga), (h2, .inr (1, [.ref ca2, .ref co2, .int t2])), (ca2, aI K 120 f2), (co2, aJ K 120 g2), (mt, .inr (2, [.ref fo, .ref ba, .ref wa, .int mm])), (fo, aI K 120 ffo), (ba, aI K 120 fba), (wa, aI K 120 fwa), (cn, aI K 120 fc)]
  cases hnr : lm_none r
  · skip
    obtain ⟨k, hk, rfl⟩ := lm_none_f hnr
    exact absurd hcd (by rw [show lm_oDrop (nI k) (c, w, u, rt, z) = (0, lm_set (c, w, u, rt, z) k (0, 0)) by unfold lm_oDrop; rw [lm_none_n hk, if_neg (by decide), lm_ix_n hk]]; simp)
  · skip
    refine lx_iload_n F dX3_drop_0 1 rfl ?_
    exact lx_csX F X (zX_ckx (xl E) K r hnr) cs_X3_45 [] [0, 1, 2, 3, 4, 5, 6, 7, 8, 9, 10, 11, 12, 13, 14, 15, 16, 17] [(x, .inr (3, [.ref ro, .ref kc, .ref mt, .ref cn, .ref h, .ref h2, .int z])), (ro, aJ K 10 gr), (kc, .inr (0, [.ref l0, .ref il, .ref ir, .ref np, .int mn])), (l0, aI K 120 fl), (il, aI K 120 fi), (ir, aI K 120 fr), (np, aI K 120 fn), (h, .inr (1, [.ref ca, .ref co, .int (nI u)])), (ca, aI K 120 fa), (co, aJ K 120 ga), (h2, .inr (1, [.ref ca2, .ref co2, .int t2])), (ca2, aI K 120 f2), (co2, aJ K 120 g2), (mt, .inr (2, [.ref fo, .ref ba, .ref wa, .int mm])), (fo, aI K 120 ffo), (ba, aI K 120 fba), (wa, aI K 120 fwa), (cn, aI K 120 fc)] rfl rfl (by decide) rfl (st := []) rfl (Nat.le_of_ble_eq_true rfl) (by decide) ⟨by decide, by decide⟩ dX3_drop_1 (fun w9 h9 => by subst h9; exact (by show lm_obj K x _ _; rw [show lm_oDrop r (c, w, u, rt, z) = (1, (c, w, u, rt, z)) by unfold lm_oDrop; rw [if_pos hnr]]; exact ⟨_, _, _, _, _, _, _, _, _, _, _, _, _, _, _, _, _, _, _, _, _, _, _, _, _, _, _, _, _, _, _, _, _, hh, hro, rfl⟩))

set_option maxHeartbeats 4000000 in
set_option maxRecDepth 100000 in
theorem zX_copy_0 (l : Launch) (K : lm_G) (x : Nat) (c : Nat → Nat) (w : Nat → lm_V) (u : Nat) (rt : Nat → lm_V) (z : Int32) (hst : lm_st c w u rt) (W : va_W) (hW : lm_obj K x (c, w, u, rt, z) W) (r f : Int32) (hcd : (lm_oCopy r f (c, w, u, rt, z)).1 = 0) : lm_C l K mX3_copy (rk 6) [.ref x, .int r, .int f] W (fun v9 w9 => v9 = none ∧ lm_obj K x (lm_oCopy r f (c, w, u, rt, z)).2 w9) := by
  obtain ⟨ro, kc, l0, il, ir, np, h, ca, co, h2, ca2, co2, mt, fo, ba, wa, cn, gr, fl, fi, fr, fn, mn, fa, ga, f2, g2, t2, ffo, fba, fwa, mm, fc, hh, hro, rfl⟩ := hW
  have hh : lm_hf fa ga c w u := hh
  have hro : ∀ r, r < 10 → gr r = en (rt r) := hro
  have hw := hst.1
  have hr9 := hst.2
  have hu := hw.1
  refine lx_met RX3 pn_X3 rfl (Nat.le_of_ble_eq_true rfl) (fun E hE hnm F hR => ?_)
  have F : lx_F K 3 E cX3_copy RX3 none (rk 6) := F
  show lx_W K 3 E 0 0 0 [(0, .ref x), (1, .int r), (2, .int f)] [] [(x, .inr (3, [.ref ro, .ref kc, .ref mt, .ref cn, .ref h, .ref h2, .int z])), (ro, aJ K 10 gr), (kc, .inr (0, [.ref l0, .ref il, .ref ir, .ref np, .int mn])), (l0, aI K 120 fl), (il, aI K 120 fi), (ir, aI K 120 fr), (np, aI K 120 fn), (h, .inr (1, [.ref ca, .ref co, .int (nI u)])), (ca, aI K 120 fa), (co, aJ K 120 ga), (h2, .inr (1, [.ref ca2, .ref co2, .int t2])), (ca2, aI K 120 f2), (co2, aJ K 120 g2), (mt, .inr (2, [.ref fo, .ref ba, .ref wa, .int mm])), (fo, aI K 120 ffo), (ba, aI K 120 fba), (wa, aI K 120 fwa), (cn, aI K 120 fc)]
  cases hnr : lm_none r
  · skip
    obtain ⟨k, hk, rfl⟩ := lm_none_f hnr
    cases hnf : lm_none f
    · skip
      obtain ⟨j, hj, rfl⟩ := lm_none_f hnf
      refine lx_iload_n F dX3_copy_0 1 rfl ?_
      refine lx_iload_n F dX3_copy_1 2 rfl ?_
      refine lx_cs F (zX_cks (xl E) K k j hk hj) cs_X3_64 [] [0, 1, 2, 3, 4, 5, 6, 7, 8, 9, 10, 11, 12, 13, 14, 15, 16, 17] [(x, .inr (3, [.ref ro, .ref kc, .ref mt, .ref cn, .ref h, .ref h2, .int z])), (ro, aJ K 10 gr), (kc, .inr (0, [.ref l0, .ref il, .ref ir, .ref np, .int mn])), (l0, aI K 120 fl), (il, aI K 120 fi), (ir, aI K 120 fr), (np, aI K 120 fn), (h, .inr (1, [.ref ca, .ref co, .int (nI u)])), (ca, aI K 120 fa), (co, aJ K 120 ga), (h2, .inr (1, [.ref ca2, .ref co2, .int t2])), (ca2, aI K 120 f2), (co2, aJ K 120 g2), (mt, .inr (2, [.ref fo, .ref ba, .ref wa, .int mm])), (fo, aI K 120 ffo), (ba, aI K 120 fba), (wa, aI K 120 fwa), (cn, aI K 120 fc)] rfl rfl (by decide) rfl (st := []) rfl (Nat.le_of_ble_eq_true rfl) (by decide) ⟨by decide, by decide⟩ dX3_copy_2 (fun v9 w9 h9 => ?_)
      obtain ⟨rfl, rfl⟩ := h9
      refine lx_perm [0, 1, 2, 3, 4, 5, 6, 7, 8, 9, 10, 11, 12, 13, 14, 15, 16, 17] [(x, .inr (3, [.ref ro, .ref kc, .ref mt, .ref cn, .ref h, .ref h2, .int z])), (ro, aJ K 10 gr), (kc, .inr (0, [.ref l0, .ref il, .ref ir, .ref np, .int mn])), (l0, aI K 120 fl), (il, aI K 120 fi), (ir, aI K 120 fr), (np, aI K 120 fn), (h, .inr (1, [.ref ca, .ref co, .int (nI u)])), (ca, aI K 120 fa), (co, aJ K 120 ga), (h2, .inr (1, [.ref ca2, .ref co2, .int t2])), (ca2, aI K 120 f2), (co2, aJ K 120 g2), (mt, .inr (2, [.ref fo, .ref ba, .ref wa, .int mm])), (fo, aI K 120 ffo), (ba, aI K 120 fba), (wa, aI K 120 fwa), (cn, aI K 120 fc)] (by decide) rfl ?_
      refine lx_st (a' := 0) (b' := 0) [] rfl rfl rfl ?_
      refine lx_aload_n F dX3_copy_5 0 rfl ?_
      refine gf_X3_9 F 0 rfl rfl dX3_copy_6 ?_
      refine lx_iload_n F dX3_copy_9 1 rfl ?_
      refine lx_aload_n F dX3_copy_10 0 rfl ?_
      refine gf_X3_9 F 0 rfl rfl dX3_copy_11 ?_
      refine lx_iload_n F dX3_copy_14 2 rfl ?_
      refine lx_lald F 1 j dX3_copy_15 rfl (by omega) (by decide) ?_
      rw [hro j hj]
      refine lx_last F 1 k [(x, .inr (3, [.ref ro, .ref kc, .ref mt, .ref cn, .ref h, .ref h2, .int z])), (ro, aJ K 10 (lm_up gr k (en (rt j)))), (kc, .inr (0, [.ref l0, .ref il, .ref ir, .ref np, .int mn])), (l0, aI K 120 fl), (il, aI K 120 fi), (ir, aI K 120 fr), (np, aI K 120 fn), (h, .inr (1, [.ref ca, .ref co, .int (nI u)])), (ca, aI K 120 fa), (co, aJ K 120 ga), (h2, .inr (1, [.ref ca2, .ref co2, .int t2])), (ca2, aI K 120 f2), (co2, aJ K 120 g2), (mt, .inr (2, [.ref fo, .ref ba, .ref wa, .int mm])), (fo, aI K 120 ffo), (ba, aI K 120 fba), (wa, aI K 120 fwa), (cn, aI K 120 fc)] dX3_copy_16 rfl (by omega) (by decide) rfl ?_
      exact lx_vret F hR dX3_copy_17 ⟨rfl, by rw [show lm_oCopy (nI k) (nI j) (c, w, u, rt, z) = (0, lm_set (c, w, u, rt, z) k (rt j)) by unfold lm_oCopy; rw [lm_none_n hk, lm_none_n hj, if_neg (by decide), lm_ix_n hk, lm_ix_n hj]]; exact ⟨_, _, _, _, _, _, _, _, _, _, _, _, _, _, _, _, _, _, _, _, _, _, _, _, _, _, _, _, _, _, _, _, _, hh, (lm_rc_up (v := rt j) hro), rfl⟩⟩
    · skip
      exact absurd hcd (by rw [show lm_oCopy (nI k) f (c, w, u, rt, z) = (1, (c, w, u, rt, z)) by unfold lm_oCopy; rw [lm_none_n hk, hnf]; rfl]; simp)
  · skip
    exact absurd hcd (by rw [show lm_oCopy r f (c, w, u, rt, z) = (1, (c, w, u, rt, z)) by unfold lm_oCopy; rw [hnr]; rfl]; simp)

set_option maxHeartbeats 4000000 in
set_option maxRecDepth 100000 in
theorem zX_copy_1 (l : Launch) (K : lm_G) (x : Nat) (c : Nat → Nat) (w : Nat → lm_V) (u : Nat) (rt : Nat → lm_V) (z : Int32) (hst : lm_st c w u rt) (W : va_W) (hW : lm_obj K x (c, w, u, rt, z) W) (r f : Int32) (hcd : (lm_oCopy r f (c, w, u, rt, z)).1 = 1) : lm_CX l K mX3_copy (rx 8) [.ref x, .int r, .int f] W eN (fun w9 => lm_obj K x (lm_oCopy r f (c, w, u, rt, z)).2 w9) := by
  obtain ⟨ro, kc, l0, il, ir, np, h, ca, co, h2, ca2, co2, mt, fo, ba, wa, cn, gr, fl, fi, fr, fn, mn, fa, ga, f2, g2, t2, ffo, fba, fwa, mm, fc, hh, hro, rfl⟩ := hW
  have hh : lm_hf fa ga c w u := hh
  have hro : ∀ r, r < 10 → gr r = en (rt r) := hro
  have hw := hst.1
  have hr9 := hst.2
  have hu := hw.1
  refine lx_metX RX3 pn_X3 rfl (Nat.le_of_ble_eq_true rfl) (fun E hE F X => ?_)
  have F : lx_F K 3 E cX3_copy RX3 none (rx 8) := F
  show lx_W K 3 E 0 0 0 [(0, .ref x), (1, .int r), (2, .int f)] [] [(x, .inr (3, [.ref ro, .ref kc, .ref mt, .ref cn, .ref h, .ref h2, .int z])), (ro, aJ K 10 gr), (kc, .inr (0, [.ref l0, .ref il, .ref ir, .ref np, .int mn])), (l0, aI K 120 fl), (il, aI K 120 fi), (ir, aI K 120 fr), (np, aI K 120 fn), (h, .inr (1, [.ref ca, .ref co, .int (nI u)])), (ca, aI K 120 fa), (co, aJ K 120 ga), (h2, .inr (1, [.ref ca2, .ref co2, .int t2])), (ca2, aI K 120 f2), (co2, aJ K 120 g2), (mt, .inr (2, [.ref fo, .ref ba, .ref wa, .int mm])), (fo, aI K 120 ffo), (ba, aI K 120 fba), (wa, aI K 120 fwa), (cn, aI K 120 fc)]
  cases hnr : lm_none r
  · skip
    obtain ⟨k, hk, rfl⟩ := lm_none_f hnr
    cases hnf : lm_none f
    · skip
      obtain ⟨j, hj, rfl⟩ := lm_none_f hnf
      exact absurd hcd (by rw [show lm_oCopy (nI k) (nI j) (c, w, u, rt, z) = (0, lm_set (c, w, u, rt, z) k (rt j)) by unfold lm_oCopy; rw [lm_none_n hk, lm_none_n hj, if_neg (by decide), lm_ix_n hk, lm_ix_n hj]]; simp)
    · skip
      refine lx_iload_n F dX3_copy_0 1 rfl ?_
      refine lx_iload_n F dX3_copy_1 2 rfl ?_
      exact lx_csX F X (zX_cksx (xl E) K (nI k) f (by rw [lm_none_n hk, hnf]; rfl)) cs_X3_64 [] [0, 1, 2, 3, 4, 5, 6, 7, 8, 9, 10, 11, 12, 13, 14, 15, 16, 17] [(x, .inr (3, [.ref ro, .ref kc, .ref mt, .ref cn, .ref h, .ref h2, .int z])), (ro, aJ K 10 gr), (kc, .inr (0, [.ref l0, .ref il, .ref ir, .ref np, .int mn])), (l0, aI K 120 fl), (il, aI K 120 fi), (ir, aI K 120 fr), (np, aI K 120 fn), (h, .inr (1, [.ref ca, .ref co, .int (nI u)])), (ca, aI K 120 fa), (co, aJ K 120 ga), (h2, .inr (1, [.ref ca2, .ref co2, .int t2])), (ca2, aI K 120 f2), (co2, aJ K 120 g2), (mt, .inr (2, [.ref fo, .ref ba, .ref wa, .int mm])), (fo, aI K 120 ffo), (ba, aI K 120 fba), (wa, aI K 120 fwa), (cn, aI K 120 fc)] rfl rfl (by decide) rfl (st := []) rfl (Nat.le_of_ble_eq_true rfl) (by decide) ⟨by decide, by decide⟩ dX3_copy_2 (fun w9 h9 => by subst h9; exact (by show lm_obj K x _ _; rw [show lm_oCopy (nI k) f (c, w, u, rt, z) = (1, (c, w, u, rt, z)) by unfold lm_oCopy; rw [lm_none_n hk, hnf]; rfl]; exact ⟨_, _, _, _, _, _, _, _, _, _, _, _, _, _, _, _, _, _, _, _, _, _, _, _, _, _, _, _, _, _, _, _, _, hh, hro, rfl⟩))
  · skip
    refine lx_iload_n F dX3_copy_0 1 rfl ?_
    refine lx_iload_n F dX3_copy_1 2 rfl ?_
    exact lx_csX F X (zX_cksx (xl E) K r f (by rw [hnr]; rfl)) cs_X3_64 [] [0, 1, 2, 3, 4, 5, 6, 7, 8, 9, 10, 11, 12, 13, 14, 15, 16, 17] [(x, .inr (3, [.ref ro, .ref kc, .ref mt, .ref cn, .ref h, .ref h2, .int z])), (ro, aJ K 10 gr), (kc, .inr (0, [.ref l0, .ref il, .ref ir, .ref np, .int mn])), (l0, aI K 120 fl), (il, aI K 120 fi), (ir, aI K 120 fr), (np, aI K 120 fn), (h, .inr (1, [.ref ca, .ref co, .int (nI u)])), (ca, aI K 120 fa), (co, aJ K 120 ga), (h2, .inr (1, [.ref ca2, .ref co2, .int t2])), (ca2, aI K 120 f2), (co2, aJ K 120 g2), (mt, .inr (2, [.ref fo, .ref ba, .ref wa, .int mm])), (fo, aI K 120 ffo), (ba, aI K 120 fba), (wa, aI K 120 fwa), (cn, aI K 120 fc)] rfl rfl (by decide) rfl (st := []) rfl (Nat.le_of_ble_eq_true rfl) (by decide) ⟨by decide, by decide⟩ dX3_copy_2 (fun w9 h9 => by subst h9; exact (by show lm_obj K x _ _; rw [show lm_oCopy r f (c, w, u, rt, z) = (1, (c, w, u, rt, z)) by unfold lm_oCopy; rw [hnr]; rfl]; exact ⟨_, _, _, _, _, _, _, _, _, _, _, _, _, _, _, _, _, _, _, _, _, _, _, _, _, _, _, _, _, _, _, _, _, hh, hro, rfl⟩))

set_option maxHeartbeats 4000000 in
set_option maxRecDepth 100000 in
theorem zX_first_0 (l : Launch) (K : lm_G) (x : Nat) (c : Nat → Nat) (w : Nat → lm_V) (u : Nat) (rt : Nat → lm_V) (z : Int32) (hst : lm_st c w u rt) (W : va_W) (hW : lm_obj K x (c, w, u, rt, z) W) (r f : Int32) (hcd : (lm_oFirst r f (c, w, u, rt, z)).1 = 0) : lm_C l K mX3_first (rk 6) [.ref x, .int r, .int f] W (fun v9 w9 => v9 = none ∧ lm_obj K x (lm_oFirst r f (c, w, u, rt, z)).2 w9) := by
  obtain ⟨ro, kc, l0, il, ir, np, h, ca, co, h2, ca2, co2, mt, fo, ba, wa, cn, gr, fl, fi, fr, fn, mn, fa, ga, f2, g2, t2, ffo, fba, fwa, mm, fc, hh, hro, rfl⟩ := hW
  have hh : lm_hf fa ga c w u := hh
  have hro : ∀ r, r < 10 → gr r = en (rt r) := hro
  have hw := hst.1
  have hr9 := hst.2
  have hu := hw.1
  refine lx_met RX3 pn_X3 rfl (Nat.le_of_ble_eq_true rfl) (fun E hE hnm F hR => ?_)
  have F : lx_F K 3 E cX3_first RX3 none (rk 6) := F
  show lx_W K 3 E 0 0 0 [(0, .ref x), (1, .int r), (2, .int f)] [] [(x, .inr (3, [.ref ro, .ref kc, .ref mt, .ref cn, .ref h, .ref h2, .int z])), (ro, aJ K 10 gr), (kc, .inr (0, [.ref l0, .ref il, .ref ir, .ref np, .int mn])), (l0, aI K 120 fl), (il, aI K 120 fi), (ir, aI K 120 fr), (np, aI K 120 fn), (h, .inr (1, [.ref ca, .ref co, .int (nI u)])), (ca, aI K 120 fa), (co, aJ K 120 ga), (h2, .inr (1, [.ref ca2, .ref co2, .int t2])), (ca2, aI K 120 f2), (co2, aJ K 120 g2), (mt, .inr (2, [.ref fo, .ref ba, .ref wa, .int mm])), (fo, aI K 120 ffo), (ba, aI K 120 fba), (wa, aI K 120 fwa), (cn, aI K 120 fc)]
  cases hnr : lm_none r
  · skip
    obtain ⟨k, hk, rfl⟩ := lm_none_f hnr
    cases hnf : lm_none f
    · skip
      obtain ⟨j, hj, rfl⟩ := lm_none_f hnf
      have hk3 := lm_ok_kind (hr9 j hj)
      by_cases h2e : (rt j).1 = 2
      · skip
        have hcl := lm_to_cl hw (hr9 j hj) h2e
        have hp1 := hcl.1
        refine lx_iload_n F dX3_first_0 1 rfl ?_
        refine lx_iload_n F dX3_first_1 2 rfl ?_
        refine lx_cs F (zX_cks (xl E) K k j hk hj) cs_X3_64 [] [0, 1, 2, 3, 4, 5, 6, 7, 8, 9, 10, 11, 12, 13, 14, 15, 16, 17] [(x, .inr (3, [.ref ro, .ref kc, .ref mt, .ref cn, .ref h, .ref h2, .int z])), (ro, aJ K 10 gr), (kc, .inr (0, [.ref l0, .ref il, .ref ir, .ref np, .int mn])), (l0, aI K 120 fl), (il, aI K 120 fi), (ir, aI K 120 fr), (np, aI K 120 fn), (h, .inr (1, [.ref ca, .ref co, .int (nI u)])), (ca, aI K 120 fa), (co, aJ K 120 ga), (h2, .inr (1, [.ref ca2, .ref co2, .int t2])), (ca2, aI K 120 f2), (co2, aJ K 120 g2), (mt, .inr (2, [.ref fo, .ref ba, .ref wa, .int mm])), (fo, aI K 120 ffo), (ba, aI K 120 fba), (wa, aI K 120 fwa), (cn, aI K 120 fc)] rfl rfl (by decide) rfl (st := []) rfl (Nat.le_of_ble_eq_true rfl) (by decide) ⟨by decide, by decide⟩ dX3_first_2 (fun v9 w9 h9 => ?_)
        obtain ⟨rfl, rfl⟩ := h9
        refine lx_perm [0, 1, 2, 3, 4, 5, 6, 7, 8, 9, 10, 11, 12, 13, 14, 15, 16, 17] [(x, .inr (3, [.ref ro, .ref kc, .ref mt, .ref cn, .ref h, .ref h2, .int z])), (ro, aJ K 10 gr), (kc, .inr (0, [.ref l0, .ref il, .ref ir, .ref np, .int mn])), (l0, aI K 120 fl), (il, aI K 120 fi), (ir, aI K 120 fr), (np, aI K 120 fn), (h, .inr (1, [.ref ca, .ref co, .int (nI u)])), (ca, aI K 120 fa), (co, aJ K 120 ga), (h2, .inr (1, [.ref ca2, .ref co2, .int t2])), (ca2, aI K 120 f2), (co2, aJ K 120 g2), (mt, .inr (2, [.ref fo, .ref ba, .ref wa, .int mm])), (fo, aI K 120 ffo), (ba, aI K 120 fba), (wa, aI K 120 fwa), (cn, aI K 120 fc)] (by decide) rfl ?_
        refine lx_st (a' := 0) (b' := 0) [] rfl rfl rfl ?_
        refine lx_aload_n F dX3_first_5 0 rfl ?_
        refine lx_iload_n F dX3_first_6 2 rfl ?_
        refine lx_cv F (zX_ckp (xl E) K x ro kc mt cn h h2 z gr j hj (rt j) (hro j hj) (by omega) h2e) cv_X3_84 0 rfl rfl [0, 1] [2, 3, 4, 5, 6, 7, 8, 9, 10, 11, 12, 13, 14, 15, 16, 17] [(kc, .inr (0, [.ref l0, .ref il, .ref ir, .ref np, .int mn])), (l0, aI K 120 fl), (il, aI K 120 fi), (ir, aI K 120 fr), (np, aI K 120 fn), (h, .inr (1, [.ref ca, .ref co, .int (nI u)])), (ca, aI K 120 fa), (co, aJ K 120 ga), (h2, .inr (1, [.ref ca2, .ref co2, .int t2])), (ca2, aI K 120 f2), (co2, aJ K 120 g2), (mt, .inr (2, [.ref fo, .ref ba, .ref wa, .int mm])), (fo, aI K 120 ffo), (ba, aI K 120 fba), (wa, aI K 120 fwa), (cn, aI K 120 fc)] rfl rfl (by decide) rfl (st := []) rfl (Nat.le_of_ble_eq_true rfl) (by decide) ⟨by decide, by decide⟩ dX3_first_7 (fun v9 w9 h9 => ?_)
        obtain ⟨rfl, rfl⟩ := h9
        refine lx_perm [16, 17, 0, 1, 2, 3, 4, 5, 6, 7, 8, 9, 10, 11, 12, 13, 14, 15] [(x, .inr (3, [.ref ro, .ref kc, .ref mt, .ref cn, .ref h, .ref h2, .int z])), (ro, aJ K 10 gr), (kc, .inr (0, [.ref l0, .ref il, .ref ir, .ref np, .int mn])), (l0, aI K 120 fl), (il, aI K 120 fi), (ir, aI K 120 fr), (np, aI K 120 fn), (h, .inr (1, [.ref ca, .ref co, .int (nI u)])), (ca, aI K 120 fa), (co, aJ K 120 ga), (h2, .inr (1, [.ref ca2, .ref co2, .int t2])), (ca2, aI K 120 f2), (co2, aJ K 120 g2), (mt, .inr (2, [.ref fo, .ref ba, .ref wa, .int mm])), (fo, aI K 120 ffo), (ba, aI K 120 fba), (wa, aI K 120 fwa), (cn, aI K 120 fc)] (by decide) rfl ?_
        refine lx_st (a' := 0) (b' := 0) [] rfl rfl rfl ?_
        refine lx_aload_n F dX3_first_10 0 rfl ?_
        refine gf_X3_9 F 0 rfl rfl dX3_first_11 ?_
        refine lx_iload_n F dX3_first_14 1 rfl ?_
        refine lx_aload_n F dX3_first_15 0 rfl ?_
        refine gf_X3_34 F 0 rfl rfl dX3_first_16 ?_
        refine lx_aload_n F dX3_first_19 0 rfl ?_
        refine gf_X3_34 F 0 rfl rfl dX3_first_20 ?_
        refine lx_aload_n F dX3_first_23 0 rfl ?_
        refine gf_X3_9 F 0 rfl rfl dX3_first_24 ?_
        refine lx_iload_n F dX3_first_27 2 rfl ?_
        refine lx_lald F 1 j dX3_first_28 rfl (by omega) (by decide) ?_
        rw [hro j hj]
        refine lx_cv F (zh_cellOf (xl E) K h ca co fa ga (nI u) c w u hw hh (rt j) (hr9 j hj) h2e) cv_X3_87 7 rfl rfl [7, 8, 9] [0, 1, 2, 3, 4, 5, 6, 10, 11, 12, 13, 14, 15, 16, 17] [(x, .inr (3, [.ref ro, .ref kc, .ref mt, .ref cn, .ref h, .ref h2, .int z])), (ro, aJ K 10 gr), (kc, .inr (0, [.ref l0, .ref il, .ref ir, .ref np, .int mn])), (l0, aI K 120 fl), (il, aI K 120 fi), (ir, aI K 120 fr), (np, aI K 120 fn), (h2, .inr (1, [.ref ca2, .ref co2, .int t2])), (ca2, aI K 120 f2), (co2, aJ K 120 g2), (mt, .inr (2, [.ref fo, .ref ba, .ref wa, .int mm])), (fo, aI K 120 ffo), (ba, aI K 120 fba), (wa, aI K 120 fwa), (cn, aI K 120 fc)] rfl rfl (by decide) rfl (st := [.ref h, .int (nI k), .ref ro]) rfl (Nat.le_of_ble_eq_true rfl) (by decide) ⟨by decide, by decide⟩ dX3_first_29 (fun v9 w9 h9 => ?_)
        obtain ⟨rfl, rfl⟩ := h9
        refine lx_perm [0, 1, 2, 3, 4, 5, 6, 15, 16, 17, 7, 8, 9, 10, 11, 12, 13, 14] [(x, .inr (3, [.ref ro, .ref kc, .ref mt, .ref cn, .ref h, .ref h2, .int z])), (ro, aJ K 10 gr), (kc, .inr (0, [.ref l0, .ref il, .ref ir, .ref np, .int mn])), (l0, aI K 120 fl), (il, aI K 120 fi), (ir, aI K 120 fr), (np, aI K 120 fn), (h, .inr (1, [.ref ca, .ref co, .int (nI u)])), (ca, aI K 120 fa), (co, aJ K 120 ga), (h2, .inr (1, [.ref ca2, .ref co2, .int t2])), (ca2, aI K 120 f2), (co2, aJ K 120 g2), (mt, .inr (2, [.ref fo, .ref ba, .ref wa, .int mm])), (fo, aI K 120 ffo), (ba, aI K 120 fba), (wa, aI K 120 fwa), (cn, aI K 120 fc)] (by decide) rfl ?_
        refine lx_st (a' := 0) (b' := 0) [.int (nI (lm_to w (rt j))), .ref h, .int (nI k), .ref ro] rfl rfl rfl ?_
        refine lx_cv F (zh_contentAt (xl E) K h ca co fa ga (nI u) (lm_to w (rt j)) (by omega) (en (w (lm_to w (rt j)))) (hh _ hp1).2) cv_X3_91 7 rfl rfl [7, 8, 9] [0, 1, 2, 3, 4, 5, 6, 10, 11, 12, 13, 14, 15, 16, 17] [(x, .inr (3, [.ref ro, .ref kc, .ref mt, .ref cn, .ref h, .ref h2, .int z])), (ro, aJ K 10 gr), (kc, .inr (0, [.ref l0, .ref il, .ref ir, .ref np, .int mn])), (l0, aI K 120 fl), (il, aI K 120 fi), (ir, aI K 120 fr), (np, aI K 120 fn), (h2, .inr (1, [.ref ca2, .ref co2, .int t2])), (ca2, aI K 120 f2), (co2, aJ K 120 g2), (mt, .inr (2, [.ref fo, .ref ba, .ref wa, .int mm])), (fo, aI K 120 ffo), (ba, aI K 120 fba), (wa, aI K 120 fwa), (cn, aI K 120 fc)] rfl rfl (by decide) rfl (st := [.int (nI k), .ref ro]) rfl (Nat.le_of_ble_eq_true rfl) (by decide) ⟨by decide, by decide⟩ dX3_first_32 (fun v9 w9 h9 => ?_)
        obtain ⟨rfl, rfl⟩ := h9
        refine lx_perm [0, 1, 2, 3, 4, 5, 6, 15, 16, 17, 7, 8, 9, 10, 11, 12, 13, 14] [(x, .inr (3, [.ref ro, .ref kc, .ref mt, .ref cn, .ref h, .ref h2, .int z])), (ro, aJ K 10 gr), (kc, .inr (0, [.ref l0, .ref il, .ref ir, .ref np, .int mn])), (l0, aI K 120 fl), (il, aI K 120 fi), (ir, aI K 120 fr), (np, aI K 120 fn), (h, .inr (1, [.ref ca, .ref co, .int (nI u)])), (ca, aI K 120 fa), (co, aJ K 120 ga), (h2, .inr (1, [.ref ca2, .ref co2, .int t2])), (ca2, aI K 120 f2), (co2, aJ K 120 g2), (mt, .inr (2, [.ref fo, .ref ba, .ref wa, .int mm])), (fo, aI K 120 ffo), (ba, aI K 120 fba), (wa, aI K 120 fwa), (cn, aI K 120 fc)] (by decide) rfl ?_
        refine lx_st (a' := 0) (b' := 0) [.long (en (w (lm_to w (rt j)))), .int (nI k), .ref ro] rfl rfl rfl ?_
        refine lx_last F 1 k [(x, .inr (3, [.ref ro, .ref kc, .ref mt, .ref cn, .ref h, .ref h2, .int z])), (ro, aJ K 10 (lm_up gr k (en (w (lm_to w (rt j)))))), (kc, .inr (0, [.ref l0, .ref il, .ref ir, .ref np, .int mn])), (l0, aI K 120 fl), (il, aI K 120 fi), (ir, aI K 120 fr), (np, aI K 120 fn), (h, .inr (1, [.ref ca, .ref co, .int (nI u)])), (ca, aI K 120 fa), (co, aJ K 120 ga), (h2, .inr (1, [.ref ca2, .ref co2, .int t2])), (ca2, aI K 120 f2), (co2, aJ K 120 g2), (mt, .inr (2, [.ref fo, .ref ba, .ref wa, .int mm])), (fo, aI K 120 ffo), (ba, aI K 120 fba), (wa, aI K 120 fwa), (cn, aI K 120 fc)] dX3_first_35 rfl (by omega) (by decide) rfl ?_
        exact lx_vret F hR dX3_first_36 ⟨rfl, by rw [show lm_oFirst (nI k) (nI j) (c, w, u, rt, z) = (0, lm_set (c, w, u, rt, z) k (w (lm_to w (rt j)))) by unfold lm_oFirst; rw [lm_none_n hk, lm_none_n hj, if_neg (by decide), lm_ix_n hj, if_neg (show ¬ (rt j).1 ≠ 2 from fun z9 => z9 h2e), lm_ix_n hk]]; exact ⟨_, _, _, _, _, _, _, _, _, _, _, _, _, _, _, _, _, _, _, _, _, _, _, _, _, _, _, _, _, _, _, _, _, hh, (lm_rc_up (v := w (lm_to w (rt j))) hro), rfl⟩⟩
      · skip
        exact absurd hcd (by rw [show lm_oFirst (nI k) (nI j) (c, w, u, rt, z) = (2, (c, w, u, rt, z)) by unfold lm_oFirst; rw [lm_none_n hk, lm_none_n hj, if_neg (by decide), lm_ix_n hj, if_pos h2e]]; simp)
    · skip
      exact absurd hcd (by rw [show lm_oFirst (nI k) f (c, w, u, rt, z) = (1, (c, w, u, rt, z)) by unfold lm_oFirst; rw [lm_none_n hk, hnf]; rfl]; simp)
  · skip
    exact absurd hcd (by rw [show lm_oFirst r f (c, w, u, rt, z) = (1, (c, w, u, rt, z)) by unfold lm_oFirst; rw [hnr]; rfl]; simp)

set_option maxHeartbeats 4000000 in
set_option maxRecDepth 100000 in
theorem zX_first_1 (l : Launch) (K : lm_G) (x : Nat) (c : Nat → Nat) (w : Nat → lm_V) (u : Nat) (rt : Nat → lm_V) (z : Int32) (hst : lm_st c w u rt) (W : va_W) (hW : lm_obj K x (c, w, u, rt, z) W) (r f : Int32) (hcd : (lm_oFirst r f (c, w, u, rt, z)).1 = 1) : lm_CX l K mX3_first (rx 8) [.ref x, .int r, .int f] W eN (fun w9 => lm_obj K x (lm_oFirst r f (c, w, u, rt, z)).2 w9) := by
  obtain ⟨ro, kc, l0, il, ir, np, h, ca, co, h2, ca2, co2, mt, fo, ba, wa, cn, gr, fl, fi, fr, fn, mn, fa, ga, f2, g2, t2, ffo, fba, fwa, mm, fc, hh, hro, rfl⟩ := hW
  have hh : lm_hf fa ga c w u := hh
  have hro : ∀ r, r < 10 → gr r = en (rt r) := hro
  have hw := hst.1
  have hr9 := hst.2
  have hu := hw.1
  refine lx_metX RX3 pn_X3 rfl (Nat.le_of_ble_eq_true rfl) (fun E hE F X => ?_)
  have F : lx_F K 3 E cX3_first RX3 none (rx 8) := F
  show lx_W K 3 E 0 0 0 [(0, .ref x), (1, .int r), (2, .int f)] [] [(x, .inr (3, [.ref ro, .ref kc, .ref mt, .ref cn, .ref h, .ref h2, .int z])), (ro, aJ K 10 gr), (kc, .inr (0, [.ref l0, .ref il, .ref ir, .ref np, .int mn])), (l0, aI K 120 fl), (il, aI K 120 fi), (ir, aI K 120 fr), (np, aI K 120 fn), (h, .inr (1, [.ref ca, .ref co, .int (nI u)])), (ca, aI K 120 fa), (co, aJ K 120 ga), (h2, .inr (1, [.ref ca2, .ref co2, .int t2])), (ca2, aI K 120 f2), (co2, aJ K 120 g2), (mt, .inr (2, [.ref fo, .ref ba, .ref wa, .int mm])), (fo, aI K 120 ffo), (ba, aI K 120 fba), (wa, aI K 120 fwa), (cn, aI K 120 fc)]
  cases hnr : lm_none r
  · skip
    obtain ⟨k, hk, rfl⟩ := lm_none_f hnr
    cases hnf : lm_none f
    · skip
      obtain ⟨j, hj, rfl⟩ := lm_none_f hnf
      have hk3 := lm_ok_kind (hr9 j hj)
      by_cases h2e : (rt j).1 = 2
      · skip
        have hcl := lm_to_cl hw (hr9 j hj) h2e
        have hp1 := hcl.1
        exact absurd hcd (by rw [show lm_oFirst (nI k) (nI j) (c, w, u, rt, z) = (0, lm_set (c, w, u, rt, z) k (w (lm_to w (rt j)))) by unfold lm_oFirst; rw [lm_none_n hk, lm_none_n hj, if_neg (by decide), lm_ix_n hj, if_neg (show ¬ (rt j).1 ≠ 2 from fun z9 => z9 h2e), lm_ix_n hk]]; simp)
      · skip
        exact absurd hcd (by rw [show lm_oFirst (nI k) (nI j) (c, w, u, rt, z) = (2, (c, w, u, rt, z)) by unfold lm_oFirst; rw [lm_none_n hk, lm_none_n hj, if_neg (by decide), lm_ix_n hj, if_pos h2e]]; simp)
    · skip
      refine lx_iload_n F dX3_first_0 1 rfl ?_
      refine lx_iload_n F dX3_first_1 2 rfl ?_
      exact lx_csX F X (zX_cksx (xl E) K (nI k) f (by rw [lm_none_n hk, hnf]; rfl)) cs_X3_64 [] [0, 1, 2, 3, 4, 5, 6, 7, 8, 9, 10, 11, 12, 13, 14, 15, 16, 17] [(x, .inr (3, [.ref ro, .ref kc, .ref mt, .ref cn, .ref h, .ref h2, .int z])), (ro, aJ K 10 gr), (kc, .inr (0, [.ref l0, .ref il, .ref ir, .ref np, .int mn])), (l0, aI K 120 fl), (il, aI K 120 fi), (ir, aI K 120 fr), (np, aI K 120 fn), (h, .inr (1, [.ref ca, .ref co, .int (nI u)])), (ca, aI K 120 fa), (co, aJ K 120 ga), (h2, .inr (1, [.ref ca2, .ref co2, .int t2])), (ca2, aI K 120 f2), (co2, aJ K 120 g2), (mt, .inr (2, [.ref fo, .ref ba, .ref wa, .int mm])), (fo, aI K 120 ffo), (ba, aI K 120 fba), (wa, aI K 120 fwa), (cn, aI K 120 fc)] rfl rfl (by decide) rfl (st := []) rfl (Nat.le_of_ble_eq_true rfl) (by decide) ⟨by decide, by decide⟩ dX3_first_2 (fun w9 h9 => by subst h9; exact (by show lm_obj K x _ _; rw [show lm_oFirst (nI k) f (c, w, u, rt, z) = (1, (c, w, u, rt, z)) by unfold lm_oFirst; rw [lm_none_n hk, hnf]; rfl]; exact ⟨_, _, _, _, _, _, _, _, _, _, _, _, _, _, _, _, _, _, _, _, _, _, _, _, _, _, _, _, _, _, _, _, _, hh, hro, rfl⟩))
  · skip
    refine lx_iload_n F dX3_first_0 1 rfl ?_
    refine lx_iload_n F dX3_first_1 2 rfl ?_
    exact lx_csX F X (zX_cksx (xl E) K r f (by rw [hnr]; rfl)) cs_X3_64 [] [0, 1, 2, 3, 4, 5, 6, 7, 8, 9, 10, 11, 12, 13, 14, 15, 16, 17] [(x, .inr (3, [.ref ro, .ref kc, .ref mt, .ref cn, .ref h, .ref h2, .int z])), (ro, aJ K 10 gr), (kc, .inr (0, [.ref l0, .ref il, .ref ir, .ref np, .int mn])), (l0, aI K 120 fl), (il, aI K 120 fi), (ir, aI K 120 fr), (np, aI K 120 fn), (h, .inr (1, [.ref ca, .ref co, .int (nI u)])), (ca, aI K 120 fa), (co, aJ K 120 ga), (h2, .inr (1, [.ref ca2, .ref co2, .int t2])), (ca2, aI K 120 f2), (co2, aJ K 120 g2), (mt, .inr (2, [.ref fo, .ref ba, .ref wa, .int mm])), (fo, aI K 120 ffo), (ba, aI K 120 fba), (wa, aI K 120 fwa), (cn, aI K 120 fc)] rfl rfl (by decide) rfl (st := []) rfl (Nat.le_of_ble_eq_true rfl) (by decide) ⟨by decide, by decide⟩ dX3_first_2 (fun w9 h9 => by subst h9; exact (by show lm_obj K x _ _; rw [show lm_oFirst r f (c, w, u, rt, z) = (1, (c, w, u, rt, z)) by unfold lm_oFirst; rw [hnr]; rfl]; exact ⟨_, _, _, _, _, _, _, _, _, _, _, _, _, _, _, _, _, _, _, _, _, _, _, _, _, _, _, _, _, _, _, _, _, hh, hro, rfl⟩))

set_option maxHeartbeats 4000000 in
set_option maxRecDepth 100000 in
theorem zX_first_2 (l : Launch) (K : lm_G) (x : Nat) (c : Nat → Nat) (w : Nat → lm_V) (u : Nat) (rt : Nat → lm_V) (z : Int32) (hst : lm_st c w u rt) (W : va_W) (hW : lm_obj K x (c, w, u, rt, z) W) (r f : Int32) (hcd : (lm_oFirst r f (c, w, u, rt, z)).1 = 2) : lm_CX l K mX3_first (rx 8) [.ref x, .int r, .int f] W eS (fun w9 => lm_obj K x (lm_oFirst r f (c, w, u, rt, z)).2 w9) := by
  obtain ⟨ro, kc, l0, il, ir, np, h, ca, co, h2, ca2, co2, mt, fo, ba, wa, cn, gr, fl, fi, fr, fn, mn, fa, ga, f2, g2, t2, ffo, fba, fwa, mm, fc, hh, hro, rfl⟩ := hW
  have hh : lm_hf fa ga c w u := hh
  have hro : ∀ r, r < 10 → gr r = en (rt r) := hro
  have hw := hst.1
  have hr9 := hst.2
  have hu := hw.1
  refine lx_metX RX3 pn_X3 rfl (Nat.le_of_ble_eq_true rfl) (fun E hE F X => ?_)
  have F : lx_F K 3 E cX3_first RX3 none (rx 8) := F
  show lx_W K 3 E 0 0 0 [(0, .ref x), (1, .int r), (2, .int f)] [] [(x, .inr (3, [.ref ro, .ref kc, .ref mt, .ref cn, .ref h, .ref h2, .int z])), (ro, aJ K 10 gr), (kc, .inr (0, [.ref l0, .ref il, .ref ir, .ref np, .int mn])), (l0, aI K 120 fl), (il, aI K 120 fi), (ir, aI K 120 fr), (np, aI K 120 fn), (h, .inr (1, [.ref ca, .ref co, .int (nI u)])), (ca, aI K 120 fa), (co, aJ K 120 ga), (h2, .inr (1, [.ref ca2, .ref co2, .int t2])), (ca2, aI K 120 f2), (co2, aJ K 120 g2), (mt, .inr (2, [.ref fo, .ref ba, .ref wa, .int mm])), (fo, aI K 120 ffo), (ba, aI K 120 fba), (wa, aI K 120 fwa), (cn, aI K 120 fc)]
  cases hnr : lm_none r
  · skip
    obtain ⟨k, hk, rfl⟩ := lm_none_f hnr
    cases hnf : lm_none f
    · skip
      obtain ⟨j, hj, rfl⟩ := lm_none_f hnf
      have hk3 := lm_ok_kind (hr9 j hj)
      by_cases h2e : (rt j).1 = 2
      · skip
        have hcl := lm_to_cl hw (hr9 j hj) h2e
        have hp1 := hcl.1
        exact absurd hcd (by rw [show lm_oFirst (nI k) (nI j) (c, w, u, rt, z) = (0, lm_set (c, w, u, rt, z) k (w (lm_to w (rt j)))) by unfold lm_oFirst; rw [lm_none_n hk, lm_none_n hj, if_neg (by decide), lm_ix_n hj, if_neg (show ¬ (rt j).1 ≠ 2 from fun z9 => z9 h2e), lm_ix_n hk]]; simp)
      · skip
        refine lx_iload_n F dX3_first_0 1 rfl ?_
        refine lx_iload_n F dX3_first_1 2 rfl ?_
        refine lx_cs F (zX_cks (xl E) K k j hk hj) cs_X3_64 [] [0, 1, 2, 3, 4, 5, 6, 7, 8, 9, 10, 11, 12, 13, 14, 15, 16, 17] [(x, .inr (3, [.ref ro, .ref kc, .ref mt, .ref cn, .ref h, .ref h2, .int z])), (ro, aJ K 10 gr), (kc, .inr (0, [.ref l0, .ref il, .ref ir, .ref np, .int mn])), (l0, aI K 120 fl), (il, aI K 120 fi), (ir, aI K 120 fr), (np, aI K 120 fn), (h, .inr (1, [.ref ca, .ref co, .int (nI u)])), (ca, aI K 120 fa), (co, aJ K 120 ga), (h2, .inr (1, [.ref ca2, .ref co2, .int t2])), (ca2, aI K 120 f2), (co2, aJ K 120 g2), (mt, .inr (2, [.ref fo, .ref ba, .ref wa, .int mm])), (fo, aI K 120 ffo), (ba, aI K 120 fba), (wa, aI K 120 fwa), (cn, aI K 120 fc)] rfl rfl (by decide) rfl (st := []) rfl (Nat.le_of_ble_eq_true rfl) (by decide) ⟨by decide, by decide⟩ dX3_first_2 (fun v9 w9 h9 => ?_)
        obtain ⟨rfl, rfl⟩ := h9
        refine lx_perm [0, 1, 2, 3, 4, 5, 6, 7, 8, 9, 10, 11, 12, 13, 14, 15, 16, 17] [(x, .inr (3, [.ref ro, .ref kc, .ref mt, .ref cn, .ref h, .ref h2, .int z])), (ro, aJ K 10 gr), (kc, .inr (0, [.ref l0, .ref il, .ref ir, .ref np, .int mn])), (l0, aI K 120 fl), (il, aI K 120 fi), (ir, aI K 120 fr), (np, aI K 120 fn), (h, .inr (1, [.ref ca, .ref co, .int (nI u)])), (ca, aI K 120 fa), (co, aJ K 120 ga), (h2, .inr (1, [.ref ca2, .ref co2, .int t2])), (ca2, aI K 120 f2), (co2, aJ K 120 g2), (mt, .inr (2, [.ref fo, .ref ba, .ref wa, .int mm])), (fo, aI K 120 ffo), (ba, aI K 120 fba), (wa, aI K 120 fwa), (cn, aI K 120 fc)] (by decide) rfl ?_
        refine lx_st (a' := 0) (b' := 0) [] rfl rfl rfl ?_
        refine lx_aload_n F dX3_first_5 0 rfl ?_
        refine lx_iload_n F dX3_first_6 2 rfl ?_
        exact lx_cvXP F X (zX_ckpx (xl E) K x ro kc mt cn h h2 z gr j hj (rt j) (hro j hj) (by omega) h2e) cv_X3_84 0 rfl rfl [0, 1] [2, 3, 4, 5, 6, 7, 8, 9, 10, 11, 12, 13, 14, 15, 16, 17] [(kc, .inr (0, [.ref l0, .ref il, .ref ir, .ref np, .int mn])), (l0, aI K 120 fl), (il, aI K 120 fi), (ir, aI K 120 fr), (np, aI K 120 fn), (h, .inr (1, [.ref ca, .ref co, .int (nI u)])), (ca, aI K 120 fa), (co, aJ K 120 ga), (h2, .inr (1, [.ref ca2, .ref co2, .int t2])), (ca2, aI K 120 f2), (co2, aJ K 120 g2), (mt, .inr (2, [.ref fo, .ref ba, .ref wa, .int mm])), (fo, aI K 120 ffo), (ba, aI K 120 fba), (wa, aI K 120 fwa), (cn, aI K 120 fc)] rfl rfl (by decide) rfl (st := []) rfl (Nat.le_of_ble_eq_true rfl) (by decide) ⟨by decide, by decide⟩ dX3_first_7 [16, 17, 0, 1, 2, 3, 4, 5, 6, 7, 8, 9, 10, 11, 12, 13, 14, 15] [(x, .inr (3, [.ref ro, .ref kc, .ref mt, .ref cn, .ref h, .ref h2, .int z])), (ro, aJ K 10 gr), (kc, .inr (0, [.ref l0, .ref il, .ref ir, .ref np, .int mn])), (l0, aI K 120 fl), (il, aI K 120 fi), (ir, aI K 120 fr), (np, aI K 120 fn), (h, .inr (1, [.ref ca, .ref co, .int (nI u)])), (ca, aI K 120 fa), (co, aJ K 120 ga), (h2, .inr (1, [.ref ca2, .ref co2, .int t2])), (ca2, aI K 120 f2), (co2, aJ K 120 g2), (mt, .inr (2, [.ref fo, .ref ba, .ref wa, .int mm])), (fo, aI K 120 ffo), (ba, aI K 120 fba), (wa, aI K 120 fwa), (cn, aI K 120 fc)] (by decide) (fun w9 h9 => ⟨by subst h9; rfl, by show lm_obj K x _ _; rw [show lm_oFirst (nI k) (nI j) (c, w, u, rt, z) = (2, (c, w, u, rt, z)) by unfold lm_oFirst; rw [lm_none_n hk, lm_none_n hj, if_neg (by decide), lm_ix_n hj, if_pos h2e]]; exact ⟨_, _, _, _, _, _, _, _, _, _, _, _, _, _, _, _, _, _, _, _, _, _, _, _, _, _, _, _, _, _, _, _, _, hh, hro, rfl⟩⟩)
    · skip
      exact absurd hcd (by rw [show lm_oFirst (nI k) f (c, w, u, rt, z) = (1, (c, w, u, rt, z)) by unfold lm_oFirst; rw [lm_none_n hk, hnf]; rfl]; simp)
  · skip
    exact absurd hcd (by rw [show lm_oFirst r f (c, w, u, rt, z) = (1, (c, w, u, rt, z)) by unfold lm_oFirst; rw [hnr]; rfl]; simp)

set_option maxHeartbeats 4000000 in
set_option maxRecDepth 100000 in
theorem zX_rest_0 (l : Launch) (K : lm_G) (x : Nat) (c : Nat → Nat) (w : Nat → lm_V) (u : Nat) (rt : Nat → lm_V) (z : Int32) (hst : lm_st c w u rt) (W : va_W) (hW : lm_obj K x (c, w, u, rt, z) W) (r f : Int32) (hcd : (lm_oRest r f (c, w, u, rt, z)).1 = 0) : lm_C l K mX3_rest (rk 6) [.ref x, .int r, .int f] W (fun v9 w9 => v9 = none ∧ lm_obj K x (lm_oRest r f (c, w, u, rt, z)).2 w9) := by
  obtain ⟨ro, kc, l0, il, ir, np, h, ca, co, h2, ca2, co2, mt, fo, ba, wa, cn, gr, fl, fi, fr, fn, mn, fa, ga, f2, g2, t2, ffo, fba, fwa, mm, fc, hh, hro, rfl⟩ := hW
  have hh : lm_hf fa ga c w u := hh
  have hro : ∀ r, r < 10 → gr r = en (rt r) := hro
  have hw := hst.1
  have hr9 := hst.2
  have hu := hw.1
  refine lx_met RX3 pn_X3 rfl (Nat.le_of_ble_eq_true rfl) (fun E hE hnm F hR => ?_)
  have F : lx_F K 3 E cX3_rest RX3 none (rk 6) := F
  show lx_W K 3 E 0 0 0 [(0, .ref x), (1, .int r), (2, .int f)] [] [(x, .inr (3, [.ref ro, .ref kc, .ref mt, .ref cn, .ref h, .ref h2, .int z])), (ro, aJ K 10 gr), (kc, .inr (0, [.ref l0, .ref il, .ref ir, .ref np, .int mn])), (l0, aI K 120 fl), (il, aI K 120 fi), (ir, aI K 120 fr), (np, aI K 120 fn), (h, .inr (1, [.ref ca, .ref co, .int (nI u)])), (ca, aI K 120 fa), (co, aJ K 120 ga), (h2, .inr (1, [.ref ca2, .ref co2, .int t2])), (ca2, aI K 120 f2), (co2, aJ K 120 g2), (mt, .inr (2, [.ref fo, .ref ba, .ref wa, .int mm])), (fo, aI K 120 ffo), (ba, aI K 120 fba), (wa, aI K 120 fwa), (cn, aI K 120 fc)]
  cases hnr : lm_none r
  · skip
    obtain ⟨k, hk, rfl⟩ := lm_none_f hnr
    cases hnf : lm_none f
    · skip
      obtain ⟨j, hj, rfl⟩ := lm_none_f hnf
      have hk3 := lm_ok_kind (hr9 j hj)
      by_cases h2e : (rt j).1 = 2
      · skip
        have hcl := lm_to_cl hw (hr9 j hj) h2e
        have hp1 := hcl.1
        refine lx_iload_n F dX3_rest_0 1 rfl ?_
        refine lx_iload_n F dX3_rest_1 2 rfl ?_
        refine lx_cs F (zX_cks (xl E) K k j hk hj) cs_X3_64 [] [0, 1, 2, 3, 4, 5, 6, 7, 8, 9, 10, 11, 12, 13, 14, 15, 16, 17] [(x, .inr (3, [.ref ro, .ref kc, .ref mt, .ref cn, .ref h, .ref h2, .int z])), (ro, aJ K 10 gr), (kc, .inr (0, [.ref l0, .ref il, .ref ir, .ref np, .int mn])), (l0, aI K 120 fl), (il, aI K 120 fi), (ir, aI K 120 fr), (np, aI K 120 fn), (h, .inr (1, [.ref ca, .ref co, .int (nI u)])), (ca, aI K 120 fa), (co, aJ K 120 ga), (h2, .inr (1, [.ref ca2, .ref co2, .int t2])), (ca2, aI K 120 f2), (co2, aJ K 120 g2), (mt, .inr (2, [.ref fo, .ref ba, .ref wa, .int mm])), (fo, aI K 120 ffo), (ba, aI K 120 fba), (wa, aI K 120 fwa), (cn, aI K 120 fc)] rfl rfl (by decide) rfl (st := []) rfl (Nat.le_of_ble_eq_true rfl) (by decide) ⟨by decide, by decide⟩ dX3_rest_2 (fun v9 w9 h9 => ?_)
        obtain ⟨rfl, rfl⟩ := h9
        refine lx_perm [0, 1, 2, 3, 4, 5, 6, 7, 8, 9, 10, 11, 12, 13, 14, 15, 16, 17] [(x, .inr (3, [.ref ro, .ref kc, .ref mt, .ref cn, .ref h, .ref h2, .int z])), (ro, aJ K 10 gr), (kc, .inr (0, [.ref l0, .ref il, .ref ir, .ref np, .int mn])), (l0, aI K 120 fl), (il, aI K 120 fi), (ir, aI K 120 fr), (np, aI K 120 fn), (h, .inr (1, [.ref ca, .ref co, .int (nI u)])), (ca, aI K 120 fa), (co, aJ K 120 ga), (h2, .inr (1, [.ref ca2, .ref co2, .int t2])), (ca2, aI K 120 f2), (co2, aJ K 120 g2), (mt, .inr (2, [.ref fo, .ref ba, .ref wa, .int mm])), (fo, aI K 120 ffo), (ba, aI K 120 fba), (wa, aI K 120 fwa), (cn, aI K 120 fc)] (by decide) rfl ?_
        refine lx_st (a' := 0) (b' := 0) [] rfl rfl rfl ?_
        refine lx_aload_n F dX3_rest_5 0 rfl ?_
        refine lx_iload_n F dX3_rest_6 2 rfl ?_
        refine lx_cv F (zX_ckp (xl E) K x ro kc mt cn h h2 z gr j hj (rt j) (hro j hj) (by omega) h2e) cv_X3_84 0 rfl rfl [0, 1] [2, 3, 4, 5, 6, 7, 8, 9, 10, 11, 12, 13, 14, 15, 16, 17] [(kc, .inr (0, [.ref l0, .ref il, .ref ir, .ref np, .int mn])), (l0, aI K 120 fl), (il, aI K 120 fi), (ir, aI K 120 fr), (np, aI K 120 fn), (h, .inr (1, [.ref ca, .ref co, .int (nI u)])), (ca, aI K 120 fa), (co, aJ K 120 ga), (h2, .inr (1, [.ref ca2, .ref co2, .int t2])), (ca2, aI K 120 f2), (co2, aJ K 120 g2), (mt, .inr (2, [.ref fo, .ref ba, .ref wa, .int mm])), (fo, aI K 120 ffo), (ba, aI K 120 fba), (wa, aI K 120 fwa), (cn, aI K 120 fc)] rfl rfl (by decide) rfl (st := []) rfl (Nat.le_of_ble_eq_true rfl) (by decide) ⟨by decide, by decide⟩ dX3_rest_7 (fun v9 w9 h9 => ?_)
        obtain ⟨rfl, rfl⟩ := h9
        refine lx_perm [16, 17, 0, 1, 2, 3, 4, 5, 6, 7, 8, 9, 10, 11, 12, 13, 14, 15] [(x, .inr (3, [.ref ro, .ref kc, .ref mt, .ref cn, .ref h, .ref h2, .int z])), (ro, aJ K 10 gr), (kc, .inr (0, [.ref l0, .ref il, .ref ir, .ref np, .int mn])), (l0, aI K 120 fl), (il, aI K 120 fi), (ir, aI K 120 fr), (np, aI K 120 fn), (h, .inr (1, [.ref ca, .ref co, .int (nI u)])), (ca, aI K 120 fa), (co, aJ K 120 ga), (h2, .inr (1, [.ref ca2, .ref co2, .int t2])), (ca2, aI K 120 f2), (co2, aJ K 120 g2), (mt, .inr (2, [.ref fo, .ref ba, .ref wa, .int mm])), (fo, aI K 120 ffo), (ba, aI K 120 fba), (wa, aI K 120 fwa), (cn, aI K 120 fc)] (by decide) rfl ?_
        refine lx_st (a' := 0) (b' := 0) [] rfl rfl rfl ?_
        refine lx_aload_n F dX3_rest_10 0 rfl ?_
        refine gf_X3_9 F 0 rfl rfl dX3_rest_11 ?_
        refine lx_iload_n F dX3_rest_14 1 rfl ?_
        refine lx_aload_n F dX3_rest_15 0 rfl ?_
        refine gf_X3_34 F 0 rfl rfl dX3_rest_16 ?_
        refine lx_aload_n F dX3_rest_19 0 rfl ?_
        refine gf_X3_34 F 0 rfl rfl dX3_rest_20 ?_
        refine lx_aload_n F dX3_rest_23 0 rfl ?_
        refine gf_X3_9 F 0 rfl rfl dX3_rest_24 ?_
        refine lx_iload_n F dX3_rest_27 2 rfl ?_
        refine lx_lald F 1 j dX3_rest_28 rfl (by omega) (by decide) ?_
        rw [hro j hj]
        refine lx_cv F (zh_cellOf (xl E) K h ca co fa ga (nI u) c w u hw hh (rt j) (hr9 j hj) h2e) cv_X3_87 7 rfl rfl [7, 8, 9] [0, 1, 2, 3, 4, 5, 6, 10, 11, 12, 13, 14, 15, 16, 17] [(x, .inr (3, [.ref ro, .ref kc, .ref mt, .ref cn, .ref h, .ref h2, .int z])), (ro, aJ K 10 gr), (kc, .inr (0, [.ref l0, .ref il, .ref ir, .ref np, .int mn])), (l0, aI K 120 fl), (il, aI K 120 fi), (ir, aI K 120 fr), (np, aI K 120 fn), (h2, .inr (1, [.ref ca2, .ref co2, .int t2])), (ca2, aI K 120 f2), (co2, aJ K 120 g2), (mt, .inr (2, [.ref fo, .ref ba, .ref wa, .int mm])), (fo, aI K 120 ffo), (ba, aI K 120 fba), (wa, aI K 120 fwa), (cn, aI K 120 fc)] rfl rfl (by decide) rfl (st := [.ref h, .int (nI k), .ref ro]) rfl (Nat.le_of_ble_eq_true rfl) (by decide) ⟨by decide, by decide⟩ dX3_rest_29 (fun v9 w9 h9 => ?_)
        obtain ⟨rfl, rfl⟩ := h9
        refine lx_perm [0, 1, 2, 3, 4, 5, 6, 15, 16, 17, 7, 8, 9, 10, 11, 12, 13, 14] [(x, .inr (3, [.ref ro, .ref kc, .ref mt, .ref cn, .ref h, .ref h2, .int z])), (ro, aJ K 10 gr), (kc, .inr (0, [.ref l0, .ref il, .ref ir, .ref np, .int mn])), (l0, aI K 120 fl), (il, aI K 120 fi), (ir, aI K 120 fr), (np, aI K 120 fn), (h, .inr (1, [.ref ca, .ref co, .int (nI u)])), (ca, aI K 120 fa), (co, aJ K 120 ga), (h2, .inr (1, [.ref ca2, .ref co2, .int t2])), (ca2, aI K 120 f2), (co2, aJ K 120 g2), (mt, .inr (2, [.ref fo, .ref ba, .ref wa, .int mm])), (fo, aI K 120 ffo), (ba, aI K 120 fba), (wa, aI K 120 fwa), (cn, aI K 120 fc)] (by decide) rfl ?_
        refine lx_st (a' := 0) (b' := 0) [.int (nI (lm_to w (rt j))), .ref h, .int (nI k), .ref ro] rfl rfl rfl ?_
        refine lx_cv F (zh_restOf (xl E) K h ca co fa ga (nI u) c w u hw hh (lm_to w (rt j)) hcl) cv_X3_95 7 rfl rfl [7, 8, 9] [0, 1, 2, 3, 4, 5, 6, 10, 11, 12, 13, 14, 15, 16, 17] [(x, .inr (3, [.ref ro, .ref kc, .ref mt, .ref cn, .ref h, .ref h2, .int z])), (ro, aJ K 10 gr), (kc, .inr (0, [.ref l0, .ref il, .ref ir, .ref np, .int mn])), (l0, aI K 120 fl), (il, aI K 120 fi), (ir, aI K 120 fr), (np, aI K 120 fn), (h2, .inr (1, [.ref ca2, .ref co2, .int t2])), (ca2, aI K 120 f2), (co2, aJ K 120 g2), (mt, .inr (2, [.ref fo, .ref ba, .ref wa, .int mm])), (fo, aI K 120 ffo), (ba, aI K 120 fba), (wa, aI K 120 fwa), (cn, aI K 120 fc)] rfl rfl (by decide) rfl (st := [.int (nI k), .ref ro]) rfl (Nat.le_of_ble_eq_true rfl) (by decide) ⟨by decide, by decide⟩ dX3_rest_32 (fun v9 w9 h9 => ?_)
        obtain ⟨rfl, rfl⟩ := h9
        refine lx_perm [0, 1, 2, 3, 4, 5, 6, 15, 16, 17, 7, 8, 9, 10, 11, 12, 13, 14] [(x, .inr (3, [.ref ro, .ref kc, .ref mt, .ref cn, .ref h, .ref h2, .int z])), (ro, aJ K 10 gr), (kc, .inr (0, [.ref l0, .ref il, .ref ir, .ref np, .int mn])), (l0, aI K 120 fl), (il, aI K 120 fi), (ir, aI K 120 fr), (np, aI K 120 fn), (h, .inr (1, [.ref ca, .ref co, .int (nI u)])), (ca, aI K 120 fa), (co, aJ K 120 ga), (h2, .inr (1, [.ref ca2, .ref co2, .int t2])), (ca2, aI K 120 f2), (co2, aJ K 120 g2), (mt, .inr (2, [.ref fo, .ref ba, .ref wa, .int mm])), (fo, aI K 120 ffo), (ba, aI K 120 fba), (wa, aI K 120 fwa), (cn, aI K 120 fc)] (by decide) rfl ?_
        refine lx_st (a' := 0) (b' := 0) [.long (en (lm_rest c w (lm_to w (rt j)))), .int (nI k), .ref ro] rfl rfl rfl ?_
        refine lx_last F 1 k [(x, .inr (3, [.ref ro, .ref kc, .ref mt, .ref cn, .ref h, .ref h2, .int z])), (ro, aJ K 10 (lm_up gr k (en (lm_rest c w (lm_to w (rt j)))))), (kc, .inr (0, [.ref l0, .ref il, .ref ir, .ref np, .int mn])), (l0, aI K 120 fl), (il, aI K 120 fi), (ir, aI K 120 fr), (np, aI K 120 fn), (h, .inr (1, [.ref ca, .ref co, .int (nI u)])), (ca, aI K 120 fa), (co, aJ K 120 ga), (h2, .inr (1, [.ref ca2, .ref co2, .int t2])), (ca2, aI K 120 f2), (co2, aJ K 120 g2), (mt, .inr (2, [.ref fo, .ref ba, .ref wa, .int mm])), (fo, aI K 120 ffo), (ba, aI K 120 fba), (wa, aI K 120 fwa), (cn, aI K 120 fc)] dX3_rest_35 rfl (by omega) (by decide) rfl ?_
        exact lx_vret F hR dX3_rest_36 ⟨rfl, by rw [show lm_oRest (nI k) (nI j) (c, w, u, rt, z) = (0, lm_set (c, w, u, rt, z) k (lm_rest c w (lm_to w (rt j)))) by unfold lm_oRest; rw [lm_none_n hk, lm_none_n hj, if_neg (by decide), lm_ix_n hj, if_neg (show ¬ (rt j).1 ≠ 2 from fun z9 => z9 h2e), lm_ix_n hk]]; exact ⟨_, _, _, _, _, _, _, _, _, _, _, _, _, _, _, _, _, _, _, _, _, _, _, _, _, _, _, _, _, _, _, _, _, hh, (lm_rc_up (v := lm_rest c w (lm_to w (rt j))) hro), rfl⟩⟩
      · skip
        exact absurd hcd (by rw [show lm_oRest (nI k) (nI j) (c, w, u, rt, z) = (2, (c, w, u, rt, z)) by unfold lm_oRest; rw [lm_none_n hk, lm_none_n hj, if_neg (by decide), lm_ix_n hj, if_pos h2e]]; simp)
    · skip
      exact absurd hcd (by rw [show lm_oRest (nI k) f (c, w, u, rt, z) = (1, (c, w, u, rt, z)) by unfold lm_oRest; rw [lm_none_n hk, hnf]; rfl]; simp)
  · skip
    exact absurd hcd (by rw [show lm_oRest r f (c, w, u, rt, z) = (1, (c, w, u, rt, z)) by unfold lm_oRest; rw [hnr]; rfl]; simp)

set_option maxHeartbeats 4000000 in
set_option maxRecDepth 100000 in
theorem zX_rest_1 (l : Launch) (K : lm_G) (x : Nat) (c : Nat → Nat) (w : Nat → lm_V) (u : Nat) (rt : Nat → lm_V) (z : Int32) (hst : lm_st c w u rt) (W : va_W) (hW : lm_obj K x (c, w, u, rt, z) W) (r f : Int32) (hcd : (lm_oRest r f (c, w, u, rt, z)).1 = 1) : lm_CX l K mX3_rest (rx 8) [.ref x, .int r, .int f] W eN (fun w9 => lm_obj K x (lm_oRest r f (c, w, u, rt, z)).2 w9) := by
  obtain ⟨ro, kc, l0, il, ir, np, h, ca, co, h2, ca2, co2, mt, fo, ba, wa, cn, gr, fl, fi, fr, fn, mn, fa, ga, f2, g2, t2, ffo, fba, fwa, mm, fc, hh, hro, rfl⟩ := hW
  have hh : lm_hf fa ga c w u := hh
  have hro : ∀ r, r < 10 → gr r = en (rt r) := hro
  have hw := hst.1
  have hr9 := hst.2
  have hu := hw.1
  refine lx_metX RX3 pn_X3 rfl (Nat.le_of_ble_eq_true rfl) (fun E hE F X => ?_)
  have F : lx_F K 3 E cX3_rest RX3 none (rx 8) := F
  show lx_W K 3 E 0 0 0 [(0, .ref x), (1, .int r), (2, .int f)] [] [(x, .inr (3, [.ref ro, .ref kc, .ref mt, .ref cn, .ref h, .ref h2, .int z])), (ro, aJ K 10 gr), (kc, .inr (0, [.ref l0, .ref il, .ref ir, .ref np, .int mn])), (l0, aI K 120 fl), (il, aI K 120 fi), (ir, aI K 120 fr), (np, aI K 120 fn), (h, .inr (1, [.ref ca, .ref co, .int (nI u)])), (ca, aI K 120 fa), (co, aJ K 120 ga), (h2, .inr (1, [.ref ca2, .ref co2, .int t2])), (ca2, aI K 120 f2), (co2, aJ K 120 g2), (mt, .inr (2, [.ref fo, .ref ba, .ref wa, .int mm])), (fo, aI K 120 ffo), (ba, aI K 120 fba), (wa, aI K 120 fwa), (cn, aI K 120 fc)]
  cases hnr : lm_none r
  · skip
    obtain ⟨k, hk, rfl⟩ := lm_none_f hnr
    cases hnf : lm_none f
    · skip
      obtain ⟨j, hj, rfl⟩ := lm_none_f hnf
      have hk3 := lm_ok_kind (hr9 j hj)
      by_cases h2e : (rt j).1 = 2
      · skip
        have hcl := lm_to_cl hw (hr9 j hj) h2e
        have hp1 := hcl.1
        exact absurd hcd (by rw [show lm_oRest (nI k) (nI j) (c, w, u, rt, z) = (0, lm_set (c, w, u, rt, z) k (lm_rest c w (lm_to w (rt j)))) by unfold lm_oRest; rw [lm_none_n hk, lm_none_n hj, if_neg (by decide), lm_ix_n hj, if_neg (show ¬ (rt j).1 ≠ 2 from fun z9 => z9 h2e), lm_ix_n hk]]; simp)
      · skip
        exact absurd hcd (by rw [show lm_oRest (nI k) (nI j) (c, w, u, rt, z) = (2, (c, w, u, rt, z)) by unfold lm_oRest; rw [lm_none_n hk, lm_none_n hj, if_neg (by decide), lm_ix_n hj, if_pos h2e]]; simp)
    · skip
      refine lx_iload_n F dX3_rest_0 1 rfl ?_
      refine lx_iload_n F dX3_rest_1 2 rfl ?_
      exact lx_csX F X (zX_cksx (xl E) K (nI k) f (by rw [lm_none_n hk, hnf]; rfl)) cs_X3_64 [] [0, 1, 2, 3, 4, 5, 6, 7, 8, 9, 10, 11, 12, 13, 14, 15, 16, 17] [(x, .inr (3, [.ref ro, .ref kc, .ref mt, .ref cn, .ref h, .ref h2, .int z])), (ro, aJ K 10 gr), (kc, .inr (0, [.ref l0, .ref il, .ref ir, .ref np, .int mn])), (l0, aI K 120 fl), (il, aI K 120 fi), (ir, aI K 120 fr), (np, aI K 120 fn), (h, .inr (1, [.ref ca, .ref co, .int (nI u)])), (ca, aI K 120 fa), (co, aJ K 120 ga), (h2, .inr (1, [.ref ca2, .ref co2, .int t2])), (ca2, aI K 120 f2), (co2, aJ K 120 g2), (mt, .inr (2, [.ref fo, .ref ba, .ref wa, .int mm])), (fo, aI K 120 ffo), (ba, aI K 120 fba), (wa, aI K 120 fwa), (cn, aI K 120 fc)] rfl rfl (by decide) rfl (st := []) rfl (Nat.le_of_ble_eq_true rfl) (by decide) ⟨by decide, by decide⟩ dX3_rest_2 (fun w9 h9 => by subst h9; exact (by show lm_obj K x _ _; rw [show lm_oRest (nI k) f (c, w, u, rt, z) = (1, (c, w, u, rt, z)) by unfold lm_oRest; rw [lm_none_n hk, hnf]; rfl]; exact ⟨_, _, _, _, _, _, _, _, _, _, _, _, _, _, _, _, _, _, _, _, _, _, _, _, _, _, _, _, _, _, _, _, _, hh, hro, rfl⟩))
  · skip
    refine lx_iload_n F dX3_rest_0 1 rfl ?_
    refine lx_iload_n F dX3_rest_1 2 rfl ?_
    exact lx_csX F X (zX_cksx (xl E) K r f (by rw [hnr]; rfl)) cs_X3_64 [] [0, 1, 2, 3, 4, 5, 6, 7, 8, 9, 10, 11, 12, 13, 14, 15, 16, 17] [(x, .inr (3, [.ref ro, .ref kc, .ref mt, .ref cn, .ref h, .ref h2, .int z])), (ro, aJ K 10 gr), (kc, .inr (0, [.ref l0, .ref il, .ref ir, .ref np, .int mn])), (l0, aI K 120 fl), (il, aI K 120 fi), (ir, aI K 120 fr), (np, aI K 120 fn), (h, .inr (1, [.ref ca, .ref co, .int (nI u)])), (ca, aI K 120 fa), (co, aJ K 120 ga), (h2, .inr (1, [.ref ca2, .ref co2, .int t2])), (ca2, aI K 120 f2), (co2, aJ K 120 g2), (mt, .inr (2, [.ref fo, .ref ba, .ref wa, .int mm])), (fo, aI K 120 ffo), (ba, aI K 120 fba), (wa, aI K 120 fwa), (cn, aI K 120 fc)] rfl rfl (by decide) rfl (st := []) rfl (Nat.le_of_ble_eq_true rfl) (by decide) ⟨by decide, by decide⟩ dX3_rest_2 (fun w9 h9 => by subst h9; exact (by show lm_obj K x _ _; rw [show lm_oRest r f (c, w, u, rt, z) = (1, (c, w, u, rt, z)) by unfold lm_oRest; rw [hnr]; rfl]; exact ⟨_, _, _, _, _, _, _, _, _, _, _, _, _, _, _, _, _, _, _, _, _, _, _, _, _, _, _, _, _, _, _, _, _, hh, hro, rfl⟩))

set_option maxHeartbeats 4000000 in
set_option maxRecDepth 100000 in
theorem zX_rest_2 (l : Launch) (K : lm_G) (x : Nat) (c : Nat → Nat) (w : Nat → lm_V) (u : Nat) (rt : Nat → lm_V) (z : Int32) (hst : lm_st c w u rt) (W : va_W) (hW : lm_obj K x (c, w, u, rt, z) W) (r f : Int32) (hcd : (lm_oRest r f (c, w, u, rt, z)).1 = 2) : lm_CX l K mX3_rest (rx 8) [.ref x, .int r, .int f] W eS (fun w9 => lm_obj K x (lm_oRest r f (c, w, u, rt, z)).2 w9) := by
  obtain ⟨ro, kc, l0, il, ir, np, h, ca, co, h2, ca2, co2, mt, fo, ba, wa, cn, gr, fl, fi, fr, fn, mn, fa, ga, f2, g2, t2, ffo, fba, fwa, mm, fc, hh, hro, rfl⟩ := hW
  have hh : lm_hf fa ga c w u := hh
  have hro : ∀ r, r < 10 → gr r = en (rt r) := hro
  have hw := hst.1
  have hr9 := hst.2
  have hu := hw.1
  refine lx_metX RX3 pn_X3 rfl (Nat.le_of_ble_eq_true rfl) (fun E hE F X => ?_)
  have F : lx_F K 3 E cX3_rest RX3 none (rx 8) := F
  show lx_W K 3 E 0 0 0 [(0, .ref x), (1, .int r), (2, .int f)] [] [(x, .inr (3, [.ref ro, .ref kc, .ref mt, .ref cn, .ref h, .ref h2, .int z])), (ro, aJ K 10 gr), (kc, .inr (0, [.ref l0, .ref il, .ref ir, .ref np, .int mn])), (l0, aI K 120 fl), (il, aI K 120 fi), (ir, aI K 120 fr), (np, aI K 120 fn), (h, .inr (1, [.ref ca, .ref co, .int (nI u)])), (ca, aI K 120 fa), (co, aJ K 120 ga), (h2, .inr (1, [.ref ca2, .ref co2, .int t2])), (ca2, aI K 120 f2), (co2, aJ K 120 g2), (mt, .inr (2, [.ref fo, .ref ba, .ref wa, .int mm])), (fo, aI K 120 ffo), (ba, aI K 120 fba), (wa, aI K 120 fwa), (cn, aI K 120 fc)]
  cases hnr : lm_none r
  · skip
    obtain ⟨k, hk, rfl⟩ := lm_none_f hnr
    cases hnf : lm_none f
    · skip
      obtain ⟨j, hj, rfl⟩ := lm_none_f hnf
      have hk3 := lm_ok_kind (hr9 j hj)
      by_cases h2e : (rt j).1 = 2
      · skip
        have hcl := lm_to_cl hw (hr9 j hj) h2e
        have hp1 := hcl.1
        exact absurd hcd (by rw [show lm_oRest (nI k) (nI j) (c, w, u, rt, z) = (0, lm_set (c, w, u, rt, z) k (lm_rest c w (lm_to w (rt j)))) by unfold lm_oRest; rw [lm_none_n hk, lm_none_n hj, if_neg (by decide), lm_ix_n hj, if_neg (show ¬ (rt j).1 ≠ 2 from fun z9 => z9 h2e), lm_ix_n hk]]; simp)
      · skip
        refine lx_iload_n F dX3_rest_0 1 rfl ?_
        refine lx_iload_n F dX3_rest_1 2 rfl ?_
        refine lx_cs F (zX_cks (xl E) K k j hk hj) cs_X3_64 [] [0, 1, 2, 3, 4, 5, 6, 7, 8, 9, 10, 11, 12, 13, 14, 15, 16, 17] [(x, .inr (3, [.ref ro, .ref kc, .ref mt, .ref cn, .ref h, .ref h2, .int z])), (ro, aJ K 10 gr), (kc, .inr (0, [.ref l0, .ref il, .ref ir, .ref np, .int mn])), (l0, aI K 120 fl), (il, aI K 120 fi), (ir, aI K 120 fr), (np, aI K 120 fn), (h, .inr (1, [.ref ca, .ref co, .int (nI u)])), (ca, aI K 120 fa), (co, aJ K 120 ga), (h2, .inr (1, [.ref ca2, .ref co2, .int t2])), (ca2, aI K 120 f2), (co2, aJ K 120 g2), (mt, .inr (2, [.ref fo, .ref ba, .ref wa, .int mm])), (fo, aI K 120 ffo), (ba, aI K 120 fba), (wa, aI K 120 fwa), (cn, aI K 120 fc)] rfl rfl (by decide) rfl (st := []) rfl (Nat.le_of_ble_eq_true rfl) (by decide) ⟨by decide, by decide⟩ dX3_rest_2 (fun v9 w9 h9 => ?_)
        obtain ⟨rfl, rfl⟩ := h9
        refine lx_perm [0, 1, 2, 3, 4, 5, 6, 7, 8, 9, 10, 11, 12, 13, 14, 15, 16, 17] [(x, .inr (3, [.ref ro, .ref kc, .ref mt, .ref cn, .ref h, .ref h2, .int z])), (ro, aJ K 10 gr), (kc, .inr (0, [.ref l0, .ref il, .ref ir, .ref np, .int mn])), (l0, aI K 120 fl), (il, aI K 120 fi), (ir, aI K 120 fr), (np, aI K 120 fn), (h, .inr (1, [.ref ca, .ref co, .int (nI u)])), (ca, aI K 120 fa), (co, aJ K 120 ga), (h2, .inr (1, [.ref ca2, .ref co2, .int t2])), (ca2, aI K 120 f2), (co2, aJ K 120 g2), (mt, .inr (2, [.ref fo, .ref ba, .ref wa, .int mm])), (fo, aI K 120 ffo), (ba, aI K 120 fba), (wa, aI K 120 fwa), (cn, aI K 120 fc)] (by decide) rfl ?_
        refine lx_st (a' := 0) (b' := 0) [] rfl rfl rfl ?_
        refine lx_aload_n F dX3_rest_5 0 rfl ?_
        refine lx_iload_n F dX3_rest_6 2 rfl ?_
        exact lx_cvXP F X (zX_ckpx (xl E) K x ro kc mt cn h h2 z gr j hj (rt j) (hro j hj) (by omega) h2e) cv_X3_84 0 rfl rfl [0, 1] [2, 3, 4, 5, 6, 7, 8, 9, 10, 11, 12, 13, 14, 15, 16, 17] [(kc, .inr (0, [.ref l0, .ref il, .ref ir, .ref np, .int mn])), (l0, aI K 120 fl), (il, aI K 120 fi), (ir, aI K 120 fr), (np, aI K 120 fn), (h, .inr (1, [.ref ca, .ref co, .int (nI u)])), (ca, aI K 120 fa), (co, aJ K 120 ga), (h2, .inr (1, [.ref ca2, .ref co2, .int t2])), (ca2, aI K 120 f2), (co2, aJ K 120 g2), (mt, .inr (2, [.ref fo, .ref ba, .ref wa, .int mm])), (fo, aI K 120 ffo), (ba, aI K 120 fba), (wa, aI K 120 fwa), (cn, aI K 120 fc)] rfl rfl (by decide) rfl (st := []) rfl (Nat.le_of_ble_eq_true rfl) (by decide) ⟨by decide, by decide⟩ dX3_rest_7 [16, 17, 0, 1, 2, 3, 4, 5, 6, 7, 8, 9, 10, 11, 12, 13, 14, 15] [(x, .inr (3, [.ref ro, .ref kc, .ref mt, .ref cn, .ref h, .ref h2, .int z])), (ro, aJ K 10 gr), (kc, .inr (0, [.ref l0, .ref il, .ref ir, .ref np, .int mn])), (l0, aI K 120 fl), (il, aI K 120 fi), (ir, aI K 120 fr), (np, aI K 120 fn), (h, .inr (1, [.ref ca, .ref co, .int (nI u)])), (ca, aI K 120 fa), (co, aJ K 120 ga), (h2, .inr (1, [.ref ca2, .ref co2, .int t2])), (ca2, aI K 120 f2), (co2, aJ K 120 g2), (mt, .inr (2, [.ref fo, .ref ba, .ref wa, .int mm])), (fo, aI K 120 ffo), (ba, aI K 120 fba), (wa, aI K 120 fwa), (cn, aI K 120 fc)] (by decide) (fun w9 h9 => ⟨by subst h9; rfl, by show lm_obj K x _ _; rw [show lm_oRest (nI k) (nI j) (c, w, u, rt, z) = (2, (c, w, u, rt, z)) by unfold lm_oRest; rw [lm_none_n hk, lm_none_n hj, if_neg (by decide), lm_ix_n hj, if_pos h2e]]; exact ⟨_, _, _, _, _, _, _, _, _, _, _, _, _, _, _, _, _, _, _, _, _, _, _, _, _, _, _, _, _, _, _, _, _, hh, hro, rfl⟩⟩)
    · skip
      exact absurd hcd (by rw [show lm_oRest (nI k) f (c, w, u, rt, z) = (1, (c, w, u, rt, z)) by unfold lm_oRest; rw [lm_none_n hk, hnf]; rfl]; simp)
  · skip
    exact absurd hcd (by rw [show lm_oRest r f (c, w, u, rt, z) = (1, (c, w, u, rt, z)) by unfold lm_oRest; rw [hnr]; rfl]; simp)

set_option maxHeartbeats 4000000 in
set_option maxRecDepth 100000 in
theorem zX_setFirst_0 (l : Launch) (K : lm_G) (x : Nat) (c : Nat → Nat) (w : Nat → lm_V) (u : Nat) (rt : Nat → lm_V) (z : Int32) (hst : lm_st c w u rt) (W : va_W) (hW : lm_obj K x (c, w, u, rt, z) W) (r f : Int32) (hcd : (lm_oSetFirst r f (c, w, u, rt, z)).1 = 0) : lm_C l K mX3_setFirst (rk 6) [.ref x, .int r, .int f] W (fun v9 w9 => v9 = none ∧ lm_obj K x (lm_oSetFirst r f (c, w, u, rt, z)).2 w9) := by
  obtain ⟨ro, kc, l0, il, ir, np, h, ca, co, h2, ca2, co2, mt, fo, ba, wa, cn, gr, fl, fi, fr, fn, mn, fa, ga, f2, g2, t2, ffo, fba, fwa, mm, fc, hh, hro, rfl⟩ := hW
  have hh : lm_hf fa ga c w u := hh
  have hro : ∀ r, r < 10 → gr r = en (rt r) := hro
  have hw := hst.1
  have hr9 := hst.2
  have hu := hw.1
  refine lx_met RX3 pn_X3 rfl (Nat.le_of_ble_eq_true rfl) (fun E hE hnm F hR => ?_)
  have F : lx_F K 3 E cX3_setFirst RX3 none (rk 6) := F
  show lx_W K 3 E 0 0 0 [(0, .ref x), (1, .int r), (2, .int f)] [] [(x, .inr (3, [.ref ro, .ref kc, .ref mt, .ref cn, .ref h, .ref h2, .int z])), (ro, aJ K 10 gr), (kc, .inr (0, [.ref l0, .ref il, .ref ir, .ref np, .int mn])), (l0, aI K 120 fl), (il, aI K 120 fi), (ir, aI K 120 fr), (np, aI K 120 fn), (h, .inr (1, [.ref ca, .ref co, .int (nI u)])), (ca, aI K 120 fa), (co, aJ K 120 ga), (h2, .inr (1, [.ref ca2, .ref co2, .int t2])), (ca2, aI K 120 f2), (co2, aJ K 120 g2), (mt, .inr (2, [.ref fo, .ref ba, .ref wa, .int mm])), (fo, aI K 120 ffo), (ba, aI K 120 fba), (wa, aI K 120 fwa), (cn, aI K 120 fc)]
  cases hnr : lm_none r
  · skip
    obtain ⟨k, hk, rfl⟩ := lm_none_f hnr
    cases hnf : lm_none f
    · skip
      obtain ⟨j, hj, rfl⟩ := lm_none_f hnf
      have hk3 := lm_ok_kind (hr9 k hk)
      by_cases h2e : (rt k).1 = 2
      · skip
        have hcl := lm_to_cl hw (hr9 k hk) h2e
        have hp1 := hcl.1
        refine lx_iload_n F dX3_setFirst_0 1 rfl ?_
        refine lx_iload_n F dX3_setFirst_1 2 rfl ?_
        refine lx_cs F (zX_cks (xl E) K k j hk hj) cs_X3_64 [] [0, 1, 2, 3, 4, 5, 6, 7, 8, 9, 10, 11, 12, 13, 14, 15, 16, 17] [(x, .inr (3, [.ref ro, .ref kc, .ref mt, .ref cn, .ref h, .ref h2, .int z])), (ro, aJ K 10 gr), (kc, .inr (0, [.ref l0, .ref il, .ref ir, .ref np, .int mn])), (l0, aI K 120 fl), (il, aI K 120 fi), (ir, aI K 120 fr), (np, aI K 120 fn), (h, .inr (1, [.ref ca, .ref co, .int (nI u)])), (ca, aI K 120 fa), (co, aJ K 120 ga), (h2, .inr (1, [.ref ca2, .ref co2, .int t2])), (ca2, aI K 120 f2), (co2, aJ K 120 g2), (mt, .inr (2, [.ref fo, .ref ba, .ref wa, .int mm])), (fo, aI K 120 ffo), (ba, aI K 120 fba), (wa, aI K 120 fwa), (cn, aI K 120 fc)] rfl rfl (by decide) rfl (st := []) rfl (Nat.le_of_ble_eq_true rfl) (by decide) ⟨by decide, by decide⟩ dX3_setFirst_2 (fun v9 w9 h9 => ?_)
        obtain ⟨rfl, rfl⟩ := h9
        refine lx_perm [0, 1, 2, 3, 4, 5, 6, 7, 8, 9, 10, 11, 12, 13, 14, 15, 16, 17] [(x, .inr (3, [.ref ro, .ref kc, .ref mt, .ref cn, .ref h, .ref h2, .int z])), (ro, aJ K 10 gr), (kc, .inr (0, [.ref l0, .ref il, .ref ir, .ref np, .int mn])), (l0, aI K 120 fl), (il, aI K 120 fi), (ir, aI K 120 fr), (np, aI K 120 fn), (h, .inr (1, [.ref ca, .ref co, .int (nI u)])), (ca, aI K 120 fa), (co, aJ K 120 ga), (h2, .inr (1, [.ref ca2, .ref co2, .int t2])), (ca2, aI K 120 f2), (co2, aJ K 120 g2), (mt, .inr (2, [.ref fo, .ref ba, .ref wa, .int mm])), (fo, aI K 120 ffo), (ba, aI K 120 fba), (wa, aI K 120 fwa), (cn, aI K 120 fc)] (by decide) rfl ?_
        refine lx_st (a' := 0) (b' := 0) [] rfl rfl rfl ?_
        refine lx_aload_n F dX3_setFirst_5 0 rfl ?_
        refine lx_iload_n F dX3_setFirst_6 1 rfl ?_
        refine lx_cv F (zX_ckp (xl E) K x ro kc mt cn h h2 z gr k hk (rt k) (hro k hk) (by omega) h2e) cv_X3_84 0 rfl rfl [0, 1] [2, 3, 4, 5, 6, 7, 8, 9, 10, 11, 12, 13, 14, 15, 16, 17] [(kc, .inr (0, [.ref l0, .ref il, .ref ir, .ref np, .int mn])), (l0, aI K 120 fl), (il, aI K 120 fi), (ir, aI K 120 fr), (np, aI K 120 fn), (h, .inr (1, [.ref ca, .ref co, .int (nI u)])), (ca, aI K 120 fa), (co, aJ K 120 ga), (h2, .inr (1, [.ref ca2, .ref co2, .int t2])), (ca2, aI K 120 f2), (co2, aJ K 120 g2), (mt, .inr (2, [.ref fo, .ref ba, .ref wa, .int mm])), (fo, aI K 120 ffo), (ba, aI K 120 fba), (wa, aI K 120 fwa), (cn, aI K 120 fc)] rfl rfl (by decide) rfl (st := []) rfl (Nat.le_of_ble_eq_true rfl) (by decide) ⟨by decide, by decide⟩ dX3_setFirst_7 (fun v9 w9 h9 => ?_)
        obtain ⟨rfl, rfl⟩ := h9
        refine lx_perm [16, 17, 0, 1, 2, 3, 4, 5, 6, 7, 8, 9, 10, 11, 12, 13, 14, 15] [(x, .inr (3, [.ref ro, .ref kc, .ref mt, .ref cn, .ref h, .ref h2, .int z])), (ro, aJ K 10 gr), (kc, .inr (0, [.ref l0, .ref il, .ref ir, .ref np, .int mn])), (l0, aI K 120 fl), (il, aI K 120 fi), (ir, aI K 120 fr), (np, aI K 120 fn), (h, .inr (1, [.ref ca, .ref co, .int (nI u)])), (ca, aI K 120 fa), (co, aJ K 120 ga), (h2, .inr (1, [.ref ca2, .ref co2, .int t2])), (ca2, aI K 120 f2), (co2, aJ K 120 g2), (mt, .inr (2, [.ref fo, .ref ba, .ref wa, .int mm])), (fo, aI K 120 ffo), (ba, aI K 120 fba), (wa, aI K 120 fwa), (cn, aI K 120 fc)] (by decide) rfl ?_
        refine lx_st (a' := 0) (b' := 0) [] rfl rfl rfl ?_
        refine lx_aload_n F dX3_setFirst_10 0 rfl ?_
        refine gf_X3_34 F 0 rfl rfl dX3_setFirst_11 ?_
        refine lx_aload_n F dX3_setFirst_14 0 rfl ?_
        refine gf_X3_34 F 0 rfl rfl dX3_setFirst_15 ?_
        refine lx_aload_n F dX3_setFirst_18 0 rfl ?_
        refine gf_X3_9 F 0 rfl rfl dX3_setFirst_19 ?_
        refine lx_iload_n F dX3_setFirst_22 1 rfl ?_
        refine lx_lald F 1 k dX3_setFirst_23 rfl (by omega) (by decide) ?_
        rw [hro k hk]
        refine lx_cv F (zh_cellOf (xl E) K h ca co fa ga (nI u) c w u hw hh (rt k) (hr9 k hk) h2e) cv_X3_87 7 rfl rfl [7, 8, 9] [0, 1, 2, 3, 4, 5, 6, 10, 11, 12, 13, 14, 15, 16, 17] [(x, .inr (3, [.ref ro, .ref kc, .ref mt, .ref cn, .ref h, .ref h2, .int z])), (ro, aJ K 10 gr), (kc, .inr (0, [.ref l0, .ref il, .ref ir, .ref np, .int mn])), (l0, aI K 120 fl), (il, aI K 120 fi), (ir, aI K 120 fr), (np, aI K 120 fn), (h2, .inr (1, [.ref ca2, .ref co2, .int t2])), (ca2, aI K 120 f2), (co2, aJ K 120 g2), (mt, .inr (2, [.ref fo, .ref ba, .ref wa, .int mm])), (fo, aI K 120 ffo), (ba, aI K 120 fba), (wa, aI K 120 fwa), (cn, aI K 120 fc)] rfl rfl (by decide) rfl (st := [.ref h]) rfl (Nat.le_of_ble_eq_true rfl) (by decide) ⟨by decide, by decide⟩ dX3_setFirst_24 (fun v9 w9 h9 => ?_)
        obtain ⟨rfl, rfl⟩ := h9
        refine lx_perm [0, 1, 2, 3, 4, 5, 6, 15, 16, 17, 7, 8, 9, 10, 11, 12, 13, 14] [(x, .inr (3, [.ref ro, .ref kc, .ref mt, .ref cn, .ref h, .ref h2, .int z])), (ro, aJ K 10 gr), (kc, .inr (0, [.ref l0, .ref il, .ref ir, .ref np, .int mn])), (l0, aI K 120 fl), (il, aI K 120 fi), (ir, aI K 120 fr), (np, aI K 120 fn), (h, .inr (1, [.ref ca, .ref co, .int (nI u)])), (ca, aI K 120 fa), (co, aJ K 120 ga), (h2, .inr (1, [.ref ca2, .ref co2, .int t2])), (ca2, aI K 120 f2), (co2, aJ K 120 g2), (mt, .inr (2, [.ref fo, .ref ba, .ref wa, .int mm])), (fo, aI K 120 ffo), (ba, aI K 120 fba), (wa, aI K 120 fwa), (cn, aI K 120 fc)] (by decide) rfl ?_
        refine lx_st (a' := 0) (b' := 0) [.int (nI (lm_to w (rt k))), .ref h] rfl rfl rfl ?_
        refine lx_aload_n F dX3_setFirst_27 0 rfl ?_
        refine gf_X3_9 F 0 rfl rfl dX3_setFirst_28 ?_
        refine lx_iload_n F dX3_setFirst_31 2 rfl ?_
        refine lx_lald F 1 j dX3_setFirst_32 rfl (by omega) (by decide) ?_
        rw [hro j hj]
        refine lx_cv F (zh_setContent (xl E) K h ca co fa ga (nI u) (lm_to w (rt k)) (by omega) (en (rt j))) cv_X3_98 7 rfl rfl [7, 8, 9] [0, 1, 2, 3, 4, 5, 6, 10, 11, 12, 13, 14, 15, 16, 17] [(x, .inr (3, [.ref ro, .ref kc, .ref mt, .ref cn, .ref h, .ref h2, .int z])), (ro, aJ K 10 gr), (kc, .inr (0, [.ref l0, .ref il, .ref ir, .ref np, .int mn])), (l0, aI K 120 fl), (il, aI K 120 fi), (ir, aI K 120 fr), (np, aI K 120 fn), (h2, .inr (1, [.ref ca2, .ref co2, .int t2])), (ca2, aI K 120 f2), (co2, aJ K 120 g2), (mt, .inr (2, [.ref fo, .ref ba, .ref wa, .int mm])), (fo, aI K 120 ffo), (ba, aI K 120 fba), (wa, aI K 120 fwa), (cn, aI K 120 fc)] rfl rfl (by decide) rfl (st := []) rfl (Nat.le_of_ble_eq_true rfl) (by decide) ⟨by decide, by decide⟩ dX3_setFirst_33 (fun v9 w9 h9 => ?_)
        obtain ⟨rfl, rfl⟩ := h9
        refine lx_perm [0, 1, 2, 3, 4, 5, 6, 15, 16, 17, 7, 8, 9, 10, 11, 12, 13, 14] [(x, .inr (3, [.ref ro, .ref kc, .ref mt, .ref cn, .ref h, .ref h2, .int z])), (ro, aJ K 10 gr), (kc, .inr (0, [.ref l0, .ref il, .ref ir, .ref np, .int mn])), (l0, aI K 120 fl), (il, aI K 120 fi), (ir, aI K 120 fr), (np, aI K 120 fn), (h, .inr (1, [.ref ca, .ref co, .int (nI u)])), (ca, aI K 120 fa), (co, aJ K 120 (lm_up ga (lm_to w (rt k)) (en (rt j)))), (h2, .inr (1, [.ref ca2, .ref co2, .int t2])), (ca2, aI K 120 f2), (co2, aJ K 120 g2), (mt, .inr (2, [.ref fo, .ref ba, .ref wa, .int mm])), (fo, aI K 120 ffo), (ba, aI K 120 fba), (wa, aI K 120 fwa), (cn, aI K 120 fc)] (by decide) rfl ?_
        refine lx_st (a' := 0) (b' := 0) [] rfl rfl rfl ?_
        exact lx_vret F hR dX3_setFirst_36 ⟨rfl, by rw [show lm_oSetFirst (nI k) (nI j) (c, w, u, rt, z) = (0, lm_pt (c, w, u, rt, z) (lm_to w (rt k)) (rt j)) by unfold lm_oSetFirst; rw [lm_none_n hk, lm_none_n hj, if_neg (by decide), lm_ix_n hk, if_neg (show ¬ (rt k).1 ≠ 2 from fun z9 => z9 h2e), lm_ix_n hj]]; exact ⟨_, _, _, _, _, _, _, _, _, _, _, _, _, _, _, _, _, _, _, _, _, _, _, _, _, _, _, _, _, _, _, _, _, (lm_hf_up (v := rt j) hh), hro, rfl⟩⟩
      · skip
        exact absurd hcd (by rw [show lm_oSetFirst (nI k) (nI j) (c, w, u, rt, z) = (2, (c, w, u, rt, z)) by unfold lm_oSetFirst; rw [lm_none_n hk, lm_none_n hj, if_neg (by decide), lm_ix_n hk, if_pos h2e]]; simp)
    · skip
      exact absurd hcd (by rw [show lm_oSetFirst (nI k) f (c, w, u, rt, z) = (1, (c, w, u, rt, z)) by unfold lm_oSetFirst; rw [lm_none_n hk, hnf]; rfl]; simp)
  · skip
    exact absurd hcd (by rw [show lm_oSetFirst r f (c, w, u, rt, z) = (1, (c, w, u, rt, z)) by unfold lm_oSetFirst; rw [hnr]; rfl]; simp)

set_option maxHeartbeats 4000000 in
set_option maxRecDepth 100000 in
theorem zX_setFirst_1 (l : Launch) (K : lm_G) (x : Nat) (c : Nat → Nat) (w : Nat → lm_V) (u : Nat) (rt : Nat → lm_V) (z : Int32) (hst : lm_st c w u rt) (W : va_W) (hW : lm_obj K x (c, w, u, rt, z) W) (r f : Int32) (hcd : (lm_oSetFirst r f (c, w, u, rt, z)).1 = 1) : lm_CX l K mX3_setFirst (rx 8) [.ref x, .int r, .int f] W eN (fun w9 => lm_obj K x (lm_oSetFirst r f (c, w, u, rt, z)).2 w9) := by
  obtain ⟨ro, kc, l0, il, ir, np, h, ca, co, h2, ca2, co2, mt, fo, ba, wa, cn, gr, fl, fi, fr, fn, mn, fa, ga, f2, g2, t2, ffo, fba, fwa, mm, fc, hh, hro, rfl⟩ := hW
  have hh : lm_hf fa ga c w u := hh
  have hro : ∀ r, r < 10 → gr r = en (rt r) := hro
  have hw := hst.1
  have hr9 := hst.2
  have hu := hw.1
  refine lx_metX RX3 pn_X3 rfl (Nat.le_of_ble_eq_true rfl) (fun E hE F X => ?_)
  have F : lx_F K 3 E cX3_setFirst RX3 none (rx 8) := F
  show lx_W K 3 E 0 0 0 [(0, .ref x), (1, .int r), (2, .int f)] [] [(x, .inr (3, [.ref ro, .ref kc, .ref mt, .ref cn, .ref h, .ref h2, .int z])), (ro, aJ K 10 gr), (kc, .inr (0, [.ref l0, .ref il, .ref ir, .ref np, .int mn])), (l0, aI K 120 fl), (il, aI K 120 fi), (ir, aI K 120 fr), (np, aI K 120 fn), (h, .inr (1, [.ref ca, .ref co, .int (nI u)])), (ca, aI K 120 fa), (co, aJ K 120 ga), (h2, .inr (1, [.ref ca2, .ref co2, .int t2])), (ca2, aI K 120 f2), (co2, aJ K 120 g2), (mt, .inr (2, [.ref fo, .ref ba, .ref wa, .int mm])), (fo, aI K 120 ffo), (ba, aI K 120 fba), (wa, aI K 120 fwa), (cn, aI K 120 fc)]
  cases hnr : lm_none r
  · skip
    obtain ⟨k, hk, rfl⟩ := lm_none_f hnr
    cases hnf : lm_none f
    · skip
      obtain ⟨j, hj, rfl⟩ := lm_none_f hnf
      have hk3 := lm_ok_kind (hr9 k hk)
      by_cases h2e : (rt k).1 = 2
      · skip
        have hcl := lm_to_cl hw (hr9 k hk) h2e
        have hp1 := hcl.1
        exact absurd hcd (by rw [show lm_oSetFirst (nI k) (nI j) (c, w, u, rt, z) = (0, lm_pt (c, w, u, rt, z) (lm_to w (rt k)) (rt j)) by unfold lm_oSetFirst; rw [lm_none_n hk, lm_none_n hj, if_neg (by decide), lm_ix_n hk, if_neg (show ¬ (rt k).1 ≠ 2 from fun z9 => z9 h2e), lm_ix_n hj]]; simp)
      · skip
        exact absurd hcd (by rw [show lm_oSetFirst (nI k) (nI j) (c, w, u, rt, z) = (2, (c, w, u, rt, z)) by unfold lm_oSetFirst; rw [lm_none_n hk, lm_none_n hj, if_neg (by decide), lm_ix_n hk, if_pos h2e]]; simp)
    · skip
      refine lx_iload_n F dX3_setFirst_0 1 rfl ?_
      refine lx_iload_n F dX3_setFirst_1 2 rfl ?_
      exact lx_csX F X (zX_cksx (xl E) K (nI k) f (by rw [lm_none_n hk, hnf]; rfl)) cs_X3_64 [] [0, 1, 2, 3, 4, 5, 6, 7, 8, 9, 10, 11, 12, 13, 14, 15, 16, 17] [(x, .inr (3, [.ref ro, .ref kc, .ref mt, .ref cn, .ref h, .ref h2, .int z])), (ro, aJ K 10 gr), (kc, .inr (0, [.ref l0, .ref il, .ref ir, .ref np, .int mn])), (l0, aI K 120 fl), (il, aI K 120 fi), (ir, aI K 120 fr), (np, aI K 120 fn), (h, .inr (1, [.ref ca, .ref co, .int (nI u)])), (ca, aI K 120 fa), (co, aJ K 120 ga), (h2, .inr (1, [.ref ca2, .ref co2, .int t2])), (ca2, aI K 120 f2), (co2, aJ K 120 g2), (mt, .inr (2, [.ref fo, .ref ba, .ref wa, .int mm])), (fo, aI K 120 ffo), (ba, aI K 120 fba), (wa, aI K 120 fwa), (cn, aI K 120 fc)] rfl rfl (by decide) rfl (st := []) rfl (Nat.le_of_ble_eq_true rfl) (by decide) ⟨by decide, by decide⟩ dX3_setFirst_2 (fun w9 h9 => by subst h9; exact (by show lm_obj K x _ _; rw [show lm_oSetFirst (nI k) f (c, w, u, rt, z) = (1, (c, w, u, rt, z)) by unfold lm_oSetFirst; rw [lm_none_n hk, hnf]; rfl]; exact ⟨_, _, _, _, _, _, _, _, _, _, _, _, _, _, _, _, _, _, _, _, _, _, _, _, _, _, _, _, _, _, _, _, _, hh, hro, rfl⟩))
  · skip
    refine lx_iload_n F dX3_setFirst_0 1 rfl ?_
    refine lx_iload_n F dX3_setFirst_1 2 rfl ?_
    exact lx_csX F X (zX_cksx (xl E) K r f (by rw [hnr]; rfl)) cs_X3_64 [] [0, 1, 2, 3, 4, 5, 6, 7, 8, 9, 10, 11, 12, 13, 14, 15, 16, 17] [(x, .inr (3, [.ref ro, .ref kc, .ref mt, .ref cn, .ref h, .ref h2, .int z])), (ro, aJ K 10 gr), (kc, .inr (0, [.ref l0, .ref il, .ref ir, .ref np, .int mn])), (l0, aI K 120 fl), (il, aI K 120 fi), (ir, aI K 120 fr), (np, aI K 120 fn), (h, .inr (1, [.ref ca, .ref co, .int (nI u)])), (ca, aI K 120 fa), (co, aJ K 120 ga), (h2, .inr (1, [.ref ca2, .ref co2, .int t2])), (ca2, aI K 120 f2), (co2, aJ K 120 g2), (mt, .inr (2, [.ref fo, .ref ba, .ref wa, .int mm])), (fo, aI K 120 ffo), (ba, aI K 120 fba), (wa, aI K 120 fwa), (cn, aI K 120 fc)] rfl rfl (by decide) rfl (st := []) rfl (Nat.le_of_ble_eq_true rfl) (by decide) ⟨by decide, by decide⟩ dX3_setFirst_2 (fun w9 h9 => by subst h9; exact (by show lm_obj K x _ _; rw [show lm_oSetFirst r f (c, w, u, rt, z) = (1, (c, w, u, rt, z)) by unfold lm_oSetFirst; rw [hnr]; rfl]; exact ⟨_, _, _, _, _, _, _, _, _, _, _, _, _, _, _, _, _, _, _, _, _, _, _, _, _, _, _, _, _, _, _, _, _, hh, hro, rfl⟩))

set_option maxHeartbeats 4000000 in
set_option maxRecDepth 100000 in
theorem zX_setFirst_2 (l : Launch) (K : lm_G) (x : Nat) (c : Nat → Nat) (w : Nat → lm_V) (u : Nat) (rt : Nat → lm_V) (z : Int32) (hst : lm_st c w u rt) (W : va_W) (hW : lm_obj K x (c, w, u, rt, z) W) (r f : Int32) (hcd : (lm_oSetFirst r f (c, w, u, rt, z)).1 = 2) : lm_CX l K mX3_setFirst (rx 8) [.ref x, .int r, .int f] W eS (fun w9 => lm_obj K x (lm_oSetFirst r f (c, w, u, rt, z)).2 w9) := by
  obtain ⟨ro, kc, l0, il, ir, np, h, ca, co, h2, ca2, co2, mt, fo, ba, wa, cn, gr, fl, fi, fr, fn, mn, fa, ga, f2, g2, t2, ffo, fba, fwa, mm, fc, hh, hro, rfl⟩ := hW
  have hh : lm_hf fa ga c w u := hh
  have hro : ∀ r, r < 10 → gr r = en (rt r) := hro
  have hw := hst.1
  have hr9 := hst.2
  have hu := hw.1
  refine lx_metX RX3 pn_X3 rfl (Nat.le_of_ble_eq_true rfl) (fun E hE F X => ?_)
  have F : lx_F K 3 E cX3_setFirst RX3 none (rx 8) := F
  show lx_W K 3 E 0 0 0 [(0, .ref x), (1, .int r), (2, .int f)] [] [(x, .inr (3, [.ref ro, .ref kc, .ref mt, .ref cn, .ref h, .ref h2, .int z])), (ro, aJ K 10 gr), (kc, .inr (0, [.ref l0, .ref il, .ref ir, .ref np, .int mn])), (l0, aI K 120 fl), (il, aI K 120 fi), (ir, aI K 120 fr), (np, aI K 120 fn), (h, .inr (1, [.ref ca, .ref co, .int (nI u)])), (ca, aI K 120 fa), (co, aJ K 120 ga), (h2, .inr (1, [.ref ca2, .ref co2, .int t2])), (ca2, aI K 120 f2), (co2, aJ K 120 g2), (mt, .inr (2, [.ref fo, .ref ba, .ref wa, .int mm])), (fo, aI K 120 ffo), (ba, aI K 120 fba), (wa, aI K 120 fwa), (cn, aI K 120 fc)]
  cases hnr : lm_none r
  · skip
    obtain ⟨k, hk, rfl⟩ := lm_none_f hnr
    cases hnf : lm_none f
    · skip
      obtain ⟨j, hj, rfl⟩ := lm_none_f hnf
      have hk3 := lm_ok_kind (hr9 k hk)
      by_cases h2e : (rt k).1 = 2
      · skip
        have hcl := lm_to_cl hw (hr9 k hk) h2e
        have hp1 := hcl.1
        exact absurd hcd (by rw [show lm_oSetFirst (nI k) (nI j) (c, w, u, rt, z) = (0, lm_pt (c, w, u, rt, z) (lm_to w (rt k)) (rt j)) by unfold lm_oSetFirst; rw [lm_none_n hk, lm_none_n hj, if_neg (by decide), lm_ix_n hk, if_neg (show ¬ (rt k).1 ≠ 2 from fun z9 => z9 h2e), lm_ix_n hj]]; simp)
      · skip
        refine lx_iload_n F dX3_setFirst_0 1 rfl ?_
        refine lx_iload_n F dX3_setFirst_1 2 rfl ?_
        refine lx_cs F (zX_cks (xl E) K k j hk hj) cs_X3_64 [] [0, 1, 2, 3, 4, 5, 6, 7, 8, 9, 10, 11, 12, 13, 14, 15, 16, 17] [(x, .inr (3, [.ref ro, .ref kc, .ref mt, .ref cn, .ref h, .ref h2, .int z])), (ro, aJ K 10 gr), (kc, .inr (0, [.ref l0, .ref il, .ref ir, .ref np, .int mn])), (l0, aI K 120 fl), (il, aI K 120 fi), (ir, aI K 120 fr), (np, aI K 120 fn), (h, .inr (1, [.ref ca, .ref co, .int (nI u)])), (ca, aI K 120 fa), (co, aJ K 120 ga), (h2, .inr (1, [.ref ca2, .ref co2, .int t2])), (ca2, aI K 120 f2), (co2, aJ K 120 g2), (mt, .inr (2, [.ref fo, .ref ba, .ref wa, .int mm])), (fo, aI K 120 ffo), (ba, aI K 120 fba), (wa, aI K 120 fwa), (cn, aI K 120 fc)] rfl rfl (by decide) rfl (st := []) rfl (Nat.le_of_ble_eq_true rfl) (by decide) ⟨by decide, by decide⟩ dX3_setFirst_2 (fun v9 w9 h9 => ?_)
        obtain ⟨rfl, rfl⟩ := h9
        refine lx_perm [0, 1, 2, 3, 4, 5, 6, 7, 8, 9, 10, 11, 12, 13, 14, 15, 16, 17] [(x, .inr (3, [.ref ro, .ref kc, .ref mt, .ref cn, .ref h, .ref h2, .int z])), (ro, aJ K 10 gr), (kc, .inr (0, [.ref l0, .ref il, .ref ir, .ref np, .int mn])), (l0, aI K 120 fl), (il, aI K 120 fi), (ir, aI K 120 fr), (np, aI K 120 fn), (h, .inr (1, [.ref ca, .ref co, .int (nI u)])), (ca, aI K 120 fa), (co, aJ K 120 ga), (h2, .inr (1, [.ref ca2, .ref co2, .int t2])), (ca2, aI K 120 f2), (co2, aJ K 120 g2), (mt, .inr (2, [.ref fo, .ref ba, .ref wa, .int mm])), (fo, aI K 120 ffo), (ba, aI K 120 fba), (wa, aI K 120 fwa), (cn, aI K 120 fc)] (by decide) rfl ?_
        refine lx_st (a' := 0) (b' := 0) [] rfl rfl rfl ?_
        refine lx_aload_n F dX3_setFirst_5 0 rfl ?_
        refine lx_iload_n F dX3_setFirst_6 1 rfl ?_
        exact lx_cvXP F X (zX_ckpx (xl E) K x ro kc mt cn h h2 z gr k hk (rt k) (hro k hk) (by omega) h2e) cv_X3_84 0 rfl rfl [0, 1] [2, 3, 4, 5, 6, 7, 8, 9, 10, 11, 12, 13, 14, 15, 16, 17] [(kc, .inr (0, [.ref l0, .ref il, .ref ir, .ref np, .int mn])), (l0, aI K 120 fl), (il, aI K 120 fi), (ir, aI K 120 fr), (np, aI K 120 fn), (h, .inr (1, [.ref ca, .ref co, .int (nI u)])), (ca, aI K 120 fa), (co, aJ K 120 ga), (h2, .inr (1, [.ref ca2, .ref co2, .int t2])), (ca2, aI K 120 f2), (co2, aJ K 120 g2), (mt, .inr (2, [.ref fo, .ref ba, .ref wa, .int mm])), (fo, aI K 120 ffo), (ba, aI K 120 fba), (wa, aI K 120 fwa), (cn, aI K 120 fc)] rfl rfl (by decide) rfl (st := []) rfl (Nat.le_of_ble_eq_true rfl) (by decide) ⟨by decide, by decide⟩ dX3_setFirst_7 [16, 17, 0, 1, 2, 3, 4, 5, 6, 7, 8, 9, 10, 11, 12, 13, 14, 15] [(x, .inr (3, [.ref ro, .ref kc, .ref mt, .ref cn, .ref h, .ref h2, .int z])), (ro, aJ K 10 gr), (kc, .inr (0, [.ref l0, .ref il, .ref ir, .ref np, .int mn])), (l0, aI K 120 fl), (il, aI K 120 fi), (ir, aI K 120 fr), (np, aI K 120 fn), (h, .inr (1, [.ref ca, .ref co, .int (nI u)])), (ca, aI K 120 fa), (co, aJ K 120 ga), (h2, .inr (1, [.ref ca2, .ref co2, .int t2])), (ca2, aI K 120 f2), (co2, aJ K 120 g2), (mt, .inr (2, [.ref fo, .ref ba, .ref wa, .int mm])), (fo, aI K 120 ffo), (ba, aI K 120 fba), (wa, aI K 120 fwa), (cn, aI K 120 fc)] (by decide) (fun w9 h9 => ⟨by subst h9; rfl, by show lm_obj K x _ _; rw [show lm_oSetFirst (nI k) (nI j) (c, w, u, rt, z) = (2, (c, w, u, rt, z)) by unfold lm_oSetFirst; rw [lm_none_n hk, lm_none_n hj, if_neg (by decide), lm_ix_n hk, if_pos h2e]]; exact ⟨_, _, _, _, _, _, _, _, _, _, _, _, _, _, _, _, _, _, _, _, _, _, _, _, _, _, _, _, _, _, _, _, _, hh, hro, rfl⟩⟩)
    · skip
      exact absurd hcd (by rw [show lm_oSetFirst (nI k) f (c, w, u, rt, z) = (1, (c, w, u, rt, z)) by unfold lm_oSetFirst; rw [lm_none_n hk, hnf]; rfl]; simp)
  · skip
    exact absurd hcd (by rw [show lm_oSetFirst r f (c, w, u, rt, z) = (1, (c, w, u, rt, z)) by unfold lm_oSetFirst; rw [hnr]; rfl]; simp)

set_option maxHeartbeats 4000000 in
set_option maxRecDepth 100000 in
theorem zX_kind_0 (l : Launch) (K : lm_G) (x : Nat) (c : Nat → Nat) (w : Nat → lm_V) (u : Nat) (rt : Nat → lm_V) (z : Int32) (hst : lm_st c w u rt) (W : va_W) (hW : lm_obj K x (c, w, u, rt, z) W) (r : Int32) (hcd : (lm_q1 r (c, w, u, rt, z)).1 = 0) : lm_C l K mX3_kind (rk 6) [.ref x, .int r] W (fun v9 w9 => v9 = some (.int (if lm_none r = true then nI 0 else nI (rt (lm_ix r)).1)) ∧ lm_obj K x (lm_q1 r (c, w, u, rt, z)).2 w9) := by
  obtain ⟨ro, kc, l0, il, ir, np, h, ca, co, h2, ca2, co2, mt, fo, ba, wa, cn, gr, fl, fi, fr, fn, mn, fa, ga, f2, g2, t2, ffo, fba, fwa, mm, fc, hh, hro, rfl⟩ := hW
  have hh : lm_hf fa ga c w u := hh
  have hro : ∀ r, r < 10 → gr r = en (rt r) := hro
  have hw := hst.1
  have hr9 := hst.2
  have hu := hw.1
  refine lx_met RX3 pn_X3 rfl (Nat.le_of_ble_eq_true rfl) (fun E hE hnm F hR => ?_)
  have F : lx_F K 2 E cX3_kind RX3 (some .int) (rk 6) := F
  show lx_W K 2 E 0 0 0 [(0, .ref x), (1, .int r)] [] [(x, .inr (3, [.ref ro, .ref kc, .ref mt, .ref cn, .ref h, .ref h2, .int z])), (ro, aJ K 10 gr), (kc, .inr (0, [.ref l0, .ref il, .ref ir, .ref np, .int mn])), (l0, aI K 120 fl), (il, aI K 120 fi), (ir, aI K 120 fr), (np, aI K 120 fn), (h, .inr (1, [.ref ca, .ref co, .int (nI u)])), (ca, aI K 120 fa), (co, aJ K 120 ga), (h2, .inr (1, [.ref ca2, .ref co2, .int t2])), (ca2, aI K 120 f2), (co2, aJ K 120 g2), (mt, .inr (2, [.ref fo, .ref ba, .ref wa, .int mm])), (fo, aI K 120 ffo), (ba, aI K 120 fba), (wa, aI K 120 fwa), (cn, aI K 120 fc)]
  cases hnr : lm_none r
  · skip
    obtain ⟨k, hk, rfl⟩ := lm_none_f hnr
    have hk3 := lm_ok_kind (hr9 k hk)
    refine lx_iload_n F dX3_kind_0 1 rfl ?_
    refine lx_cs F (zX_ck (xl E) K k hk) cs_X3_45 [] [0, 1, 2, 3, 4, 5, 6, 7, 8, 9, 10, 11, 12, 13, 14, 15, 16, 17] [(x, .inr (3, [.ref ro, .ref kc, .ref mt, .ref cn, .ref h, .ref h2, .int z])), (ro, aJ K 10 gr), (kc, .inr (0, [.ref l0, .ref il, .ref ir, .ref np, .int mn])), (l0, aI K 120 fl), (il, aI K 120 fi), (ir, aI K 120 fr), (np, aI K 120 fn), (h, .inr (1, [.ref ca, .ref co, .int (nI u)])), (ca, aI K 120 fa), (co, aJ K 120 ga), (h2, .inr (1, [.ref ca2, .ref co2, .int t2])), (ca2, aI K 120 f2), (co2, aJ K 120 g2), (mt, .inr (2, [.ref fo, .ref ba, .ref wa, .int mm])), (fo, aI K 120 ffo), (ba, aI K 120 fba), (wa, aI K 120 fwa), (cn, aI K 120 fc)] rfl rfl (by decide) rfl (st := []) rfl (Nat.le_of_ble_eq_true rfl) (by decide) ⟨by decide, by decide⟩ dX3_kind_1 (fun v9 w9 h9 => ?_)
    obtain ⟨rfl, rfl⟩ := h9
    refine lx_perm [0, 1, 2, 3, 4, 5, 6, 7, 8, 9, 10, 11, 12, 13, 14, 15, 16, 17] [(x, .inr (3, [.ref ro, .ref kc, .ref mt, .ref cn, .ref h, .ref h2, .int z])), (ro, aJ K 10 gr), (kc, .inr (0, [.ref l0, .ref il, .ref ir, .ref np, .int mn])), (l0, aI K 120 fl), (il, aI K 120 fi), (ir, aI K 120 fr), (np, aI K 120 fn), (h, .inr (1, [.ref ca, .ref co, .int (nI u)])), (ca, aI K 120 fa), (co, aJ K 120 ga), (h2, .inr (1, [.ref ca2, .ref co2, .int t2])), (ca2, aI K 120 f2), (co2, aJ K 120 g2), (mt, .inr (2, [.ref fo, .ref ba, .ref wa, .int mm])), (fo, aI K 120 ffo), (ba, aI K 120 fba), (wa, aI K 120 fwa), (cn, aI K 120 fc)] (by decide) rfl ?_
    refine lx_st (a' := 0) (b' := 0) [] rfl rfl rfl ?_
    refine lx_aload_n F dX3_kind_4 0 rfl ?_
    refine gf_X3_9 F 0 rfl rfl dX3_kind_5 ?_
    refine lx_iload_n F dX3_kind_8 1 rfl ?_
    refine lx_lald F 1 k dX3_kind_9 rfl (by omega) (by decide) ?_
    rw [hro k hk]
    refine lx_cs F (zs_kindOf (xl E) K (rt k) (by omega)) cs_X3_118 [] [0, 1, 2, 3, 4, 5, 6, 7, 8, 9, 10, 11, 12, 13, 14, 15, 16, 17] [(x, .inr (3, [.ref ro, .ref kc, .ref mt, .ref cn, .ref h, .ref h2, .int z])), (ro, aJ K 10 gr), (kc, .inr (0, [.ref l0, .ref il, .ref ir, .ref np, .int mn])), (l0, aI K 120 fl), (il, aI K 120 fi), (ir, aI K 120 fr), (np, aI K 120 fn), (h, .inr (1, [.ref ca, .ref co, .int (nI u)])), (ca, aI K 120 fa), (co, aJ K 120 ga), (h2, .inr (1, [.ref ca2, .ref co2, .int t2])), (ca2, aI K 120 f2), (co2, aJ K 120 g2), (mt, .inr (2, [.ref fo, .ref ba, .ref wa, .int mm])), (fo, aI K 120 ffo), (ba, aI K 120 fba), (wa, aI K 120 fwa), (cn, aI K 120 fc)] rfl rfl (by decide) rfl (st := []) rfl (Nat.le_of_ble_eq_true rfl) (by decide) ⟨by decide, by decide⟩ dX3_kind_10 (fun v9 w9 h9 => ?_)
    obtain ⟨rfl, rfl⟩ := h9
    refine lx_perm [0, 1, 2, 3, 4, 5, 6, 7, 8, 9, 10, 11, 12, 13, 14, 15, 16, 17] [(x, .inr (3, [.ref ro, .ref kc, .ref mt, .ref cn, .ref h, .ref h2, .int z])), (ro, aJ K 10 gr), (kc, .inr (0, [.ref l0, .ref il, .ref ir, .ref np, .int mn])), (l0, aI K 120 fl), (il, aI K 120 fi), (ir, aI K 120 fr), (np, aI K 120 fn), (h, .inr (1, [.ref ca, .ref co, .int (nI u)])), (ca, aI K 120 fa), (co, aJ K 120 ga), (h2, .inr (1, [.ref ca2, .ref co2, .int t2])), (ca2, aI K 120 f2), (co2, aJ K 120 g2), (mt, .inr (2, [.ref fo, .ref ba, .ref wa, .int mm])), (fo, aI K 120 ffo), (ba, aI K 120 fba), (wa, aI K 120 fwa), (cn, aI K 120 fc)] (by decide) rfl ?_
    refine lx_st (a' := 0) (b' := 0) [.int (nI ((rt k).1))] rfl rfl rfl ?_
    exact lx_iret F hR dX3_kind_13 ⟨by rw [lm_none_n hk, if_neg (by decide), lm_ix_n hk], by rw [show lm_q1 (nI k) (c, w, u, rt, z) = (0, (c, w, u, rt, z)) by unfold lm_q1; rw [lm_none_n hk]; rfl]; exact ⟨_, _, _, _, _, _, _, _, _, _, _, _, _, _, _, _, _, _, _, _, _, _, _, _, _, _, _, _, _, _, _, _, _, hh, hro, rfl⟩⟩
  · skip
    exact absurd hcd (by rw [show lm_q1 r (c, w, u, rt, z) = (1, (c, w, u, rt, z)) by unfold lm_q1; rw [if_pos hnr]]; simp)

set_option maxHeartbeats 4000000 in
set_option maxRecDepth 100000 in
theorem zX_kind_1 (l : Launch) (K : lm_G) (x : Nat) (c : Nat → Nat) (w : Nat → lm_V) (u : Nat) (rt : Nat → lm_V) (z : Int32) (hst : lm_st c w u rt) (W : va_W) (hW : lm_obj K x (c, w, u, rt, z) W) (r : Int32) (hcd : (lm_q1 r (c, w, u, rt, z)).1 = 1) : lm_CX l K mX3_kind (rx 8) [.ref x, .int r] W eN (fun w9 => lm_obj K x (lm_q1 r (c, w, u, rt, z)).2 w9) := by
  obtain ⟨ro, kc, l0, il, ir, np, h, ca, co, h2, ca2, co2, mt, fo, ba, wa, cn, gr, fl, fi, fr, fn, mn, fa, ga, f2, g2, t2, ffo, fba, fwa, mm, fc, hh, hro, rfl⟩ := hW
  have hh : lm_hf fa ga c w u := hh
  have hro : ∀ r, r < 10 → gr r = en (rt r) := hro
  have hw := hst.1
  have hr9 := hst.2
  have hu := hw.1
  refine lx_metX RX3 pn_X3 rfl (Nat.le_of_ble_eq_true rfl) (fun E hE F X => ?_)
  have F : lx_F K 2 E cX3_kind RX3 (some .int) (rx 8) := F
  show lx_W K 2 E 0 0 0 [(0, .ref x), (1, .int r)] [] [(x, .inr (3, [.ref ro, .ref kc, .ref mt, .ref cn, .ref h, .ref h2, .int z])), (ro, aJ K 10 gr), (kc, .inr (0, [.ref l0, .ref il, .ref ir, .ref np, .int mn])), (l0, aI K 120 fl), (il, aI K 120 fi), (ir, aI K 120 fr), (np, aI K 120 fn), (h, .inr (1, [.ref ca, .ref co, .int (nI u)])), (ca, aI K 120 fa), (co, aJ K 120 ga), (h2, .inr (1, [.ref ca2, .ref co2, .int t2])), (ca2, aI K 120 f2), (co2, aJ K 120 g2), (mt, .inr (2, [.ref fo, .ref ba, .ref wa, .int mm])), (fo, aI K 120 ffo), (ba, aI K 120 fba), (wa, aI K 120 fwa), (cn, aI K 120 fc)]
  cases hnr : lm_none r
  · skip
    obtain ⟨k, hk, rfl⟩ := lm_none_f hnr
    exact absurd hcd (by rw [show lm_q1 (nI k) (c, w, u, rt, z) = (0, (c, w, u, rt, z)) by unfold lm_q1; rw [lm_none_n hk]; rfl]; simp)
  · skip
    refine lx_iload_n F dX3_kind_0 1 rfl ?_
    exact lx_csX F X (zX_ckx (xl E) K r hnr) cs_X3_45 [] [0, 1, 2, 3, 4, 5, 6, 7, 8, 9, 10, 11, 12, 13, 14, 15, 16, 17] [(x, .inr (3, [.ref ro, .ref kc, .ref mt, .ref cn, .ref h, .ref h2, .int z])), (ro, aJ K 10 gr), (kc, .inr (0, [.ref l0, .ref il, .ref ir, .ref np, .int mn])), (l0, aI K 120 fl), (il, aI K 120 fi), (ir, aI K 120 fr), (np, aI K 120 fn), (h, .inr (1, [.ref ca, .ref co, .int (nI u)])), (ca, aI K 120 fa), (co, aJ K 120 ga), (h2, .inr (1, [.ref ca2, .ref co2, .int t2])), (ca2, aI K 120 f2), (co2, aJ K 120 g2), (mt, .inr (2, [.ref fo, .ref ba, .ref wa, .int mm])), (fo, aI K 120 ffo), (ba, aI K 120 fba), (wa, aI K 120 fwa), (cn, aI K 120 fc)] rfl rfl (by decide) rfl (st := []) rfl (Nat.le_of_ble_eq_true rfl) (by decide) ⟨by decide, by decide⟩ dX3_kind_1 (fun w9 h9 => by subst h9; exact (by show lm_obj K x _ _; rw [show lm_q1 r (c, w, u, rt, z) = (1, (c, w, u, rt, z)) by unfold lm_q1; rw [if_pos hnr]]; exact ⟨_, _, _, _, _, _, _, _, _, _, _, _, _, _, _, _, _, _, _, _, _, _, _, _, _, _, _, _, _, _, _, _, _, hh, hro, rfl⟩))

set_option maxHeartbeats 4000000 in
set_option maxRecDepth 100000 in
theorem zX_length_0 (l : Launch) (K : lm_G) (x : Nat) (c : Nat → Nat) (w : Nat → lm_V) (u : Nat) (rt : Nat → lm_V) (z : Int32) (hst : lm_st c w u rt) (W : va_W) (hW : lm_obj K x (c, w, u, rt, z) W) (r : Int32) (hcd : (lm_q1 r (c, w, u, rt, z)).1 = 0) : lm_C l K mX3_length (rk 6) [.ref x, .int r] W (fun v9 w9 => v9 = some (.int (if lm_none r = true then nI 0 else Int32.ofInt (lm_len c w 121 0 (rt (lm_ix r))))) ∧ lm_obj K x (lm_q1 r (c, w, u, rt, z)).2 w9) := by
  obtain ⟨ro, kc, l0, il, ir, np, h, ca, co, h2, ca2, co2, mt, fo, ba, wa, cn, gr, fl, fi, fr, fn, mn, fa, ga, f2, g2, t2, ffo, fba, fwa, mm, fc, hh, hro, rfl⟩ := hW
  have hh : lm_hf fa ga c w u := hh
  have hro : ∀ r, r < 10 → gr r = en (rt r) := hro
  have hw := hst.1
  have hr9 := hst.2
  have hu := hw.1
  refine lx_met RX3 pn_X3 rfl (Nat.le_of_ble_eq_true rfl) (fun E hE hnm F hR => ?_)
  have F : lx_F K 2 E cX3_length RX3 (some .int) (rk 6) := F
  show lx_W K 2 E 0 0 0 [(0, .ref x), (1, .int r)] [] [(x, .inr (3, [.ref ro, .ref kc, .ref mt, .ref cn, .ref h, .ref h2, .int z])), (ro, aJ K 10 gr), (kc, .inr (0, [.ref l0, .ref il, .ref ir, .ref np, .int mn])), (l0, aI K 120 fl), (il, aI K 120 fi), (ir, aI K 120 fr), (np, aI K 120 fn), (h, .inr (1, [.ref ca, .ref co, .int (nI u)])), (ca, aI K 120 fa), (co, aJ K 120 ga), (h2, .inr (1, [.ref ca2, .ref co2, .int t2])), (ca2, aI K 120 f2), (co2, aJ K 120 g2), (mt, .inr (2, [.ref fo, .ref ba, .ref wa, .int mm])), (fo, aI K 120 ffo), (ba, aI K 120 fba), (wa, aI K 120 fwa), (cn, aI K 120 fc)]
  cases hnr : lm_none r
  · skip
    obtain ⟨k, hk, rfl⟩ := lm_none_f hnr
    have hk3 := lm_ok_kind (hr9 k hk)
    refine lx_iload_n F dX3_length_0 1 rfl ?_
    refine lx_cs F (zX_ck (xl E) K k hk) cs_X3_45 [] [0, 1, 2, 3, 4, 5, 6, 7, 8, 9, 10, 11, 12, 13, 14, 15, 16, 17] [(x, .inr (3, [.ref ro, .ref kc, .ref mt, .ref cn, .ref h, .ref h2, .int z])), (ro, aJ K 10 gr), (kc, .inr (0, [.ref l0, .ref il, .ref ir, .ref np, .int mn])), (l0, aI K 120 fl), (il, aI K 120 fi), (ir, aI K 120 fr), (np, aI K 120 fn), (h, .inr (1, [.ref ca, .ref co, .int (nI u)])), (ca, aI K 120 fa), (co, aJ K 120 ga), (h2, .inr (1, [.ref ca2, .ref co2, .int t2])), (ca2, aI K 120 f2), (co2, aJ K 120 g2), (mt, .inr (2, [.ref fo, .ref ba, .ref wa, .int mm])), (fo, aI K 120 ffo), (ba, aI K 120 fba), (wa, aI K 120 fwa), (cn, aI K 120 fc)] rfl rfl (by decide) rfl (st := []) rfl (Nat.le_of_ble_eq_true rfl) (by decide) ⟨by decide, by decide⟩ dX3_length_1 (fun v9 w9 h9 => ?_)
    obtain ⟨rfl, rfl⟩ := h9
    refine lx_perm [0, 1, 2, 3, 4, 5, 6, 7, 8, 9, 10, 11, 12, 13, 14, 15, 16, 17] [(x, .inr (3, [.ref ro, .ref kc, .ref mt, .ref cn, .ref h, .ref h2, .int z])), (ro, aJ K 10 gr), (kc, .inr (0, [.ref l0, .ref il, .ref ir, .ref np, .int mn])), (l0, aI K 120 fl), (il, aI K 120 fi), (ir, aI K 120 fr), (np, aI K 120 fn), (h, .inr (1, [.ref ca, .ref co, .int (nI u)])), (ca, aI K 120 fa), (co, aJ K 120 ga), (h2, .inr (1, [.ref ca2, .ref co2, .int t2])), (ca2, aI K 120 f2), (co2, aJ K 120 g2), (mt, .inr (2, [.ref fo, .ref ba, .ref wa, .int mm])), (fo, aI K 120 ffo), (ba, aI K 120 fba), (wa, aI K 120 fwa), (cn, aI K 120 fc)] (by decide) rfl ?_
    refine lx_st (a' := 0) (b' := 0) [] rfl rfl rfl ?_
    refine lx_aload_n F dX3_length_4 0 rfl ?_
    refine lx_aload_n F dX3_length_5 0 rfl ?_
    refine gf_X3_9 F 0 rfl rfl dX3_length_6 ?_
    refine lx_iload_n F dX3_length_9 1 rfl ?_
    refine lx_lald F 1 k dX3_length_10 rfl (by omega) (by decide) ?_
    rw [hro k hk]
    refine lx_cv F (zl_countPairs (xl E) K x ro kc mt cn h2 z h ca co fa ga (nI u) c w u hw hh (rt k) (hr9 k hk)) cv_X3_110 0 rfl rfl [0, 7, 8, 9] [1, 2, 3, 4, 5, 6, 10, 11, 12, 13, 14, 15, 16, 17] [(ro, aJ K 10 gr), (kc, .inr (0, [.ref l0, .ref il, .ref ir, .ref np, .int mn])), (l0, aI K 120 fl), (il, aI K 120 fi), (ir, aI K 120 fr), (np, aI K 120 fn), (h2, .inr (1, [.ref ca2, .ref co2, .int t2])), (ca2, aI K 120 f2), (co2, aJ K 120 g2), (mt, .inr (2, [.ref fo, .ref ba, .ref wa, .int mm])), (fo, aI K 120 ffo), (ba, aI K 120 fba), (wa, aI K 120 fwa), (cn, aI K 120 fc)] rfl rfl (by decide) rfl (st := []) rfl (Nat.le_of_ble_eq_true rfl) (by decide) ⟨by decide, by decide⟩ dX3_length_11 (fun v9 w9 h9 => ?_)
    obtain ⟨rfl, rfl⟩ := h9
    refine lx_perm [14, 0, 1, 2, 3, 4, 5, 15, 16, 17, 6, 7, 8, 9, 10, 11, 12, 13] [(x, .inr (3, [.ref ro, .ref kc, .ref mt, .ref cn, .ref h, .ref h2, .int z])), (ro, aJ K 10 gr), (kc, .inr (0, [.ref l0, .ref il, .ref ir, .ref np, .int mn])), (l0, aI K 120 fl), (il, aI K 120 fi), (ir, aI K 120 fr), (np, aI K 120 fn), (h, .inr (1, [.ref ca, .ref co, .int (nI u)])), (ca, aI K 120 fa), (co, aJ K 120 ga), (h2, .inr (1, [.ref ca2, .ref co2, .int t2])), (ca2, aI K 120 f2), (co2, aJ K 120 g2), (mt, .inr (2, [.ref fo, .ref ba, .ref wa, .int mm])), (fo, aI K 120 ffo), (ba, aI K 120 fba), (wa, aI K 120 fwa), (cn, aI K 120 fc)] (by decide) rfl ?_
    refine lx_st (a' := 0) (b' := 0) [.int (Int32.ofInt (lm_len c w 121 0 (rt k)))] rfl rfl rfl ?_
    exact lx_iret F hR dX3_length_14 ⟨by rw [lm_none_n hk, if_neg (by decide), lm_ix_n hk], by rw [show lm_q1 (nI k) (c, w, u, rt, z) = (0, (c, w, u, rt, z)) by unfold lm_q1; rw [lm_none_n hk]; rfl]; exact ⟨_, _, _, _, _, _, _, _, _, _, _, _, _, _, _, _, _, _, _, _, _, _, _, _, _, _, _, _, _, _, _, _, _, hh, hro, rfl⟩⟩
  · skip
    exact absurd hcd (by rw [show lm_q1 r (c, w, u, rt, z) = (1, (c, w, u, rt, z)) by unfold lm_q1; rw [if_pos hnr]]; simp)

set_option maxHeartbeats 4000000 in
set_option maxRecDepth 100000 in
theorem zX_length_1 (l : Launch) (K : lm_G) (x : Nat) (c : Nat → Nat) (w : Nat → lm_V) (u : Nat) (rt : Nat → lm_V) (z : Int32) (hst : lm_st c w u rt) (W : va_W) (hW : lm_obj K x (c, w, u, rt, z) W) (r : Int32) (hcd : (lm_q1 r (c, w, u, rt, z)).1 = 1) : lm_CX l K mX3_length (rx 8) [.ref x, .int r] W eN (fun w9 => lm_obj K x (lm_q1 r (c, w, u, rt, z)).2 w9) := by
  obtain ⟨ro, kc, l0, il, ir, np, h, ca, co, h2, ca2, co2, mt, fo, ba, wa, cn, gr, fl, fi, fr, fn, mn, fa, ga, f2, g2, t2, ffo, fba, fwa, mm, fc, hh, hro, rfl⟩ := hW
  have hh : lm_hf fa ga c w u := hh
  have hro : ∀ r, r < 10 → gr r = en (rt r) := hro
  have hw := hst.1
  have hr9 := hst.2
  have hu := hw.1
  refine lx_metX RX3 pn_X3 rfl (Nat.le_of_ble_eq_true rfl) (fun E hE F X => ?_)
  have F : lx_F K 2 E cX3_length RX3 (some .int) (rx 8) := F
  show lx_W K 2 E 0 0 0 [(0, .ref x), (1, .int r)] [] [(x, .inr (3, [.ref ro, .ref kc, .ref mt, .ref cn, .ref h, .ref h2, .int z])), (ro, aJ K 10 gr), (kc, .inr (0, [.ref l0, .ref il, .ref ir, .ref np, .int mn])), (l0, aI K 120 fl), (il, aI K 120 fi), (ir, aI K 120 fr), (np, aI K 120 fn), (h, .inr (1, [.ref ca, .ref co, .int (nI u)])), (ca, aI K 120 fa), (co, aJ K 120 ga), (h2, .inr (1, [.ref ca2, .ref co2, .int t2])), (ca2, aI K 120 f2), (co2, aJ K 120 g2), (mt, .inr (2, [.ref fo, .ref ba, .ref wa, .int mm])), (fo, aI K 120 ffo), (ba, aI K 120 fba), (wa, aI K 120 fwa), (cn, aI K 120 fc)]
  cases hnr : lm_none r
  · skip
    obtain ⟨k, hk, rfl⟩ := lm_none_f hnr
    exact absurd hcd (by rw [show lm_q1 (nI k) (c, w, u, rt, z) = (0, (c, w, u, rt, z)) by unfold lm_q1; rw [lm_none_n hk]; rfl]; simp)
  · skip
    refine lx_iload_n F dX3_length_0 1 rfl ?_
    exact lx_csX F X (zX_ckx (xl E) K r hnr) cs_X3_45 [] [0, 1, 2, 3, 4, 5, 6, 7, 8, 9, 10, 11, 12, 13, 14, 15, 16, 17] [(x, .inr (3, [.ref ro, .ref kc, .ref mt, .ref cn, .ref h, .ref h2, .int z])), (ro, aJ K 10 gr), (kc, .inr (0, [.ref l0, .ref il, .ref ir, .ref np, .int mn])), (l0, aI K 120 fl), (il, aI K 120 fi), (ir, aI K 120 fr), (np, aI K 120 fn), (h, .inr (1, [.ref ca, .ref co, .int (nI u)])), (ca, aI K 120 fa), (co, aJ K 120 ga), (h2, .inr (1, [.ref ca2, .ref co2, .int t2])), (ca2, aI K 120 f2), (co2, aJ K 120 g2), (mt, .inr (2, [.ref fo, .ref ba, .ref wa, .int mm])), (fo, aI K 120 ffo), (ba, aI K 120 fba), (wa, aI K 120 fwa), (cn, aI K 120 fc)] rfl rfl (by decide) rfl (st := []) rfl (Nat.le_of_ble_eq_true rfl) (by decide) ⟨by decide, by decide⟩ dX3_length_1 (fun w9 h9 => by subst h9; exact (by show lm_obj K x _ _; rw [show lm_q1 r (c, w, u, rt, z) = (1, (c, w, u, rt, z)) by unfold lm_q1; rw [if_pos hnr]]; exact ⟨_, _, _, _, _, _, _, _, _, _, _, _, _, _, _, _, _, _, _, _, _, _, _, _, _, _, _, _, _, _, _, _, _, hh, hro, rfl⟩))

set_option maxHeartbeats 4000000 in
set_option maxRecDepth 100000 in
theorem zX_value_0 (l : Launch) (K : lm_G) (x : Nat) (c : Nat → Nat) (w : Nat → lm_V) (u : Nat) (rt : Nat → lm_V) (z : Int32) (hst : lm_st c w u rt) (W : va_W) (hW : lm_obj K x (c, w, u, rt, z) W) (r : Int32) (hcd : (lm_qv r (c, w, u, rt, z)).1 = 0) : lm_C l K mX3_value (rk 6) [.ref x, .int r] W (fun v9 w9 => v9 = some (.long (if lm_none r = true then jI 0 else if (rt (lm_ix r)).1 ≠ 1 then jI 0 else jI (rt (lm_ix r)).2)) ∧ lm_obj K x (lm_qv r (c, w, u, rt, z)).2 w9) := by
  obtain ⟨ro, kc, l0, il, ir, np, h, ca, co, h2, ca2, co2, mt, fo, ba, wa, cn, gr, fl, fi, fr, fn, mn, fa, ga, f2, g2, t2, ffo, fba, fwa, mm, fc, hh, hro, rfl⟩ := hW
  have hh : lm_hf fa ga c w u := hh
  have hro : ∀ r, r < 10 → gr r = en (rt r) := hro
  have hw := hst.1
  have hr9 := hst.2
  have hu := hw.1
  refine lx_met RX3 pn_X3 rfl (Nat.le_of_ble_eq_true rfl) (fun E hE hnm F hR => ?_)
  have F : lx_F K 2 E cX3_value RX3 (some .long) (rk 6) := F
  show lx_W K 2 E 0 0 0 [(0, .ref x), (1, .int r)] [] [(x, .inr (3, [.ref ro, .ref kc, .ref mt, .ref cn, .ref h, .ref h2, .int z])), (ro, aJ K 10 gr), (kc, .inr (0, [.ref l0, .ref il, .ref ir, .ref np, .int mn])), (l0, aI K 120 fl), (il, aI K 120 fi), (ir, aI K 120 fr), (np, aI K 120 fn), (h, .inr (1, [.ref ca, .ref co, .int (nI u)])), (ca, aI K 120 fa), (co, aJ K 120 ga), (h2, .inr (1, [.ref ca2, .ref co2, .int t2])), (ca2, aI K 120 f2), (co2, aJ K 120 g2), (mt, .inr (2, [.ref fo, .ref ba, .ref wa, .int mm])), (fo, aI K 120 ffo), (ba, aI K 120 fba), (wa, aI K 120 fwa), (cn, aI K 120 fc)]
  cases hnr : lm_none r
  · skip
    obtain ⟨k, hk, rfl⟩ := lm_none_f hnr
    have hk3 := lm_ok_kind (hr9 k hk)
    by_cases h1 : (rt k).1 = 1
    · skip
      refine lx_iload_n F dX3_value_0 1 rfl ?_
      refine lx_cs F (zX_ck (xl E) K k hk) cs_X3_45 [] [0, 1, 2, 3, 4, 5, 6, 7, 8, 9, 10, 11, 12, 13, 14, 15, 16, 17] [(x, .inr (3, [.ref ro, .ref kc, .ref mt, .ref cn, .ref h, .ref h2, .int z])), (ro, aJ K 10 gr), (kc, .inr (0, [.ref l0, .ref il, .ref ir, .ref np, .int mn])), (l0, aI K 120 fl), (il, aI K 120 fi), (ir, aI K 120 fr), (np, aI K 120 fn), (h, .inr (1, [.ref ca, .ref co, .int (nI u)])), (ca, aI K 120 fa), (co, aJ K 120 ga), (h2, .inr (1, [.ref ca2, .ref co2, .int t2])), (ca2, aI K 120 f2), (co2, aJ K 120 g2), (mt, .inr (2, [.ref fo, .ref ba, .ref wa, .int mm])), (fo, aI K 120 ffo), (ba, aI K 120 fba), (wa, aI K 120 fwa), (cn, aI K 120 fc)] rfl rfl (by decide) rfl (st := []) rfl (Nat.le_of_ble_eq_true rfl) (by decide) ⟨by decide, by decide⟩ dX3_value_1 (fun v9 w9 h9 => ?_)
      obtain ⟨rfl, rfl⟩ := h9
      refine lx_perm [0, 1, 2, 3, 4, 5, 6, 7, 8, 9, 10, 11, 12, 13, 14, 15, 16, 17] [(x, .inr (3, [.ref ro, .ref kc, .ref mt, .ref cn, .ref h, .ref h2, .int z])), (ro, aJ K 10 gr), (kc, .inr (0, [.ref l0, .ref il, .ref ir, .ref np, .int mn])), (l0, aI K 120 fl), (il, aI K 120 fi), (ir, aI K 120 fr), (np, aI K 120 fn), (h, .inr (1, [.ref ca, .ref co, .int (nI u)])), (ca, aI K 120 fa), (co, aJ K 120 ga), (h2, .inr (1, [.ref ca2, .ref co2, .int t2])), (ca2, aI K 120 f2), (co2, aJ K 120 g2), (mt, .inr (2, [.ref fo, .ref ba, .ref wa, .int mm])), (fo, aI K 120 ffo), (ba, aI K 120 fba), (wa, aI K 120 fwa), (cn, aI K 120 fc)] (by decide) rfl ?_
      refine lx_st (a' := 0) (b' := 0) [] rfl rfl rfl ?_
      refine lx_aload_n F dX3_value_4 0 rfl ?_
      refine gf_X3_9 F 0 rfl rfl dX3_value_5 ?_
      refine lx_iload_n F dX3_value_8 1 rfl ?_
      refine lx_lald F 1 k dX3_value_9 rfl (by omega) (by decide) ?_
      rw [hro k hk]
      refine lx_cs F (zs_kindOf (xl E) K (rt k) (by omega)) cs_X3_118 [] [0, 1, 2, 3, 4, 5, 6, 7, 8, 9, 10, 11, 12, 13, 14, 15, 16, 17] [(x, .inr (3, [.ref ro, .ref kc, .ref mt, .ref cn, .ref h, .ref h2, .int z])), (ro, aJ K 10 gr), (kc, .inr (0, [.ref l0, .ref il, .ref ir, .ref np, .int mn])), (l0, aI K 120 fl), (il, aI K 120 fi), (ir, aI K 120 fr), (np, aI K 120 fn), (h, .inr (1, [.ref ca, .ref co, .int (nI u)])), (ca, aI K 120 fa), (co, aJ K 120 ga), (h2, .inr (1, [.ref ca2, .ref co2, .int t2])), (ca2, aI K 120 f2), (co2, aJ K 120 g2), (mt, .inr (2, [.ref fo, .ref ba, .ref wa, .int mm])), (fo, aI K 120 ffo), (ba, aI K 120 fba), (wa, aI K 120 fwa), (cn, aI K 120 fc)] rfl rfl (by decide) rfl (st := []) rfl (Nat.le_of_ble_eq_true rfl) (by decide) ⟨by decide, by decide⟩ dX3_value_10 (fun v9 w9 h9 => ?_)
      obtain ⟨rfl, rfl⟩ := h9
      refine lx_perm [0, 1, 2, 3, 4, 5, 6, 7, 8, 9, 10, 11, 12, 13, 14, 15, 16, 17] [(x, .inr (3, [.ref ro, .ref kc, .ref mt, .ref cn, .ref h, .ref h2, .int z])), (ro, aJ K 10 gr), (kc, .inr (0, [.ref l0, .ref il, .ref ir, .ref np, .int mn])), (l0, aI K 120 fl), (il, aI K 120 fi), (ir, aI K 120 fr), (np, aI K 120 fn), (h, .inr (1, [.ref ca, .ref co, .int (nI u)])), (ca, aI K 120 fa), (co, aJ K 120 ga), (h2, .inr (1, [.ref ca2, .ref co2, .int t2])), (ca2, aI K 120 f2), (co2, aJ K 120 g2), (mt, .inr (2, [.ref fo, .ref ba, .ref wa, .int mm])), (fo, aI K 120 ffo), (ba, aI K 120 fba), (wa, aI K 120 fwa), (cn, aI K 120 fc)] (by decide) rfl ?_
      refine lx_st (a' := 0) (b' := 0) [.int (nI ((rt k).1))] rfl rfl rfl ?_
      refine lx_iconst F dX3_value_13 kc_1 ?_
      refine lx_icmpN_eq F 27 (by omega) (by omega) dX3_value_14 rfl (fun _ => ?_) (fun h => absurd h (by omega))
      refine lx_aload_n F dX3_value_27 0 rfl ?_
      refine gf_X3_9 F 0 rfl rfl dX3_value_28 ?_
      refine lx_iload_n F dX3_value_31 1 rfl ?_
      refine lx_lald F 1 k dX3_value_32 rfl (by omega) (by decide) ?_
      rw [hro k hk]
      refine lx_cs F (zs_bodyOf (xl E) K (rt k) (en_of hu (hr9 k hk))) cs_X3_127 [] [0, 1, 2, 3, 4, 5, 6, 7, 8, 9, 10, 11, 12, 13, 14, 15, 16, 17] [(x, .inr (3, [.ref ro, .ref kc, .ref mt, .ref cn, .ref h, .ref h2, .int z])), (ro, aJ K 10 gr), (kc, .inr (0, [.ref l0, .ref il, .ref ir, .ref np, .int mn])), (l0, aI K 120 fl), (il, aI K 120 fi), (ir, aI K 120 fr), (np, aI K 120 fn), (h, .inr (1, [.ref ca, .ref co, .int (nI u)])), (ca, aI K 120 fa), (co, aJ K 120 ga), (h2, .inr (1, [.ref ca2, .ref co2, .int t2])), (ca2, aI K 120 f2), (co2, aJ K 120 g2), (mt, .inr (2, [.ref fo, .ref ba, .ref wa, .int mm])), (fo, aI K 120 ffo), (ba, aI K 120 fba), (wa, aI K 120 fwa), (cn, aI K 120 fc)] rfl rfl (by decide) rfl (st := []) rfl (Nat.le_of_ble_eq_true rfl) (by decide) ⟨by decide, by decide⟩ dX3_value_33 (fun v9 w9 h9 => ?_)
      obtain ⟨rfl, rfl⟩ := h9
      refine lx_perm [0, 1, 2, 3, 4, 5, 6, 7, 8, 9, 10, 11, 12, 13, 14, 15, 16, 17] [(x, .inr (3, [.ref ro, .ref kc, .ref mt, .ref cn, .ref h, .ref h2, .int z])), (ro, aJ K 10 gr), (kc, .inr (0, [.ref l0, .ref il, .ref ir, .ref np, .int mn])), (l0, aI K 120 fl), (il, aI K 120 fi), (ir, aI K 120 fr), (np, aI K 120 fn), (h, .inr (1, [.ref ca, .ref co, .int (nI u)])), (ca, aI K 120 fa), (co, aJ K 120 ga), (h2, .inr (1, [.ref ca2, .ref co2, .int t2])), (ca2, aI K 120 f2), (co2, aJ K 120 g2), (mt, .inr (2, [.ref fo, .ref ba, .ref wa, .int mm])), (fo, aI K 120 ffo), (ba, aI K 120 fba), (wa, aI K 120 fwa), (cn, aI K 120 fc)] (by decide) rfl ?_
      refine lx_st (a' := 0) (b' := 0) [.long (jI ((rt k).2))] rfl rfl rfl ?_
      exact lx_lret F hR dX3_value_36 ⟨by rw [lm_none_n hk, if_neg (by decide), lm_ix_n hk, if_neg (show ¬ (rt k).1 ≠ 1 from fun z9 => z9 h1)], by rw [show lm_qv (nI k) (c, w, u, rt, z) = (0, (c, w, u, rt, z)) by unfold lm_qv; rw [lm_none_n hk, if_neg (by decide), lm_ix_n hk, if_neg (show ¬ (rt k).1 ≠ 1 from fun z9 => z9 h1)]]; exact ⟨_, _, _, _, _, _, _, _, _, _, _, _, _, _, _, _, _, _, _, _, _, _, _, _, _, _, _, _, _, _, _, _, _, hh, hro, rfl⟩⟩
    · skip
      exact absurd hcd (by rw [show lm_qv (nI k) (c, w, u, rt, z) = (2, (c, w, u, rt, z)) by unfold lm_qv; rw [lm_none_n hk, if_neg (by decide), lm_ix_n hk, if_pos h1]]; simp)
  · skip
    exact absurd hcd (by rw [show lm_qv r (c, w, u, rt, z) = (1, (c, w, u, rt, z)) by unfold lm_qv; rw [if_pos hnr]]; simp)

set_option maxHeartbeats 4000000 in
set_option maxRecDepth 100000 in
theorem zX_value_1 (l : Launch) (K : lm_G) (x : Nat) (c : Nat → Nat) (w : Nat → lm_V) (u : Nat) (rt : Nat → lm_V) (z : Int32) (hst : lm_st c w u rt) (W : va_W) (hW : lm_obj K x (c, w, u, rt, z) W) (r : Int32) (hcd : (lm_qv r (c, w, u, rt, z)).1 = 1) : lm_CX l K mX3_value (rx 8) [.ref x, .int r] W eN (fun w9 => lm_obj K x (lm_qv r (c, w, u, rt, z)).2 w9) := by
  obtain ⟨ro, kc, l0, il, ir, np, h, ca, co, h2, ca2, co2, mt, fo, ba, wa, cn, gr, fl, fi, fr, fn, mn, fa, ga, f2, g2, t2, ffo, fba, fwa, mm, fc, hh, hro, rfl⟩ := hW
  have hh : lm_hf fa ga c w u := hh
  have hro : ∀ r, r < 10 → gr r = en (rt r) := hro
  have hw := hst.1
  have hr9 := hst.2
  have hu := hw.1
  refine lx_metX RX3 pn_X3 rfl (Nat.le_of_ble_eq_true rfl) (fun E hE F X => ?_)
  have F : lx_F K 2 E cX3_value RX3 (some .long) (rx 8) := F
  show lx_W K 2 E 0 0 0 [(0, .ref x), (1, .int r)] [] [(x, .inr (3, [.ref ro, .ref kc, .ref mt, .ref cn, .ref h, .ref h2, .int z])), (ro, aJ K 10 gr), (kc, .inr (0, [.ref l0, .ref il, .ref ir, .ref np, .int mn])), (l0, aI K 120 fl), (il, aI K 120 fi), (ir, aI K 120 fr), (np, aI K 120 fn), (h, .inr (1, [.ref ca, .ref co, .int (nI u)])), (ca, aI K 120 fa), (co, aJ K 120 ga), (h2, .inr (1, [.ref ca2, .ref co2, .int t2])), (ca2, aI K 120 f2), (co2, aJ K 120 g2), (mt, .inr (2, [.ref fo, .ref ba, .ref wa, .int mm])), (fo, aI K 120 ffo), (ba, aI K 120 fba), (wa, aI K 120 fwa), (cn, aI K 120 fc)]
  cases hnr : lm_none r
  · skip
    obtain ⟨k, hk, rfl⟩ := lm_none_f hnr
    have hk3 := lm_ok_kind (hr9 k hk)
    by_cases h1 : (rt k).1 = 1
    · skip
      exact absurd hcd (by rw [show lm_qv (nI k) (c, w, u, rt, z) = (0, (c, w, u, rt, z)) by unfold lm_qv; rw [lm_none_n hk, if_neg (by decide), lm_ix_n hk, if_neg (show ¬ (rt k).1 ≠ 1 from fun z9 => z9 h1)]]; simp)
    · skip
      exact absurd hcd (by rw [show lm_qv (nI k) (c, w, u, rt, z) = (2, (c, w, u, rt, z)) by unfold lm_qv; rw [lm_none_n hk, if_neg (by decide), lm_ix_n hk, if_pos h1]]; simp)
  · skip
    refine lx_iload_n F dX3_value_0 1 rfl ?_
    exact lx_csX F X (zX_ckx (xl E) K r hnr) cs_X3_45 [] [0, 1, 2, 3, 4, 5, 6, 7, 8, 9, 10, 11, 12, 13, 14, 15, 16, 17] [(x, .inr (3, [.ref ro, .ref kc, .ref mt, .ref cn, .ref h, .ref h2, .int z])), (ro, aJ K 10 gr), (kc, .inr (0, [.ref l0, .ref il, .ref ir, .ref np, .int mn])), (l0, aI K 120 fl), (il, aI K 120 fi), (ir, aI K 120 fr), (np, aI K 120 fn), (h, .inr (1, [.ref ca, .ref co, .int (nI u)])), (ca, aI K 120 fa), (co, aJ K 120 ga), (h2, .inr (1, [.ref ca2, .ref co2, .int t2])), (ca2, aI K 120 f2), (co2, aJ K 120 g2), (mt, .inr (2, [.ref fo, .ref ba, .ref wa, .int mm])), (fo, aI K 120 ffo), (ba, aI K 120 fba), (wa, aI K 120 fwa), (cn, aI K 120 fc)] rfl rfl (by decide) rfl (st := []) rfl (Nat.le_of_ble_eq_true rfl) (by decide) ⟨by decide, by decide⟩ dX3_value_1 (fun w9 h9 => by subst h9; exact (by show lm_obj K x _ _; rw [show lm_qv r (c, w, u, rt, z) = (1, (c, w, u, rt, z)) by unfold lm_qv; rw [if_pos hnr]]; exact ⟨_, _, _, _, _, _, _, _, _, _, _, _, _, _, _, _, _, _, _, _, _, _, _, _, _, _, _, _, _, _, _, _, _, hh, hro, rfl⟩))

set_option maxHeartbeats 4000000 in
set_option maxRecDepth 100000 in
theorem zX_value_2 (l : Launch) (K : lm_G) (x : Nat) (c : Nat → Nat) (w : Nat → lm_V) (u : Nat) (rt : Nat → lm_V) (z : Int32) (hst : lm_st c w u rt) (W : va_W) (hW : lm_obj K x (c, w, u, rt, z) W) (r : Int32) (hcd : (lm_qv r (c, w, u, rt, z)).1 = 2) : lm_CX l K mX3_value (rx 8) [.ref x, .int r] W eS (fun w9 => lm_obj K x (lm_qv r (c, w, u, rt, z)).2 w9) := by
  obtain ⟨ro, kc, l0, il, ir, np, h, ca, co, h2, ca2, co2, mt, fo, ba, wa, cn, gr, fl, fi, fr, fn, mn, fa, ga, f2, g2, t2, ffo, fba, fwa, mm, fc, hh, hro, rfl⟩ := hW
  have hh : lm_hf fa ga c w u := hh
  have hro : ∀ r, r < 10 → gr r = en (rt r) := hro
  have hw := hst.1
  have hr9 := hst.2
  have hu := hw.1
  refine lx_metX RX3 pn_X3 rfl (Nat.le_of_ble_eq_true rfl) (fun E hE F X => ?_)
  have F : lx_F K 2 E cX3_value RX3 (some .long) (rx 8) := F
  show lx_W K 2 E 0 0 0 [(0, .ref x), (1, .int r)] [] [(x, .inr (3, [.ref ro, .ref kc, .ref mt, .ref cn, .ref h, .ref h2, .int z])), (ro, aJ K 10 gr), (kc, .inr (0, [.ref l0, .ref il, .ref ir, .ref np, .int mn])), (l0, aI K 120 fl), (il, aI K 120 fi), (ir, aI K 120 fr), (np, aI K 120 fn), (h, .inr (1, [.ref ca, .ref co, .int (nI u)])), (ca, aI K 120 fa), (co, aJ K 120 ga), (h2, .inr (1, [.ref ca2, .ref co2, .int t2])), (ca2, aI K 120 f2), (co2, aJ K 120 g2), (mt, .inr (2, [.ref fo, .ref ba, .ref wa, .int mm])), (fo, aI K 120 ffo), (ba, aI K 120 fba), (wa, aI K 120 fwa), (cn, aI K 120 fc)]
  cases hnr : lm_none r
  · skip
    obtain ⟨k, hk, rfl⟩ := lm_none_f hnr
    have hk3 := lm_ok_kind (hr9 k hk)
    by_cases h1 : (rt k).1 = 1
    · skip
      exact absurd hcd (by rw [show lm_qv (nI k) (c, w, u, rt, z) = (0, (c, w, u, rt, z)) by unfold lm_qv; rw [lm_none_n hk, if_neg (by decide), lm_ix_n hk, if_neg (show ¬ (rt k).1 ≠ 1 from fun z9 => z9 h1)]]; simp)
    · skip
      refine lx_iload_n F dX3_value_0 1 rfl ?_
      refine lx_cs F (zX_ck (xl E) K k hk) cs_X3_45 [] [0, 1, 2, 3, 4, 5, 6, 7, 8, 9, 10, 11, 12, 13, 14, 15, 16, 17] [(x, .inr (3, [.ref ro, .ref kc, .ref mt, .ref cn, .ref h, .ref h2, .int z])), (ro, aJ K 10 gr), (kc, .inr (0, [.ref l0, .ref il, .ref ir, .ref np, .int mn])), (l0, aI K 120 fl), (il, aI K 120 fi), (ir, aI K 120 fr), (np, aI K 120 fn), (h, .inr (1, [.ref ca, .ref co, .int (nI u)])), (ca, aI K 120 fa), (co, aJ K 120 ga), (h2, .inr (1, [.ref ca2, .ref co2, .int t2])), (ca2, aI K 120 f2), (co2, aJ K 120 g2), (mt, .inr (2, [.ref fo, .ref ba, .ref wa, .int mm])), (fo, aI K 120 ffo), (ba, aI K 120 fba), (wa, aI K 120 fwa), (cn, aI K 120 fc)] rfl rfl (by decide) rfl (st := []) rfl (Nat.le_of_ble_eq_true rfl) (by decide) ⟨by decide, by decide⟩ dX3_value_1 (fun v9 w9 h9 => ?_)
      obtain ⟨rfl, rfl⟩ := h9
      refine lx_perm [0, 1, 2, 3, 4, 5, 6, 7, 8, 9, 10, 11, 12, 13, 14, 15, 16, 17] [(x, .inr (3, [.ref ro, .ref kc, .ref mt, .ref cn, .ref h, .ref h2, .int z])), (ro, aJ K 10 gr), (kc, .inr (0, [.ref l0, .ref il, .ref ir, .ref np, .int mn])), (l0, aI K 120 fl), (il, aI K 120 fi), (ir, aI K 120 fr), (np, aI K 120 fn), (h, .inr (1, [.ref ca, .ref co, .int (nI u)])), (ca, aI K 120 fa), (co, aJ K 120 ga), (h2, .inr (1, [.ref ca2, .ref co2, .int t2])), (ca2, aI K 120 f2), (co2, aJ K 120 g2), (mt, .inr (2, [.ref fo, .ref ba, .ref wa, .int mm])), (fo, aI K 120 ffo), (ba, aI K 120 fba), (wa, aI K 120 fwa), (cn, aI K 120 fc)] (by decide) rfl ?_
      refine lx_st (a' := 0) (b' := 0) [] rfl rfl rfl ?_
      refine lx_aload_n F dX3_value_4 0 rfl ?_
      refine gf_X3_9 F 0 rfl rfl dX3_value_5 ?_
      refine lx_iload_n F dX3_value_8 1 rfl ?_
      refine lx_lald F 1 k dX3_value_9 rfl (by omega) (by decide) ?_
      rw [hro k hk]
      refine lx_cs F (zs_kindOf (xl E) K (rt k) (by omega)) cs_X3_118 [] [0, 1, 2, 3, 4, 5, 6, 7, 8, 9, 10, 11, 12, 13, 14, 15, 16, 17] [(x, .inr (3, [.ref ro, .ref kc, .ref mt, .ref cn, .ref h, .ref h2, .int z])), (ro, aJ K 10 gr), (kc, .inr (0, [.ref l0, .ref il, .ref ir, .ref np, .int mn])), (l0, aI K 120 fl), (il, aI K 120 fi), (ir, aI K 120 fr), (np, aI K 120 fn), (h, .inr (1, [.ref ca, .ref co, .int (nI u)])), (ca, aI K 120 fa), (co, aJ K 120 ga), (h2, .inr (1, [.ref ca2, .ref co2, .int t2])), (ca2, aI K 120 f2), (co2, aJ K 120 g2), (mt, .inr (2, [.ref fo, .ref ba, .ref wa, .int mm])), (fo, aI K 120 ffo), (ba, aI K 120 fba), (wa, aI K 120 fwa), (cn, aI K 120 fc)] rfl rfl (by decide) rfl (st := []) rfl (Nat.le_of_ble_eq_true rfl) (by decide) ⟨by decide, by decide⟩ dX3_value_10 (fun v9 w9 h9 => ?_)
      obtain ⟨rfl, rfl⟩ := h9
      refine lx_perm [0, 1, 2, 3, 4, 5, 6, 7, 8, 9, 10, 11, 12, 13, 14, 15, 16, 17] [(x, .inr (3, [.ref ro, .ref kc, .ref mt, .ref cn, .ref h, .ref h2, .int z])), (ro, aJ K 10 gr), (kc, .inr (0, [.ref l0, .ref il, .ref ir, .ref np, .int mn])), (l0, aI K 120 fl), (il, aI K 120 fi), (ir, aI K 120 fr), (np, aI K 120 fn), (h, .inr (1, [.ref ca, .ref co, .int (nI u)])), (ca, aI K 120 fa), (co, aJ K 120 ga), (h2, .inr (1, [.ref ca2, .ref co2, .int t2])), (ca2, aI K 120 f2), (co2, aJ K 120 g2), (mt, .inr (2, [.ref fo, .ref ba, .ref wa, .int mm])), (fo, aI K 120 ffo), (ba, aI K 120 fba), (wa, aI K 120 fwa), (cn, aI K 120 fc)] (by decide) rfl ?_
      refine lx_st (a' := 0) (b' := 0) [.int (nI ((rt k).1))] rfl rfl rfl ?_
      refine lx_iconst F dX3_value_13 kc_1 ?_
      refine lx_icmpN_eq F 27 (by omega) (by omega) dX3_value_14 rfl (fun h => absurd h (by omega)) (fun _ => ?_)
      exact lx_throw F X (is := 125) (text := "the root holds no number") wt_113_117 rfl (by simp [lm_strs]) dX3_value_17 dX3_value_20 dX3_value_21 dX3_value_23 dX3_value_26 ⟨by decide, by decide, by decide, by decide⟩ (Nat.le_of_ble_eq_true rfl) (by show lm_obj K x _ _; rw [show lm_qv (nI k) (c, w, u, rt, z) = (2, (c, w, u, rt, z)) by unfold lm_qv; rw [lm_none_n hk, if_neg (by decide), lm_ix_n hk, if_pos h1]]; exact ⟨_, _, _, _, _, _, _, _, _, _, _, _, _, _, _, _, _, _, _, _, _, _, _, _, _, _, _, _, _, _, _, _, _, hh, hro, rfl⟩)
  · skip
    exact absurd hcd (by rw [show lm_qv r (c, w, u, rt, z) = (1, (c, w, u, rt, z)) by unfold lm_qv; rw [if_pos hnr]]; simp)

set_option maxHeartbeats 4000000 in
set_option maxRecDepth 100000 in
theorem zX_same_0 (l : Launch) (K : lm_G) (x : Nat) (c : Nat → Nat) (w : Nat → lm_V) (u : Nat) (rt : Nat → lm_V) (z : Int32) (hst : lm_st c w u rt) (W : va_W) (hW : lm_obj K x (c, w, u, rt, z) W) (r f : Int32) (hcd : (lm_q2 r f (c, w, u, rt, z)).1 = 0) : lm_C l K mX3_same (rk 6) [.ref x, .int r, .int f] W (fun v9 w9 => v9 = some (.int (if (lm_none r || lm_none f) = true then nI 0 else bI (lm_same w (rt (lm_ix r)) (rt (lm_ix f))))) ∧ lm_obj K x (lm_q2 r f (c, w, u, rt, z)).2 w9) := by
  obtain ⟨ro, kc, l0, il, ir, np, h, ca, co, h2, ca2, co2, mt, fo, ba, wa, cn, gr, fl, fi, fr, fn, mn, fa, ga, f2, g2, t2, ffo, fba, fwa, mm, fc, hh, hro, rfl⟩ := hW
  have hh : lm_hf fa ga c w u := hh
  have hro : ∀ r, r < 10 → gr r = en (rt r) := hro
  have hw := hst.1
  have hr9 := hst.2
  have hu := hw.1
  refine lx_met RX3 pn_X3 rfl (Nat.le_of_ble_eq_true rfl) (fun E hE hnm F hR => ?_)
  have F : lx_F K 3 E cX3_same RX3 (some .boolean) (rk 6) := F
  show lx_W K 3 E 0 0 0 [(0, .ref x), (1, .int r), (2, .int f)] [] [(x, .inr (3, [.ref ro, .ref kc, .ref mt, .ref cn, .ref h, .ref h2, .int z])), (ro, aJ K 10 gr), (kc, .inr (0, [.ref l0, .ref il, .ref ir, .ref np, .int mn])), (l0, aI K 120 fl), (il, aI K 120 fi), (ir, aI K 120 fr), (np, aI K 120 fn), (h, .inr (1, [.ref ca, .ref co, .int (nI u)])), (ca, aI K 120 fa), (co, aJ K 120 ga), (h2, .inr (1, [.ref ca2, .ref co2, .int t2])), (ca2, aI K 120 f2), (co2, aJ K 120 g2), (mt, .inr (2, [.ref fo, .ref ba, .ref wa, .int mm])), (fo, aI K 120 ffo), (ba, aI K 120 fba), (wa, aI K 120 fwa), (cn, aI K 120 fc)]
  cases hnr : lm_none r
  · skip
    obtain ⟨k, hk, rfl⟩ := lm_none_f hnr
    cases hnf : lm_none f
    · skip
      obtain ⟨j, hj, rfl⟩ := lm_none_f hnf
      refine lx_iload_n F dX3_same_0 1 rfl ?_
      refine lx_iload_n F dX3_same_1 2 rfl ?_
      refine lx_cs F (zX_cks (xl E) K k j hk hj) cs_X3_64 [] [0, 1, 2, 3, 4, 5, 6, 7, 8, 9, 10, 11, 12, 13, 14, 15, 16, 17] [(x, .inr (3, [.ref ro, .ref kc, .ref mt, .ref cn, .ref h, .ref h2, .int z])), (ro, aJ K 10 gr), (kc, .inr (0, [.ref l0, .ref il, .ref ir, .ref np, .int mn])), (l0, aI K 120 fl), (il, aI K 120 fi), (ir, aI K 120 fr), (np, aI K 120 fn), (h, .inr (1, [.ref ca, .ref co, .int (nI u)])), (ca, aI K 120 fa), (co, aJ K 120 ga), (h2, .inr (1, [.ref ca2, .ref co2, .int t2])), (ca2, aI K 120 f2), (co2, aJ K 120 g2), (mt, .inr (2, [.ref fo, .ref ba, .ref wa, .int mm])), (fo, aI K 120 ffo), (ba, aI K 120 fba), (wa, aI K 120 fwa), (cn, aI K 120 fc)] rfl rfl (by decide) rfl (st := []) rfl (Nat.le_of_ble_eq_true rfl) (by decide) ⟨by decide, by decide⟩ dX3_same_2 (fun v9 w9 h9 => ?_)
      obtain ⟨rfl, rfl⟩ := h9
      refine lx_perm [0, 1, 2, 3, 4, 5, 6, 7, 8, 9, 10, 11, 12, 13, 14, 15, 16, 17] [(x, .inr (3, [.ref ro, .ref kc, .ref mt, .ref cn, .ref h, .ref h2, .int z])), (ro, aJ K 10 gr), (kc, .inr (0, [.ref l0, .ref il, .ref ir, .ref np, .int mn])), (l0, aI K 120 fl), (il, aI K 120 fi), (ir, aI K 120 fr), (np, aI K 120 fn), (h, .inr (1, [.ref ca, .ref co, .int (nI u)])), (ca, aI K 120 fa), (co, aJ K 120 ga), (h2, .inr (1, [.ref ca2, .ref co2, .int t2])), (ca2, aI K 120 f2), (co2, aJ K 120 g2), (mt, .inr (2, [.ref fo, .ref ba, .ref wa, .int mm])), (fo, aI K 120 ffo), (ba, aI K 120 fba), (wa, aI K 120 fwa), (cn, aI K 120 fc)] (by decide) rfl ?_
      refine lx_st (a' := 0) (b' := 0) [] rfl rfl rfl ?_
      refine lx_aload_n F dX3_same_5 0 rfl ?_
      refine lx_aload_n F dX3_same_6 0 rfl ?_
      refine gf_X3_9 F 0 rfl rfl dX3_same_7 ?_
      refine lx_iload_n F dX3_same_10 1 rfl ?_
      refine lx_lald F 1 k dX3_same_11 rfl (by omega) (by decide) ?_
      rw [hro k hk]
      refine lx_aload_n F dX3_same_12 0 rfl ?_
      refine gf_X3_9 F 0 rfl rfl dX3_same_13 ?_
      refine lx_iload_n F dX3_same_16 2 rfl ?_
      refine lx_lald F 1 j dX3_same_17 rfl (by omega) (by decide) ?_
      rw [hro j hj]
      refine lx_cv F (zl_isSame (xl E) K x ro kc mt cn h2 z h ca co fa ga (nI u) c w u hw hh (rt k) (rt j) (hr9 k hk) (hr9 j hj)) cv_X3_102 0 rfl rfl [0, 7, 8, 9] [1, 2, 3, 4, 5, 6, 10, 11, 12, 13, 14, 15, 16, 17] [(ro, aJ K 10 gr), (kc, .inr (0, [.ref l0, .ref il, .ref ir, .ref np, .int mn])), (l0, aI K 120 fl), (il, aI K 120 fi), (ir, aI K 120 fr), (np, aI K 120 fn), (h2, .inr (1, [.ref ca2, .ref co2, .int t2])), (ca2, aI K 120 f2), (co2, aJ K 120 g2), (mt, .inr (2, [.ref fo, .ref ba, .ref wa, .int mm])), (fo, aI K 120 ffo), (ba, aI K 120 fba), (wa, aI K 120 fwa), (cn, aI K 120 fc)] rfl rfl (by decide) rfl (st := []) rfl (Nat.le_of_ble_eq_true rfl) (by decide) ⟨by decide, by decide⟩ dX3_same_18 (fun v9 w9 h9 => ?_)
      obtain ⟨rfl, rfl⟩ := h9
      refine lx_perm [14, 0, 1, 2, 3, 4, 5, 15, 16, 17, 6, 7, 8, 9, 10, 11, 12, 13] [(x, .inr (3, [.ref ro, .ref kc, .ref mt, .ref cn, .ref h, .ref h2, .int z])), (ro, aJ K 10 gr), (kc, .inr (0, [.ref l0, .ref il, .ref ir, .ref np, .int mn])), (l0, aI K 120 fl), (il, aI K 120 fi), (ir, aI K 120 fr), (np, aI K 120 fn), (h, .inr (1, [.ref ca, .ref co, .int (nI u)])), (ca, aI K 120 fa), (co, aJ K 120 ga), (h2, .inr (1, [.ref ca2, .ref co2, .int t2])), (ca2, aI K 120 f2), (co2, aJ K 120 g2), (mt, .inr (2, [.ref fo, .ref ba, .ref wa, .int mm])), (fo, aI K 120 ffo), (ba, aI K 120 fba), (wa, aI K 120 fwa), (cn, aI K 120 fc)] (by decide) rfl ?_
      refine lx_st (a' := 0) (b' := 0) [.int (bI (lm_same w (rt k) (rt j)))] rfl rfl rfl ?_
      exact lx_zret F hR (bI_nar _) dX3_same_21 ⟨by rw [lm_none_n hk, lm_none_n hj, if_neg (by decide), lm_ix_n hk, lm_ix_n hj], by rw [show lm_q2 (nI k) (nI j) (c, w, u, rt, z) = (0, (c, w, u, rt, z)) by unfold lm_q2; rw [lm_none_n hk, lm_none_n hj]; rfl]; exact ⟨_, _, _, _, _, _, _, _, _, _, _, _, _, _, _, _, _, _, _, _, _, _, _, _, _, _, _, _, _, _, _, _, _, hh, hro, rfl⟩⟩
    · skip
      exact absurd hcd (by rw [show lm_q2 (nI k) f (c, w, u, rt, z) = (1, (c, w, u, rt, z)) by unfold lm_q2; rw [lm_none_n hk, hnf]; rfl]; simp)
  · skip
    exact absurd hcd (by rw [show lm_q2 r f (c, w, u, rt, z) = (1, (c, w, u, rt, z)) by unfold lm_q2; rw [hnr]; rfl]; simp)

set_option maxHeartbeats 4000000 in
set_option maxRecDepth 100000 in
theorem zX_same_1 (l : Launch) (K : lm_G) (x : Nat) (c : Nat → Nat) (w : Nat → lm_V) (u : Nat) (rt : Nat → lm_V) (z : Int32) (hst : lm_st c w u rt) (W : va_W) (hW : lm_obj K x (c, w, u, rt, z) W) (r f : Int32) (hcd : (lm_q2 r f (c, w, u, rt, z)).1 = 1) : lm_CX l K mX3_same (rx 8) [.ref x, .int r, .int f] W eN (fun w9 => lm_obj K x (lm_q2 r f (c, w, u, rt, z)).2 w9) := by
  obtain ⟨ro, kc, l0, il, ir, np, h, ca, co, h2, ca2, co2, mt, fo, ba, wa, cn, gr, fl, fi, fr, fn, mn, fa, ga, f2, g2, t2, ffo, fba, fwa, mm, fc, hh, hro, rfl⟩ := hW
  have hh : lm_hf fa ga c w u := hh
  have hro : ∀ r, r < 10 → gr r = en (rt r) := hro
  have hw := hst.1
  have hr9 := hst.2
  have hu := hw.1
  refine lx_metX RX3 pn_X3 rfl (Nat.le_of_ble_eq_true rfl) (fun E hE F X => ?_)
  have F : lx_F K 3 E cX3_same RX3 (some .boolean) (rx 8) := F
  show lx_W K 3 E 0 0 0 [(0, .ref x), (1, .int r), (2, .int f)] [] [(x, .inr (3, [.ref ro, .ref kc, .ref mt, .ref cn, .ref h, .ref h2, .int z])), (ro, aJ K 10 gr), (kc, .inr (0, [.ref l0, .ref il, .ref ir, .ref np, .int mn])), (l0, aI K 120 fl), (il, aI K 120 fi), (ir, aI K 120 fr), (np, aI K 120 fn), (h, .inr (1, [.ref ca, .ref co, .int (nI u)])), (ca, aI K 120 fa), (co, aJ K 120 ga), (h2, .inr (1, [.ref ca2, .ref co2, .int t2])), (ca2, aI K 120 f2), (co2, aJ K 120 g2), (mt, .inr (2, [.ref fo, .ref ba, .ref wa, .int mm])), (fo, aI K 120 ffo), (ba, aI K 120 fba), (wa, aI K 120 fwa), (cn, aI K 120 fc)]
  cases hnr : lm_none r
  · skip
    obtain ⟨k, hk, rfl⟩ := lm_none_f hnr
    cases hnf : lm_none f
    · skip
      obtain ⟨j, hj, rfl⟩ := lm_none_f hnf
      exact absurd hcd (by rw [show lm_q2 (nI k) (nI j) (c, w, u, rt, z) = (0, (c, w, u, rt, z)) by unfold lm_q2; rw [lm_none_n hk, lm_none_n hj]; rfl]; simp)
    · skip
      refine lx_iload_n F dX3_same_0 1 rfl ?_
      refine lx_iload_n F dX3_same_1 2 rfl ?_
      exact lx_csX F X (zX_cksx (xl E) K (nI k) f (by rw [lm_none_n hk, hnf]; rfl)) cs_X3_64 [] [0, 1, 2, 3, 4, 5, 6, 7, 8, 9, 10, 11, 12, 13, 14, 15, 16, 17] [(x, .inr (3, [.ref ro, .ref kc, .ref mt, .ref cn, .ref h, .ref h2, .int z])), (ro, aJ K 10 gr), (kc, .inr (0, [.ref l0, .ref il, .ref ir, .ref np, .int mn])), (l0, aI K 120 fl), (il, aI K 120 fi), (ir, aI K 120 fr), (np, aI K 120 fn), (h, .inr (1, [.ref ca, .ref co, .int (nI u)])), (ca, aI K 120 fa), (co, aJ K 120 ga), (h2, .inr (1, [.ref ca2, .ref co2, .int t2])), (ca2, aI K 120 f2), (co2, aJ K 120 g2), (mt, .inr (2, [.ref fo, .ref ba, .ref wa, .int mm])), (fo, aI K 120 ffo), (ba, aI K 120 fba), (wa, aI K 120 fwa), (cn, aI K 120 fc)] rfl rfl (by decide) rfl (st := []) rfl (Nat.le_of_ble_eq_true rfl) (by decide) ⟨by decide, by decide⟩ dX3_same_2 (fun w9 h9 => by subst h9; exact (by show lm_obj K x _ _; rw [show lm_q2 (nI k) f (c, w, u, rt, z) = (1, (c, w, u, rt, z)) by unfold lm_q2; rw [lm_none_n hk, hnf]; rfl]; exact ⟨_, _, _, _, _, _, _, _, _, _, _, _, _, _, _, _, _, _, _, _, _, _, _, _, _, _, _, _, _, _, _, _, _, hh, hro, rfl⟩))
  · skip
    refine lx_iload_n F dX3_same_0 1 rfl ?_
    refine lx_iload_n F dX3_same_1 2 rfl ?_
    exact lx_csX F X (zX_cksx (xl E) K r f (by rw [hnr]; rfl)) cs_X3_64 [] [0, 1, 2, 3, 4, 5, 6, 7, 8, 9, 10, 11, 12, 13, 14, 15, 16, 17] [(x, .inr (3, [.ref ro, .ref kc, .ref mt, .ref cn, .ref h, .ref h2, .int z])), (ro, aJ K 10 gr), (kc, .inr (0, [.ref l0, .ref il, .ref ir, .ref np, .int mn])), (l0, aI K 120 fl), (il, aI K 120 fi), (ir, aI K 120 fr), (np, aI K 120 fn), (h, .inr (1, [.ref ca, .ref co, .int (nI u)])), (ca, aI K 120 fa), (co, aJ K 120 ga), (h2, .inr (1, [.ref ca2, .ref co2, .int t2])), (ca2, aI K 120 f2), (co2, aJ K 120 g2), (mt, .inr (2, [.ref fo, .ref ba, .ref wa, .int mm])), (fo, aI K 120 ffo), (ba, aI K 120 fba), (wa, aI K 120 fwa), (cn, aI K 120 fc)] rfl rfl (by decide) rfl (st := []) rfl (Nat.le_of_ble_eq_true rfl) (by decide) ⟨by decide, by decide⟩ dX3_same_2 (fun w9 h9 => by subst h9; exact (by show lm_obj K x _ _; rw [show lm_q2 r f (c, w, u, rt, z) = (1, (c, w, u, rt, z)) by unfold lm_q2; rw [hnr]; rfl]; exact ⟨_, _, _, _, _, _, _, _, _, _, _, _, _, _, _, _, _, _, _, _, _, _, _, _, _, _, _, _, _, _, _, _, _, hh, hro, rfl⟩))

set_option maxHeartbeats 4000000 in
set_option maxRecDepth 100000 in
theorem zX_words_0 (l : Launch) (K : lm_G) (x : Nat) (c : Nat → Nat) (w : Nat → lm_V) (u : Nat) (rt : Nat → lm_V) (z : Int32) (hst : lm_st c w u rt) (W : va_W) (hW : lm_obj K x (c, w, u, rt, z) W) (r : Int32) (hcd : (lm_q1 r (c, w, u, rt, z)).1 = 0) : lm_C l K mX3_words (rk 6) [.ref x, .int r] W (fun v9 w9 => v9 = some (.int (if lm_none r = true then nI 0 else nI (lm_wds c w 120 [] (rt (lm_ix r)) 0))) ∧ lm_obj K x (lm_q1 r (c, w, u, rt, z)).2 w9) := by
  obtain ⟨ro, kc, l0, il, ir, np, h, ca, co, h2, ca2, co2, mt, fo, ba, wa, cn, gr, fl, fi, fr, fn, mn, fa, ga, f2, g2, t2, ffo, fba, fwa, mm, fc, hh, hro, rfl⟩ := hW
  have hh : lm_hf fa ga c w u := hh
  have hro : ∀ r, r < 10 → gr r = en (rt r) := hro
  have hw := hst.1
  have hr9 := hst.2
  have hu := hw.1
  refine lx_met RX3 pn_X3 rfl (Nat.le_of_ble_eq_true rfl) (fun E hE hnm F hR => ?_)
  have F : lx_F K 2 E cX3_words RX3 (some .int) (rk 6) := F
  show lx_W K 2 E 0 0 0 [(0, .ref x), (1, .int r)] [] [(x, .inr (3, [.ref ro, .ref kc, .ref mt, .ref cn, .ref h, .ref h2, .int z])), (ro, aJ K 10 gr), (kc, .inr (0, [.ref l0, .ref il, .ref ir, .ref np, .int mn])), (l0, aI K 120 fl), (il, aI K 120 fi), (ir, aI K 120 fr), (np, aI K 120 fn), (h, .inr (1, [.ref ca, .ref co, .int (nI u)])), (ca, aI K 120 fa), (co, aJ K 120 ga), (h2, .inr (1, [.ref ca2, .ref co2, .int t2])), (ca2, aI K 120 f2), (co2, aJ K 120 g2), (mt, .inr (2, [.ref fo, .ref ba, .ref wa, .int mm])), (fo, aI K 120 ffo), (ba, aI K 120 fba), (wa, aI K 120 fwa), (cn, aI K 120 fc)]
  cases hnr : lm_none r
  · skip
    obtain ⟨k, hk, rfl⟩ := lm_none_f hnr
    have hk3 := lm_ok_kind (hr9 k hk)
    refine lx_iload_n F dX3_words_0 1 rfl ?_
    refine lx_cs F (zX_ck (xl E) K k hk) cs_X3_45 [] [0, 1, 2, 3, 4, 5, 6, 7, 8, 9, 10, 11, 12, 13, 14, 15, 16, 17] [(x, .inr (3, [.ref ro, .ref kc, .ref mt, .ref cn, .ref h, .ref h2, .int z])), (ro, aJ K 10 gr), (kc, .inr (0, [.ref l0, .ref il, .ref ir, .ref np, .int mn])), (l0, aI K 120 fl), (il, aI K 120 fi), (ir, aI K 120 fr), (np, aI K 120 fn), (h, .inr (1, [.ref ca, .ref co, .int (nI u)])), (ca, aI K 120 fa), (co, aJ K 120 ga), (h2, .inr (1, [.ref ca2, .ref co2, .int t2])), (ca2, aI K 120 f2), (co2, aJ K 120 g2), (mt, .inr (2, [.ref fo, .ref ba, .ref wa, .int mm])), (fo, aI K 120 ffo), (ba, aI K 120 fba), (wa, aI K 120 fwa), (cn, aI K 120 fc)] rfl rfl (by decide) rfl (st := []) rfl (Nat.le_of_ble_eq_true rfl) (by decide) ⟨by decide, by decide⟩ dX3_words_1 (fun v9 w9 h9 => ?_)
    obtain ⟨rfl, rfl⟩ := h9
    refine lx_perm [0, 1, 2, 3, 4, 5, 6, 7, 8, 9, 10, 11, 12, 13, 14, 15, 16, 17] [(x, .inr (3, [.ref ro, .ref kc, .ref mt, .ref cn, .ref h, .ref h2, .int z])), (ro, aJ K 10 gr), (kc, .inr (0, [.ref l0, .ref il, .ref ir, .ref np, .int mn])), (l0, aI K 120 fl), (il, aI K 120 fi), (ir, aI K 120 fr), (np, aI K 120 fn), (h, .inr (1, [.ref ca, .ref co, .int (nI u)])), (ca, aI K 120 fa), (co, aJ K 120 ga), (h2, .inr (1, [.ref ca2, .ref co2, .int t2])), (ca2, aI K 120 f2), (co2, aJ K 120 g2), (mt, .inr (2, [.ref fo, .ref ba, .ref wa, .int mm])), (fo, aI K 120 ffo), (ba, aI K 120 fba), (wa, aI K 120 fwa), (cn, aI K 120 fc)] (by decide) rfl ?_
    refine lx_st (a' := 0) (b' := 0) [] rfl rfl rfl ?_
    refine lx_aload_n F dX3_words_4 0 rfl ?_
    refine lx_aload_n F dX3_words_5 0 rfl ?_
    refine gf_X3_9 F 0 rfl rfl dX3_words_6 ?_
    refine lx_iload_n F dX3_words_9 1 rfl ?_
    refine lx_lald F 1 k dX3_words_10 rfl (by omega) (by decide) ?_
    rw [hro k hk]
    refine lx_cv F (zl_countWords (xl E) K x ro kc mt cn h2 z fc h ca co fa ga (nI u) c w u hw hh (rt k) (hr9 k hk)) cv_X3_131 0 rfl rfl [0, 17, 7, 8, 9] [1, 2, 3, 4, 5, 6, 10, 11, 12, 13, 14, 15, 16] [(ro, aJ K 10 gr), (kc, .inr (0, [.ref l0, .ref il, .ref ir, .ref np, .int mn])), (l0, aI K 120 fl), (il, aI K 120 fi), (ir, aI K 120 fr), (np, aI K 120 fn), (h2, .inr (1, [.ref ca2, .ref co2, .int t2])), (ca2, aI K 120 f2), (co2, aJ K 120 g2), (mt, .inr (2, [.ref fo, .ref ba, .ref wa, .int mm])), (fo, aI K 120 ffo), (ba, aI K 120 fba), (wa, aI K 120 fwa)] rfl rfl (by decide) rfl (st := []) rfl (Nat.le_of_ble_eq_true rfl) (by decide) ⟨by decide, by decide⟩ dX3_words_11 (fun v9 w9 h9 => ?_)
    obtain ⟨rfl, fc1, rfl⟩ := h9
    refine lx_perm [13, 0, 1, 2, 3, 4, 5, 15, 16, 17, 6, 7, 8, 9, 10, 11, 12, 14] [(x, .inr (3, [.ref ro, .ref kc, .ref mt, .ref cn, .ref h, .ref h2, .int z])), (ro, aJ K 10 gr), (kc, .inr (0, [.ref l0, .ref il, .ref ir, .ref np, .int mn])), (l0, aI K 120 fl), (il, aI K 120 fi), (ir, aI K 120 fr), (np, aI K 120 fn), (h, .inr (1, [.ref ca, .ref co, .int (nI u)])), (ca, aI K 120 fa), (co, aJ K 120 ga), (h2, .inr (1, [.ref ca2, .ref co2, .int t2])), (ca2, aI K 120 f2), (co2, aJ K 120 g2), (mt, .inr (2, [.ref fo, .ref ba, .ref wa, .int mm])), (fo, aI K 120 ffo), (ba, aI K 120 fba), (wa, aI K 120 fwa), (cn, aI K 120 fc1)] (by decide) rfl ?_
    refine lx_st (a' := 0) (b' := 0) [.int (nI (lm_wds c w 120 [] (rt k) 0))] rfl rfl rfl ?_
    exact lx_iret F hR dX3_words_14 ⟨by rw [lm_none_n hk, if_neg (by decide), lm_ix_n hk], by rw [show lm_q1 (nI k) (c, w, u, rt, z) = (0, (c, w, u, rt, z)) by unfold lm_q1; rw [lm_none_n hk]; rfl]; exact ⟨_, _, _, _, _, _, _, _, _, _, _, _, _, _, _, _, _, _, _, _, _, _, _, _, _, _, _, _, _, _, _, _, _, hh, hro, rfl⟩⟩
  · skip
    exact absurd hcd (by rw [show lm_q1 r (c, w, u, rt, z) = (1, (c, w, u, rt, z)) by unfold lm_q1; rw [if_pos hnr]]; simp)

set_option maxHeartbeats 4000000 in
set_option maxRecDepth 100000 in
theorem zX_words_1 (l : Launch) (K : lm_G) (x : Nat) (c : Nat → Nat) (w : Nat → lm_V) (u : Nat) (rt : Nat → lm_V) (z : Int32) (hst : lm_st c w u rt) (W : va_W) (hW : lm_obj K x (c, w, u, rt, z) W) (r : Int32) (hcd : (lm_q1 r (c, w, u, rt, z)).1 = 1) : lm_CX l K mX3_words (rx 8) [.ref x, .int r] W eN (fun w9 => lm_obj K x (lm_q1 r (c, w, u, rt, z)).2 w9) := by
  obtain ⟨ro, kc, l0, il, ir, np, h, ca, co, h2, ca2, co2, mt, fo, ba, wa, cn, gr, fl, fi, fr, fn, mn, fa, ga, f2, g2, t2, ffo, fba, fwa, mm, fc, hh, hro, rfl⟩ := hW
  have hh : lm_hf fa ga c w u := hh
  have hro : ∀ r, r < 10 → gr r = en (rt r) := hro
  have hw := hst.1
  have hr9 := hst.2
  have hu := hw.1
  refine lx_metX RX3 pn_X3 rfl (Nat.le_of_ble_eq_true rfl) (fun E hE F X => ?_)
  have F : lx_F K 2 E cX3_words RX3 (some .int) (rx 8) := F
  show lx_W K 2 E 0 0 0 [(0, .ref x), (1, .int r)] [] [(x, .inr (3, [.ref ro, .ref kc, .ref mt, .ref cn, .ref h, .ref h2, .int z])), (ro, aJ K 10 gr), (kc, .inr (0, [.ref l0, .ref il, .ref ir, .ref np, .int mn])), (l0, aI K 120 fl), (il, aI K 120 fi), (ir, aI K 120 fr), (np, aI K 120 fn), (h, .inr (1, [.ref ca, .ref co, .int (nI u)])), (ca, aI K 120 fa), (co, aJ K 120 ga), (h2, .inr (1, [.ref ca2, .ref co2, .int t2])), (ca2, aI K 120 f2), (co2, aJ K 120 g2), (mt, .inr (2, [.ref fo, .ref ba, .ref wa, .int mm])), (fo, aI K 120 ffo), (ba, aI K 120 fba), (wa, aI K 120 fwa), (cn, aI K 120 fc)]
  cases hnr : lm_none r
  · skip
    obtain ⟨k, hk, rfl⟩ := lm_none_f hnr
    exact absurd hcd (by rw [show lm_q1 (nI k) (c, w, u, rt, z) = (0, (c, w, u, rt, z)) by unfold lm_q1; rw [lm_none_n hk]; rfl]; simp)
  · skip
    refine lx_iload_n F dX3_words_0 1 rfl ?_
    exact lx_csX F X (zX_ckx (xl E) K r hnr) cs_X3_45 [] [0, 1, 2, 3, 4, 5, 6, 7, 8, 9, 10, 11, 12, 13, 14, 15, 16, 17] [(x, .inr (3, [.ref ro, .ref kc, .ref mt, .ref cn, .ref h, .ref h2, .int z])), (ro, aJ K 10 gr), (kc, .inr (0, [.ref l0, .ref il, .ref ir, .ref np, .int mn])), (l0, aI K 120 fl), (il, aI K 120 fi), (ir, aI K 120 fr), (np, aI K 120 fn), (h, .inr (1, [.ref ca, .ref co, .int (nI u)])), (ca, aI K 120 fa), (co, aJ K 120 ga), (h2, .inr (1, [.ref ca2, .ref co2, .int t2])), (ca2, aI K 120 f2), (co2, aJ K 120 g2), (mt, .inr (2, [.ref fo, .ref ba, .ref wa, .int mm])), (fo, aI K 120 ffo), (ba, aI K 120 fba), (wa, aI K 120 fwa), (cn, aI K 120 fc)] rfl rfl (by decide) rfl (st := []) rfl (Nat.le_of_ble_eq_true rfl) (by decide) ⟨by decide, by decide⟩ dX3_words_1 (fun w9 h9 => by subst h9; exact (by show lm_obj K x _ _; rw [show lm_q1 r (c, w, u, rt, z) = (1, (c, w, u, rt, z)) by unfold lm_q1; rw [if_pos hnr]]; exact ⟨_, _, _, _, _, _, _, _, _, _, _, _, _, _, _, _, _, _, _, _, _, _, _, _, _, _, _, _, _, _, _, _, _, hh, hro, rfl⟩))

set_option maxHeartbeats 4000000 in
set_option maxRecDepth 100000 in
theorem zX_alike_0 (l : Launch) (K : lm_G) (x : Nat) (c : Nat → Nat) (w : Nat → lm_V) (u : Nat) (rt : Nat → lm_V) (z : Int32) (hst : lm_st c w u rt) (W : va_W) (hW : lm_obj K x (c, w, u, rt, z) W) (r f : Int32) (hcd : (lm_q2 r f (c, w, u, rt, z)).1 = 0) : lm_C l K mX3_alike (rk 6) [.ref x, .int r, .int f] W (fun v9 w9 => v9 = some (.int (if (lm_none r || lm_none f) = true then nI 0 else bI (lm_alike c w (rt (lm_ix r)) (rt (lm_ix f))))) ∧ lm_obj K x (lm_q2 r f (c, w, u, rt, z)).2 w9) := by
  obtain ⟨ro, kc, l0, il, ir, np, h, ca, co, h2, ca2, co2, mt, fo, ba, wa, cn, gr, fl, fi, fr, fn, mn, fa, ga, f2, g2, t2, ffo, fba, fwa, mm, fc, hh, hro, rfl⟩ := hW
  have hh : lm_hf fa ga c w u := hh
  have hro : ∀ r, r < 10 → gr r = en (rt r) := hro
  have hw := hst.1
  have hr9 := hst.2
  have hu := hw.1
  refine lx_met RX3 pn_X3 rfl (Nat.le_of_ble_eq_true rfl) (fun E hE hnm F hR => ?_)
  have F : lx_F K 3 E cX3_alike RX3 (some .boolean) (rk 6) := F
  show lx_W K 3 E 0 0 0 [(0, .ref x), (1, .int r), (2, .int f)] [] [(x, .inr (3, [.ref ro, .ref kc, .ref mt, .ref cn, .ref h, .ref h2, .int z])), (ro, aJ K 10 gr), (kc, .inr (0, [.ref l0, .ref il, .ref ir, .ref np, .int mn])), (l0, aI K 120 fl), (il, aI K 120 fi), (ir, aI K 120 fr), (np, aI K 120 fn), (h, .inr (1, [.ref ca, .ref co, .int (nI u)])), (ca, aI K 120 fa), (co, aJ K 120 ga), (h2, .inr (1, [.ref ca2, .ref co2, .int t2])), (ca2, aI K 120 f2), (co2, aJ K 120 g2), (mt, .inr (2, [.ref fo, .ref ba, .ref wa, .int mm])), (fo, aI K 120 ffo), (ba, aI K 120 fba), (wa, aI K 120 fwa), (cn, aI K 120 fc)]
  cases hnr : lm_none r
  · skip
    obtain ⟨k, hk, rfl⟩ := lm_none_f hnr
    cases hnf : lm_none f
    · skip
      obtain ⟨j, hj, rfl⟩ := lm_none_f hnf
      refine lx_iload_n F dX3_alike_0 1 rfl ?_
      refine lx_iload_n F dX3_alike_1 2 rfl ?_
      refine lx_cs F (zX_cks (xl E) K k j hk hj) cs_X3_64 [] [0, 1, 2, 3, 4, 5, 6, 7, 8, 9, 10, 11, 12, 13, 14, 15, 16, 17] [(x, .inr (3, [.ref ro, .ref kc, .ref mt, .ref cn, .ref h, .ref h2, .int z])), (ro, aJ K 10 gr), (kc, .inr (0, [.ref l0, .ref il, .ref ir, .ref np, .int mn])), (l0, aI K 120 fl), (il, aI K 120 fi), (ir, aI K 120 fr), (np, aI K 120 fn), (h, .inr (1, [.ref ca, .ref co, .int (nI u)])), (ca, aI K 120 fa), (co, aJ K 120 ga), (h2, .inr (1, [.ref ca2, .ref co2, .int t2])), (ca2, aI K 120 f2), (co2, aJ K 120 g2), (mt, .inr (2, [.ref fo, .ref ba, .ref wa, .int mm])), (fo, aI K 120 ffo), (ba, aI K 120 fba), (wa, aI K 120 fwa), (cn, aI K 120 fc)] rfl rfl (by decide) rfl (st := []) rfl (Nat.le_of_ble_eq_true rfl) (by decide) ⟨by decide, by decide⟩ dX3_alike_2 (fun v9 w9 h9 => ?_)
      obtain ⟨rfl, rfl⟩ := h9
      refine lx_perm [0, 1, 2, 3, 4, 5, 6, 7, 8, 9, 10, 11, 12, 13, 14, 15, 16, 17] [(x, .inr (3, [.ref ro, .ref kc, .ref mt, .ref cn, .ref h, .ref h2, .int z])), (ro, aJ K 10 gr), (kc, .inr (0, [.ref l0, .ref il, .ref ir, .ref np, .int mn])), (l0, aI K 120 fl), (il, aI K 120 fi), (ir, aI K 120 fr), (np, aI K 120 fn), (h, .inr (1, [.ref ca, .ref co, .int (nI u)])), (ca, aI K 120 fa), (co, aJ K 120 ga), (h2, .inr (1, [.ref ca2, .ref co2, .int t2])), (ca2, aI K 120 f2), (co2, aJ K 120 g2), (mt, .inr (2, [.ref fo, .ref ba, .ref wa, .int mm])), (fo, aI K 120 ffo), (ba, aI K 120 fba), (wa, aI K 120 fwa), (cn, aI K 120 fc)] (by decide) rfl ?_
      refine lx_st (a' := 0) (b' := 0) [] rfl rfl rfl ?_
      refine lx_aload_n F dX3_alike_5 0 rfl ?_
      refine gf_X3_23 F 0 rfl rfl dX3_alike_6 ?_
      refine lx_aload_n F dX3_alike_9 0 rfl ?_
      refine gf_X3_34 F 0 rfl rfl dX3_alike_10 ?_
      refine lx_aload_n F dX3_alike_13 0 rfl ?_
      refine gf_X3_9 F 0 rfl rfl dX3_alike_14 ?_
      refine lx_iload_n F dX3_alike_17 1 rfl ?_
      refine lx_lald F 1 k dX3_alike_18 rfl (by omega) (by decide) ?_
      rw [hro k hk]
      refine lx_aload_n F dX3_alike_19 0 rfl ?_
      refine gf_X3_9 F 0 rfl rfl dX3_alike_20 ?_
      refine lx_iload_n F dX3_alike_23 2 rfl ?_
      refine lx_lald F 1 j dX3_alike_24 rfl (by omega) (by decide) ?_
      rw [hro j hj]
      refine lx_cv F (zm_can (xl E) K mt fo ba wa ffo fba fwa mm h ca co fa ga (nI u) c w u hw hh (rt k) (rt j) (hr9 k hk) (hr9 j hj)) cv_X3_134 13 rfl rfl [13, 14, 15, 16, 7, 8, 9] [0, 1, 2, 3, 4, 5, 6, 10, 11, 12, 17] [(x, .inr (3, [.ref ro, .ref kc, .ref mt, .ref cn, .ref h, .ref h2, .int z])), (ro, aJ K 10 gr), (kc, .inr (0, [.ref l0, .ref il, .ref ir, .ref np, .int mn])), (l0, aI K 120 fl), (il, aI K 120 fi), (ir, aI K 120 fr), (np, aI K 120 fn), (h2, .inr (1, [.ref ca2, .ref co2, .int t2])), (ca2, aI K 120 f2), (co2, aJ K 120 g2), (cn, aI K 120 fc)] rfl rfl (by decide) rfl (st := []) rfl (Nat.le_of_ble_eq_true rfl) (by decide) ⟨by decide, by decide⟩ dX3_alike_25 (fun v9 w9 h9 => ?_)
      obtain ⟨rfl, f5, f6, f7, mm1, rfl⟩ := h9
      refine lx_perm [0, 1, 2, 3, 4, 5, 6, 15, 16, 17, 7, 8, 9, 11, 12, 13, 14, 10] [(x, .inr (3, [.ref ro, .ref kc, .ref mt, .ref cn, .ref h, .ref h2, .int z])), (ro, aJ K 10 gr), (kc, .inr (0, [.ref l0, .ref il, .ref ir, .ref np, .int mn])), (l0, aI K 120 fl), (il, aI K 120 fi), (ir, aI K 120 fr), (np, aI K 120 fn), (h, .inr (1, [.ref ca, .ref co, .int (nI u)])), (ca, aI K 120 fa), (co, aJ K 120 ga), (h2, .inr (1, [.ref ca2, .ref co2, .int t2])), (ca2, aI K 120 f2), (co2, aJ K 120 g2), (mt, .inr (2, [.ref fo, .ref ba, .ref wa, .int mm1])), (fo, aI K 120 f5), (ba, aI K 120 f6), (wa, aI K 120 f7), (cn, aI K 120 fc)] (by decide) rfl ?_
      refine lx_st (a' := 0) (b' := 0) [.int (bI (lm_alike c w (rt k) (rt j)))] rfl rfl rfl ?_
      exact lx_zret F hR (bI_nar _) dX3_alike_28 ⟨by rw [lm_none_n hk, lm_none_n hj, if_neg (by decide), lm_ix_n hk, lm_ix_n hj], by rw [show lm_q2 (nI k) (nI j) (c, w, u, rt, z) = (0, (c, w, u, rt, z)) by unfold lm_q2; rw [lm_none_n hk, lm_none_n hj]; rfl]; exact ⟨_, _, _, _, _, _, _, _, _, _, _, _, _, _, _, _, _, _, _, _, _, _, _, _, _, _, _, _, _, _, _, _, _, hh, hro, rfl⟩⟩
    · skip
      exact absurd hcd (by rw [show lm_q2 (nI k) f (c, w, u, rt, z) = (1, (c, w, u, rt, z)) by unfold lm_q2; rw [lm_none_n hk, hnf]; rfl]; simp)
  · skip
    exact absurd hcd (by rw [show lm_q2 r f (c, w, u, rt, z) = (1, (c, w, u, rt, z)) by unfold lm_q2; rw [hnr]; rfl]; simp)

set_option maxHeartbeats 4000000 in
set_option maxRecDepth 100000 in
theorem zX_alike_1 (l : Launch) (K : lm_G) (x : Nat) (c : Nat → Nat) (w : Nat → lm_V) (u : Nat) (rt : Nat → lm_V) (z : Int32) (hst : lm_st c w u rt) (W : va_W) (hW : lm_obj K x (c, w, u, rt, z) W) (r f : Int32) (hcd : (lm_q2 r f (c, w, u, rt, z)).1 = 1) : lm_CX l K mX3_alike (rx 8) [.ref x, .int r, .int f] W eN (fun w9 => lm_obj K x (lm_q2 r f (c, w, u, rt, z)).2 w9) := by
  obtain ⟨ro, kc, l0, il, ir, np, h, ca, co, h2, ca2, co2, mt, fo, ba, wa, cn, gr, fl, fi, fr, fn, mn, fa, ga, f2, g2, t2, ffo, fba, fwa, mm, fc, hh, hro, rfl⟩ := hW
  have hh : lm_hf fa ga c w u := hh
  have hro : ∀ r, r < 10 → gr r = en (rt r) := hro
  have hw := hst.1
  have hr9 := hst.2
  have hu := hw.1
  refine lx_metX RX3 pn_X3 rfl (Nat.le_of_ble_eq_true rfl) (fun E hE F X => ?_)
  have F : lx_F K 3 E cX3_alike RX3 (some .boolean) (rx 8) := F
  show lx_W K 3 E 0 0 0 [(0, .ref x), (1, .int r), (2, .int f)] [] [(x, .inr (3, [.ref ro, .ref kc, .ref mt, .ref cn, .ref h, .ref h2, .int z])), (ro, aJ K 10 gr), (kc, .inr (0, [.ref l0, .ref il, .ref ir, .ref np, .int mn])), (l0, aI K 120 fl), (il, aI K 120 fi), (ir, aI K 120 fr), (np, aI K 120 fn), (h, .inr (1, [.ref ca, .ref co, .int (nI u)])), (ca, aI K 120 fa), (co, aJ K 120 ga), (h2, .inr (1, [.ref ca2, .ref co2, .int t2])), (ca2, aI K 120 f2), (co2, aJ K 120 g2), (mt, .inr (2, [.ref fo, .ref ba, .ref wa, .int mm])), (fo, aI K 120 ffo), (ba, aI K 120 fba), (wa, aI K 120 fwa), (cn, aI K 120 fc)]
  cases hnr : lm_none r
  · skip
    obtain ⟨k, hk, rfl⟩ := lm_none_f hnr
    cases hnf : lm_none f
    · skip
      obtain ⟨j, hj, rfl⟩ := lm_none_f hnf
      exact absurd hcd (by rw [show lm_q2 (nI k) (nI j) (c, w, u, rt, z) = (0, (c, w, u, rt, z)) by unfold lm_q2; rw [lm_none_n hk, lm_none_n hj]; rfl]; simp)
    · skip
      refine lx_iload_n F dX3_alike_0 1 rfl ?_
      refine lx_iload_n F dX3_alike_1 2 rfl ?_
      exact lx_csX F X (zX_cksx (xl E) K (nI k) f (by rw [lm_none_n hk, hnf]; rfl)) cs_X3_64 [] [0, 1, 2, 3, 4, 5, 6, 7, 8, 9, 10, 11, 12, 13, 14, 15, 16, 17] [(x, .inr (3, [.ref ro, .ref kc, .ref mt, .ref cn, .ref h, .ref h2, .int z])), (ro, aJ K 10 gr), (kc, .inr (0, [.ref l0, .ref il, .ref ir, .ref np, .int mn])), (l0, aI K 120 fl), (il, aI K 120 fi), (ir, aI K 120 fr), (np, aI K 120 fn), (h, .inr (1, [.ref ca, .ref co, .int (nI u)])), (ca, aI K 120 fa), (co, aJ K 120 ga), (h2, .inr (1, [.ref ca2, .ref co2, .int t2])), (ca2, aI K 120 f2), (co2, aJ K 120 g2), (mt, .inr (2, [.ref fo, .ref ba, .ref wa, .int mm])), (fo, aI K 120 ffo), (ba, aI K 120 fba), (wa, aI K 120 fwa), (cn, aI K 120 fc)] rfl rfl (by decide) rfl (st := []) rfl (Nat.le_of_ble_eq_true rfl) (by decide) ⟨by decide, by decide⟩ dX3_alike_2 (fun w9 h9 => by subst h9; exact (by show lm_obj K x _ _; rw [show lm_q2 (nI k) f (c, w, u, rt, z) = (1, (c, w, u, rt, z)) by unfold lm_q2; rw [lm_none_n hk, hnf]; rfl]; exact ⟨_, _, _, _, _, _, _, _, _, _, _, _, _, _, _, _, _, _, _, _, _, _, _, _, _, _, _, _, _, _, _, _, _, hh, hro, rfl⟩))
  · skip
    refine lx_iload_n F dX3_alike_0 1 rfl ?_
    refine lx_iload_n F dX3_alike_1 2 rfl ?_
    exact lx_csX F X (zX_cksx (xl E) K r f (by rw [hnr]; rfl)) cs_X3_64 [] [0, 1, 2, 3, 4, 5, 6, 7, 8, 9, 10, 11, 12, 13, 14, 15, 16, 17] [(x, .inr (3, [.ref ro, .ref kc, .ref mt, .ref cn, .ref h, .ref h2, .int z])), (ro, aJ K 10 gr), (kc, .inr (0, [.ref l0, .ref il, .ref ir, .ref np, .int mn])), (l0, aI K 120 fl), (il, aI K 120 fi), (ir, aI K 120 fr), (np, aI K 120 fn), (h, .inr (1, [.ref ca, .ref co, .int (nI u)])), (ca, aI K 120 fa), (co, aJ K 120 ga), (h2, .inr (1, [.ref ca2, .ref co2, .int t2])), (ca2, aI K 120 f2), (co2, aJ K 120 g2), (mt, .inr (2, [.ref fo, .ref ba, .ref wa, .int mm])), (fo, aI K 120 ffo), (ba, aI K 120 fba), (wa, aI K 120 fwa), (cn, aI K 120 fc)] rfl rfl (by decide) rfl (st := []) rfl (Nat.le_of_ble_eq_true rfl) (by decide) ⟨by decide, by decide⟩ dX3_alike_2 (fun w9 h9 => by subst h9; exact (by show lm_obj K x _ _; rw [show lm_q2 r f (c, w, u, rt, z) = (1, (c, w, u, rt, z)) by unfold lm_q2; rw [hnr]; rfl]; exact ⟨_, _, _, _, _, _, _, _, _, _, _, _, _, _, _, _, _, _, _, _, _, _, _, _, _, _, _, _, _, _, _, _, _, hh, hro, rfl⟩))

set_option maxHeartbeats 4000000 in
set_option maxRecDepth 100000 in
theorem zX_collect_0 (l : Launch) (K : lm_G) (x : Nat) (c : Nat → Nat) (w : Nat → lm_V) (u : Nat) (rt : Nat → lm_V) (z : Int32) (hst : lm_st c w u rt) (W : va_W) (hW : lm_obj K x (c, w, u, rt, z) W)  (hcd : (lm_qc (c, w, u, rt, z)).1 = 0) : lm_C l K mX3_collect (rk 6) [.ref x] W (fun v9 w9 => v9 = some (.int (nI (lm_gu c w rt))) ∧ lm_obj K x (lm_qc (c, w, u, rt, z)).2 w9) := by
  obtain ⟨ro, kc, l0, il, ir, np, h, ca, co, h2, ca2, co2, mt, fo, ba, wa, cn, gr, fl, fi, fr, fn, mn, fa, ga, f2, g2, t2, ffo, fba, fwa, mm, fc, hh, hro, rfl⟩ := hW
  have hh : lm_hf fa ga c w u := hh
  have hro : ∀ r, r < 10 → gr r = en (rt r) := hro
  have hw := hst.1
  have hr9 := hst.2
  have hu := hw.1
  refine lx_met RX3 pn_X3 rfl (Nat.le_of_ble_eq_true rfl) (fun E hE hnm F hR => ?_)
  have F : lx_F K 1 E cX3_collect RX3 (some .int) (rk 6) := F
  show lx_W K 1 E 0 0 0 [(0, .ref x)] [] [(x, .inr (3, [.ref ro, .ref kc, .ref mt, .ref cn, .ref h, .ref h2, .int z])), (ro, aJ K 10 gr), (kc, .inr (0, [.ref l0, .ref il, .ref ir, .ref np, .int mn])), (l0, aI K 120 fl), (il, aI K 120 fi), (ir, aI K 120 fr), (np, aI K 120 fn), (h, .inr (1, [.ref ca, .ref co, .int (nI u)])), (ca, aI K 120 fa), (co, aJ K 120 ga), (h2, .inr (1, [.ref ca2, .ref co2, .int t2])), (ca2, aI K 120 f2), (co2, aJ K 120 g2), (mt, .inr (2, [.ref fo, .ref ba, .ref wa, .int mm])), (fo, aI K 120 ffo), (ba, aI K 120 fba), (wa, aI K 120 fwa), (cn, aI K 120 fc)]
  refine lx_aload_n F dX3_collect_0 0 rfl ?_
  refine lx_cv F (zl_makeCollection (xl E) K x ro kc mt cn z l0 il ir np fl fi fr fn gr mn h ca co fa ga (nI u) h2 ca2 co2 f2 g2 t2 c w u rt hst hh hro) cv_X3_138 0 rfl rfl [0, 1, 2, 3, 4, 5, 6, 7, 8, 9, 10, 11, 12] [13, 14, 15, 16, 17] [(mt, .inr (2, [.ref fo, .ref ba, .ref wa, .int mm])), (fo, aI K 120 ffo), (ba, aI K 120 fba), (wa, aI K 120 fwa), (cn, aI K 120 fc)] rfl rfl (by decide) rfl (st := []) rfl (Nat.le_of_ble_eq_true rfl) (by decide) ⟨by decide, by decide⟩ dX3_collect_1 (fun v9 w9 h9 => ?_)
  obtain ⟨rfl, gr1, fl1, fi1, fr1, fn1, mn1, f3, g3, hh1, hro1, rfl⟩ := h9
  refine lx_perm [5, 6, 7, 8, 9, 10, 11, 15, 16, 17, 12, 13, 14, 0, 1, 2, 3, 4] [(x, .inr (3, [.ref ro, .ref kc, .ref mt, .ref cn, .ref h2, .ref h, .int (z + nI 1)])), (ro, aJ K 10 gr1), (kc, .inr (0, [.ref l0, .ref il, .ref ir, .ref np, .int mn1])), (l0, aI K 120 fl1), (il, aI K 120 fi1), (ir, aI K 120 fr1), (np, aI K 120 fn1), (h, .inr (1, [.ref ca, .ref co, .int (nI u)])), (ca, aI K 120 fa), (co, aJ K 120 ga), (h2, .inr (1, [.ref ca2, .ref co2, .int (nI (lm_gu c w rt))])), (ca2, aI K 120 f3), (co2, aJ K 120 g3), (mt, .inr (2, [.ref fo, .ref ba, .ref wa, .int mm])), (fo, aI K 120 ffo), (ba, aI K 120 fba), (wa, aI K 120 fwa), (cn, aI K 120 fc)] (by decide) rfl ?_
  refine lx_st (a' := 0) (b' := 0) [] rfl rfl rfl ?_
  refine lx_aload_n F dX3_collect_4 0 rfl ?_
  refine gf_X3_34 F 0 rfl rfl dX3_collect_5 ?_
  refine gf_X3_77 F 10 rfl rfl dX3_collect_8 ?_
  refine lx_perm [0, 1, 2, 3, 4, 5, 6, 10, 11, 12, 7, 8, 9, 13, 14, 15, 16, 17] [(x, .inr (3, [.ref ro, .ref kc, .ref mt, .ref cn, .ref h2, .ref h, .int (z + nI 1)])), (ro, aJ K 10 gr1), (kc, .inr (0, [.ref l0, .ref il, .ref ir, .ref np, .int mn1])), (l0, aI K 120 fl1), (il, aI K 120 fi1), (ir, aI K 120 fr1), (np, aI K 120 fn1), (h2, .inr (1, [.ref ca2, .ref co2, .int (nI (lm_gu c w rt))])), (ca2, aI K 120 f3), (co2, aJ K 120 g3), (h, .inr (1, [.ref ca, .ref co, .int (nI u)])), (ca, aI K 120 fa), (co, aJ K 120 ga), (mt, .inr (2, [.ref fo, .ref ba, .ref wa, .int mm])), (fo, aI K 120 ffo), (ba, aI K 120 fba), (wa, aI K 120 fwa), (cn, aI K 120 fc)] (by decide) rfl ?_
  exact lx_iret F hR dX3_collect_11 ⟨rfl, by rw [show lm_qc (c, w, u, rt, z) = (0, lm_col (c, w, u, rt, z)) from rfl]; exact ⟨_, _, _, _, _, _, _, _, _, _, _, _, _, _, _, _, _, _, _, _, _, _, _, _, _, _, _, _, _, _, _, _, _, hh1, hro1, rfl⟩⟩

set_option maxHeartbeats 4000000 in
set_option maxRecDepth 100000 in
theorem zX_about_0 (l : Launch) (K : lm_G) (x : Nat) (c : Nat → Nat) (w : Nat → lm_V) (u : Nat) (rt : Nat → lm_V) (z : Int32) (hst : lm_st c w u rt) (W : va_W) (hW : lm_obj K x (c, w, u, rt, z) W) (what : Int32) (hcd : (lm_q0 (c, w, u, rt, z)).1 = 0) : lm_C l K mX3_about (rk 6) [.ref x, .int what] W (fun v9 w9 => v9 = some (.int (lm_ab w u z what)) ∧ lm_obj K x (lm_q0 (c, w, u, rt, z)).2 w9) := by
  obtain ⟨ro, kc, l0, il, ir, np, h, ca, co, h2, ca2, co2, mt, fo, ba, wa, cn, gr, fl, fi, fr, fn, mn, fa, ga, f2, g2, t2, ffo, fba, fwa, mm, fc, hh, hro, rfl⟩ := hW
  have hh : lm_hf fa ga c w u := hh
  have hro : ∀ r, r < 10 → gr r = en (rt r) := hro
  have hw := hst.1
  have hr9 := hst.2
  have hu := hw.1
  refine lx_met RX3 pn_X3 rfl (Nat.le_of_ble_eq_true rfl) (fun E hE hnm F hR => ?_)
  have F : lx_F K 2 E cX3_about RX3 (some .int) (rk 6) := F
  show lx_W K 2 E 0 0 0 [(0, .ref x), (1, .int what)] [] [(x, .inr (3, [.ref ro, .ref kc, .ref mt, .ref cn, .ref h, .ref h2, .int z])), (ro, aJ K 10 gr), (kc, .inr (0, [.ref l0, .ref il, .ref ir, .ref np, .int mn])), (l0, aI K 120 fl), (il, aI K 120 fi), (ir, aI K 120 fr), (np, aI K 120 fn), (h, .inr (1, [.ref ca, .ref co, .int (nI u)])), (ca, aI K 120 fa), (co, aJ K 120 ga), (h2, .inr (1, [.ref ca2, .ref co2, .int t2])), (ca2, aI K 120 f2), (co2, aJ K 120 g2), (mt, .inr (2, [.ref fo, .ref ba, .ref wa, .int mm])), (fo, aI K 120 ffo), (ba, aI K 120 fba), (wa, aI K 120 fwa), (cn, aI K 120 fc)]
  refine lx_iload_n F dX3_about_0 1 rfl ?_
  by_cases hb : what.toInt < 0 ∨ 2 < what.toInt
  · skip
    refine lx_tableOut F 49 dX3_about_1 hb rfl ?_
    refine lx_iconst F dX3_about_49 kc_m1 ?_
    exact lx_iret F hR dX3_about_50 ⟨by rw [lm_ab_o hb], by rw [show lm_q0 (c, w, u, rt, z) = (0, (c, w, u, rt, z)) from rfl]; exact ⟨_, _, _, _, _, _, _, _, _, _, _, _, _, _, _, _, _, _, _, _, _, _, _, _, _, _, _, _, _, _, _, _, _, hh, hro, rfl⟩⟩
  · skip
    rcases (show what.toInt = 0 ∨ what.toInt = 1 ∨ what.toInt = 2 by omega) with h0 | h0 | h0
    · skip
      refine lx_tableIn F 28 dX3_about_1 (by omega) (by omega) (by rw [h0]; rfl) rfl ?_
      refine lx_aload_n F dX3_about_28 0 rfl ?_
      refine gf_X3_34 F 0 rfl rfl dX3_about_29 ?_
      refine gf_X3_77 F 7 rfl rfl dX3_about_32 ?_
      exact lx_iret F hR dX3_about_35 ⟨by rw [lm_ab_0 h0], by rw [show lm_q0 (c, w, u, rt, z) = (0, (c, w, u, rt, z)) from rfl]; exact ⟨_, _, _, _, _, _, _, _, _, _, _, _, _, _, _, _, _, _, _, _, _, _, _, _, _, _, _, _, _, _, _, _, _, hh, hro, rfl⟩⟩
    · skip
      refine lx_tableIn F 36 dX3_about_1 (by omega) (by omega) (by rw [h0]; rfl) rfl ?_
      refine lx_aload_n F dX3_about_36 0 rfl ?_
      refine gf_X3_34 F 0 rfl rfl dX3_about_37 ?_
      refine lx_cv F (zh_countMoved (xl E) K h ca co fa ga c w u hw hh) cv_X3_141 7 rfl rfl [7, 8, 9] [0, 1, 2, 3, 4, 5, 6, 10, 11, 12, 13, 14, 15, 16, 17] [(x, .inr (3, [.ref ro, .ref kc, .ref mt, .ref cn, .ref h, .ref h2, .int z])), (ro, aJ K 10 gr), (kc, .inr (0, [.ref l0, .ref il, .ref ir, .ref np, .int mn])), (l0, aI K 120 fl), (il, aI K 120 fi), (ir, aI K 120 fr), (np, aI K 120 fn), (h2, .inr (1, [.ref ca2, .ref co2, .int t2])), (ca2, aI K 120 f2), (co2, aJ K 120 g2), (mt, .inr (2, [.ref fo, .ref ba, .ref wa, .int mm])), (fo, aI K 120 ffo), (ba, aI K 120 fba), (wa, aI K 120 fwa), (cn, aI K 120 fc)] rfl rfl (by decide) rfl (st := []) rfl (Nat.le_of_ble_eq_true rfl) (by decide) ⟨by decide, by decide⟩ dX3_about_40 (fun v9 w9 h9 => ?_)
      obtain ⟨rfl, rfl⟩ := h9
      refine lx_perm [0, 1, 2, 3, 4, 5, 6, 15, 16, 17, 7, 8, 9, 10, 11, 12, 13, 14] [(x, .inr (3, [.ref ro, .ref kc, .ref mt, .ref cn, .ref h, .ref h2, .int z])), (ro, aJ K 10 gr), (kc, .inr (0, [.ref l0, .ref il, .ref ir, .ref np, .int mn])), (l0, aI K 120 fl), (il, aI K 120 fi), (ir, aI K 120 fr), (np, aI K 120 fn), (h, .inr (1, [.ref ca, .ref co, .int (nI u)])), (ca, aI K 120 fa), (co, aJ K 120 ga), (h2, .inr (1, [.ref ca2, .ref co2, .int t2])), (ca2, aI K 120 f2), (co2, aJ K 120 g2), (mt, .inr (2, [.ref fo, .ref ba, .ref wa, .int mm])), (fo, aI K 120 ffo), (ba, aI K 120 fba), (wa, aI K 120 fwa), (cn, aI K 120 fc)] (by decide) rfl ?_
      refine lx_st (a' := 0) (b' := 0) [.int (nI (lm_cnt w u))] rfl rfl rfl ?_
      exact lx_iret F hR dX3_about_43 ⟨by rw [lm_ab_1 h0], by rw [show lm_q0 (c, w, u, rt, z) = (0, (c, w, u, rt, z)) from rfl]; exact ⟨_, _, _, _, _, _, _, _, _, _, _, _, _, _, _, _, _, _, _, _, _, _, _, _, _, _, _, _, _, _, _, _, _, hh, hro, rfl⟩⟩
    · skip
      refine lx_tableIn F 44 dX3_about_1 (by omega) (by omega) (by rw [h0]; rfl) rfl ?_
      refine lx_aload_n F dX3_about_44 0 rfl ?_
      refine gf_X3_41 F 0 rfl rfl dX3_about_45 ?_
      exact lx_iret F hR dX3_about_48 ⟨by rw [lm_ab_2 h0], by rw [show lm_q0 (c, w, u, rt, z) = (0, (c, w, u, rt, z)) from rfl]; exact ⟨_, _, _, _, _, _, _, _, _, _, _, _, _, _, _, _, _, _, _, _, _, _, _, _, _, _, _, _, _, _, _, _, _, hh, hro, rfl⟩⟩

set_option maxHeartbeats 4000000 in
set_option maxRecDepth 100000 in
theorem zX_word_0 (l : Launch) (K : lm_G) (x : Nat) (c : Nat → Nat) (w : Nat → lm_V) (u : Nat) (rt : Nat → lm_V) (z : Int32) (hst : lm_st c w u rt) (W : va_W) (hW : lm_obj K x (c, w, u, rt, z) W) (p what : Int32) (hcd : (lm_qw p what (c, w, u, rt, z)).1 = 0) : lm_C l K mX3_word (rk 6) [.ref x, .int p, .int what] W (fun v9 w9 => v9 = some (.long (lm_wd c w u p what)) ∧ lm_obj K x (lm_qw p what (c, w, u, rt, z)).2 w9) := by
  obtain ⟨ro, kc, l0, il, ir, np, h, ca, co, h2, ca2, co2, mt, fo, ba, wa, cn, gr, fl, fi, fr, fn, mn, fa, ga, f2, g2, t2, ffo, fba, fwa, mm, fc, hh, hro, rfl⟩ := hW
  have hh : lm_hf fa ga c w u := hh
  have hro : ∀ r, r < 10 → gr r = en (rt r) := hro
  have hw := hst.1
  have hr9 := hst.2
  have hu := hw.1
  refine lx_met RX3 pn_X3 rfl (Nat.le_of_ble_eq_true rfl) (fun E hE hnm F hR => ?_)
  have F : lx_F K 3 E cX3_word RX3 (some .long) (rk 6) := F
  show lx_W K 3 E 0 0 0 [(0, .ref x), (1, .int p), (2, .int what)] [] [(x, .inr (3, [.ref ro, .ref kc, .ref mt, .ref cn, .ref h, .ref h2, .int z])), (ro, aJ K 10 gr), (kc, .inr (0, [.ref l0, .ref il, .ref ir, .ref np, .int mn])), (l0, aI K 120 fl), (il, aI K 120 fi), (ir, aI K 120 fr), (np, aI K 120 fn), (h, .inr (1, [.ref ca, .ref co, .int (nI u)])), (ca, aI K 120 fa), (co, aJ K 120 ga), (h2, .inr (1, [.ref ca2, .ref co2, .int t2])), (ca2, aI K 120 f2), (co2, aJ K 120 g2), (mt, .inr (2, [.ref fo, .ref ba, .ref wa, .int mm])), (fo, aI K 120 ffo), (ba, aI K 120 fba), (wa, aI K 120 fwa), (cn, aI K 120 fc)]
  cases hp : decide (0 ≤ p.toInt ∧ p.toInt < (u : Int))
  · skip
    exact absurd hcd (by rw [show lm_qw p what (c, w, u, rt, z) = (1, (c, w, u, rt, z)) by exact lm_qw_1 hp]; simp)
  · skip
    obtain ⟨q, hq, rfl⟩ := lm_us_q (by omega) hp
    cases hwh : lm_wb what
    · skip
      refine lx_aload_n F dX3_word_0 0 rfl ?_
      refine gf_X3_34 F 0 rfl rfl dX3_word_1 ?_
      refine lx_iload_n F dX3_word_4 1 rfl ?_
      refine lx_cv F (zh_isUsed (xl E) K h ca co fa ga u hu (nI q)) cv_X3_145 7 rfl rfl [7, 8, 9] [0, 1, 2, 3, 4, 5, 6, 10, 11, 12, 13, 14, 15, 16, 17] [(x, .inr (3, [.ref ro, .ref kc, .ref mt, .ref cn, .ref h, .ref h2, .int z])), (ro, aJ K 10 gr), (kc, .inr (0, [.ref l0, .ref il, .ref ir, .ref np, .int mn])), (l0, aI K 120 fl), (il, aI K 120 fi), (ir, aI K 120 fr), (np, aI K 120 fn), (h2, .inr (1, [.ref ca2, .ref co2, .int t2])), (ca2, aI K 120 f2), (co2, aJ K 120 g2), (mt, .inr (2, [.ref fo, .ref ba, .ref wa, .int mm])), (fo, aI K 120 ffo), (ba, aI K 120 fba), (wa, aI K 120 fwa), (cn, aI K 120 fc)] rfl rfl (by decide) rfl (st := []) rfl (Nat.le_of_ble_eq_true rfl) (by decide) ⟨by decide, by decide⟩ dX3_word_5 (fun v9 w9 h9 => ?_)
      obtain ⟨rfl, rfl⟩ := h9
      refine lx_perm [0, 1, 2, 3, 4, 5, 6, 15, 16, 17, 7, 8, 9, 10, 11, 12, 13, 14] [(x, .inr (3, [.ref ro, .ref kc, .ref mt, .ref cn, .ref h, .ref h2, .int z])), (ro, aJ K 10 gr), (kc, .inr (0, [.ref l0, .ref il, .ref ir, .ref np, .int mn])), (l0, aI K 120 fl), (il, aI K 120 fi), (ir, aI K 120 fr), (np, aI K 120 fn), (h, .inr (1, [.ref ca, .ref co, .int (nI u)])), (ca, aI K 120 fa), (co, aJ K 120 ga), (h2, .inr (1, [.ref ca2, .ref co2, .int t2])), (ca2, aI K 120 f2), (co2, aJ K 120 g2), (mt, .inr (2, [.ref fo, .ref ba, .ref wa, .int mm])), (fo, aI K 120 ffo), (ba, aI K 120 fba), (wa, aI K 120 fwa), (cn, aI K 120 fc)] (by decide) rfl ?_
      refine lx_st (a' := 0) (b' := 0) [.int (bI (decide (0 ≤ (nI q).toInt ∧ (nI q).toInt < (u : Int))))] rfl rfl rfl ?_
      rw [hp]
      refine lx_if_ne F 21 dX3_word_8 rfl (fun _ => ?_) (fun h => absurd h (by decide))
      refine lx_iload_n F dX3_word_21 2 rfl ?_
      have hwi := of_decide_eq_false hwh
      rcases (show what.toInt = 0 ∨ what.toInt = 1 ∨ what.toInt = 2 by omega) with h0 | h0 | h0
      · skip
        refine lx_tableIn F 48 dX3_word_22 (by omega) (by omega) (by rw [h0]; rfl) rfl ?_
        refine lx_aload_n F dX3_word_48 0 rfl ?_
        refine gf_X3_34 F 0 rfl rfl dX3_word_49 ?_
        refine lx_iload_n F dX3_word_52 1 rfl ?_
        have hc3 := hw.2.1 q hq
        refine lx_cv F (zh_codeAt (xl E) K h ca co fa ga (nI u) q (by omega) (nI (c q)) (hh q hq).1) cv_X3_106 7 rfl rfl [7, 8, 9] [0, 1, 2, 3, 4, 5, 6, 10, 11, 12, 13, 14, 15, 16, 17] [(x, .inr (3, [.ref ro, .ref kc, .ref mt, .ref cn, .ref h, .ref h2, .int z])), (ro, aJ K 10 gr), (kc, .inr (0, [.ref l0, .ref il, .ref ir, .ref np, .int mn])), (l0, aI K 120 fl), (il, aI K 120 fi), (ir, aI K 120 fr), (np, aI K 120 fn), (h2, .inr (1, [.ref ca2, .ref co2, .int t2])), (ca2, aI K 120 f2), (co2, aJ K 120 g2), (mt, .inr (2, [.ref fo, .ref ba, .ref wa, .int mm])), (fo, aI K 120 ffo), (ba, aI K 120 fba), (wa, aI K 120 fwa), (cn, aI K 120 fc)] rfl rfl (by decide) rfl (st := []) rfl (Nat.le_of_ble_eq_true rfl) (by decide) ⟨by decide, by decide⟩ dX3_word_53 (fun v9 w9 h9 => ?_)
        obtain ⟨rfl, rfl⟩ := h9
        refine lx_perm [0, 1, 2, 3, 4, 5, 6, 15, 16, 17, 7, 8, 9, 10, 11, 12, 13, 14] [(x, .inr (3, [.ref ro, .ref kc, .ref mt, .ref cn, .ref h, .ref h2, .int z])), (ro, aJ K 10 gr), (kc, .inr (0, [.ref l0, .ref il, .ref ir, .ref np, .int mn])), (l0, aI K 120 fl), (il, aI K 120 fi), (ir, aI K 120 fr), (np, aI K 120 fn), (h, .inr (1, [.ref ca, .ref co, .int (nI u)])), (ca, aI K 120 fa), (co, aJ K 120 ga), (h2, .inr (1, [.ref ca2, .ref co2, .int t2])), (ca2, aI K 120 f2), (co2, aJ K 120 g2), (mt, .inr (2, [.ref fo, .ref ba, .ref wa, .int mm])), (fo, aI K 120 ffo), (ba, aI K 120 fba), (wa, aI K 120 fwa), (cn, aI K 120 fc)] (by decide) rfl ?_
        refine lx_st (a' := 0) (b' := 0) [.int (nI (c q))] rfl rfl rfl ?_
        refine lx_i2l F dX3_word_56 (jI_i2l (by omega)) ?_
        exact lx_lret F hR dX3_word_57 ⟨by rw [lm_wd_c hq hu hwh (Int32.toInt_inj.1 (by rw [h0]; rfl))], by rw [show lm_qw (nI q) what (c, w, u, rt, z) = (0, (c, w, u, rt, z)) by exact lm_qw_0 hq hu hwh]; exact ⟨_, _, _, _, _, _, _, _, _, _, _, _, _, _, _, _, _, _, _, _, _, _, _, _, _, _, _, _, _, _, _, _, _, hh, hro, rfl⟩⟩
      · skip
        refine lx_tableIn F 58 dX3_word_22 (by omega) (by omega) (by rw [h0]; rfl) rfl ?_
        refine lx_aload_n F dX3_word_58 0 rfl ?_
        refine gf_X3_34 F 0 rfl rfl dX3_word_59 ?_
        refine lx_iload_n F dX3_word_62 1 rfl ?_
        refine lx_cv F (zh_contentAt (xl E) K h ca co fa ga (nI u) q (by omega) (en (w q)) (hh q hq).2) cv_X3_91 7 rfl rfl [7, 8, 9] [0, 1, 2, 3, 4, 5, 6, 10, 11, 12, 13, 14, 15, 16, 17] [(x, .inr (3, [.ref ro, .ref kc, .ref mt, .ref cn, .ref h, .ref h2, .int z])), (ro, aJ K 10 gr), (kc, .inr (0, [.ref l0, .ref il, .ref ir, .ref np, .int mn])), (l0, aI K 120 fl), (il, aI K 120 fi), (ir, aI K 120 fr), (np, aI K 120 fn), (h2, .inr (1, [.ref ca2, .ref co2, .int t2])), (ca2, aI K 120 f2), (co2, aJ K 120 g2), (mt, .inr (2, [.ref fo, .ref ba, .ref wa, .int mm])), (fo, aI K 120 ffo), (ba, aI K 120 fba), (wa, aI K 120 fwa), (cn, aI K 120 fc)] rfl rfl (by decide) rfl (st := []) rfl (Nat.le_of_ble_eq_true rfl) (by decide) ⟨by decide, by decide⟩ dX3_word_63 (fun v9 w9 h9 => ?_)
        obtain ⟨rfl, rfl⟩ := h9
        refine lx_perm [0, 1, 2, 3, 4, 5, 6, 15, 16, 17, 7, 8, 9, 10, 11, 12, 13, 14] [(x, .inr (3, [.ref ro, .ref kc, .ref mt, .ref cn, .ref h, .ref h2, .int z])), (ro, aJ K 10 gr), (kc, .inr (0, [.ref l0, .ref il, .ref ir, .ref np, .int mn])), (l0, aI K 120 fl), (il, aI K 120 fi), (ir, aI K 120 fr), (np, aI K 120 fn), (h, .inr (1, [.ref ca, .ref co, .int (nI u)])), (ca, aI K 120 fa), (co, aJ K 120 ga), (h2, .inr (1, [.ref ca2, .ref co2, .int t2])), (ca2, aI K 120 f2), (co2, aJ K 120 g2), (mt, .inr (2, [.ref fo, .ref ba, .ref wa, .int mm])), (fo, aI K 120 ffo), (ba, aI K 120 fba), (wa, aI K 120 fwa), (cn, aI K 120 fc)] (by decide) rfl ?_
        refine lx_st (a' := 0) (b' := 0) [.long (en (w q))] rfl rfl rfl ?_
        have hk4 := lm_k4 hw hq
        refine lx_cs F (zs_kindOf (xl E) K (w q) (by omega)) cs_X3_118 [] [0, 1, 2, 3, 4, 5, 6, 7, 8, 9, 10, 11, 12, 13, 14, 15, 16, 17] [(x, .inr (3, [.ref ro, .ref kc, .ref mt, .ref cn, .ref h, .ref h2, .int z])), (ro, aJ K 10 gr), (kc, .inr (0, [.ref l0, .ref il, .ref ir, .ref np, .int mn])), (l0, aI K 120 fl), (il, aI K 120 fi), (ir, aI K 120 fr), (np, aI K 120 fn), (h, .inr (1, [.ref ca, .ref co, .int (nI u)])), (ca, aI K 120 fa), (co, aJ K 120 ga), (h2, .inr (1, [.ref ca2, .ref co2, .int t2])), (ca2, aI K 120 f2), (co2, aJ K 120 g2), (mt, .inr (2, [.ref fo, .ref ba, .ref wa, .int mm])), (fo, aI K 120 ffo), (ba, aI K 120 fba), (wa, aI K 120 fwa), (cn, aI K 120 fc)] rfl rfl (by decide) rfl (st := []) rfl (Nat.le_of_ble_eq_true rfl) (by decide) ⟨by decide, by decide⟩ dX3_word_66 (fun v9 w9 h9 => ?_)
        obtain ⟨rfl, rfl⟩ := h9
        refine lx_perm [0, 1, 2, 3, 4, 5, 6, 7, 8, 9, 10, 11, 12, 13, 14, 15, 16, 17] [(x, .inr (3, [.ref ro, .ref kc, .ref mt, .ref cn, .ref h, .ref h2, .int z])), (ro, aJ K 10 gr), (kc, .inr (0, [.ref l0, .ref il, .ref ir, .ref np, .int mn])), (l0, aI K 120 fl), (il, aI K 120 fi), (ir, aI K 120 fr), (np, aI K 120 fn), (h, .inr (1, [.ref ca, .ref co, .int (nI u)])), (ca, aI K 120 fa), (co, aJ K 120 ga), (h2, .inr (1, [.ref ca2, .ref co2, .int t2])), (ca2, aI K 120 f2), (co2, aJ K 120 g2), (mt, .inr (2, [.ref fo, .ref ba, .ref wa, .int mm])), (fo, aI K 120 ffo), (ba, aI K 120 fba), (wa, aI K 120 fwa), (cn, aI K 120 fc)] (by decide) rfl ?_
        refine lx_st (a' := 0) (b' := 0) [.int (nI ((w q).1))] rfl rfl rfl ?_
        refine lx_i2l F dX3_word_69 (jI_i2l (by omega)) ?_
        exact lx_lret F hR dX3_word_70 ⟨by rw [lm_wd_k hq hu hwh (Int32.toInt_inj.1 (by rw [h0]; decide))], by rw [show lm_qw (nI q) what (c, w, u, rt, z) = (0, (c, w, u, rt, z)) by exact lm_qw_0 hq hu hwh]; exact ⟨_, _, _, _, _, _, _, _, _, _, _, _, _, _, _, _, _, _, _, _, _, _, _, _, _, _, _, _, _, _, _, _, _, hh, hro, rfl⟩⟩
      · skip
        refine lx_tableIn F 71 dX3_word_22 (by omega) (by omega) (by rw [h0]; rfl) rfl ?_
        refine lx_aload_n F dX3_word_71 0 rfl ?_
        refine gf_X3_34 F 0 rfl rfl dX3_word_72 ?_
        refine lx_iload_n F dX3_word_75 1 rfl ?_
        refine lx_cv F (zh_contentAt (xl E) K h ca co fa ga (nI u) q (by omega) (en (w q)) (hh q hq).2) cv_X3_91 7 rfl rfl [7, 8, 9] [0, 1, 2, 3, 4, 5, 6, 10, 11, 12, 13, 14, 15, 16, 17] [(x, .inr (3, [.ref ro, .ref kc, .ref mt, .ref cn, .ref h, .ref h2, .int z])), (ro, aJ K 10 gr), (kc, .inr (0, [.ref l0, .ref il, .ref ir, .ref np, .int mn])), (l0, aI K 120 fl), (il, aI K 120 fi), (ir, aI K 120 fr), (np, aI K 120 fn), (h2, .inr (1, [.ref ca2, .ref co2, .int t2])), (ca2, aI K 120 f2), (co2, aJ K 120 g2), (mt, .inr (2, [.ref fo, .ref ba, .ref wa, .int mm])), (fo, aI K 120 ffo), (ba, aI K 120 fba), (wa, aI K 120 fwa), (cn, aI K 120 fc)] rfl rfl (by decide) rfl (st := []) rfl (Nat.le_of_ble_eq_true rfl) (by decide) ⟨by decide, by decide⟩ dX3_word_76 (fun v9 w9 h9 => ?_)
        obtain ⟨rfl, rfl⟩ := h9
        refine lx_perm [0, 1, 2, 3, 4, 5, 6, 15, 16, 17, 7, 8, 9, 10, 11, 12, 13, 14] [(x, .inr (3, [.ref ro, .ref kc, .ref mt, .ref cn, .ref h, .ref h2, .int z])), (ro, aJ K 10 gr), (kc, .inr (0, [.ref l0, .ref il, .ref ir, .ref np, .int mn])), (l0, aI K 120 fl), (il, aI K 120 fi), (ir, aI K 120 fr), (np, aI K 120 fn), (h, .inr (1, [.ref ca, .ref co, .int (nI u)])), (ca, aI K 120 fa), (co, aJ K 120 ga), (h2, .inr (1, [.ref ca2, .ref co2, .int t2])), (ca2, aI K 120 f2), (co2, aJ K 120 g2), (mt, .inr (2, [.ref fo, .ref ba, .ref wa, .int mm])), (fo, aI K 120 ffo), (ba, aI K 120 fba), (wa, aI K 120 fwa), (cn, aI K 120 fc)] (by decide) rfl ?_
        refine lx_st (a' := 0) (b' := 0) [.long (en (w q))] rfl rfl rfl ?_
        refine lx_cs F (zs_bodyOf (xl E) K (w q) (lm_in_of hw hq)) cs_X3_127 [] [0, 1, 2, 3, 4, 5, 6, 7, 8, 9, 10, 11, 12, 13, 14, 15, 16, 17] [(x, .inr (3, [.ref ro, .ref kc, .ref mt, .ref cn, .ref h, .ref h2, .int z])), (ro, aJ K 10 gr), (kc, .inr (0, [.ref l0, .ref il, .ref ir, .ref np, .int mn])), (l0, aI K 120 fl), (il, aI K 120 fi), (ir, aI K 120 fr), (np, aI K 120 fn), (h, .inr (1, [.ref ca, .ref co, .int (nI u)])), (ca, aI K 120 fa), (co, aJ K 120 ga), (h2, .inr (1, [.ref ca2, .ref co2, .int t2])), (ca2, aI K 120 f2), (co2, aJ K 120 g2), (mt, .inr (2, [.ref fo, .ref ba, .ref wa, .int mm])), (fo, aI K 120 ffo), (ba, aI K 120 fba), (wa, aI K 120 fwa), (cn, aI K 120 fc)] rfl rfl (by decide) rfl (st := []) rfl (Nat.le_of_ble_eq_true rfl) (by decide) ⟨by decide, by decide⟩ dX3_word_79 (fun v9 w9 h9 => ?_)
        obtain ⟨rfl, rfl⟩ := h9
        refine lx_perm [0, 1, 2, 3, 4, 5, 6, 7, 8, 9, 10, 11, 12, 13, 14, 15, 16, 17] [(x, .inr (3, [.ref ro, .ref kc, .ref mt, .ref cn, .ref h, .ref h2, .int z])), (ro, aJ K 10 gr), (kc, .inr (0, [.ref l0, .ref il, .ref ir, .ref np, .int mn])), (l0, aI K 120 fl), (il, aI K 120 fi), (ir, aI K 120 fr), (np, aI K 120 fn), (h, .inr (1, [.ref ca, .ref co, .int (nI u)])), (ca, aI K 120 fa), (co, aJ K 120 ga), (h2, .inr (1, [.ref ca2, .ref co2, .int t2])), (ca2, aI K 120 f2), (co2, aJ K 120 g2), (mt, .inr (2, [.ref fo, .ref ba, .ref wa, .int mm])), (fo, aI K 120 ffo), (ba, aI K 120 fba), (wa, aI K 120 fwa), (cn, aI K 120 fc)] (by decide) rfl ?_
        refine lx_st (a' := 0) (b' := 0) [.long (jI ((w q).2))] rfl rfl rfl ?_
        exact lx_lret F hR dX3_word_82 ⟨by rw [lm_wd_d hq hu hwh (fun z9 => by rw [z9] at h0; exact absurd h0 (by decide)) (fun z9 => by rw [z9] at h0; exact absurd h0 (by decide))], by rw [show lm_qw (nI q) what (c, w, u, rt, z) = (0, (c, w, u, rt, z)) by exact lm_qw_0 hq hu hwh]; exact ⟨_, _, _, _, _, _, _, _, _, _, _, _, _, _, _, _, _, _, _, _, _, _, _, _, _, _, _, _, _, _, _, _, _, hh, hro, rfl⟩⟩
    · skip
      exact absurd hcd (by rw [show lm_qw (nI q) what (c, w, u, rt, z) = (2, (c, w, u, rt, z)) by exact lm_qw_2 hq hu hwh]; simp)

set_option maxHeartbeats 4000000 in
set_option maxRecDepth 100000 in
theorem zX_word_1 (l : Launch) (K : lm_G) (x : Nat) (c : Nat → Nat) (w : Nat → lm_V) (u : Nat) (rt : Nat → lm_V) (z : Int32) (hst : lm_st c w u rt) (W : va_W) (hW : lm_obj K x (c, w, u, rt, z) W) (p what : Int32) (hcd : (lm_qw p what (c, w, u, rt, z)).1 = 1) : lm_CX l K mX3_word (rx 8) [.ref x, .int p, .int what] W eB (fun w9 => lm_obj K x (lm_qw p what (c, w, u, rt, z)).2 w9) := by
  obtain ⟨ro, kc, l0, il, ir, np, h, ca, co, h2, ca2, co2, mt, fo, ba, wa, cn, gr, fl, fi, fr, fn, mn, fa, ga, f2, g2, t2, ffo, fba, fwa, mm, fc, hh, hro, rfl⟩ := hW
  have hh : lm_hf fa ga c w u := hh
  have hro : ∀ r, r < 10 → gr r = en (rt r) := hro
  have hw := hst.1
  have hr9 := hst.2
  have hu := hw.1
  refine lx_metX RX3 pn_X3 rfl (Nat.le_of_ble_eq_true rfl) (fun E hE F X => ?_)
  have F : lx_F K 3 E cX3_word RX3 (some .long) (rx 8) := F
  show lx_W K 3 E 0 0 0 [(0, .ref x), (1, .int p), (2, .int what)] [] [(x, .inr (3, [.ref ro, .ref kc, .ref mt, .ref cn, .ref h, .ref h2, .int z])), (ro, aJ K 10 gr), (kc, .inr (0, [.ref l0, .ref il, .ref ir, .ref np, .int mn])), (l0, aI K 120 fl), (il, aI K 120 fi), (ir, aI K 120 fr), (np, aI K 120 fn), (h, .inr (1, [.ref ca, .ref co, .int (nI u)])), (ca, aI K 120 fa), (co, aJ K 120 ga), (h2, .inr (1, [.ref ca2, .ref co2, .int t2])), (ca2, aI K 120 f2), (co2, aJ K 120 g2), (mt, .inr (2, [.ref fo, .ref ba, .ref wa, .int mm])), (fo, aI K 120 ffo), (ba, aI K 120 fba), (wa, aI K 120 fwa), (cn, aI K 120 fc)]
  cases hp : decide (0 ≤ p.toInt ∧ p.toInt < (u : Int))
  · skip
    refine lx_aload_n F dX3_word_0 0 rfl ?_
    refine gf_X3_34 F 0 rfl rfl dX3_word_1 ?_
    refine lx_iload_n F dX3_word_4 1 rfl ?_
    refine lx_cv F (zh_isUsed (xl E) K h ca co fa ga u hu p) cv_X3_145 7 rfl rfl [7, 8, 9] [0, 1, 2, 3, 4, 5, 6, 10, 11, 12, 13, 14, 15, 16, 17] [(x, .inr (3, [.ref ro, .ref kc, .ref mt, .ref cn, .ref h, .ref h2, .int z])), (ro, aJ K 10 gr), (kc, .inr (0, [.ref l0, .ref il, .ref ir, .ref np, .int mn])), (l0, aI K 120 fl), (il, aI K 120 fi), (ir, aI K 120 fr), (np, aI K 120 fn), (h2, .inr (1, [.ref ca2, .ref co2, .int t2])), (ca2, aI K 120 f2), (co2, aJ K 120 g2), (mt, .inr (2, [.ref fo, .ref ba, .ref wa, .int mm])), (fo, aI K 120 ffo), (ba, aI K 120 fba), (wa, aI K 120 fwa), (cn, aI K 120 fc)] rfl rfl (by decide) rfl (st := []) rfl (Nat.le_of_ble_eq_true rfl) (by decide) ⟨by decide, by decide⟩ dX3_word_5 (fun v9 w9 h9 => ?_)
    obtain ⟨rfl, rfl⟩ := h9
    refine lx_perm [0, 1, 2, 3, 4, 5, 6, 15, 16, 17, 7, 8, 9, 10, 11, 12, 13, 14] [(x, .inr (3, [.ref ro, .ref kc, .ref mt, .ref cn, .ref h, .ref h2, .int z])), (ro, aJ K 10 gr), (kc, .inr (0, [.ref l0, .ref il, .ref ir, .ref np, .int mn])), (l0, aI K 120 fl), (il, aI K 120 fi), (ir, aI K 120 fr), (np, aI K 120 fn), (h, .inr (1, [.ref ca, .ref co, .int (nI u)])), (ca, aI K 120 fa), (co, aJ K 120 ga), (h2, .inr (1, [.ref ca2, .ref co2, .int t2])), (ca2, aI K 120 f2), (co2, aJ K 120 g2), (mt, .inr (2, [.ref fo, .ref ba, .ref wa, .int mm])), (fo, aI K 120 ffo), (ba, aI K 120 fba), (wa, aI K 120 fwa), (cn, aI K 120 fc)] (by decide) rfl ?_
    refine lx_st (a' := 0) (b' := 0) [.int (bI (decide (0 ≤ p.toInt ∧ p.toInt < (u : Int))))] rfl rfl rfl ?_
    rw [hp]
    refine lx_if_ne F 21 dX3_word_8 rfl (fun h => absurd (by decide) h) (fun _ => ?_)
    exact lx_throw F X (is := 151) (text := "the word is not used") wt_149_153 rfl (by simp [lm_strs]) dX3_word_11 dX3_word_14 dX3_word_15 dX3_word_17 dX3_word_20 ⟨by decide, by decide, by decide, by decide⟩ (Nat.le_of_ble_eq_true rfl) (by show lm_obj K x _ _; rw [show lm_qw p what (c, w, u, rt, z) = (1, (c, w, u, rt, z)) by exact lm_qw_1 hp]; exact ⟨_, _, _, _, _, _, _, _, _, _, _, _, _, _, _, _, _, _, _, _, _, _, _, _, _, _, _, _, _, _, _, _, _, hh, hro, rfl⟩)
  · skip
    obtain ⟨q, hq, rfl⟩ := lm_us_q (by omega) hp
    cases hwh : lm_wb what
    · skip
      exact absurd hcd (by rw [show lm_qw (nI q) what (c, w, u, rt, z) = (0, (c, w, u, rt, z)) by exact lm_qw_0 hq hu hwh]; simp)
    · skip
      exact absurd hcd (by rw [show lm_qw (nI q) what (c, w, u, rt, z) = (2, (c, w, u, rt, z)) by exact lm_qw_2 hq hu hwh]; simp)

set_option maxHeartbeats 4000000 in
set_option maxRecDepth 100000 in
theorem zX_word_2 (l : Launch) (K : lm_G) (x : Nat) (c : Nat → Nat) (w : Nat → lm_V) (u : Nat) (rt : Nat → lm_V) (z : Int32) (hst : lm_st c w u rt) (W : va_W) (hW : lm_obj K x (c, w, u, rt, z) W) (p what : Int32) (hcd : (lm_qw p what (c, w, u, rt, z)).1 = 2) : lm_CX l K mX3_word (rx 8) [.ref x, .int p, .int what] W eA (fun w9 => lm_obj K x (lm_qw p what (c, w, u, rt, z)).2 w9) := by
  obtain ⟨ro, kc, l0, il, ir, np, h, ca, co, h2, ca2, co2, mt, fo, ba, wa, cn, gr, fl, fi, fr, fn, mn, fa, ga, f2, g2, t2, ffo, fba, fwa, mm, fc, hh, hro, rfl⟩ := hW
  have hh : lm_hf fa ga c w u := hh
  have hro : ∀ r, r < 10 → gr r = en (rt r) := hro
  have hw := hst.1
  have hr9 := hst.2
  have hu := hw.1
  refine lx_metX RX3 pn_X3 rfl (Nat.le_of_ble_eq_true rfl) (fun E hE F X => ?_)
  have F : lx_F K 3 E cX3_word RX3 (some .long) (rx 8) := F
  show lx_W K 3 E 0 0 0 [(0, .ref x), (1, .int p), (2, .int what)] [] [(x, .inr (3, [.ref ro, .ref kc, .ref mt, .ref cn, .ref h, .ref h2, .int z])), (ro, aJ K 10 gr), (kc, .inr (0, [.ref l0, .ref il, .ref ir, .ref np, .int mn])), (l0, aI K 120 fl), (il, aI K 120 fi), (ir, aI K 120 fr), (np, aI K 120 fn), (h, .inr (1, [.ref ca, .ref co, .int (nI u)])), (ca, aI K 120 fa), (co, aJ K 120 ga), (h2, .inr (1, [.ref ca2, .ref co2, .int t2])), (ca2, aI K 120 f2), (co2, aJ K 120 g2), (mt, .inr (2, [.ref fo, .ref ba, .ref wa, .int mm])), (fo, aI K 120 ffo), (ba, aI K 120 fba), (wa, aI K 120 fwa), (cn, aI K 120 fc)]
  cases hp : decide (0 ≤ p.toInt ∧ p.toInt < (u : Int))
  · skip
    exact absurd hcd (by rw [show lm_qw p what (c, w, u, rt, z) = (1, (c, w, u, rt, z)) by exact lm_qw_1 hp]; simp)
  · skip
    obtain ⟨q, hq, rfl⟩ := lm_us_q (by omega) hp
    cases hwh : lm_wb what
    · skip
      exact absurd hcd (by rw [show lm_qw (nI q) what (c, w, u, rt, z) = (0, (c, w, u, rt, z)) by exact lm_qw_0 hq hu hwh]; simp)
    · skip
      refine lx_aload_n F dX3_word_0 0 rfl ?_
      refine gf_X3_34 F 0 rfl rfl dX3_word_1 ?_
      refine lx_iload_n F dX3_word_4 1 rfl ?_
      refine lx_cv F (zh_isUsed (xl E) K h ca co fa ga u hu (nI q)) cv_X3_145 7 rfl rfl [7, 8, 9] [0, 1, 2, 3, 4, 5, 6, 10, 11, 12, 13, 14, 15, 16, 17] [(x, .inr (3, [.ref ro, .ref kc, .ref mt, .ref cn, .ref h, .ref h2, .int z])), (ro, aJ K 10 gr), (kc, .inr (0, [.ref l0, .ref il, .ref ir, .ref np, .int mn])), (l0, aI K 120 fl), (il, aI K 120 fi), (ir, aI K 120 fr), (np, aI K 120 fn), (h2, .inr (1, [.ref ca2, .ref co2, .int t2])), (ca2, aI K 120 f2), (co2, aJ K 120 g2), (mt, .inr (2, [.ref fo, .ref ba, .ref wa, .int mm])), (fo, aI K 120 ffo), (ba, aI K 120 fba), (wa, aI K 120 fwa), (cn, aI K 120 fc)] rfl rfl (by decide) rfl (st := []) rfl (Nat.le_of_ble_eq_true rfl) (by decide) ⟨by decide, by decide⟩ dX3_word_5 (fun v9 w9 h9 => ?_)
      obtain ⟨rfl, rfl⟩ := h9
      refine lx_perm [0, 1, 2, 3, 4, 5, 6, 15, 16, 17, 7, 8, 9, 10, 11, 12, 13, 14] [(x, .inr (3, [.ref ro, .ref kc, .ref mt, .ref cn, .ref h, .ref h2, .int z])), (ro, aJ K 10 gr), (kc, .inr (0, [.ref l0, .ref il, .ref ir, .ref np, .int mn])), (l0, aI K 120 fl), (il, aI K 120 fi), (ir, aI K 120 fr), (np, aI K 120 fn), (h, .inr (1, [.ref ca, .ref co, .int (nI u)])), (ca, aI K 120 fa), (co, aJ K 120 ga), (h2, .inr (1, [.ref ca2, .ref co2, .int t2])), (ca2, aI K 120 f2), (co2, aJ K 120 g2), (mt, .inr (2, [.ref fo, .ref ba, .ref wa, .int mm])), (fo, aI K 120 ffo), (ba, aI K 120 fba), (wa, aI K 120 fwa), (cn, aI K 120 fc)] (by decide) rfl ?_
      refine lx_st (a' := 0) (b' := 0) [.int (bI (decide (0 ≤ (nI q).toInt ∧ (nI q).toInt < (u : Int))))] rfl rfl rfl ?_
      rw [hp]
      refine lx_if_ne F 21 dX3_word_8 rfl (fun _ => ?_) (fun h => absurd h (by decide))
      refine lx_iload_n F dX3_word_21 2 rfl ?_
      refine lx_tableOut F 83 dX3_word_22 (of_decide_eq_true hwh) rfl ?_
      exact lx_throw F X (is := 154) (text := "nothing to tell of a word") wt_53_57 rfl (by simp [lm_strs]) dX3_word_83 dX3_word_86 dX3_word_87 dX3_word_89 dX3_word_92 ⟨by decide, by decide, by decide, by decide⟩ (Nat.le_of_ble_eq_true rfl) (by show lm_obj K x _ _; rw [show lm_qw (nI q) what (c, w, u, rt, z) = (2, (c, w, u, rt, z)) by exact lm_qw_2 hq hu hwh]; exact ⟨_, _, _, _, _, _, _, _, _, _, _, _, _, _, _, _, _, _, _, _, _, _, _, _, _, _, _, _, _, _, _, _, _, hh, hro, rfl⟩)
