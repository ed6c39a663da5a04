theorem lm_cd_number (c : Nat → Nat) (w : Nat → lm_V) (u : Nat) (rt : Nat → lm_V) (z : Int32) (r : Int32) (x9 : Int64) : (lm_oNumber r x9 (c, w, u, rt, z)).1 = 0 ∨ (lm_oNumber r x9 (c, w, u, rt, z)).1 = 1 ∨ (lm_oNumber r x9 (c, w, u, rt, z)).1 = 2 := by
  unfold lm_oNumber
  repeat' split
  all_goals simp
theorem wc_number_1 : lx_wC RL 3 eN [] (0, 6, 9, 13) := ⟨by decide, by decide, List.mem_filter.mpr ⟨by decide +kernel, by decide +kernel⟩, by decide +kernel, fun _ h => nomatch h⟩
theorem wc_number_2 : lx_wC RL 3 eA [(0, 6, 9, 13)] (0, 6, 13, 15) := ⟨by decide, by decide, List.mem_filter.mpr ⟨by decide +kernel, by decide +kernel⟩, by decide +kernel, List.forall_mem_cons.mpr ⟨⟨by decide, eN, List.mem_filter.mpr ⟨by decide +kernel, by decide +kernel⟩, by decide +kernel⟩, fun _ h => nomatch h⟩⟩
set_option maxHeartbeats 4000000 in
set_option maxRecDepth 100000 in
theorem zW_number (l : Launch) (K : lm_G) (x : Nat) (c : Nat → Nat) (w : Nat → lm_V) (u : Nat) (rt : Nat → lm_V) (z : Int32) (hst : lm_st c w u rt) (W : va_W) (hW : lm_obj K x (c, w, u, rt, z) W) (r : Int32) (x9 : Int64) : lm_CH l K mL_number [(0, 6, 9, 13), (0, 6, 13, 15)] (rx 9) [.ref x, .int r, .long x9] W (fun v9 w9 => v9 = some (.int (nI (lm_oNumber r x9 (c, w, u, rt, z)).1)) ∧ lm_obj K x (lm_oNumber r x9 (c, w, u, rt, z)).2 w9) := by
  obtain ⟨ro, kc, l0, il, ir, np, h, ca, co, h2, ca2, co2, mt, fo, ba, wa, cn, gr, fl, fi, fr, fn, mn, fa, ga, f2, g2, t2, ffo, fba, fwa, mm, fc, hh, hro, rfl⟩ := hW
  have hh : lm_hf fa ga c w u := hh
  have hro : ∀ r, r < 10 → gr r = en (rt r) := hro
  refine lx_metH RL pn_L rfl (Nat.le_of_ble_eq_true rfl) (fun E hE F hTh htb hR => ?_)
  have F : lx_F K 5 E cL_number RL (some .int) (rx 9) := F
  show lx_W K 5 E 0 0 0 [(0, .ref x), (1, .int r), (2, .long x9)] [] [(x, .inr (3, [.ref ro, .ref kc, .ref mt, .ref cn, .ref h, .ref h2, .int z])), (ro, aJ K 10 gr), (kc, .inr (0, [.ref l0, .ref il, .ref ir, .ref np, .int mn])), (l0, aI K 120 fl), (il, aI K 120 fi), (ir, aI K 120 fr), (np, aI K 120 fn), (h, .inr (1, [.ref ca, .ref co, .int (nI u)])), (ca, aI K 120 fa), (co, aJ K 120 ga), (h2, .inr (1, [.ref ca2, .ref co2, .int t2])), (ca2, aI K 120 f2), (co2, aJ K 120 g2), (mt, .inr (2, [.ref fo, .ref ba, .ref wa, .int mm])), (fo, aI K 120 ffo), (ba, aI K 120 fba), (wa, aI K 120 fwa), (cn, aI K 120 fc)]
  rcases lm_cd_number c w u rt z r x9 with hcd | hcd | hcd
  · skip
    refine lx_aload_n F dL_number_0 0 rfl ?_
    refine lx_iload_n F dL_number_1 1 rfl ?_
    refine lx_lload_n F dL_number_2 2 rfl ?_
    refine lx_cv F (zX_number_0 (xl E) K x c w u rt z hst _ ⟨_, _, _, _, _, _, _, _, _, _, _, _, _, _, _, _, _, _, _, _, _, _, _, _, _, _, _, _, _, _, _, _, _, hh, hro, rfl⟩ r x9 hcd) cv_L_7 0 rfl rfl [0, 1, 2, 3, 4, 5, 6, 7, 8, 9, 10, 11, 12, 13, 14, 15, 16, 17] [] [] rfl rfl (by decide) rfl (st := []) rfl (Nat.le_of_ble_eq_true rfl) (by decide) ⟨by decide, by decide⟩ dL_number_3 (fun v9 w9 h9 => ?_)
    obtain ⟨rfl, ho⟩ := h9
    show lx_W K 5 E 0 0 6 [(0, .ref x), (1, .int r), (2, .long x9)] [] (w9)
    refine lx_goto F 17 dL_number_6 rfl ?_
    refine lx_iconst F dL_number_17 kc_0 ?_
    refine lx_wide (a' := 1) (b' := 6) (by decide) (by decide) ?_
    exact lx_iret F hR dL_number_18 ⟨by rw [hcd], ho⟩
  · skip
    refine lx_aload_n F dL_number_0 0 rfl ?_
    refine lx_iload_n F dL_number_1 1 rfl ?_
    refine lx_lload_n F dL_number_2 2 rfl ?_
    refine lx_cvC F hTh htb (zX_number_1 (xl E) K x c w u rt z hst _ ⟨_, _, _, _, _, _, _, _, _, _, _, _, _, _, _, _, _, _, _, _, _, _, _, _, _, _, _, _, _, _, _, _, _, hh, hro, rfl⟩ r x9 hcd) cv_L_7 0 rfl rfl [0, 1, 2, 3, 4, 5, 6, 7, 8, 9, 10, 11, 12, 13, 14, 15, 16, 17] [] [] rfl rfl (by decide) rfl (st := []) rfl (Nat.le_of_ble_eq_true rfl) (by decide) ⟨by decide, by decide⟩ dL_number_3 [] (0, 6, 9, 13) [(0, 6, 13, 15)] rfl wc_number_1 (fun q9 w9 ho => ?_)
    show lx_W K 5 E 1 6 9 [(0, .ref x), (1, .int r), (2, .long x9)] [.ref q9] (w9)
    refine lx_astore F [(0, .ref x), (1, .int r), (2, .long x9), (4, .ref q9)] [1, 2, 3, 0] dL_number_9 rfl (by decide) ?_
    refine lx_iconst F dL_number_11 kc_1 ?_
    refine lx_wide (a' := 1) (b' := 6) (by decide) (by decide) ?_
    exact lx_iret F hR dL_number_12 ⟨by rw [hcd], ho⟩
  · skip
    refine lx_aload_n F dL_number_0 0 rfl ?_
    refine lx_iload_n F dL_number_1 1 rfl ?_
    refine lx_lload_n F dL_number_2 2 rfl ?_
    refine lx_cvC F hTh htb (zX_number_2 (xl E) K x c w u rt z hst _ ⟨_, _, _, _, _, _, _, _, _, _, _, _, _, _, _, _, _, _, _, _, _, _, _, _, _, _, _, _, _, _, _, _, _, hh, hro, rfl⟩ r x9 hcd) cv_L_7 0 rfl rfl [0, 1, 2, 3, 4, 5, 6, 7, 8, 9, 10, 11, 12, 13, 14, 15, 16, 17] [] [] rfl rfl (by decide) rfl (st := []) rfl (Nat.le_of_ble_eq_true rfl) (by decide) ⟨by decide, by decide⟩ dL_number_3 [(0, 6, 9, 13)] (0, 6, 13, 15) [] rfl wc_number_2 (fun q9 w9 ho => ?_)
    show lx_W K 5 E 1 6 13 [(0, .ref x), (1, .int r), (2, .long x9)] [.ref q9] (w9)
    refine lx_astore F [(0, .ref x), (1, .int r), (2, .long x9), (4, .ref q9)] [1, 2, 3, 0] dL_number_13 rfl (by decide) ?_
    refine lx_iconst F dL_number_15 kc_2 ?_
    refine lx_wide (a' := 1) (b' := 6) (by decide) (by decide) ?_
    exact lx_iret F hR dL_number_16 ⟨by rw [hcd], ho⟩

theorem lm_cd_drop (c : Nat → Nat) (w : Nat → lm_V) (u : Nat) (rt : Nat → lm_V) (z : Int32) (r : Int32) : (lm_oDrop r (c, w, u, rt, z)).1 = 0 ∨ (lm_oDrop r (c, w, u, rt, z)).1 = 1 := by
  unfold lm_oDrop
  repeat' split
  all_goals simp
theorem wc_drop_1 : lx_wC RL 2 eN [] (0, 5, 8, 13) := ⟨by decide, by decide, List.mem_filter.mpr ⟨by decide +kernel, by decide +kernel⟩, by decide +kernel, fun _ h => nomatch h⟩
set_option maxHeartbeats 4000000 in
set_option maxRecDepth 100000 in
theorem zW_drop (l : Launch) (K : lm_G) (x : Nat) (c : Nat → Nat) (w : Nat → lm_V) (u : Nat) (rt : Nat → lm_V) (z : Int32) (hst : lm_st c w u rt) (W : va_W) (hW : lm_obj K x (c, w, u, rt, z) W) (r : Int32) : lm_CH l K mL_drop [(0, 5, 8, 13)] (rx 9) [.ref x, .int r] W (fun v9 w9 => v9 = some (.int (nI (lm_oDrop r (c, w, u, rt, z)).1)) ∧ lm_obj K x (lm_oDrop r (c, w, u, rt, z)).2 w9) := by
  obtain ⟨ro, kc, l0, il, ir, np, h, ca, co, h2, ca2, co2, mt, fo, ba, wa, cn, gr, fl, fi, fr, fn, mn, fa, ga, f2, g2, t2, ffo, fba, fwa, mm, fc, hh, hro, rfl⟩ := hW
  have hh : lm_hf fa ga c w u := hh
  have hro : ∀ r, r < 10 → gr r = en (rt r) := hro
  refine lx_metH RL pn_L rfl (Nat.le_of_ble_eq_true rfl) (fun E hE F hTh htb hR => ?_)
  have F : lx_F K 3 E cL_drop RL (some .int) (rx 9) := F
  show lx_W K 3 E 0 0 0 [(0, .ref x), (1, .int r)] [] [(x, .inr (3, [.ref ro, .ref kc, .ref mt, .ref cn, .ref h, .ref h2, .int z])), (ro, aJ K 10 gr), (kc, .inr (0, [.ref l0, .ref il, .ref ir, .ref np, .int mn])), (l0, aI K 120 fl), (il, aI K 120 fi), (ir, aI K 120 fr), (np, aI K 120 fn), (h, .inr (1, [.ref ca, .ref co, .int (nI u)])), (ca, aI K 120 fa), (co, aJ K 120 ga), (h2, .inr (1, [.ref ca2, .ref co2, .int t2])), (ca2, aI K 120 f2), (co2, aJ K 120 g2), (mt, .inr (2, [.ref fo, .ref ba, .ref wa, .int mm])), (fo, aI K 120 ffo), (ba, aI K 120 fba), (wa, aI K 120 fwa), (cn, aI K 120 fc)]
  rcases lm_cd_drop c w u rt z r with hcd | hcd
  · skip
    refine lx_aload_n F dL_drop_0 0 rfl ?_
    refine lx_iload_n F dL_drop_1 1 rfl ?_
    refine lx_cv F (zX_drop_0 (xl E) K x c w u rt z hst _ ⟨_, _, _, _, _, _, _, _, _, _, _, _, _, _, _, _, _, _, _, _, _, _, _, _, _, _, _, _, _, _, _, _, _, hh, hro, rfl⟩ r hcd) cv_L_17 0 rfl rfl [0, 1, 2, 3, 4, 5, 6, 7, 8, 9, 10, 11, 12, 13, 14, 15, 16, 17] [] [] rfl rfl (by decide) rfl (st := []) rfl (Nat.le_of_ble_eq_true rfl) (by decide) ⟨by decide, by decide⟩ dL_drop_2 (fun v9 w9 h9 => ?_)
    obtain ⟨rfl, ho⟩ := h9
    show lx_W K 3 E 0 0 5 [(0, .ref x), (1, .int r)] [] (w9)
    refine lx_goto F 11 dL_drop_5 rfl ?_
    refine lx_iconst F dL_drop_11 kc_0 ?_
    refine lx_wide (a' := 1) (b' := 6) (by decide) (by decide) ?_
    exact lx_iret F hR dL_drop_12 ⟨by rw [hcd], ho⟩
  · skip
    refine lx_aload_n F dL_drop_0 0 rfl ?_
    refine lx_iload_n F dL_drop_1 1 rfl ?_
    refine lx_cvC F hTh htb (zX_drop_1 (xl E) K x c w u rt z hst _ ⟨_, _, _, _, _, _, _, _, _, _, _, _, _, _, _, _, _, _, _, _, _, _, _, _, _, _, _, _, _, _, _, _, _, hh, hro, rfl⟩ r hcd) cv_L_17 0 rfl rfl [0, 1, 2, 3, 4, 5, 6, 7, 8, 9, 10, 11, 12, 13, 14, 15, 16, 17] [] [] rfl rfl (by decide) rfl (st := []) rfl (Nat.le_of_ble_eq_true rfl) (by decide) ⟨by decide, by decide⟩ dL_drop_2 [] (0, 5, 8, 13) [] rfl wc_drop_1 (fun q9 w9 ho => ?_)
    show lx_W K 3 E 1 6 8 [(0, .ref x), (1, .int r)] [.ref q9] (w9)
    refine lx_astore_n F [(0, .ref x), (1, .int r), (2, .ref q9)] [1, 2, 0] dL_drop_8 rfl (by decide) ?_
    refine lx_iconst F dL_drop_9 kc_1 ?_
    refine lx_wide (a' := 1) (b' := 6) (by decide) (by decide) ?_
    exact lx_iret F hR dL_drop_10 ⟨by rw [hcd], ho⟩

theorem lm_cd_copy (c : Nat → Nat) (w : Nat → lm_V) (u : Nat) (rt : Nat → lm_V) (z : Int32) (r f : Int32) : (lm_oCopy r f (c, w, u, rt, z)).1 = 0 ∨ (lm_oCopy r f (c, w, u, rt, z)).1 = 1 := by
  unfold lm_oCopy
  repeat' split
  all_goals simp
theorem wc_copy_1 : lx_wC RL 3 eN [] (0, 6, 9, 13) := ⟨by decide, by decide, List.mem_filter.mpr ⟨by decide +kernel, by decide +kernel⟩, by decide +kernel, fun _ h => nomatch h⟩
set_option maxHeartbeats 4000000 in
set_option maxRecDepth 100000 in
theorem zW_copy (l : Launch) (K : lm_G) (x : Nat) (c : Nat → Nat) (w : Nat → lm_V) (u : Nat) (rt : Nat → lm_V) (z : Int32) (hst : lm_st c w u rt) (W : va_W) (hW : lm_obj K x (c, w, u, rt, z) W) (r f : Int32) : lm_CH l K mL_copy [(0, 6, 9, 13)] (rx 9) [.ref x, .int r, .int f] W (fun v9 w9 => v9 = some (.int (nI (lm_oCopy r f (c, w, u, rt, z)).1)) ∧ lm_obj K x (lm_oCopy r f (c, w, u, rt, z)).2 w9) := by
  obtain ⟨ro, kc, l0, il, ir, np, h, ca, co, h2, ca2, co2, mt, fo, ba, wa, cn, gr, fl, fi, fr, fn, mn, fa, ga, f2, g2, t2, ffo, fba, fwa, mm, fc, hh, hro, rfl⟩ := hW
  have hh : lm_hf fa ga c w u := hh
  have hro : ∀ r, r < 10 → gr r = en (rt r) := hro
  refine lx_metH RL pn_L rfl (Nat.le_of_ble_eq_true rfl) (fun E hE F hTh htb hR => ?_)
  have F : lx_F K 4 E cL_copy RL (some .int) (rx 9) := F
  show lx_W K 4 E 0 0 0 [(0, .ref x), (1, .int r), (2, .int f)] [] [(x, .inr (3, [.ref ro, .ref kc, .ref mt, .ref cn, .ref h, .ref h2, .int z])), (ro, aJ K 10 gr), (kc, .inr (0, [.ref l0, .ref il, .ref ir, .ref np, .int mn])), (l0, aI K 120 fl), (il, aI K 120 fi), (ir, aI K 120 fr), (np, aI K 120 fn), (h, .inr (1, [.ref ca, .ref co, .int (nI u)])), (ca, aI K 120 fa), (co, aJ K 120 ga), (h2, .inr (1, [.ref ca2, .ref co2, .int t2])), (ca2, aI K 120 f2), (co2, aJ K 120 g2), (mt, .inr (2, [.ref fo, .ref ba, .ref wa, .int mm])), (fo, aI K 120 ffo), (ba, aI K 120 fba), (wa, aI K 120 fwa), (cn, aI K 120 fc)]
  rcases lm_cd_copy c w u rt z r f with hcd | hcd
  · skip
    refine lx_aload_n F dL_copy_0 0 rfl ?_
    refine lx_iload_n F dL_copy_1 1 rfl ?_
    refine lx_iload_n F dL_copy_2 2 rfl ?_
    refine lx_cv F (zX_copy_0 (xl E) K x c w u rt z hst _ ⟨_, _, _, _, _, _, _, _, _, _, _, _, _, _, _, _, _, _, _, _, _, _, _, _, _, _, _, _, _, _, _, _, _, hh, hro, rfl⟩ r f hcd) cv_L_21 0 rfl rfl [0, 1, 2, 3, 4, 5, 6, 7, 8, 9, 10, 11, 12, 13, 14, 15, 16, 17] [] [] rfl rfl (by decide) rfl (st := []) rfl (Nat.le_of_ble_eq_true rfl) (by decide) ⟨by decide, by decide⟩ dL_copy_3 (fun v9 w9 h9 => ?_)
    obtain ⟨rfl, ho⟩ := h9
    show lx_W K 4 E 0 0 6 [(0, .ref x), (1, .int r), (2, .int f)] [] (w9)
    refine lx_goto F 12 dL_copy_6 rfl ?_
    refine lx_iconst F dL_copy_12 kc_0 ?_
    refine lx_wide (a' := 1) (b' := 6) (by decide) (by decide) ?_
    exact lx_iret F hR dL_copy_13 ⟨by rw [hcd], ho⟩
  · skip
    refine lx_aload_n F dL_copy_0 0 rfl ?_
    refine lx_iload_n F dL_copy_1 1 rfl ?_
    refine lx_iload_n F dL_copy_2 2 rfl ?_
    refine lx_cvC F hTh htb (zX_copy_1 (xl E) K x c w u rt z hst _ ⟨_, _, _, _, _, _, _, _, _, _, _, _, _, _, _, _, _, _, _, _, _, _, _, _, _, _, _, _, _, _, _, _, _, hh, hro, rfl⟩ r f hcd) cv_L_21 0 rfl rfl [0, 1, 2, 3, 4, 5, 6, 7, 8, 9, 10, 11, 12, 13, 14, 15, 16, 17] [] [] rfl rfl (by decide) rfl (st := []) rfl (Nat.le_of_ble_eq_true rfl) (by decide) ⟨by decide, by decide⟩ dL_copy_3 [] (0, 6, 9, 13) [] rfl wc_copy_1 (fun q9 w9 ho => ?_)
    show lx_W K 4 E 1 6 9 [(0, .ref x), (1, .int r), (2, .int f)] [.ref q9] (w9)
    refine lx_astore_n F [(0, .ref x), (1, .int r), (2, .int f), (3, .ref q9)] [1, 2, 3, 0] dL_copy_9 rfl (by decide) ?_
    refine lx_iconst F dL_copy_10 kc_1 ?_
    refine lx_wide (a' := 1) (b' := 6) (by decide) (by decide) ?_
    exact lx_iret F hR dL_copy_11 ⟨by rw [hcd], ho⟩

theorem lm_cd_first (c : Nat → Nat) (w : Nat → lm_V) (u : Nat) (rt : Nat → lm_V) (z : Int32) (r f : Int32) : (lm_oFirst r f (c, w, u, rt, z)).1 = 0 ∨ (lm_oFirst r f (c, w, u, rt, z)).1 = 1 ∨ (lm_oFirst r f (c, w, u, rt, z)).1 = 2 := by
  unfold lm_oFirst
  repeat' split
  all_goals simp
theorem wc_first_1 : lx_wC RL 3 eN [] (0, 6, 9, 13) := ⟨by decide, by decide, List.mem_filter.mpr ⟨by decide +kernel, by decide +kernel⟩, by decide +kernel, fun _ h => nomatch h⟩
theorem wc_first_2 : lx_wC RL 3 eS [(0, 6, 9, 13)] (0, 6, 12, 37) := ⟨by decide, by decide, List.mem_filter.mpr ⟨by decide +kernel, by decide +kernel⟩, by decide +kernel, List.forall_mem_cons.mpr ⟨⟨by decide, eN, List.mem_filter.mpr ⟨by decide +kernel, by decide +kernel⟩, by decide +kernel⟩, fun _ h => nomatch h⟩⟩
set_option maxHeartbeats 4000000 in
set_option maxRecDepth 100000 in
theorem zW_first (l : Launch) (K : lm_G) (x : Nat) (c : Nat → Nat) (w : Nat → lm_V) (u : Nat) (rt : Nat → lm_V) (z : Int32) (hst : lm_st c w u rt) (W : va_W) (hW : lm_obj K x (c, w, u, rt, z) W) (r f : Int32) : lm_CH l K mL_first [(0, 6, 9, 13), (0, 6, 12, 37)] (rx 9) [.ref x, .int r, .int f] W (fun v9 w9 => v9 = some (.int (nI (lm_oFirst r f (c, w, u, rt, z)).1)) ∧ lm_obj K x (lm_oFirst r f (c, w, u, rt, z)).2 w9) := by
  obtain ⟨ro, kc, l0, il, ir, np, h, ca, co, h2, ca2, co2, mt, fo, ba, wa, cn, gr, fl, fi, fr, fn, mn, fa, ga, f2, g2, t2, ffo, fba, fwa, mm, fc, hh, hro, rfl⟩ := hW
  have hh : lm_hf fa ga c w u := hh
  have hro : ∀ r, r < 10 → gr r = en (rt r) := hro
  refine lx_metH RL pn_L rfl (Nat.le_of_ble_eq_true rfl) (fun E hE F hTh htb hR => ?_)
  have F : lx_F K 4 E cL_first RL (some .int) (rx 9) := F
  show lx_W K 4 E 0 0 0 [(0, .ref x), (1, .int r), (2, .int f)] [] [(x, .inr (3, [.ref ro, .ref kc, .ref mt, .ref cn, .ref h, .ref h2, .int z])), (ro, aJ K 10 gr), (kc, .inr (0, [.ref l0, .ref il, .ref ir, .ref np, .int mn])), (l0, aI K 120 fl), (il, aI K 120 fi), (ir, aI K 120 fr), (np, aI K 120 fn), (h, .inr (1, [.ref ca, .ref co, .int (nI u)])), (ca, aI K 120 fa), (co, aJ K 120 ga), (h2, .inr (1, [.ref ca2, .ref co2, .int t2])), (ca2, aI K 120 f2), (co2, aJ K 120 g2), (mt, .inr (2, [.ref fo, .ref ba, .ref wa, .int mm])), (fo, aI K 120 ffo), (ba, aI K 120 fba), (wa, aI K 120 fwa), (cn, aI K 120 fc)]
  rcases lm_cd_first c w u rt z r f with hcd | hcd | hcd
  · skip
    refine lx_aload_n F dL_first_0 0 rfl ?_
    refine lx_iload_n F dL_first_1 1 rfl ?_
    refine lx_iload_n F dL_first_2 2 rfl ?_
    refine lx_cv F (zX_first_0 (xl E) K x c w u rt z hst _ ⟨_, _, _, _, _, _, _, _, _, _, _, _, _, _, _, _, _, _, _, _, _, _, _, _, _, _, _, _, _, _, _, _, _, hh, hro, rfl⟩ r f hcd) cv_L_34 0 rfl rfl [0, 1, 2, 3, 4, 5, 6, 7, 8, 9, 10, 11, 12, 13, 14, 15, 16, 17] [] [] rfl rfl (by decide) rfl (st := []) rfl (Nat.le_of_ble_eq_true rfl) (by decide) ⟨by decide, by decide⟩ dL_first_3 (fun v9 w9 h9 => ?_)
    obtain ⟨rfl, ho⟩ := h9
    show lx_W K 4 E 0 0 6 [(0, .ref x), (1, .int r), (2, .int f)] [] (w9)
    refine lx_goto F 15 dL_first_6 rfl ?_
    refine lx_iconst F dL_first_15 kc_0 ?_
    refine lx_wide (a' := 1) (b' := 6) (by decide) (by decide) ?_
    exact lx_iret F hR dL_first_16 ⟨by rw [hcd], ho⟩
  · skip
    refine lx_aload_n F dL_first_0 0 rfl ?_
    refine lx_iload_n F dL_first_1 1 rfl ?_
    refine lx_iload_n F dL_first_2 2 rfl ?_
    refine lx_cvC F hTh htb (zX_first_1 (xl E) K x c w u rt z hst _ ⟨_, _, _, _, _, _, _, _, _, _, _, _, _, _, _, _, _, _, _, _, _, _, _, _, _, _, _, _, _, _, _, _, _, hh, hro, rfl⟩ r f hcd) cv_L_34 0 rfl rfl [0, 1, 2, 3, 4, 5, 6, 7, 8, 9, 10, 11, 12, 13, 14, 15, 16, 17] [] [] rfl rfl (by decide) rfl (st := []) rfl (Nat.le_of_ble_eq_true rfl) (by decide) ⟨by decide, by decide⟩ dL_first_3 [] (0, 6, 9, 13) [(0, 6, 12, 37)] rfl wc_first_1 (fun q9 w9 ho => ?_)
    show lx_W K 4 E 1 6 9 [(0, .ref x), (1, .int r), (2, .int f)] [.ref q9] (w9)
    refine lx_astore_n F [(0, .ref x), (1, .int r), (2, .int f), (3, .ref q9)] [1, 2, 3, 0] dL_first_9 rfl (by decide) ?_
    refine lx_iconst F dL_first_10 kc_1 ?_
    refine lx_wide (a' := 1) (b' := 6) (by decide) (by decide) ?_
    exact lx_iret F hR dL_first_11 ⟨by rw [hcd], ho⟩
  · skip
    refine lx_aload_n F dL_first_0 0 rfl ?_
    refine lx_iload_n F dL_first_1 1 rfl ?_
    refine lx_iload_n F dL_first_2 2 rfl ?_
    refine lx_cvC F hTh htb (zX_first_2 (xl E) K x c w u rt z hst _ ⟨_, _, _, _, _, _, _, _, _, _, _, _, _, _, _, _, _, _, _, _, _, _, _, _, _, _, _, _, _, _, _, _, _, hh, hro, rfl⟩ r f hcd) cv_L_34 0 rfl rfl [0, 1, 2, 3, 4, 5, 6, 7, 8, 9, 10, 11, 12, 13, 14, 15, 16, 17] [] [] rfl rfl (by decide) rfl (st := []) rfl (Nat.le_of_ble_eq_true rfl) (by decide) ⟨by decide, by decide⟩ dL_first_3 [(0, 6, 9, 13)] (0, 6, 12, 37) [] rfl wc_first_2 (fun q9 w9 ho => ?_)
    show lx_W K 4 E 1 6 12 [(0, .ref x), (1, .int r), (2, .int f)] [.ref q9] (w9)
    refine lx_astore_n F [(0, .ref x), (1, .int r), (2, .int f), (3, .ref q9)] [1, 2, 3, 0] dL_first_12 rfl (by decide) ?_
    refine lx_iconst F dL_first_13 kc_2 ?_
    refine lx_wide (a' := 1) (b' := 6) (by decide) (by decide) ?_
    exact lx_iret F hR dL_first_14 ⟨by rw [hcd], ho⟩

theorem lm_cd_rest (c : Nat → Nat) (w : Nat → lm_V) (u : Nat) (rt : Nat → lm_V) (z : Int32) (r f : Int32) : (lm_oRest r f (c, w, u, rt, z)).1 = 0 ∨ (lm_oRest r f (c, w, u, rt, z)).1 = 1 ∨ (lm_oRest r f (c, w, u, rt, z)).1 = 2 := by
  unfold lm_oRest
  repeat' split
  all_goals simp
theorem wc_rest_1 : lx_wC RL 3 eN [] (0, 6, 9, 13) := ⟨by decide, by decide, List.mem_filter.mpr ⟨by decide +kernel, by decide +kernel⟩, by decide +kernel, fun _ h => nomatch h⟩
theorem wc_rest_2 : lx_wC RL 3 eS [(0, 6, 9, 13)] (0, 6, 12, 37) := ⟨by decide, by decide, List.mem_filter.mpr ⟨by decide +kernel, by decide +kernel⟩, by decide +kernel, List.forall_mem_cons.mpr ⟨⟨by decide, eN, List.mem_filter.mpr ⟨by decide +kernel, by decide +kernel⟩, by decide +kernel⟩, fun _ h => nomatch h⟩⟩
set_option maxHeartbeats 4000000 in
set_option maxRecDepth 100000 in
theorem zW_rest (l : Launch) (K : lm_G) (x : Nat) (c : Nat → Nat) (w : Nat → lm_V) (u : Nat) (rt : Nat → lm_V) (z : Int32) (hst : lm_st c w u rt) (W : va_W) (hW : lm_obj K x (c, w, u, rt, z) W) (r f : Int32) : lm_CH l K mL_rest [(0, 6, 9, 13), (0, 6, 12, 37)] (rx 9) [.ref x, .int r, .int f] W (fun v9 w9 => v9 = some (.int (nI (lm_oRest r f (c, w, u, rt, z)).1)) ∧ lm_obj K x (lm_oRest r f (c, w, u, rt, z)).2 w9) := by
  obtain ⟨ro, kc, l0, il, ir, np, h, ca, co, h2, ca2, co2, mt, fo, ba, wa, cn, gr, fl, fi, fr, fn, mn, fa, ga, f2, g2, t2, ffo, fba, fwa, mm, fc, hh, hro, rfl⟩ := hW
  have hh : lm_hf fa ga c w u := hh
  have hro : ∀ r, r < 10 → gr r = en (rt r) := hro
  refine lx_metH RL pn_L rfl (Nat.le_of_ble_eq_true rfl) (fun E hE F hTh htb hR => ?_)
  have F : lx_F K 4 E cL_rest RL (some .int) (rx 9) := F
  show lx_W K 4 E 0 0 0 [(0, .ref x), (1, .int r), (2, .int f)] [] [(x, .inr (3, [.ref ro, .ref kc, .ref mt, .ref cn, .ref h, .ref h2, .int z])), (ro, aJ K 10 gr), (kc, .inr (0, [.ref l0, .ref il, .ref ir, .ref np, .int mn])), (l0, aI K 120 fl), (il, aI K 120 fi), (ir, aI K 120 fr), (np, aI K 120 fn), (h, .inr (1, [.ref ca, .ref co, .int (nI u)])), (ca, aI K 120 fa), (co, aJ K 120 ga), (h2, .inr (1, [.ref ca2, .ref co2, .int t2])), (ca2, aI K 120 f2), (co2, aJ K 120 g2), (mt, .inr (2, [.ref fo, .ref ba, .ref wa, .int mm])), (fo, aI K 120 ffo), (ba, aI K 120 fba), (wa, aI K 120 fwa), (cn, aI K 120 fc)]
  rcases lm_cd_rest c w u rt z r f with hcd | hcd | hcd
  · skip
    refine lx_aload_n F dL_rest_0 0 rfl ?_
    refine lx_iload_n F dL_rest_1 1 rfl ?_
    refine lx_iload_n F dL_rest_2 2 rfl ?_
    refine lx_cv F (zX_rest_0 (xl E) K x c w u rt z hst _ ⟨_, _, _, _, _, _, _, _, _, _, _, _, _, _, _, _, _, _, _, _, _, _, _, _, _, _, _, _, _, _, _, _, _, hh, hro, rfl⟩ r f hcd) cv_L_39 0 rfl rfl [0, 1, 2, 3, 4, 5, 6, 7, 8, 9, 10, 11, 12, 13, 14, 15, 16, 17] [] [] rfl rfl (by decide) rfl (st := []) rfl (Nat.le_of_ble_eq_true rfl) (by decide) ⟨by decide, by decide⟩ dL_rest_3 (fun v9 w9 h9 => ?_)
    obtain ⟨rfl, ho⟩ := h9
    show lx_W K 4 E 0 0 6 [(0, .ref x), (1, .int r), (2, .int f)] [] (w9)
    refine lx_goto F 15 dL_rest_6 rfl ?_
    refine lx_iconst F dL_rest_15 kc_0 ?_
    refine lx_wide (a' := 1) (b' := 6) (by decide) (by decide) ?_
    exact lx_iret F hR dL_rest_16 ⟨by rw [hcd], ho⟩
  · skip
    refine lx_aload_n F dL_rest_0 0 rfl ?_
    refine lx_iload_n F dL_rest_1 1 rfl ?_
    refine lx_iload_n F dL_rest_2 2 rfl ?_
    refine lx_cvC F hTh htb (zX_rest_1 (xl E) K x c w u rt z hst _ ⟨_, _, _, _, _, _, _, _, _, _, _, _, _, _, _, _, _, _, _, _, _, _, _, _, _, _, _, _, _, _, _, _, _, hh, hro, rfl⟩ r f hcd) cv_L_39 0 rfl rfl [0, 1, 2, 3, 4, 5, 6, 7, 8, 9, 10, 11, 12, 13, 14, 15, 16, 17] [] [] rfl rfl (by decide) rfl (st := []) rfl (Nat.le_of_ble_eq_true rfl) (by decide) ⟨by decide, by decide⟩ dL_rest_3 [] (0, 6, 9, 13) [(0, 6, 12, 37)] rfl wc_rest_1 (fun q9 w9 ho => ?_)
    show lx_W K 4 E 1 6 9 [(0, .ref x), (1, .int r), (2, .int f)] [.ref q9] (w9)
    refine lx_astore_n F [(0, .ref x), (1, .int r), (2, .int f), (3, .ref q9)] [1, 2, 3, 0] dL_rest_9 rfl (by decide) ?_
    refine lx_iconst F dL_rest_10 kc_1 ?_
    refine lx_wide (a' := 1) (b' := 6) (by decide) (by decide) ?_
    exact lx_iret F hR dL_rest_11 ⟨by rw [hcd], ho⟩
  · skip
    refine lx_aload_n F dL_rest_0 0 rfl ?_
    refine lx_iload_n F dL_rest_1 1 rfl ?_
    refine lx_iload_n F dL_rest_2 2 rfl ?_
    refine lx_cvC F hTh htb (zX_rest_2 (xl E) K x c w u rt z hst _ ⟨_, _, _, _, _, _, _, _, _, _, _, _, _, _, _, _, _, _, _, _, _, _, _, _, _, _, _, _, _, _, _, _, _, hh, hro, rfl⟩ r f hcd) cv_L_39 0 rfl rfl [0, 1, 2, 3, 4, 5, 6, 7, 8, 9, 10, 11, 12, 13, 14, 15, 16, 17] [] [] rfl rfl (by decide) rfl (st := []) rfl (Nat.le_of_ble_eq_true rfl) (by decide) ⟨by decide, by decide⟩ dL_rest_3 [(0, 6, 9, 13)] (0, 6, 12, 37) [] rfl wc_rest_2 (fun q9 w9 ho => ?_)
    show lx_W K 4 E 1 6 12 [(0, .ref x), (1, .int r), (2, .int f)] [.ref q9] (w9)
    refine lx_astore_n F [(0, .ref x), (1, .int r), (2, .int f), (3, .ref q9)] [1, 2, 3, 0] dL_rest_12 rfl (by decide) ?_
    refine lx_iconst F dL_rest_13 kc_2 ?_
    refine lx_wide (a' := 1) (b' := 6) (by decide) (by decide) ?_
    exact lx_iret F hR dL_rest_14 ⟨by rw [hcd], ho⟩

theorem lm_cd_setFirst (c : Nat → Nat) (w : Nat → lm_V) (u : Nat) (rt : Nat → lm_V) (z : Int32) (r f : Int32) : (lm_oSetFirst r f (c, w, u, rt, z)).1 = 0 ∨ (lm_oSetFirst r f (c, w, u, rt, z)).1 = 1 ∨ (lm_oSetFirst r f (c, w, u, rt, z)).1 = 2 := by
  unfold lm_oSetFirst
  repeat' split
  all_goals simp
theorem wc_setFirst_1 : lx_wC RL 3 eN [] (0, 6, 9, 13) := ⟨by decide, by decide, List.mem_filter.mpr ⟨by decide +kernel, by decide +kernel⟩, by decide +kernel, fun _ h => nomatch h⟩
theorem wc_setFirst_2 : lx_wC RL 3 eS [(0, 6, 9, 13)] (0, 6, 12, 37) := ⟨by decide, by decide, List.mem_filter.mpr ⟨by decide +kernel, by decide +kernel⟩, by decide +kernel, List.forall_mem_cons.mpr ⟨⟨by decide, eN, List.mem_filter.mpr ⟨by decide +kernel, by decide +kernel⟩, by decide +kernel⟩, fun _ h => nomatch h⟩⟩
set_option maxHeartbeats 4000000 in
set_option maxRecDepth 100000 in
theorem zW_setFirst (l : Launch) (K : lm_G) (x : Nat) (c : Nat → Nat) (w : Nat → lm_V) (u : Nat) (rt : Nat → lm_V) (z : Int32) (hst : lm_st c w u rt) (W : va_W) (hW : lm_obj K x (c, w, u, rt, z) W) (r f : Int32) : lm_CH l K mL_setFirst [(0, 6, 9, 13), (0, 6, 12, 37)] (rx 9) [.ref x, .int r, .int f] W (fun v9 w9 => v9 = some (.int (nI (lm_oSetFirst r f (c, w, u, rt, z)).1)) ∧ lm_obj K x (lm_oSetFirst r f (c, w, u, rt, z)).2 w9) := by
  obtain ⟨ro, kc, l0, il, ir, np, h, ca, co, h2, ca2, co2, mt, fo, ba, wa, cn, gr, fl, fi, fr, fn, mn, fa, ga, f2, g2, t2, ffo, fba, fwa, mm, fc, hh, hro, rfl⟩ := hW
  have hh : lm_hf fa ga c w u := hh
  have hro : ∀ r, r < 10 → gr r = en (rt r) := hro
  refine lx_metH RL pn_L rfl (Nat.le_of_ble_eq_true rfl) (fun E hE F hTh htb hR => ?_)
  have F : lx_F K 4 E cL_setFirst RL (some .int) (rx 9) := F
  show lx_W K 4 E 0 0 0 [(0, .ref x), (1, .int r), (2, .int f)] [] [(x, .inr (3, [.ref ro, .ref kc, .ref mt, .ref cn, .ref h, .ref h2, .int z])), (ro, aJ K 10 gr), (kc, .inr (0, [.ref l0, .ref il, .ref ir, .ref np, .int mn])), (l0, aI K 120 fl), (il, aI K 120 fi), (ir, aI K 120 fr), (np, aI K 120 fn), (h, .inr (1, [.ref ca, .ref co, .int (nI u)])), (ca, aI K 120 fa), (co, aJ K 120 ga), (h2, .inr (1, [.ref ca2, .ref co2, .int t2])), (ca2, aI K 120 f2), (co2, aJ K 120 g2), (mt, .inr (2, [.ref fo, .ref ba, .ref wa, .int mm])), (fo, aI K 120 ffo), (ba, aI K 120 fba), (wa, aI K 120 fwa), (cn, aI K 120 fc)]
  rcases lm_cd_setFirst c w u rt z r f with hcd | hcd | hcd
  · skip
    refine lx_aload_n F dL_setFirst_0 0 rfl ?_
    refine lx_iload_n F dL_setFirst_1 1 rfl ?_
    refine lx_iload_n F dL_setFirst_2 2 rfl ?_
    refine lx_cv F (zX_setFirst_0 (xl E) K x c w u rt z hst _ ⟨_, _, _, _, _, _, _, _, _, _, _, _, _, _, _, _, _, _, _, _, _, _, _, _, _, _, _, _, _, _, _, _, _, hh, hro, rfl⟩ r f hcd) cv_L_42 0 rfl rfl [0, 1, 2, 3, 4, 5, 6, 7, 8, 9, 10, 11, 12, 13, 14, 15, 16, 17] [] [] rfl rfl (by decide) rfl (st := []) rfl (Nat.le_of_ble_eq_true rfl) (by decide) ⟨by decide, by decide⟩ dL_setFirst_3 (fun v9 w9 h9 => ?_)
    obtain ⟨rfl, ho⟩ := h9
    show lx_W K 4 E 0 0 6 [(0, .ref x), (1, .int r), (2, .int f)] [] (w9)
    refine lx_goto F 15 dL_setFirst_6 rfl ?_
    refine lx_iconst F dL_setFirst_15 kc_0 ?_
    refine lx_wide (a' := 1) (b' := 6) (by decide) (by decide) ?_
    exact lx_iret F hR dL_setFirst_16 ⟨by rw [hcd], ho⟩
  · skip
    refine lx_aload_n F dL_setFirst_0 0 rfl ?_
    refine lx_iload_n F dL_setFirst_1 1 rfl ?_
    refine lx_iload_n F dL_setFirst_2 2 rfl ?_
    refine lx_cvC F hTh htb (zX_setFirst_1 (xl E) K x c w u rt z hst _ ⟨_, _, _, _, _, _, _, _, _, _, _, _, _, _, _, _, _, _, _, _, _, _, _, _, _, _, _, _, _, _, _, _, _, hh, hro, rfl⟩ r f hcd) cv_L_42 0 rfl rfl [0, 1, 2, 3, 4, 5, 6, 7, 8, 9, 10, 11, 12, 13, 14, 15, 16, 17] [] [] rfl rfl (by decide) rfl (st := []) rfl (Nat.le_of_ble_eq_true rfl) (by decide) ⟨by decide, by decide⟩ dL_setFirst_3 [] (0, 6, 9, 13) [(0, 6, 12, 37)] rfl wc_setFirst_1 (fun q9 w9 ho => ?_)
    show lx_W K 4 E 1 6 9 [(0, .ref x), (1, .int r), (2, .int f)] [.ref q9] (w9)
    refine lx_astore_n F [(0, .ref x), (1, .int r), (2, .int f), (3, .ref q9)] [1, 2, 3, 0] dL_setFirst_9 rfl (by decide) ?_
    refine lx_iconst F dL_setFirst_10 kc_1 ?_
    refine lx_wide (a' := 1) (b' := 6) (by decide) (by decide) ?_
    exact lx_iret F hR dL_setFirst_11 ⟨by rw [hcd], ho⟩
  · skip
    refine lx_aload_n F dL_setFirst_0 0 rfl ?_
    refine lx_iload_n F dL_setFirst_1 1 rfl ?_
    refine lx_iload_n F dL_setFirst_2 2 rfl ?_
    refine lx_cvC F hTh htb (zX_setFirst_2 (xl E) K x c w u rt z hst _ ⟨_, _, _, _, _, _, _, _, _, _, _, _, _, _, _, _, _, _, _, _, _, _, _, _, _, _, _, _, _, _, _, _, _, hh, hro, rfl⟩ r f hcd) cv_L_42 0 rfl rfl [0, 1, 2, 3, 4, 5, 6, 7, 8, 9, 10, 11, 12, 13, 14, 15, 16, 17] [] [] rfl rfl (by decide) rfl (st := []) rfl (Nat.le_of_ble_eq_true rfl) (by decide) ⟨by decide, by decide⟩ dL_setFirst_3 [(0, 6, 9, 13)] (0, 6, 12, 37) [] rfl wc_setFirst_2 (fun q9 w9 ho => ?_)
    show lx_W K 4 E 1 6 12 [(0, .ref x), (1, .int r), (2, .int f)] [.ref q9] (w9)
    refine lx_astore_n F [(0, .ref x), (1, .int r), (2, .int f), (3, .ref q9)] [1, 2, 3, 0] dL_setFirst_12 rfl (by decide) ?_
    refine lx_iconst F dL_setFirst_13 kc_2 ?_
    refine lx_wide (a' := 1) (b' := 6) (by decide) (by decide) ?_
    exact lx_iret F hR dL_setFirst_14 ⟨by rw [hcd], ho⟩

theorem lm_cd_setRest (c : Nat → Nat) (w : Nat → lm_V) (u : Nat) (rt : Nat → lm_V) (z : Int32) (r f : Int32) : (lm_oSetRest r f (c, w, u, rt, z)).1 = 0 ∨ (lm_oSetRest r f (c, w, u, rt, z)).1 = 1 ∨ (lm_oSetRest r f (c, w, u, rt, z)).1 = 2 ∨ (lm_oSetRest r f (c, w, u, rt, z)).1 = 3 := by
  unfold lm_oSetRest
  repeat' split
  all_goals simp
theorem wc_setRest_1 : lx_wC RL 3 eN [] (0, 6, 9, 13) := ⟨by decide, by decide, List.mem_filter.mpr ⟨by decide +kernel, by decide +kernel⟩, by decide +kernel, fun _ h => nomatch h⟩
theorem wc_setRest_2 : lx_wC RL 3 eS [(0, 6, 9, 13)] (0, 6, 12, 37) := ⟨by decide, by decide, List.mem_filter.mpr ⟨by decide +kernel, by decide +kernel⟩, by decide +kernel, List.forall_mem_cons.mpr ⟨⟨by decide, eN, List.mem_filter.mpr ⟨by decide +kernel, by decide +kernel⟩, by decide +kernel⟩, fun _ h => nomatch h⟩⟩
theorem wc_setRest_3 : lx_wC RL 3 eU [(0, 6, 9, 13), (0, 6, 12, 37)] (0, 6, 15, 29) := ⟨by decide, by decide, List.mem_filter.mpr ⟨by decide +kernel, by decide +kernel⟩, by decide +kernel, List.forall_mem_cons.mpr ⟨⟨by decide, eN, List.mem_filter.mpr ⟨by decide +kernel, by decide +kernel⟩, by decide +kernel⟩, List.forall_mem_cons.mpr ⟨⟨by decide, eS, List.mem_filter.mpr ⟨by decide +kernel, by decide +kernel⟩, by decide +kernel⟩, fun _ h => nomatch h⟩⟩⟩
set_option maxHeartbeats 4000000 in
set_option maxRecDepth 100000 in
theorem zW_setRest (l : Launch) (K : lm_G) (x : Nat) (c : Nat → Nat) (w : Nat → lm_V) (u : Nat) (rt : Nat → lm_V) (z : Int32) (hst : lm_st c w u rt) (W : va_W) (hW : lm_obj K x (c, w, u, rt, z) W) (r f : Int32) : lm_CH l K mL_setRest [(0, 6, 9, 13), (0, 6, 12, 37), (0, 6, 15, 29)] (rx 9) [.ref x, .int r, .int f] W (fun v9 w9 => v9 = some (.int (nI (lm_oSetRest r f (c, w, u, rt, z)).1)) ∧ lm_obj K x (lm_oSetRest r f (c, w, u, rt, z)).2 w9) := by
  obtain ⟨ro, kc, l0, il, ir, np, h, ca, co, h2, ca2, co2, mt, fo, ba, wa, cn, gr, fl, fi, fr, fn, mn, fa, ga, f2, g2, t2, ffo, fba, fwa, mm, fc, hh, hro, rfl⟩ := hW
  have hh : lm_hf fa ga c w u := hh
  have hro : ∀ r, r < 10 → gr r = en (rt r) := hro
  refine lx_metH RL pn_L rfl (Nat.le_of_ble_eq_true rfl) (fun E hE F hTh htb hR => ?_)
  have F : lx_F K 4 E cL_setRest RL (some .int) (rx 9) := F
  show lx_W K 4 E 0 0 0 [(0, .ref x), (1, .int r), (2, .int f)] [] [(x, .inr (3, [.ref ro, .ref kc, .ref mt, .ref cn, .ref h, .ref h2, .int z])), (ro, aJ K 10 gr), (kc, .inr (0, [.ref l0, .ref il, .ref ir, .ref np, .int mn])), (l0, aI K 120 fl), (il, aI K 120 fi), (ir, aI K 120 fr), (np, aI K 120 fn), (h, .inr (1, [.ref ca, .ref co, .int (nI u)])), (ca, aI K 120 fa), (co, aJ K 120 ga), (h2, .inr (1, [.ref ca2, .ref co2, .int t2])), (ca2, aI K 120 f2), (co2, aJ K 120 g2), (mt, .inr (2, [.ref fo, .ref ba, .ref wa, .int mm])), (fo, aI K 120 ffo), (ba, aI K 120 fba), (wa, aI K 120 fwa), (cn, aI K 120 fc)]
  rcases lm_cd_setRest c w u rt z r f with hcd | hcd | hcd | hcd
  · skip
    refine lx_aload_n F dL_setRest_0 0 rfl ?_
    refine lx_iload_n F dL_setRest_1 1 rfl ?_
    refine lx_iload_n F dL_setRest_2 2 rfl ?_
    refine lx_cv F (zX_setRest_0 (xl E) K x c w u rt z hst _ ⟨_, _, _, _, _, _, _, _, _, _, _, _, _, _, _, _, _, _, _, _, _, _, _, _, _, _, _, _, _, _, _, _, _, hh, hro, rfl⟩ r f hcd) cv_L_45 0 rfl rfl [0, 1, 2, 3, 4, 5, 6, 7, 8, 9, 10, 11, 12, 13, 14, 15, 16, 17] [] [] rfl rfl (by decide) rfl (st := []) rfl (Nat.le_of_ble_eq_true rfl) (by decide) ⟨by decide, by decide⟩ dL_setRest_3 (fun v9 w9 h9 => ?_)
    obtain ⟨rfl, ho⟩ := h9
    show lx_W K 4 E 0 0 6 [(0, .ref x), (1, .int r), (2, .int f)] [] (w9)
    refine lx_goto F 18 dL_setRest_6 rfl ?_
    refine lx_iconst F dL_setRest_18 kc_0 ?_
    refine lx_wide (a' := 1) (b' := 6) (by decide) (by decide) ?_
    exact lx_iret F hR dL_setRest_19 ⟨by rw [hcd], ho⟩
  · skip
    refine lx_aload_n F dL_setRest_0 0 rfl ?_
    refine lx_iload_n F dL_setRest_1 1 rfl ?_
    refine lx_iload_n F dL_setRest_2 2 rfl ?_
    refine lx_cvC F hTh htb (zX_setRest_1 (xl E) K x c w u rt z hst _ ⟨_, _, _, _, _, _, _, _, _, _, _, _, _, _, _, _, _, _, _, _, _, _, _, _, _, _, _, _, _, _, _, _, _, hh, hro, rfl⟩ r f hcd) cv_L_45 0 rfl rfl [0, 1, 2, 3, 4, 5, 6, 7, 8, 9, 10, 11, 12, 13, 14, 15, 16, 17] [] [] rfl rfl (by decide) rfl (st := []) rfl (Nat.le_of_ble_eq_true rfl) (by decide) ⟨by decide, by decide⟩ dL_setRest_3 [] (0, 6, 9, 13) [(0, 6, 12, 37), (0, 6, 15, 29)] rfl wc_setRest_1 (fun q9 w9 ho => ?_)
    show lx_W K 4 E 1 6 9 [(0, .ref x), (1, .int r), (2, .int f)] [.ref q9] (w9)
    refine lx_astore_n F [(0, .ref x), (1, .int r), (2, .int f), (3, .ref q9)] [1, 2, 3, 0] dL_setRest_9 rfl (by decide) ?_
    refine lx_iconst F dL_setRest_10 kc_1 ?_
    refine lx_wide (a' := 1) (b' := 6) (by decide) (by decide) ?_
    exact lx_iret F hR dL_setRest_11 ⟨by rw [hcd], ho⟩
  · skip
    refine lx_aload_n F dL_setRest_0 0 rfl ?_
    refine lx_iload_n F dL_setRest_1 1 rfl ?_
    refine lx_iload_n F dL_setRest_2 2 rfl ?_
    refine lx_cvC F hTh htb (zX_setRest_2 (xl E) K x c w u rt z hst _ ⟨_, _, _, _, _, _, _, _, _, _, _, _, _, _, _, _, _, _, _, _, _, _, _, _, _, _, _, _, _, _, _, _, _, hh, hro, rfl⟩ r f hcd) cv_L_45 0 rfl rfl [0, 1, 2, 3, 4, 5, 6, 7, 8, 9, 10, 11, 12, 13, 14, 15, 16, 17] [] [] rfl rfl (by decide) rfl (st := []) rfl (Nat.le_of_ble_eq_true rfl) (by decide) ⟨by decide, by decide⟩ dL_setRest_3 [(0, 6, 9, 13)] (0, 6, 12, 37) [(0, 6, 15, 29)] rfl wc_setRest_2 (fun q9 w9 ho => ?_)
    show lx_W K 4 E 1 6 12 [(0, .ref x), (1, .int r), (2, .int f)] [.ref q9] (w9)
    refine lx_astore_n F [(0, .ref x), (1, .int r), (2, .int f), (3, .ref q9)] [1, 2, 3, 0] dL_setRest_12 rfl (by decide) ?_
    refine lx_iconst F dL_setRest_13 kc_2 ?_
    refine lx_wide (a' := 1) (b' := 6) (by decide) (by decide) ?_
    exact lx_iret F hR dL_setRest_14 ⟨by rw [hcd], ho⟩
  · skip
    refine lx_aload_n F dL_setRest_0 0 rfl ?_
    refine lx_iload_n F dL_setRest_1 1 rfl ?_
    refine lx_iload_n F dL_setRest_2 2 rfl ?_
    refine lx_cvC F hTh htb (zX_setRest_3 (xl E) K x c w u rt z hst _ ⟨_, _, _, _, _, _, _, _, _, _, _, _, _, _, _, _, _, _, _, _, _, _, _, _, _, _, _, _, _, _, _, _, _, hh, hro, rfl⟩ r f hcd) cv_L_45 0 rfl rfl [0, 1, 2, 3, 4, 5, 6, 7, 8, 9, 10, 11, 12, 13, 14, 15, 16, 17] [] [] rfl rfl (by decide) rfl (st := []) rfl (Nat.le_of_ble_eq_true rfl) (by decide) ⟨by decide, by decide⟩ dL_setRest_3 [(0, 6, 9, 13), (0, 6, 12, 37)] (0, 6, 15, 29) [] rfl wc_setRest_3 (fun q9 w9 ho => ?_)
    show lx_W K 4 E 1 6 15 [(0, .ref x), (1, .int r), (2, .int f)] [.ref q9] (w9)
    refine lx_astore_n F [(0, .ref x), (1, .int r), (2, .int f), (3, .ref q9)] [1, 2, 3, 0] dL_setRest_15 rfl (by decide) ?_
    refine lx_iconst F dL_setRest_16 kc_3 ?_
    refine lx_wide (a' := 1) (b' := 6) (by decide) (by decide) ?_
    exact lx_iret F hR dL_setRest_17 ⟨by rw [hcd], ho⟩

theorem lm_cd_cons (c : Nat → Nat) (w : Nat → lm_V) (u : Nat) (rt : Nat → lm_V) (z : Int32) (r f t : Int32) : (lm_oCons r f t (c, w, u, rt, z)).1 = 0 ∨ (lm_oCons r f t (c, w, u, rt, z)).1 = 1 ∨ (lm_oCons r f t (c, w, u, rt, z)).1 = 2 := by
  unfold lm_oCons
  repeat' split
  all_goals simp
theorem wc_cons_1 : lx_wC RL 4 eN [] (0, 7, 10, 13) := ⟨by decide, by decide, List.mem_filter.mpr ⟨by decide +kernel, by decide +kernel⟩, by decide +kernel, fun _ h => nomatch h⟩
theorem wc_cons_2 : lx_wC RL 4 eU [(0, 7, 10, 13)] (0, 7, 14, 29) := ⟨by decide, by decide, List.mem_filter.mpr ⟨by decide +kernel, by decide +kernel⟩, by decide +kernel, List.forall_mem_cons.mpr ⟨⟨by decide, eN, List.mem_filter.mpr ⟨by decide +kernel, by decide +kernel⟩, by decide +kernel⟩, fun _ h => nomatch h⟩⟩
set_option maxHeartbeats 4000000 in
set_option maxRecDepth 100000 in
theorem zW_cons (l : Launch) (K : lm_G) (x : Nat) (c : Nat → Nat) (w : Nat → lm_V) (u : Nat) (rt : Nat → lm_V) (z : Int32) (hst : lm_st c w u rt) (W : va_W) (hW : lm_obj K x (c, w, u, rt, z) W) (r f t : Int32) : lm_CH l K mL_cons [(0, 7, 10, 13), (0, 7, 14, 29)] (rx 9) [.ref x, .int r, .int f, .int t] W (fun v9 w9 => v9 = some (.int (nI (lm_oCons r f t (c, w, u, rt, z)).1)) ∧ lm_obj K x (lm_oCons r f t (c, w, u, rt, z)).2 w9) := by
  obtain ⟨ro, kc, l0, il, ir, np, h, ca, co, h2, ca2, co2, mt, fo, ba, wa, cn, gr, fl, fi, fr, fn, mn, fa, ga, f2, g2, t2, ffo, fba, fwa, mm, fc, hh, hro, rfl⟩ := hW
  have hh : lm_hf fa ga c w u := hh
  have hro : ∀ r, r < 10 → gr r = en (rt r) := hro
  refine lx_metH RL pn_L rfl (Nat.le_of_ble_eq_true rfl) (fun E hE F hTh htb hR => ?_)
  have F : lx_F K 5 E cL_cons RL (some .int) (rx 9) := F
  show lx_W K 5 E 0 0 0 [(0, .ref x), (1, .int r), (2, .int f), (3, .int t)] [] [(x, .inr (3, [.ref ro, .ref kc, .ref mt, .ref cn, .ref h, .ref h2, .int z])), (ro, aJ K 10 gr), (kc, .inr (0, [.ref l0, .ref il, .ref ir, .ref np, .int mn])), (l0, aI K 120 fl), (il, aI K 120 fi), (ir, aI K 120 fr), (np, aI K 120 fn), (h, .inr (1, [.ref ca, .ref co, .int (nI u)])), (ca, aI K 120 fa), (co, aJ K 120 ga), (h2, .inr (1, [.ref ca2, .ref co2, .int t2])), (ca2, aI K 120 f2), (co2, aJ K 120 g2), (mt, .inr (2, [.ref fo, .ref ba, .ref wa, .int mm])), (fo, aI K 120 ffo), (ba, aI K 120 fba), (wa, aI K 120 fwa), (cn, aI K 120 fc)]
  rcases lm_cd_cons c w u rt z r f t with hcd | hcd | hcd
  · skip
    refine lx_aload_n F dL_cons_0 0 rfl ?_
    refine lx_iload_n F dL_cons_1 1 rfl ?_
    refine lx_iload_n F dL_cons_2 2 rfl ?_
    refine lx_iload_n F dL_cons_3 3 rfl ?_
    refine lx_cv F (zX_cons_0 (xl E) K x c w u rt z hst _ ⟨_, _, _, _, _, _, _, _, _, _, _, _, _, _, _, _, _, _, _, _, _, _, _, _, _, _, _, _, _, _, _, _, _, hh, hro, rfl⟩ r f t hcd) cv_L_25 0 rfl rfl [0, 1, 2, 3, 4, 5, 6, 7, 8, 9, 10, 11, 12, 13, 14, 15, 16, 17] [] [] rfl rfl (by decide) rfl (st := []) rfl (Nat.le_of_ble_eq_true rfl) (by decide) ⟨by decide, by decide⟩ dL_cons_4 (fun v9 w9 h9 => ?_)
    obtain ⟨rfl, ho⟩ := h9
    show lx_W K 5 E 0 0 7 [(0, .ref x), (1, .int r), (2, .int f), (3, .int t)] [] (w9)
    refine lx_goto F 18 dL_cons_7 rfl ?_
    refine lx_iconst F dL_cons_18 kc_0 ?_
    refine lx_wide (a' := 1) (b' := 6) (by decide) (by decide) ?_
    exact lx_iret F hR dL_cons_19 ⟨by rw [hcd], ho⟩
  · skip
    refine lx_aload_n F dL_cons_0 0 rfl ?_
    refine lx_iload_n F dL_cons_1 1 rfl ?_
    refine lx_iload_n F dL_cons_2 2 rfl ?_
    refine lx_iload_n F dL_cons_3 3 rfl ?_
    refine lx_cvC F hTh htb (zX_cons_1 (xl E) K x c w u rt z hst _ ⟨_, _, _, _, _, _, _, _, _, _, _, _, _, _, _, _, _, _, _, _, _, _, _, _, _, _, _, _, _, _, _, _, _, hh, hro, rfl⟩ r f t hcd) cv_L_25 0 rfl rfl [0, 1, 2, 3, 4, 5, 6, 7, 8, 9, 10, 11, 12, 13, 14, 15, 16, 17] [] [] rfl rfl (by decide) rfl (st := []) rfl (Nat.le_of_ble_eq_true rfl) (by decide) ⟨by decide, by decide⟩ dL_cons_4 [] (0, 7, 10, 13) [(0, 7, 14, 29)] rfl wc_cons_1 (fun q9 w9 ho => ?_)
    show lx_W K 5 E 1 6 10 [(0, .ref x), (1, .int r), (2, .int f), (3, .int t)] [.ref q9] (w9)
    refine lx_astore F [(0, .ref x), (1, .int r), (2, .int f), (3, .int t), (4, .ref q9)] [1, 2, 3, 4, 0] dL_cons_10 rfl (by decide) ?_
    refine lx_iconst F dL_cons_12 kc_1 ?_
    refine lx_wide (a' := 1) (b' := 6) (by decide) (by decide) ?_
    exact lx_iret F hR dL_cons_13 ⟨by rw [hcd], ho⟩
  · skip
    refine lx_aload_n F dL_cons_0 0 rfl ?_
    refine lx_iload_n F dL_cons_1 1 rfl ?_
    refine lx_iload_n F dL_cons_2 2 rfl ?_
    refine lx_iload_n F dL_cons_3 3 rfl ?_
    refine lx_cvC F hTh htb (zX_cons_2 (xl E) K x c w u rt z hst _ ⟨_, _, _, _, _, _, _, _, _, _, _, _, _, _, _, _, _, _, _, _, _, _, _, _, _, _, _, _, _, _, _, _, _, hh, hro, rfl⟩ r f t hcd) cv_L_25 0 rfl rfl [0, 1, 2, 3, 4, 5, 6, 7, 8, 9, 10, 11, 12, 13, 14, 15, 16, 17] [] [] rfl rfl (by decide) rfl (st := []) rfl (Nat.le_of_ble_eq_true rfl) (by decide) ⟨by decide, by decide⟩ dL_cons_4 [(0, 7, 10, 13)] (0, 7, 14, 29) [] rfl wc_cons_2 (fun q9 w9 ho => ?_)
    show lx_W K 5 E 1 6 14 [(0, .ref x), (1, .int r), (2, .int f), (3, .int t)] [.ref q9] (w9)
    refine lx_astore F [(0, .ref x), (1, .int r), (2, .int f), (3, .int t), (4, .ref q9)] [1, 2, 3, 4, 0] dL_cons_14 rfl (by decide) ?_
    refine lx_iconst F dL_cons_16 kc_2 ?_
    refine lx_wide (a' := 1) (b' := 6) (by decide) (by decide) ?_
    exact lx_iret F hR dL_cons_17 ⟨by rw [hcd], ho⟩

theorem lm_cd_list (c : Nat → Nat) (w : Nat → lm_V) (u : Nat) (rt : Nat → lm_V) (z : Int32) (r f n : Int32) : (lm_oList r f n (c, w, u, rt, z)).1 = 0 ∨ (lm_oList r f n (c, w, u, rt, z)).1 = 1 ∨ (lm_oList r f n (c, w, u, rt, z)).1 = 2 ∨ (lm_oList r f n (c, w, u, rt, z)).1 = 3 := by
  unfold lm_oList
  repeat' split
  all_goals simp
theorem wc_list_1 : lx_wC RL 4 eN [] (0, 7, 10, 13) := ⟨by decide, by decide, List.mem_filter.mpr ⟨by decide +kernel, by decide +kernel⟩, by decide +kernel, fun _ h => nomatch h⟩
theorem wc_list_2 : lx_wC RL 4 eA [(0, 7, 10, 13)] (0, 7, 14, 15) := ⟨by decide, by decide, List.mem_filter.mpr ⟨by decide +kernel, by decide +kernel⟩, by decide +kernel, List.forall_mem_cons.mpr ⟨⟨by decide, eN, List.mem_filter.mpr ⟨by decide +kernel, by decide +kernel⟩, by decide +kernel⟩, fun _ h => nomatch h⟩⟩
theorem wc_list_3 : lx_wC RL 4 eU [(0, 7, 10, 13), (0, 7, 14, 15)] (0, 7, 18, 29) := ⟨by decide, by decide, List.mem_filter.mpr ⟨by decide +kernel, by decide +kernel⟩, by decide +kernel, List.forall_mem_cons.mpr ⟨⟨by decide, eN, List.mem_filter.mpr ⟨by decide +kernel, by decide +kernel⟩, by decide +kernel⟩, List.forall_mem_cons.mpr ⟨⟨by decide, eA, List.mem_filter.mpr ⟨by decide +kernel, by decide +kernel⟩, by decide +kernel⟩, fun _ h => nomatch h⟩⟩⟩
set_option maxHeartbeats 4000000 in
set_option maxRecDepth 100000 in
theorem zW_list (l : Launch) (K : lm_G) (x : Nat) (c : Nat → Nat) (w : Nat → lm_V) (u : Nat) (rt : Nat → lm_V) (z : Int32) (hst : lm_st c w u rt) (W : va_W) (hW : lm_obj K x (c, w, u, rt, z) W) (r f n : Int32) : lm_CH l K mL_list [(0, 7, 10, 13), (0, 7, 14, 15), (0, 7, 18, 29)] (rx 9) [.ref x, .int r, .int f, .int n] W (fun v9 w9 => v9 = some (.int (nI (lm_oList r f n (c, w, u, rt, z)).1)) ∧ lm_obj K x (lm_oList r f n (c, w, u, rt, z)).2 w9) := by
  obtain ⟨ro, kc, l0, il, ir, np, h, ca, co, h2, ca2, co2, mt, fo, ba, wa, cn, gr, fl, fi, fr, fn, mn, fa, ga, f2, g2, t2, ffo, fba, fwa, mm, fc, hh, hro, rfl⟩ := hW
  have hh : lm_hf fa ga c w u := hh
  have hro : ∀ r, r < 10 → gr r = en (rt r) := hro
  refine lx_metH RL pn_L rfl (Nat.le_of_ble_eq_true rfl) (fun E hE F hTh htb hR => ?_)
  have F : lx_F K 5 E cL_list RL (some .int) (rx 9) := F
  show lx_W K 5 E 0 0 0 [(0, .ref x), (1, .int r), (2, .int f), (3, .int n)] [] [(x, .inr (3, [.ref ro, .ref kc, .ref mt, .ref cn, .ref h, .ref h2, .int z])), (ro, aJ K 10 gr), (kc, .inr (0, [.ref l0, .ref il, .ref ir, .ref np, .int mn])), (l0, aI K 120 fl), (il, aI K 120 fi), (ir, aI K 120 fr), (np, aI K 120 fn), (h, .inr (1, [.ref ca, .ref co, .int (nI u)])), (ca, aI K 120 fa), (co, aJ K 120 ga), (h2, .inr (1, [.ref ca2, .ref co2, .int t2])), (ca2, aI K 120 f2), (co2, aJ K 120 g2), (mt, .inr (2, [.ref fo, .ref ba, .ref wa, .int mm])), (fo, aI K 120 ffo), (ba, aI K 120 fba), (wa, aI K 120 fwa), (cn, aI K 120 fc)]
  rcases lm_cd_list c w u rt z r f n with hcd | hcd | hcd | hcd
  · skip
    refine lx_aload_n F dL_list_0 0 rfl ?_
    refine lx_iload_n F dL_list_1 1 rfl ?_
    refine lx_iload_n F dL_list_2 2 rfl ?_
    refine lx_iload_n F dL_list_3 3 rfl ?_
    refine lx_cv F (zX_list_0 (xl E) K x c w u rt z hst _ ⟨_, _, _, _, _, _, _, _, _, _, _, _, _, _, _, _, _, _, _, _, _, _, _, _, _, _, _, _, _, _, _, _, _, hh, hro, rfl⟩ r f n hcd) cv_L_31 0 rfl rfl [0, 1, 2, 3, 4, 5, 6, 7, 8, 9, 10, 11, 12, 13, 14, 15, 16, 17] [] [] rfl rfl (by decide) rfl (st := []) rfl (Nat.le_of_ble_eq_true rfl) (by decide) ⟨by decide, by decide⟩ dL_list_4 (fun v9 w9 h9 => ?_)
    obtain ⟨rfl, ho⟩ := h9
    show lx_W K 5 E 0 0 7 [(0, .ref x), (1, .int r), (2, .int f), (3, .int n)] [] (w9)
    refine lx_goto F 22 dL_list_7 rfl ?_
    refine lx_iconst F dL_list_22 kc_0 ?_
    refine lx_wide (a' := 1) (b' := 6) (by decide) (by decide) ?_
    exact lx_iret F hR dL_list_23 ⟨by rw [hcd], ho⟩
  · skip
    refine lx_aload_n F dL_list_0 0 rfl ?_
    refine lx_iload_n F dL_list_1 1 rfl ?_
    refine lx_iload_n F dL_list_2 2 rfl ?_
    refine lx_iload_n F dL_list_3 3 rfl ?_
    refine lx_cvC F hTh htb (zX_list_1 (xl E) K x c w u rt z hst _ ⟨_, _, _, _, _, _, _, _, _, _, _, _, _, _, _, _, _, _, _, _, _, _, _, _, _, _, _, _, _, _, _, _, _, hh, hro, rfl⟩ r f n hcd) cv_L_31 0 rfl rfl [0, 1, 2, 3, 4, 5, 6, 7, 8, 9, 10, 11, 12, 13, 14, 15, 16, 17] [] [] rfl rfl (by decide) rfl (st := []) rfl (Nat.le_of_ble_eq_true rfl) (by decide) ⟨by decide, by decide⟩ dL_list_4 [] (0, 7, 10, 13) [(0, 7, 14, 15), (0, 7, 18, 29)] rfl wc_list_1 (fun q9 w9 ho => ?_)
    show lx_W K 5 E 1 6 10 [(0, .ref x), (1, .int r), (2, .int f), (3, .int n)] [.ref q9] (w9)
    refine lx_astore F [(0, .ref x), (1, .int r), (2, .int f), (3, .int n), (4, .ref q9)] [1, 2, 3, 4, 0] dL_list_10 rfl (by decide) ?_
    refine lx_iconst F dL_list_12 kc_1 ?_
    refine lx_wide (a' := 1) (b' := 6) (by decide) (by decide) ?_
    exact lx_iret F hR dL_list_13 ⟨by rw [hcd], ho⟩
  · skip
    refine lx_aload_n F dL_list_0 0 rfl ?_
    refine lx_iload_n F dL_list_1 1 rfl ?_
    refine lx_iload_n F dL_list_2 2 rfl ?_
    refine lx_iload_n F dL_list_3 3 rfl ?_
    refine lx_cvC F hTh htb (zX_list_2 (xl E) K x c w u rt z hst _ ⟨_, _, _, _, _, _, _, _, _, _, _, _, _, _, _, _, _, _, _, _, _, _, _, _, _, _, _, _, _, _, _, _, _, hh, hro, rfl⟩ r f n hcd) cv_L_31 0 rfl rfl [0, 1, 2, 3, 4, 5, 6, 7, 8, 9, 10, 11, 12, 13, 14, 15, 16, 17] [] [] rfl rfl (by decide) rfl (st := []) rfl (Nat.le_of_ble_eq_true rfl) (by decide) ⟨by decide, by decide⟩ dL_list_4 [(0, 7, 10, 13)] (0, 7, 14, 15) [(0, 7, 18, 29)] rfl wc_list_2 (fun q9 w9 ho => ?_)
    show lx_W K 5 E 1 6 14 [(0, .ref x), (1, .int r), (2, .int f), (3, .int n)] [.ref q9] (w9)
    refine lx_astore F [(0, .ref x), (1, .int r), (2, .int f), (3, .int n), (4, .ref q9)] [1, 2, 3, 4, 0] dL_list_14 rfl (by decide) ?_
    refine lx_iconst F dL_list_16 kc_2 ?_
    refine lx_wide (a' := 1) (b' := 6) (by decide) (by decide) ?_
    exact lx_iret F hR dL_list_17 ⟨by rw [hcd], ho⟩
  · skip
    refine lx_aload_n F dL_list_0 0 rfl ?_
    refine lx_iload_n F dL_list_1 1 rfl ?_
    refine lx_iload_n F dL_list_2 2 rfl ?_
    refine lx_iload_n F dL_list_3 3 rfl ?_
    refine lx_cvC F hTh htb (zX_list_3 (xl E) K x c w u rt z hst _ ⟨_, _, _, _, _, _, _, _, _, _, _, _, _, _, _, _, _, _, _, _, _, _, _, _, _, _, _, _, _, _, _, _, _, hh, hro, rfl⟩ r f n hcd) cv_L_31 0 rfl rfl [0, 1, 2, 3, 4, 5, 6, 7, 8, 9, 10, 11, 12, 13, 14, 15, 16, 17] [] [] rfl rfl (by decide) rfl (st := []) rfl (Nat.le_of_ble_eq_true rfl) (by decide) ⟨by decide, by decide⟩ dL_list_4 [(0, 7, 10, 13), (0, 7, 14, 15)] (0, 7, 18, 29) [] rfl wc_list_3 (fun q9 w9 ho => ?_)
    show lx_W K 5 E 1 6 18 [(0, .ref x), (1, .int r), (2, .int f), (3, .int n)] [.ref q9] (w9)
    refine lx_astore F [(0, .ref x), (1, .int r), (2, .int f), (3, .int n), (4, .ref q9)] [1, 2, 3, 4, 0] dL_list_18 rfl (by decide) ?_
    refine lx_iconst F dL_list_20 kc_3 ?_
    refine lx_wide (a' := 1) (b' := 6) (by decide) (by decide) ?_
    exact lx_iret F hR dL_list_21 ⟨by rw [hcd], ho⟩

theorem lm_cd_append (c : Nat → Nat) (w : Nat → lm_V) (u : Nat) (rt : Nat → lm_V) (z : Int32) (r f t : Int32) : (lm_oAppend r f t (c, w, u, rt, z)).1 = 0 ∨ (lm_oAppend r f t (c, w, u, rt, z)).1 = 1 ∨ (lm_oAppend r f t (c, w, u, rt, z)).1 = 2 ∨ (lm_oAppend r f t (c, w, u, rt, z)).1 = 3 := by
  unfold lm_oAppend
  repeat' split
  all_goals simp
theorem wc_append_1 : lx_wC RL 4 eN [] (0, 7, 10, 13) := ⟨by decide, by decide, List.mem_filter.mpr ⟨by decide +kernel, by decide +kernel⟩, by decide +kernel, fun _ h => nomatch h⟩
theorem wc_append_2 : lx_wC RL 4 eS [(0, 7, 10, 13)] (0, 7, 14, 37) := ⟨by decide, by decide, List.mem_filter.mpr ⟨by decide +kernel, by decide +kernel⟩, by decide +kernel, List.forall_mem_cons.mpr ⟨⟨by decide, eN, List.mem_filter.mpr ⟨by decide +kernel, by decide +kernel⟩, by decide +kernel⟩, fun _ h => nomatch h⟩⟩
theorem wc_append_3 : lx_wC RL 4 eU [(0, 7, 10, 13), (0, 7, 14, 37)] (0, 7, 18, 29) := ⟨by decide, by decide, List.mem_filter.mpr ⟨by decide +kernel, by decide +kernel⟩, by decide +kernel, List.forall_mem_cons.mpr ⟨⟨by decide, eN, List.mem_filter.mpr ⟨by decide +kernel, by decide +kernel⟩, by decide +kernel⟩, List.forall_mem_cons.mpr ⟨⟨by decide, eS, List.mem_filter.mpr ⟨by decide +kernel, by decide +kernel⟩, by decide +kernel⟩, fun _ h => nomatch h⟩⟩⟩
set_option maxHeartbeats 4000000 in
set_option maxRecDepth 100000 in
theorem zW_append (l : Launch) (K : lm_G) (x : Nat) (c : Nat → Nat) (w : Nat → lm_V) (u : Nat) (rt : Nat → lm_V) (z : Int32) (hst : lm_st c w u rt) (W : va_W) (hW : lm_obj K x (c, w, u, rt, z) W) (r f t : Int32) : lm_CH l K mL_append [(0, 7, 10, 13), (0, 7, 14, 37), (0, 7, 18, 29)] (rx 9) [.ref x, .int r, .int f, .int t] W (fun v9 w9 => v9 = some (.int (nI (lm_oAppend r f t (c, w, u, rt, z)).1)) ∧ lm_obj K x (lm_oAppend r f t (c, w, u, rt, z)).2 w9) := by
  obtain ⟨ro, kc, l0, il, ir, np, h, ca, co, h2, ca2, co2, mt, fo, ba, wa, cn, gr, fl, fi, fr, fn, mn, fa, ga, f2, g2, t2, ffo, fba, fwa, mm, fc, hh, hro, rfl⟩ := hW
  have hh : lm_hf fa ga c w u := hh
  have hro : ∀ r, r < 10 → gr r = en (rt r) := hro
  refine lx_metH RL pn_L rfl (Nat.le_of_ble_eq_true rfl) (fun E hE F hTh htb hR => ?_)
  have F : lx_F K 5 E cL_append RL (some .int) (rx 9) := F
  show lx_W K 5 E 0 0 0 [(0, .ref x), (1, .int r), (2, .int f), (3, .int t)] [] [(x, .inr (3, [.ref ro, .ref kc, .ref mt, .ref cn, .ref h, .ref h2, .int z])), (ro, aJ K 10 gr), (kc, .inr (0, [.ref l0, .ref il, .ref ir, .ref np, .int mn])), (l0, aI K 120 fl), (il, aI K 120 fi), (ir, aI K 120 fr), (np, aI K 120 fn), (h, .inr (1, [.ref ca, .ref co, .int (nI u)])), (ca, aI K 120 fa), (co, aJ K 120 ga), (h2, .inr (1, [.ref ca2, .ref co2, .int t2])), (ca2, aI K 120 f2), (co2, aJ K 120 g2), (mt, .inr (2, [.ref fo, .ref ba, .ref wa, .int mm])), (fo, aI K 120 ffo), (ba, aI K 120 fba), (wa, aI K 120 fwa), (cn, aI K 120 fc)]
  rcases lm_cd_append c w u rt z r f t with hcd | hcd | hcd | hcd
  · skip
    refine lx_aload_n F dL_append_0 0 rfl ?_
    refine lx_iload_n F dL_append_1 1 rfl ?_
    refine lx_iload_n F dL_append_2 2 rfl ?_
    refine lx_iload_n F dL_append_3 3 rfl ?_
    refine lx_cv F (zX_append_0 (xl E) K x c w u rt z hst _ ⟨_, _, _, _, _, _, _, _, _, _, _, _, _, _, _, _, _, _, _, _, _, _, _, _, _, _, _, _, _, _, _, _, _, hh, hro, rfl⟩ r f t hcd) cv_L_48 0 rfl rfl [0, 1, 2, 3, 4, 5, 6, 7, 8, 9, 10, 11, 12, 13, 14, 15, 16, 17] [] [] rfl rfl (by decide) rfl (st := []) rfl (Nat.le_of_ble_eq_true rfl) (by decide) ⟨by decide, by decide⟩ dL_append_4 (fun v9 w9 h9 => ?_)
    obtain ⟨rfl, ho⟩ := h9
    show lx_W K 5 E 0 0 7 [(0, .ref x), (1, .int r), (2, .int f), (3, .int t)] [] (w9)
    refine lx_goto F 22 dL_append_7 rfl ?_
    refine lx_iconst F dL_append_22 kc_0 ?_
    refine lx_wide (a' := 1) (b' := 6) (by decide) (by decide) ?_
    exact lx_iret F hR dL_append_23 ⟨by rw [hcd], ho⟩
  · skip
    refine lx_aload_n F dL_append_0 0 rfl ?_
    refine lx_iload_n F dL_append_1 1 rfl ?_
    refine lx_iload_n F dL_append_2 2 rfl ?_
    refine lx_iload_n F dL_append_3 3 rfl ?_
    refine lx_cvC F hTh htb (zX_append_1 (xl E) K x c w u rt z hst _ ⟨_, _, _, _, _, _, _, _, _, _, _, _, _, _, _, _, _, _, _, _, _, _, _, _, _, _, _, _, _, _, _, _, _, hh, hro, rfl⟩ r f t hcd) cv_L_48 0 rfl rfl [0, 1, 2, 3, 4, 5, 6, 7, 8, 9, 10, 11, 12, 13, 14, 15, 16, 17] [] [] rfl rfl (by decide) rfl (st := []) rfl (Nat.le_of_ble_eq_true rfl) (by decide) ⟨by decide, by decide⟩ dL_append_4 [] (0, 7, 10, 13) [(0, 7, 14, 37), (0, 7, 18, 29)] rfl wc_append_1 (fun q9 w9 ho => ?_)
    show lx_W K 5 E 1 6 10 [(0, .ref x), (1, .int r), (2, .int f), (3, .int t)] [.ref q9] (w9)
    refine lx_astore F [(0, .ref x), (1, .int r), (2, .int f), (3, .int t), (4, .ref q9)] [1, 2, 3, 4, 0] dL_append_10 rfl (by decide) ?_
    refine lx_iconst F dL_append_12 kc_1 ?_
    refine lx_wide (a' := 1) (b' := 6) (by decide) (by decide) ?_
    exact lx_iret F hR dL_append_13 ⟨by rw [hcd], ho⟩
  · skip
    refine lx_aload_n F dL_append_0 0 rfl ?_
    refine lx_iload_n F dL_append_1 1 rfl ?_
    refine lx_iload_n F dL_append_2 2 rfl ?_
    refine lx_iload_n F dL_append_3 3 rfl ?_
    refine lx_cvC F hTh htb (zX_append_2 (xl E) K x c w u rt z hst _ ⟨_, _, _, _, _, _, _, _, _, _, _, _, _, _, _, _, _, _, _, _, _, _, _, _, _, _, _, _, _, _, _, _, _, hh, hro, rfl⟩ r f t hcd) cv_L_48 0 rfl rfl [0, 1, 2, 3, 4, 5, 6, 7, 8, 9, 10, 11, 12, 13, 14, 15, 16, 17] [] [] rfl rfl (by decide) rfl (st := []) rfl (Nat.le_of_ble_eq_true rfl) (by decide) ⟨by decide, by decide⟩ dL_append_4 [(0, 7, 10, 13)] (0, 7, 14, 37) [(0, 7, 18, 29)] rfl wc_append_2 (fun q9 w9 ho => ?_)
    show lx_W K 5 E 1 6 14 [(0, .ref x), (1, .int r), (2, .int f), (3, .int t)] [.ref q9] (w9)
    refine lx_astore F [(0, .ref x), (1, .int r), (2, .int f), (3, .int t), (4, .ref q9)] [1, 2, 3, 4, 0] dL_append_14 rfl (by decide) ?_
    refine lx_iconst F dL_append_16 kc_2 ?_
    refine lx_wide (a' := 1) (b' := 6) (by decide) (by decide) ?_
    exact lx_iret F hR dL_append_17 ⟨by rw [hcd], ho⟩
  · skip
    refine lx_aload_n F dL_append_0 0 rfl ?_
    refine lx_iload_n F dL_append_1 1 rfl ?_
    refine lx_iload_n F dL_append_2 2 rfl ?_
    refine lx_iload_n F dL_append_3 3 rfl ?_
    refine lx_cvC F hTh htb (zX_append_3 (xl E) K x c w u rt z hst _ ⟨_, _, _, _, _, _, _, _, _, _, _, _, _, _, _, _, _, _, _, _, _, _, _, _, _, _, _, _, _, _, _, _, _, hh, hro, rfl⟩ r f t hcd) cv_L_48 0 rfl rfl [0, 1, 2, 3, 4, 5, 6, 7, 8, 9, 10, 11, 12, 13, 14, 15, 16, 17] [] [] rfl rfl (by decide) rfl (st := []) rfl (Nat.le_of_ble_eq_true rfl) (by decide) ⟨by decide, by decide⟩ dL_append_4 [(0, 7, 10, 13), (0, 7, 14, 37)] (0, 7, 18, 29) [] rfl wc_append_3 (fun q9 w9 ho => ?_)
    show lx_W K 5 E 1 6 18 [(0, .ref x), (1, .int r), (2, .int f), (3, .int t)] [.ref q9] (w9)
    refine lx_astore F [(0, .ref x), (1, .int r), (2, .int f), (3, .int t), (4, .ref q9)] [1, 2, 3, 4, 0] dL_append_18 rfl (by decide) ?_
    refine lx_iconst F dL_append_20 kc_3 ?_
    refine lx_wide (a' := 1) (b' := 6) (by decide) (by decide) ?_
    exact lx_iret F hR dL_append_21 ⟨by rw [hcd], ho⟩

theorem lm_cd_kind (c : Nat → Nat) (w : Nat → lm_V) (u : Nat) (rt : Nat → lm_V) (z : Int32) (r : Int32) : (lm_q1 r (c, w, u, rt, z)).1 = 0 ∨ (lm_q1 r (c, w, u, rt, z)).1 = 1 := by
  unfold lm_q1
  repeat' split
  all_goals simp
theorem wc_kind_1 : lx_wC RL 4 eN [] (0, 9, 12, 13) := ⟨by decide, by decide, List.mem_filter.mpr ⟨by decide +kernel, by decide +kernel⟩, by decide +kernel, fun _ h => nomatch h⟩
set_option maxHeartbeats 4000000 in
set_option maxRecDepth 100000 in
theorem zW_kind (l : Launch) (K : lm_G) (x : Nat) (c : Nat → Nat) (w : Nat → lm_V) (u : Nat) (rt : Nat → lm_V) (z : Int32) (hst : lm_st c w u rt) (W : va_W) (hW : lm_obj K x (c, w, u, rt, z) W) (out : Nat) (go : Nat → Int64) (r : Int32) : lm_CH l K mL_kind [(0, 9, 12, 13)] (rx 9) [.ref x, .int r, .ref out] ((out, aJ K 1 go) :: W) (fun v9 w9 => v9 = some (.int (nI (lm_q1 r (c, w, u, rt, z)).1)) ∧ ∃ (g1 : Nat → Int64) (w1 : va_W), lm_obj K x (lm_q1 r (c, w, u, rt, z)).2 w1 ∧ ((lm_q1 r (c, w, u, rt, z)).1 = 0 → g1 0 = (if lm_none r = true then nI 0 else nI (rt (lm_ix r)).1).toInt64) ∧ w9 = (out, aJ K 1 g1) :: w1) := by
  obtain ⟨ro, kc, l0, il, ir, np, h, ca, co, h2, ca2, co2, mt, fo, ba, wa, cn, gr, fl, fi, fr, fn, mn, fa, ga, f2, g2, t2, ffo, fba, fwa, mm, fc, hh, hro, rfl⟩ := hW
  have hh : lm_hf fa ga c w u := hh
  have hro : ∀ r, r < 10 → gr r = en (rt r) := hro
  refine lx_metH RL pn_L rfl (Nat.le_of_ble_eq_true rfl) (fun E hE F hTh htb hR => ?_)
  have F : lx_F K 4 E cL_kind RL (some .int) (rx 9) := F
  show lx_W K 4 E 0 0 0 [(0, .ref x), (1, .int r), (2, .ref out)] [] [(out, aJ K 1 go), (x, .inr (3, [.ref ro, .ref kc, .ref mt, .ref cn, .ref h, .ref h2, .int z])), (ro, aJ K 10 gr), (kc, .inr (0, [.ref l0, .ref il, .ref ir, .ref np, .int mn])), (l0, aI K 120 fl), (il, aI K 120 fi), (ir, aI K 120 fr), (np, aI K 120 fn), (h, .inr (1, [.ref ca, .ref co, .int (nI u)])), (ca, aI K 120 fa), (co, aJ K 120 ga), (h2, .inr (1, [.ref ca2, .ref co2, .int t2])), (ca2, aI K 120 f2), (co2, aJ K 120 g2), (mt, .inr (2, [.ref fo, .ref ba, .ref wa, .int mm])), (fo, aI K 120 ffo), (ba, aI K 120 fba), (wa, aI K 120 fwa), (cn, aI K 120 fc)]
  rcases lm_cd_kind c w u rt z r with hcd | hcd
  · skip
    refine lx_aload_n F dL_kind_0 2 rfl ?_
    refine lx_iconst F dL_kind_1 kc_0 ?_
    refine lx_aload_n F dL_kind_2 0 rfl ?_
    refine lx_iload_n F dL_kind_3 1 rfl ?_
    refine lx_cv F (zX_kind_0 (xl E) K x c w u rt z hst _ ⟨_, _, _, _, _, _, _, _, _, _, _, _, _, _, _, _, _, _, _, _, _, _, _, _, _, _, _, _, _, _, _, _, _, hh, hro, rfl⟩ r hcd) cv_L_51 1 rfl rfl [1, 2, 3, 4, 5, 6, 7, 8, 9, 10, 11, 12, 13, 14, 15, 16, 17, 18] [0] [(out, aJ K 1 go)] rfl rfl (by decide) rfl (st := [.int (nI 0), .ref out]) rfl (Nat.le_of_ble_eq_true rfl) (by decide) ⟨by decide, by decide⟩ dL_kind_4 (fun v9 w9 h9 => ?_)
    obtain ⟨rfl, ho⟩ := h9
    show lx_W K 4 E 0 0 7 [(0, .ref x), (1, .int r), (2, .ref out)] [.int (if lm_none r = true then nI 0 else nI (rt (lm_ix r)).1), .int (nI 0), .ref out] ((out, aJ K 1 go) :: w9)
    refine lx_i2l F dL_kind_7 rfl ?_
    refine lx_last F 0 0 ((out, aJ K 1 (lm_up go 0 ((if lm_none r = true then nI 0 else nI (rt (lm_ix r)).1).toInt64))) :: w9) dL_kind_8 rfl (by omega) (by decide) rfl ?_
    refine lx_goto F 15 dL_kind_9 rfl ?_
    refine lx_iconst F dL_kind_15 kc_0 ?_
    refine lx_wide (a' := 1) (b' := 6) (by decide) (by decide) ?_
    exact lx_iret F hR dL_kind_16 ⟨by rw [hcd], _, w9, ho, fun _ => by rw [lm_up_eq], rfl⟩
  · skip
    refine lx_aload_n F dL_kind_0 2 rfl ?_
    refine lx_iconst F dL_kind_1 kc_0 ?_
    refine lx_aload_n F dL_kind_2 0 rfl ?_
    refine lx_iload_n F dL_kind_3 1 rfl ?_
    refine lx_cvC F hTh htb (zX_kind_1 (xl E) K x c w u rt z hst _ ⟨_, _, _, _, _, _, _, _, _, _, _, _, _, _, _, _, _, _, _, _, _, _, _, _, _, _, _, _, _, _, _, _, _, hh, hro, rfl⟩ r hcd) cv_L_51 1 rfl rfl [1, 2, 3, 4, 5, 6, 7, 8, 9, 10, 11, 12, 13, 14, 15, 16, 17, 18] [0] [(out, aJ K 1 go)] rfl rfl (by decide) rfl (st := [.int (nI 0), .ref out]) rfl (Nat.le_of_ble_eq_true rfl) (by decide) ⟨by decide, by decide⟩ dL_kind_4 [] (0, 9, 12, 13) [] rfl wc_kind_1 (fun q9 w9 ho => ?_)
    show lx_W K 4 E 1 6 12 [(0, .ref x), (1, .int r), (2, .ref out)] [.ref q9] ((out, aJ K 1 go) :: w9)
    refine lx_astore_n F [(0, .ref x), (1, .int r), (2, .ref out), (3, .ref q9)] [1, 2, 3, 0] dL_kind_12 rfl (by decide) ?_
    refine lx_iconst F dL_kind_13 kc_1 ?_
    refine lx_wide (a' := 1) (b' := 6) (by decide) (by decide) ?_
    exact lx_iret F hR dL_kind_14 ⟨by rw [hcd], _, w9, ho, fun h9 => absurd h9 (by rw [hcd]; decide), rfl⟩

theorem lm_cd_length (c : Nat → Nat) (w : Nat → lm_V) (u : Nat) (rt : Nat → lm_V) (z : Int32) (r : Int32) : (lm_q1 r (c, w, u, rt, z)).1 = 0 ∨ (lm_q1 r (c, w, u, rt, z)).1 = 1 := by
  unfold lm_q1
  repeat' split
  all_goals simp
theorem wc_length_1 : lx_wC RL 4 eN [] (0, 9, 12, 13) := ⟨by decide, by decide, List.mem_filter.mpr ⟨by decide +kernel, by decide +kernel⟩, by decide +kernel, fun _ h => nomatch h⟩
set_option maxHeartbeats 4000000 in
set_option maxRecDepth 100000 in
theorem zW_length (l : Launch) (K : lm_G) (x : Nat) (c : Nat → Nat) (w : Nat → lm_V) (u : Nat) (rt : Nat → lm_V) (z : Int32) (hst : lm_st c w u rt) (W : va_W) (hW : lm_obj K x (c, w, u, rt, z) W) (out : Nat) (go : Nat → Int64) (r : Int32) : lm_CH l K mL_length [(0, 9, 12, 13)] (rx 9) [.ref x, .int r, .ref out] ((out, aJ K 1 go) :: W) (fun v9 w9 => v9 = some (.int (nI (lm_q1 r (c, w, u, rt, z)).1)) ∧ ∃ (g1 : Nat → Int64) (w1 : va_W), lm_obj K x (lm_q1 r (c, w, u, rt, z)).2 w1 ∧ ((lm_q1 r (c, w, u, rt, z)).1 = 0 → g1 0 = (if lm_none r = true then nI 0 else Int32.ofInt (lm_len c w 121 0 (rt (lm_ix r)))).toInt64) ∧ w9 = (out, aJ K 1 g1) :: w1) := by
  obtain ⟨ro, kc, l0, il, ir, np, h, ca, co, h2, ca2, co2, mt, fo, ba, wa, cn, gr, fl, fi, fr, fn, mn, fa, ga, f2, g2, t2, ffo, fba, fwa, mm, fc, hh, hro, rfl⟩ := hW
  have hh : lm_hf fa ga c w u := hh
  have hro : ∀ r, r < 10 → gr r = en (rt r) := hro
  refine lx_metH RL pn_L rfl (Nat.le_of_ble_eq_true rfl) (fun E hE F hTh htb hR => ?_)
  have F : lx_F K 4 E cL_length RL (some .int) (rx 9) := F
  show lx_W K 4 E 0 0 0 [(0, .ref x), (1, .int r), (2, .ref out)] [] [(out, aJ K 1 go), (x, .inr (3, [.ref ro, .ref kc, .ref mt, .ref cn, .ref h, .ref h2, .int z])), (ro, aJ K 10 gr), (kc, .inr (0, [.ref l0, .ref il, .ref ir, .ref np, .int mn])), (l0, aI K 120 fl), (il, aI K 120 fi), (ir, aI K 120 fr), (np, aI K 120 fn), (h, .inr (1, [.ref ca, .ref co, .int (nI u)])), (ca, aI K 120 fa), (co, aJ K 120 ga), (h2, .inr (1, [.ref ca2, .ref co2, .int t2])), (ca2, aI K 120 f2), (co2, aJ K 120 g2), (mt, .inr (2, [.ref fo, .ref ba, .ref wa, .int mm])), (fo, aI K 120 ffo), (ba, aI K 120 fba), (wa, aI K 120 fwa), (cn, aI K 120 fc)]
  rcases lm_cd_length c w u rt z r with hcd | hcd
  · skip
    refine lx_aload_n F dL_length_0 2 rfl ?_
    refine lx_iconst F dL_length_1 kc_0 ?_
    refine lx_aload_n F dL_length_2 0 rfl ?_
    refine lx_iload_n F dL_length_3 1 rfl ?_
    refine lx_cv F (zX_length_0 (xl E) K x c w u rt z hst _ ⟨_, _, _, _, _, _, _, _, _, _, _, _, _, _, _, _, _, _, _, _, _, _, _, _, _, _, _, _, _, _, _, _, _, hh, hro, rfl⟩ r hcd) cv_L_63 1 rfl rfl [1, 2, 3, 4, 5, 6, 7, 8, 9, 10, 11, 12, 13, 14, 15, 16, 17, 18] [0] [(out, aJ K 1 go)] rfl rfl (by decide) rfl (st := [.int (nI 0), .ref out]) rfl (Nat.le_of_ble_eq_true rfl) (by decide) ⟨by decide, by decide⟩ dL_length_4 (fun v9 w9 h9 => ?_)
    obtain ⟨rfl, ho⟩ := h9
    show lx_W K 4 E 0 0 7 [(0, .ref x), (1, .int r), (2, .ref out)] [.int (if lm_none r = true then nI 0 else Int32.ofInt (lm_len c w 121 0 (rt (lm_ix r)))), .int (nI 0), .ref out] ((out, aJ K 1 go) :: w9)
    refine lx_i2l F dL_length_7 rfl ?_
    refine lx_last F 0 0 ((out, aJ K 1 (lm_up go 0 ((if lm_none r = true then nI 0 else Int32.ofInt (lm_len c w 121 0 (rt (lm_ix r)))).toInt64))) :: w9) dL_length_8 rfl (by omega) (by decide) rfl ?_
    refine lx_goto F 15 dL_length_9 rfl ?_
    refine lx_iconst F dL_length_15 kc_0 ?_
    refine lx_wide (a' := 1) (b' := 6) (by decide) (by decide) ?_
    exact lx_iret F hR dL_length_16 ⟨by rw [hcd], _, w9, ho, fun _ => by rw [lm_up_eq], rfl⟩
  · skip
    refine lx_aload_n F dL_length_0 2 rfl ?_
    refine lx_iconst F dL_length_1 kc_0 ?_
    refine lx_aload_n F dL_length_2 0 rfl ?_
    refine lx_iload_n F dL_length_3 1 rfl ?_
    refine lx_cvC F hTh htb (zX_length_1 (xl E) K x c w u rt z hst _ ⟨_, _, _, _, _, _, _, _, _, _, _, _, _, _, _, _, _, _, _, _, _, _, _, _, _, _, _, _, _, _, _, _, _, hh, hro, rfl⟩ r hcd) cv_L_63 1 rfl rfl [1, 2, 3, 4, 5, 6, 7, 8, 9, 10, 11, 12, 13, 14, 15, 16, 17, 18] [0] [(out, aJ K 1 go)] rfl rfl (by decide) rfl (st := [.int (nI 0), .ref out]) rfl (Nat.le_of_ble_eq_true rfl) (by decide) ⟨by decide, by decide⟩ dL_length_4 [] (0, 9, 12, 13) [] rfl wc_length_1 (fun q9 w9 ho => ?_)
    show lx_W K 4 E 1 6 12 [(0, .ref x), (1, .int r), (2, .ref out)] [.ref q9] ((out, aJ K 1 go) :: w9)
    refine lx_astore_n F [(0, .ref x), (1, .int r), (2, .ref out), (3, .ref q9)] [1, 2, 3, 0] dL_length_12 rfl (by decide) ?_
    refine lx_iconst F dL_length_13 kc_1 ?_
    refine lx_wide (a' := 1) (b' := 6) (by decide) (by decide) ?_
    exact lx_iret F hR dL_length_14 ⟨by rw [hcd], _, w9, ho, fun h9 => absurd h9 (by rw [hcd]; decide), rfl⟩

theorem lm_cd_words (c : Nat → Nat) (w : Nat → lm_V) (u : Nat) (rt : Nat → lm_V) (z : Int32) (r : Int32) : (lm_q1 r (c, w, u, rt, z)).1 = 0 ∨ (lm_q1 r (c, w, u, rt, z)).1 = 1 := by
  unfold lm_q1
  repeat' split
  all_goals simp
theorem wc_words_1 : lx_wC RL 4 eN [] (0, 9, 12, 13) := ⟨by decide, by decide, List.mem_filter.mpr ⟨by decide +kernel, by decide +kernel⟩, by decide +kernel, fun _ h => nomatch h⟩
set_option maxHeartbeats 4000000 in
set_option maxRecDepth 100000 in
theorem zW_words (l : Launch) (K : lm_G) (x : Nat) (c : Nat → Nat) (w : Nat → lm_V) (u : Nat) (rt : Nat → lm_V) (z : Int32) (hst : lm_st c w u rt) (W : va_W) (hW : lm_obj K x (c, w, u, rt, z) W) (out : Nat) (go : Nat → Int64) (r : Int32) : lm_CH l K mL_words [(0, 9, 12, 13)] (rx 9) [.ref x, .int r, .ref out] ((out, aJ K 1 go) :: W) (fun v9 w9 => v9 = some (.int (nI (lm_q1 r (c, w, u, rt, z)).1)) ∧ ∃ (g1 : Nat → Int64) (w1 : va_W), lm_obj K x (lm_q1 r (c, w, u, rt, z)).2 w1 ∧ ((lm_q1 r (c, w, u, rt, z)).1 = 0 → g1 0 = (if lm_none r = true then nI 0 else nI (lm_wds c w 120 [] (rt (lm_ix r)) 0)).toInt64) ∧ w9 = (out, aJ K 1 g1) :: w1) := by
  obtain ⟨ro, kc, l0, il, ir, np, h, ca, co, h2, ca2, co2, mt, fo, ba, wa, cn, gr, fl, fi, fr, fn, mn, fa, ga, f2, g2, t2, ffo, fba, fwa, mm, fc, hh, hro, rfl⟩ := hW
  have hh : lm_hf fa ga c w u := hh
  have hro : ∀ r, r < 10 → gr r = en (rt r) := hro
  refine lx_metH RL pn_L rfl (Nat.le_of_ble_eq_true rfl) (fun E hE F hTh htb hR => ?_)
  have F : lx_F K 4 E cL_words RL (some .int) (rx 9) := F
  show lx_W K 4 E 0 0 0 [(0, .ref x), (1, .int r), (2, .ref out)] [] [(out, aJ K 1 go), (x, .inr (3, [.ref ro, .ref kc, .ref mt, .ref cn, .ref h, .ref h2, .int z])), (ro, aJ K 10 gr), (kc, .inr (0, [.ref l0, .ref il, .ref ir, .ref np, .int mn])), (l0, aI K 120 fl), (il, aI K 120 fi), (ir, aI K 120 fr), (np, aI K 120 fn), (h, .inr (1, [.ref ca, .ref co, .int (nI u)])), (ca, aI K 120 fa), (co, aJ K 120 ga), (h2, .inr (1, [.ref ca2, .ref co2, .int t2])), (ca2, aI K 120 f2), (co2, aJ K 120 g2), (mt, .inr (2, [.ref fo, .ref ba, .ref wa, .int mm])), (fo, aI K 120 ffo), (ba, aI K 120 fba), (wa, aI K 120 fwa), (cn, aI K 120 fc)]
  rcases lm_cd_words c w u rt z r with hcd | hcd
  · skip
    refine lx_aload_n F dL_words_0 2 rfl ?_
    refine lx_iconst F dL_words_1 kc_0 ?_
    refine lx_aload_n F dL_words_2 0 rfl ?_
    refine lx_iload_n F dL_words_3 1 rfl ?_
    refine lx_cv F (zX_words_0 (xl E) K x c w u rt z hst _ ⟨_, _, _, _, _, _, _, _, _, _, _, _, _, _, _, _, _, _, _, _, _, _, _, _, _, _, _, _, _, _, _, _, _, hh, hro, rfl⟩ r hcd) cv_L_66 1 rfl rfl [1, 2, 3, 4, 5, 6, 7, 8, 9, 10, 11, 12, 13, 14, 15, 16, 17, 18] [0] [(out, aJ K 1 go)] rfl rfl (by decide) rfl (st := [.int (nI 0), .ref out]) rfl (Nat.le_of_ble_eq_true rfl) (by decide) ⟨by decide, by decide⟩ dL_words_4 (fun v9 w9 h9 => ?_)
    obtain ⟨rfl, ho⟩ := h9
    show lx_W K 4 E 0 0 7 [(0, .ref x), (1, .int r), (2, .ref out)] [.int (if lm_none r = true then nI 0 else nI (lm_wds c w 120 [] (rt (lm_ix r)) 0)), .int (nI 0), .ref out] ((out, aJ K 1 go) :: w9)
    refine lx_i2l F dL_words_7 rfl ?_
    refine lx_last F 0 0 ((out, aJ K 1 (lm_up go 0 ((if lm_none r = true then nI 0 else nI (lm_wds c w 120 [] (rt (lm_ix r)) 0)).toInt64))) :: w9) dL_words_8 rfl (by omega) (by decide) rfl ?_
    refine lx_goto F 15 dL_words_9 rfl ?_
    refine lx_iconst F dL_words_15 kc_0 ?_
    refine lx_wide (a' := 1) (b' := 6) (by decide) (by decide) ?_
    exact lx_iret F hR dL_words_16 ⟨by rw [hcd], _, w9, ho, fun _ => by rw [lm_up_eq], rfl⟩
  · skip
    refine lx_aload_n F dL_words_0 2 rfl ?_
    refine lx_iconst F dL_words_1 kc_0 ?_
    refine lx_aload_n F dL_words_2 0 rfl ?_
    refine lx_iload_n F dL_words_3 1 rfl ?_
    refine lx_cvC F hTh htb (zX_words_1 (xl E) K x c w u rt z hst _ ⟨_, _, _, _, _, _, _, _, _, _, _, _, _, _, _, _, _, _, _, _, _, _, _, _, _, _, _, _, _, _, _, _, _, hh, hro, rfl⟩ r hcd) cv_L_66 1 rfl rfl [1, 2, 3, 4, 5, 6, 7, 8, 9, 10, 11, 12, 13, 14, 15, 16, 17, 18] [0] [(out, aJ K 1 go)] rfl rfl (by decide) rfl (st := [.int (nI 0), .ref out]) rfl (Nat.le_of_ble_eq_true rfl) (by decide) ⟨by decide, by decide⟩ dL_words_4 [] (0, 9, 12, 13) [] rfl wc_words_1 (fun q9 w9 ho => ?_)
    show lx_W K 4 E 1 6 12 [(0, .ref x), (1, .int r), (2, .ref out)] [.ref q9] ((out, aJ K 1 go) :: w9)
    refine lx_astore_n F [(0, .ref x), (1, .int r), (2, .ref out), (3, .ref q9)] [1, 2, 3, 0] dL_words_12 rfl (by decide) ?_
    refine lx_iconst F dL_words_13 kc_1 ?_
    refine lx_wide (a' := 1) (b' := 6) (by decide) (by decide) ?_
    exact lx_iret F hR dL_words_14 ⟨by rw [hcd], _, w9, ho, fun h9 => absurd h9 (by rw [hcd]; decide), rfl⟩

theorem lm_cd_value (c : Nat → Nat) (w : Nat → lm_V) (u : Nat) (rt : Nat → lm_V) (z : Int32) (r : Int32) : (lm_qv r (c, w, u, rt, z)).1 = 0 ∨ (lm_qv r (c, w, u, rt, z)).1 = 1 ∨ (lm_qv r (c, w, u, rt, z)).1 = 2 := by
  unfold lm_qv
  repeat' split
  all_goals simp
theorem wc_value_1 : lx_wC RL 4 eN [] (0, 8, 11, 13) := ⟨by decide, by decide, List.mem_filter.mpr ⟨by decide +kernel, by decide +kernel⟩, by decide +kernel, fun _ h => nomatch h⟩
theorem wc_value_2 : lx_wC RL 4 eS [(0, 8, 11, 13)] (0, 8, 14, 37) := ⟨by decide, by decide, List.mem_filter.mpr ⟨by decide +kernel, by decide +kernel⟩, by decide +kernel, List.forall_mem_cons.mpr ⟨⟨by decide, eN, List.mem_filter.mpr ⟨by decide +kernel, by decide +kernel⟩, by decide +kernel⟩, fun _ h => nomatch h⟩⟩
set_option maxHeartbeats 4000000 in
set_option maxRecDepth 100000 in
theorem zW_value (l : Launch) (K : lm_G) (x : Nat) (c : Nat → Nat) (w : Nat → lm_V) (u : Nat) (rt : Nat → lm_V) (z : Int32) (hst : lm_st c w u rt) (W : va_W) (hW : lm_obj K x (c, w, u, rt, z) W) (out : Nat) (go : Nat → Int64) (r : Int32) : lm_CH l K mL_value [(0, 8, 11, 13), (0, 8, 14, 37)] (rx 9) [.ref x, .int r, .ref out] ((out, aJ K 1 go) :: W) (fun v9 w9 => v9 = some (.int (nI (lm_qv r (c, w, u, rt, z)).1)) ∧ ∃ (g1 : Nat → Int64) (w1 : va_W), lm_obj K x (lm_qv r (c, w, u, rt, z)).2 w1 ∧ ((lm_qv r (c, w, u, rt, z)).1 = 0 → g1 0 = (if lm_none r = true then jI 0 else if (rt (lm_ix r)).1 ≠ 1 then jI 0 else jI (rt (lm_ix r)).2)) ∧ w9 = (out, aJ K 1 g1) :: w1) := by
  obtain ⟨ro, kc, l0, il, ir, np, h, ca, co, h2, ca2, co2, mt, fo, ba, wa, cn, gr, fl, fi, fr, fn, mn, fa, ga, f2, g2, t2, ffo, fba, fwa, mm, fc, hh, hro, rfl⟩ := hW
  have hh : lm_hf fa ga c w u := hh
  have hro : ∀ r, r < 10 → gr r = en (rt r) := hro
  refine lx_metH RL pn_L rfl (Nat.le_of_ble_eq_true rfl) (fun E hE F hTh htb hR => ?_)
  have F : lx_F K 4 E cL_value RL (some .int) (rx 9) := F
  show lx_W K 4 E 0 0 0 [(0, .ref x), (1, .int r), (2, .ref out)] [] [(out, aJ K 1 go), (x, .inr (3, [.ref ro, .ref kc, .ref mt, .ref cn, .ref h, .ref h2, .int z])), (ro, aJ K 10 gr), (kc, .inr (0, [.ref l0, .ref il, .ref ir, .ref np, .int mn])), (l0, aI K 120 fl), (il, aI K 120 fi), (ir, aI K 120 fr), (np, aI K 120 fn), (h, .inr (1, [.ref ca, .ref co, .int (nI u)])), (ca, aI K 120 fa), (co, aJ K 120 ga), (h2, .inr (1, [.ref ca2, .ref co2, .int t2])), (ca2, aI K 120 f2), (co2, aJ K 120 g2), (mt, .inr (2, [.ref fo, .ref ba, .ref wa, .int mm])), (fo, aI K 120 ffo), (ba, aI K 120 fba), (wa, aI K 120 fwa), (cn, aI K 120 fc)]
  rcases lm_cd_value c w u rt z r with hcd | hcd | hcd
  · skip
    refine lx_aload_n F dL_value_0 2 rfl ?_
    refine lx_iconst F dL_value_1 kc_0 ?_
    refine lx_aload_n F dL_value_2 0 rfl ?_
    refine lx_iload_n F dL_value_3 1 rfl ?_
    refine lx_cv F (zX_value_0 (xl E) K x c w u rt z hst _ ⟨_, _, _, _, _, _, _, _, _, _, _, _, _, _, _, _, _, _, _, _, _, _, _, _, _, _, _, _, _, _, _, _, _, hh, hro, rfl⟩ r hcd) cv_L_55 1 rfl rfl [1, 2, 3, 4, 5, 6, 7, 8, 9, 10, 11, 12, 13, 14, 15, 16, 17, 18] [0] [(out, aJ K 1 go)] rfl rfl (by decide) rfl (st := [.int (nI 0), .ref out]) rfl (Nat.le_of_ble_eq_true rfl) (by decide) ⟨by decide, by decide⟩ dL_value_4 (fun v9 w9 h9 => ?_)
    obtain ⟨rfl, ho⟩ := h9
    show lx_W K 4 E 0 0 7 [(0, .ref x), (1, .int r), (2, .ref out)] [.long (if lm_none r = true then jI 0 else if (rt (lm_ix r)).1 ≠ 1 then jI 0 else jI (rt (lm_ix r)).2), .int (nI 0), .ref out] ((out, aJ K 1 go) :: w9)
    refine lx_last F 0 0 ((out, aJ K 1 (lm_up go 0 (if lm_none r = true then jI 0 else if (rt (lm_ix r)).1 ≠ 1 then jI 0 else jI (rt (lm_ix r)).2))) :: w9) dL_value_7 rfl (by omega) (by decide) rfl ?_
    refine lx_goto F 17 dL_value_8 rfl ?_
    refine lx_iconst F dL_value_17 kc_0 ?_
    refine lx_wide (a' := 1) (b' := 6) (by decide) (by decide) ?_
    exact lx_iret F hR dL_value_18 ⟨by rw [hcd], _, w9, ho, fun _ => by rw [lm_up_eq], rfl⟩
  · skip
    refine lx_aload_n F dL_value_0 2 rfl ?_
    refine lx_iconst F dL_value_1 kc_0 ?_
    refine lx_aload_n F dL_value_2 0 rfl ?_
    refine lx_iload_n F dL_value_3 1 rfl ?_
    refine lx_cvC F hTh htb (zX_value_1 (xl E) K x c w u rt z hst _ ⟨_, _, _, _, _, _, _, _, _, _, _, _, _, _, _, _, _, _, _, _, _, _, _, _, _, _, _, _, _, _, _, _, _, hh, hro, rfl⟩ r hcd) cv_L_55 1 rfl rfl [1, 2, 3, 4, 5, 6, 7, 8, 9, 10, 11, 12, 13, 14, 15, 16, 17, 18] [0] [(out, aJ K 1 go)] rfl rfl (by decide) rfl (st := [.int (nI 0), .ref out]) rfl (Nat.le_of_ble_eq_true rfl) (by decide) ⟨by decide, by decide⟩ dL_value_4 [] (0, 8, 11, 13) [(0, 8, 14, 37)] rfl wc_value_1 (fun q9 w9 ho => ?_)
    show lx_W K 4 E 1 6 11 [(0, .ref x), (1, .int r), (2, .ref out)] [.ref q9] ((out, aJ K 1 go) :: w9)
    refine lx_astore_n F [(0, .ref x), (1, .int r), (2, .ref out), (3, .ref q9)] [1, 2, 3, 0] dL_value_11 rfl (by decide) ?_
    refine lx_iconst F dL_value_12 kc_1 ?_
    refine lx_wide (a' := 1) (b' := 6) (by decide) (by decide) ?_
    exact lx_iret F hR dL_value_13 ⟨by rw [hcd], _, w9, ho, fun h9 => absurd h9 (by rw [hcd]; decide), rfl⟩
  · skip
    refine lx_aload_n F dL_value_0 2 rfl ?_
    refine lx_iconst F dL_value_1 kc_0 ?_
    refine lx_aload_n F dL_value_2 0 rfl ?_
    refine lx_iload_n F dL_value_3 1 rfl ?_
    refine lx_cvC F hTh htb (zX_value_2 (xl E) K x c w u rt z hst _ ⟨_, _, _, _, _, _, _, _, _, _, _, _, _, _, _, _, _, _, _, _, _, _, _, _, _, _, _, _, _, _, _, _, _, hh, hro, rfl⟩ r hcd) cv_L_55 1 rfl rfl [1, 2, 3, 4, 5, 6, 7, 8, 9, 10, 11, 12, 13, 14, 15, 16, 17, 18] [0] [(out, aJ K 1 go)] rfl rfl (by decide) rfl (st := [.int (nI 0), .ref out]) rfl (Nat.le_of_ble_eq_true rfl) (by decide) ⟨by decide, by decide⟩ dL_value_4 [(0, 8, 11, 13)] (0, 8, 14, 37) [] rfl wc_value_2 (fun q9 w9 ho => ?_)
    show lx_W K 4 E 1 6 14 [(0, .ref x), (1, .int r), (2, .ref out)] [.ref q9] ((out, aJ K 1 go) :: w9)
    refine lx_astore_n F [(0, .ref x), (1, .int r), (2, .ref out), (3, .ref q9)] [1, 2, 3, 0] dL_value_14 rfl (by decide) ?_
    refine lx_iconst F dL_value_15 kc_2 ?_
    refine lx_wide (a' := 1) (b' := 6) (by decide) (by decide) ?_
    exact lx_iret F hR dL_value_16 ⟨by rw [hcd], _, w9, ho, fun h9 => absurd h9 (by rw [hcd]; decide), rfl⟩

theorem lm_cd_same (c : Nat → Nat) (w : Nat → lm_V) (u : Nat) (rt : Nat → lm_V) (z : Int32) (r f : Int32) : (lm_q2 r f (c, w, u, rt, z)).1 = 0 ∨ (lm_q2 r f (c, w, u, rt, z)).1 = 1 := by
  unfold lm_q2
  repeat' split
  all_goals simp
theorem wc_same_1 : lx_wC RL 5 eN [] (0, 17, 20, 13) := ⟨by decide, by decide, List.mem_filter.mpr ⟨by decide +kernel, by decide +kernel⟩, by decide +kernel, fun _ h => nomatch h⟩
set_option maxHeartbeats 4000000 in
set_option maxRecDepth 100000 in
theorem zW_same (l : Launch) (K : lm_G) (x : Nat) (c : Nat → Nat) (w : Nat → lm_V) (u : Nat) (rt : Nat → lm_V) (z : Int32) (hst : lm_st c w u rt) (W : va_W) (hW : lm_obj K x (c, w, u, rt, z) W) (out : Nat) (go : Nat → Int64) (r f : Int32) : lm_CH l K mL_same [(0, 17, 20, 13)] (rx 9) [.ref x, .int r, .int f, .ref out] ((out, aJ K 1 go) :: W) (fun v9 w9 => v9 = some (.int (nI (lm_q2 r f (c, w, u, rt, z)).1)) ∧ ∃ (g1 : Nat → Int64) (w1 : va_W), lm_obj K x (lm_q2 r f (c, w, u, rt, z)).2 w1 ∧ ((lm_q2 r f (c, w, u, rt, z)).1 = 0 → g1 0 = (if (if (lm_none r || lm_none f) = true then nI 0 else bI (lm_same w (rt (lm_ix r)) (rt (lm_ix f)))) = 0 then jI 0 else jI 1)) ∧ w9 = (out, aJ K 1 g1) :: w1) := by
  obtain ⟨ro, kc, l0, il, ir, np, h, ca, co, h2, ca2, co2, mt, fo, ba, wa, cn, gr, fl, fi, fr, fn, mn, fa, ga, f2, g2, t2, ffo, fba, fwa, mm, fc, hh, hro, rfl⟩ := hW
  have hh : lm_hf fa ga c w u := hh
  have hro : ∀ r, r < 10 → gr r = en (rt r) := hro
  refine lx_metH RL pn_L rfl (Nat.le_of_ble_eq_true rfl) (fun E hE F hTh htb hR => ?_)
  have F : lx_F K 5 E cL_same RL (some .int) (rx 9) := F
  show lx_W K 5 E 0 0 0 [(0, .ref x), (1, .int r), (2, .int f), (3, .ref out)] [] [(out, aJ K 1 go), (x, .inr (3, [.ref ro, .ref kc, .ref mt, .ref cn, .ref h, .ref h2, .int z])), (ro, aJ K 10 gr), (kc, .inr (0, [.ref l0, .ref il, .ref ir, .ref np, .int mn])), (l0, aI K 120 fl), (il, aI K 120 fi), (ir, aI K 120 fr), (np, aI K 120 fn), (h, .inr (1, [.ref ca, .ref co, .int (nI u)])), (ca, aI K 120 fa), (co, aJ K 120 ga), (h2, .inr (1, [.ref ca2, .ref co2, .int t2])), (ca2, aI K 120 f2), (co2, aJ K 120 g2), (mt, .inr (2, [.ref fo, .ref ba, .ref wa, .int mm])), (fo, aI K 120 ffo), (ba, aI K 120 fba), (wa, aI K 120 fwa), (cn, aI K 120 fc)]
  rcases lm_cd_same c w u rt z r f with hcd | hcd
  · skip
    refine lx_aload_n F dL_same_0 3 rfl ?_
    refine lx_iconst F dL_same_1 kc_0 ?_
    refine lx_aload_n F dL_same_2 0 rfl ?_
    refine lx_iload_n F dL_same_3 1 rfl ?_
    refine lx_iload_n F dL_same_4 2 rfl ?_
    refine lx_cv F (zX_same_0 (xl E) K x c w u rt z hst _ ⟨_, _, _, _, _, _, _, _, _, _, _, _, _, _, _, _, _, _, _, _, _, _, _, _, _, _, _, _, _, _, _, _, _, hh, hro, rfl⟩ r f hcd) cv_L_59 1 rfl rfl [1, 2, 3, 4, 5, 6, 7, 8, 9, 10, 11, 12, 13, 14, 15, 16, 17, 18] [0] [(out, aJ K 1 go)] rfl rfl (by decide) rfl (st := [.int (nI 0), .ref out]) rfl (Nat.le_of_ble_eq_true rfl) (by decide) ⟨by decide, by decide⟩ dL_same_5 (fun v9 w9 h9 => ?_)
    obtain ⟨rfl, ho⟩ := h9
    show lx_W K 5 E 0 0 8 [(0, .ref x), (1, .int r), (2, .int f), (3, .ref out)] [.int (if (lm_none r || lm_none f) = true then nI 0 else bI (lm_same w (rt (lm_ix r)) (rt (lm_ix f)))), .int (nI 0), .ref out] ((out, aJ K 1 go) :: w9)
    refine lx_if_eq F 15 dL_same_8 rfl (fun h0 => ?_) (fun h0 => ?_)
    · skip
      refine lx_lconst F dL_same_15 kl_0 ?_
      refine lx_last F 0 0 ((out, aJ K 1 (lm_up go 0 (jI 0))) :: w9) dL_same_16 rfl (by omega) (by decide) rfl ?_
      refine lx_goto F 24 dL_same_17 rfl ?_
      refine lx_iconst F dL_same_24 kc_0 ?_
      refine lx_wide (a' := 1) (b' := 6) (by decide) (by decide) ?_
      exact lx_iret F hR dL_same_25 ⟨by rw [hcd], _, w9, ho, fun _ => by rw [lm_up_eq, if_pos h0], rfl⟩
    · skip
      refine lx_lconst F dL_same_11 kl_1 ?_
      refine lx_goto F 16 dL_same_12 rfl ?_
      refine lx_last F 0 0 ((out, aJ K 1 (lm_up go 0 (jI 1))) :: w9) dL_same_16 rfl (by omega) (by decide) rfl ?_
      refine lx_goto F 24 dL_same_17 rfl ?_
      refine lx_iconst F dL_same_24 kc_0 ?_
      refine lx_wide (a' := 1) (b' := 6) (by decide) (by decide) ?_
      exact lx_iret F hR dL_same_25 ⟨by rw [hcd], _, w9, ho, fun _ => by rw [lm_up_eq, if_neg h0], rfl⟩
  · skip
    refine lx_aload_n F dL_same_0 3 rfl ?_
    refine lx_iconst F dL_same_1 kc_0 ?_
    refine lx_aload_n F dL_same_2 0 rfl ?_
    refine lx_iload_n F dL_same_3 1 rfl ?_
    refine lx_iload_n F dL_same_4 2 rfl ?_
    refine lx_cvC F hTh htb (zX_same_1 (xl E) K x c w u rt z hst _ ⟨_, _, _, _, _, _, _, _, _, _, _, _, _, _, _, _, _, _, _, _, _, _, _, _, _, _, _, _, _, _, _, _, _, hh, hro, rfl⟩ r f hcd) cv_L_59 1 rfl rfl [1, 2, 3, 4, 5, 6, 7, 8, 9, 10, 11, 12, 13, 14, 15, 16, 17, 18] [0] [(out, aJ K 1 go)] rfl rfl (by decide) rfl (st := [.int (nI 0), .ref out]) rfl (Nat.le_of_ble_eq_true rfl) (by decide) ⟨by decide, by decide⟩ dL_same_5 [] (0, 17, 20, 13) [] rfl wc_same_1 (fun q9 w9 ho => ?_)
    show lx_W K 5 E 1 6 20 [(0, .ref x), (1, .int r), (2, .int f), (3, .ref out)] [.ref q9] ((out, aJ K 1 go) :: w9)
    refine lx_astore F [(0, .ref x), (1, .int r), (2, .int f), (3, .ref out), (4, .ref q9)] [1, 2, 3, 4, 0] dL_same_20 rfl (by decide) ?_
    refine lx_iconst F dL_same_22 kc_1 ?_
    refine lx_wide (a' := 1) (b' := 6) (by decide) (by decide) ?_
    exact lx_iret F hR dL_same_23 ⟨by rw [hcd], _, w9, ho, fun h9 => absurd h9 (by rw [hcd]; decide), rfl⟩

theorem lm_cd_alike (c : Nat → Nat) (w : Nat → lm_V) (u : Nat) (rt : Nat → lm_V) (z : Int32) (r f : Int32) : (lm_q2 r f (c, w, u, rt, z)).1 = 0 ∨ (lm_q2 r f (c, w, u, rt, z)).1 = 1 := by
  unfold lm_q2
  repeat' split
  all_goals simp
theorem wc_alike_1 : lx_wC RL 5 eN [] (0, 17, 20, 13) := ⟨by decide, by decide, List.mem_filter.mpr ⟨by decide +kernel, by decide +kernel⟩, by decide +kernel, fun _ h => nomatch h⟩
set_option maxHeartbeats 4000000 in
set_option maxRecDepth 100000 in
theorem zW_alike (l : Launch) (K : lm_G) (x : Nat) (c : Nat → Nat) (w : Nat → lm_V) (u : Nat) (rt : Nat → lm_V) (z : Int32) (hst : lm_st c w u rt) (W : va_W) (hW : lm_obj K x (c, w, u, rt, z) W) (out : Nat) (go : Nat → Int64) (r f : Int32) : lm_CH l K mL_alike [(0, 17, 20, 13)] (rx 9) [.ref x, .int r, .int f, .ref out] ((out, aJ K 1 go) :: W) (fun v9 w9 => v9 = some (.int (nI (lm_q2 r f (c, w, u, rt, z)).1)) ∧ ∃ (g1 : Nat → Int64) (w1 : va_W), lm_obj K x (lm_q2 r f (c, w, u, rt, z)).2 w1 ∧ ((lm_q2 r f (c, w, u, rt, z)).1 = 0 → g1 0 = (if (if (lm_none r || lm_none f) = true then nI 0 else bI (lm_alike c w (rt (lm_ix r)) (rt (lm_ix f)))) = 0 then jI 0 else jI 1)) ∧ w9 = (out, aJ K 1 g1) :: w1) := by
  obtain ⟨ro, kc, l0, il, ir, np, h, ca, co, h2, ca2, co2, mt, fo, ba, wa, cn, gr, fl, fi, fr, fn, mn, fa, ga, f2, g2, t2, ffo, fba, fwa, mm, fc, hh, hro, rfl⟩ := hW
  have hh : lm_hf fa ga c w u := hh
  have hro : ∀ r, r < 10 → gr r = en (rt r) := hro
  refine lx_metH RL pn_L rfl (Nat.le_of_ble_eq_true rfl) (fun E hE F hTh htb hR => ?_)
  have F : lx_F K 5 E cL_alike RL (some .int) (rx 9) := F
  show lx_W K 5 E 0 0 0 [(0, .ref x), (1, .int r), (2, .int f), (3, .ref out)] [] [(out, aJ K 1 go), (x, .inr (3, [.ref ro, .ref kc, .ref mt, .ref cn, .ref h, .ref h2, .int z])), (ro, aJ K 10 gr), (kc, .inr (0, [.ref l0, .ref il, .ref ir, .ref np, .int mn])), (l0, aI K 120 fl), (il, aI K 120 fi), (ir, aI K 120 fr), (np, aI K 120 fn), (h, .inr (1, [.ref ca, .ref co, .int (nI u)])), (ca, aI K 120 fa), (co, aJ K 120 ga), (h2, .inr (1, [.ref ca2, .ref co2, .int t2])), (ca2, aI K 120 f2), (co2, aJ K 120 g2), (mt, .inr (2, [.ref fo, .ref ba, .ref wa, .int mm])), (fo, aI K 120 ffo), (ba, aI K 120 fba), (wa, aI K 120 fwa), (cn, aI K 120 fc)]
  rcases lm_cd_alike c w u rt z r f with hcd | hcd
  · skip
    refine lx_aload_n F dL_alike_0 3 rfl ?_
    refine lx_iconst F dL_alike_1 kc_0 ?_
    refine lx_aload_n F dL_alike_2 0 rfl ?_
    refine lx_iload_n F dL_alike_3 1 rfl ?_
    refine lx_iload_n F dL_alike_4 2 rfl ?_
    refine lx_cv F (zX_alike_0 (xl E) K x c w u rt z hst _ ⟨_, _, _, _, _, _, _, _, _, _, _, _, _, _, _, _, _, _, _, _, _, _, _, _, _, _, _, _, _, _, _, _, _, hh, hro, rfl⟩ r f hcd) cv_L_69 1 rfl rfl [1, 2, 3, 4, 5, 6, 7, 8, 9, 10, 11, 12, 13, 14, 15, 16, 17, 18] [0] [(out, aJ K 1 go)] rfl rfl (by decide) rfl (st := [.int (nI 0), .ref out]) rfl (Nat.le_of_ble_eq_true rfl) (by decide) ⟨by decide, by decide⟩ dL_alike_5 (fun v9 w9 h9 => ?_)
    obtain ⟨rfl, ho⟩ := h9
    show lx_W K 5 E 0 0 8 [(0, .ref x), (1, .int r), (2, .int f), (3, .ref out)] [.int (if (lm_none r || lm_none f) = true then nI 0 else bI (lm_alike c w (rt (lm_ix r)) (rt (lm_ix f)))), .int (nI 0), .ref out] ((out, aJ K 1 go) :: w9)
    refine lx_if_eq F 15 dL_alike_8 rfl (fun h0 => ?_) (fun h0 => ?_)
    · skip
      refine lx_lconst F dL_alike_15 kl_0 ?_
      refine lx_last F 0 0 ((out, aJ K 1 (lm_up go 0 (jI 0))) :: w9) dL_alike_16 rfl (by omega) (by decide) rfl ?_
      refine lx_goto F 24 dL_alike_17 rfl ?_
      refine lx_iconst F dL_alike_24 kc_0 ?_
      refine lx_wide (a' := 1) (b' := 6) (by decide) (by decide) ?_
      exact lx_iret F hR dL_alike_25 ⟨by rw [hcd], _, w9, ho, fun _ => by rw [lm_up_eq, if_pos h0], rfl⟩
    · skip
      refine lx_lconst F dL_alike_11 kl_1 ?_
      refine lx_goto F 16 dL_alike_12 rfl ?_
      refine lx_last F 0 0 ((out, aJ K 1 (lm_up go 0 (jI 1))) :: w9) dL_alike_16 rfl (by omega) (by decide) rfl ?_
      refine lx_goto F 24 dL_alike_17 rfl ?_
      refine lx_iconst F dL_alike_24 kc_0 ?_
      refine lx_wide (a' := 1) (b' := 6) (by decide) (by decide) ?_
      exact lx_iret F hR dL_alike_25 ⟨by rw [hcd], _, w9, ho, fun _ => by rw [lm_up_eq, if_neg h0], rfl⟩
  · skip
    refine lx_aload_n F dL_alike_0 3 rfl ?_
    refine lx_iconst F dL_alike_1 kc_0 ?_
    refine lx_aload_n F dL_alike_2 0 rfl ?_
    refine lx_iload_n F dL_alike_3 1 rfl ?_
    refine lx_iload_n F dL_alike_4 2 rfl ?_
    refine lx_cvC F hTh htb (zX_alike_1 (xl E) K x c w u rt z hst _ ⟨_, _, _, _, _, _, _, _, _, _, _, _, _, _, _, _, _, _, _, _, _, _, _, _, _, _, _, _, _, _, _, _, _, hh, hro, rfl⟩ r f hcd) cv_L_69 1 rfl rfl [1, 2, 3, 4, 5, 6, 7, 8, 9, 10, 11, 12, 13, 14, 15, 16, 17, 18] [0] [(out, aJ K 1 go)] rfl rfl (by decide) rfl (st := [.int (nI 0), .ref out]) rfl (Nat.le_of_ble_eq_true rfl) (by decide) ⟨by decide, by decide⟩ dL_alike_5 [] (0, 17, 20, 13) [] rfl wc_alike_1 (fun q9 w9 ho => ?_)
    show lx_W K 5 E 1 6 20 [(0, .ref x), (1, .int r), (2, .int f), (3, .ref out)] [.ref q9] ((out, aJ K 1 go) :: w9)
    refine lx_astore F [(0, .ref x), (1, .int r), (2, .int f), (3, .ref out), (4, .ref q9)] [1, 2, 3, 4, 0] dL_alike_20 rfl (by decide) ?_
    refine lx_iconst F dL_alike_22 kc_1 ?_
    refine lx_wide (a' := 1) (b' := 6) (by decide) (by decide) ?_
    exact lx_iret F hR dL_alike_23 ⟨by rw [hcd], _, w9, ho, fun h9 => absurd h9 (by rw [hcd]; decide), rfl⟩

theorem lm_cd_word (c : Nat → Nat) (w : Nat → lm_V) (u : Nat) (rt : Nat → lm_V) (z : Int32) (r f : Int32) : (lm_qw r f (c, w, u, rt, z)).1 = 0 ∨ (lm_qw r f (c, w, u, rt, z)).1 = 1 ∨ (lm_qw r f (c, w, u, rt, z)).1 = 2 := by
  unfold lm_qw
  repeat' split
  all_goals simp
theorem wc_word_1 : lx_wC RL 5 eB [] (0, 9, 12, 76) := ⟨by decide, by decide, List.mem_filter.mpr ⟨by decide +kernel, by decide +kernel⟩, by decide +kernel, fun _ h => nomatch h⟩
theorem wc_word_2 : lx_wC RL 5 eA [(0, 9, 12, 76)] (0, 9, 16, 15) := ⟨by decide, by decide, List.mem_filter.mpr ⟨by decide +kernel, by decide +kernel⟩, by decide +kernel, List.forall_mem_cons.mpr ⟨⟨by decide, eB, List.mem_filter.mpr ⟨by decide +kernel, by decide +kernel⟩, by decide +kernel⟩, fun _ h => nomatch h⟩⟩
set_option maxHeartbeats 4000000 in
set_option maxRecDepth 100000 in
theorem zW_word (l : Launch) (K : lm_G) (x : Nat) (c : Nat → Nat) (w : Nat → lm_V) (u : Nat) (rt : Nat → lm_V) (z : Int32) (hst : lm_st c w u rt) (W : va_W) (hW : lm_obj K x (c, w, u, rt, z) W) (out : Nat) (go : Nat → Int64) (r f : Int32) : lm_CH l K mL_word [(0, 9, 12, 76), (0, 9, 16, 15)] (rx 9) [.ref x, .int r, .int f, .ref out] ((out, aJ K 1 go) :: W) (fun v9 w9 => v9 = some (.int (nI (lm_qw r f (c, w, u, rt, z)).1)) ∧ ∃ (g1 : Nat → Int64) (w1 : va_W), lm_obj K x (lm_qw r f (c, w, u, rt, z)).2 w1 ∧ ((lm_qw r f (c, w, u, rt, z)).1 = 0 → g1 0 = (lm_wd c w u r f)) ∧ w9 = (out, aJ K 1 g1) :: w1) := by
  obtain ⟨ro, kc, l0, il, ir, np, h, ca, co, h2, ca2, co2, mt, fo, ba, wa, cn, gr, fl, fi, fr, fn, mn, fa, ga, f2, g2, t2, ffo, fba, fwa, mm, fc, hh, hro, rfl⟩ := hW
  have hh : lm_hf fa ga c w u := hh
  have hro : ∀ r, r < 10 → gr r = en (rt r) := hro
  refine lx_metH RL pn_L rfl (Nat.le_of_ble_eq_true rfl) (fun E hE F hTh htb hR => ?_)
  have F : lx_F K 5 E cL_word RL (some .int) (rx 9) := F
  show lx_W K 5 E 0 0 0 [(0, .ref x), (1, .int r), (2, .int f), (3, .ref out)] [] [(out, aJ K 1 go), (x, .inr (3, [.ref ro, .ref kc, .ref mt, .ref cn, .ref h, .ref h2, .int z])), (ro, aJ K 10 gr), (kc, .inr (0, [.ref l0, .ref il, .ref ir, .ref np, .int mn])), (l0, aI K 120 fl), (il, aI K 120 fi), (ir, aI K 120 fr), (np, aI K 120 fn), (h, .inr (1, [.ref ca, .ref co, .int (nI u)])), (ca, aI K 120 fa), (co, aJ K 120 ga), (h2, .inr (1, [.ref ca2, .ref co2, .int t2])), (ca2, aI K 120 f2), (co2, aJ K 120 g2), (mt, .inr (2, [.ref fo, .ref ba, .ref wa, .int mm])), (fo, aI K 120 ffo), (ba, aI K 120 fba), (wa, aI K 120 fwa), (cn, aI K 120 fc)]
  rcases lm_cd_word c w u rt z r f with hcd | hcd | hcd
  · skip
    refine lx_aload_n F dL_word_0 3 rfl ?_
    refine lx_iconst F dL_word_1 kc_0 ?_
    refine lx_aload_n F dL_word_2 0 rfl ?_
    refine lx_iload_n F dL_word_3 1 rfl ?_
    refine lx_iload_n F dL_word_4 2 rfl ?_
    refine lx_cv F (zX_word_0 (xl E) K x c w u rt z hst _ ⟨_, _, _, _, _, _, _, _, _, _, _, _, _, _, _, _, _, _, _, _, _, _, _, _, _, _, _, _, _, _, _, _, _, hh, hro, rfl⟩ r f hcd) cv_L_72 1 rfl rfl [1, 2, 3, 4, 5, 6, 7, 8, 9, 10, 11, 12, 13, 14, 15, 16, 17, 18] [0] [(out, aJ K 1 go)] rfl rfl (by decide) rfl (st := [.int (nI 0), .ref out]) rfl (Nat.le_of_ble_eq_true rfl) (by decide) ⟨by decide, by decide⟩ dL_word_5 (fun v9 w9 h9 => ?_)
    obtain ⟨rfl, ho⟩ := h9
    show lx_W K 5 E 0 0 8 [(0, .ref x), (1, .int r), (2, .int f), (3, .ref out)] [.long (lm_wd c w u r f), .int (nI 0), .ref out] ((out, aJ K 1 go) :: w9)
    refine lx_last F 0 0 ((out, aJ K 1 (lm_up go 0 (lm_wd c w u r f))) :: w9) dL_word_8 rfl (by omega) (by decide) rfl ?_
    refine lx_goto F 20 dL_word_9 rfl ?_
    refine lx_iconst F dL_word_20 kc_0 ?_
    refine lx_wide (a' := 1) (b' := 6) (by decide) (by decide) ?_
    exact lx_iret F hR dL_word_21 ⟨by rw [hcd], _, w9, ho, fun _ => by rw [lm_up_eq], rfl⟩
  · skip
    refine lx_aload_n F dL_word_0 3 rfl ?_
    refine lx_iconst F dL_word_1 kc_0 ?_
    refine lx_aload_n F dL_word_2 0 rfl ?_
    refine lx_iload_n F dL_word_3 1 rfl ?_
    refine lx_iload_n F dL_word_4 2 rfl ?_
    refine lx_cvC F hTh htb (zX_word_1 (xl E) K x c w u rt z hst _ ⟨_, _, _, _, _, _, _, _, _, _, _, _, _, _, _, _, _, _, _, _, _, _, _, _, _, _, _, _, _, _, _, _, _, hh, hro, rfl⟩ r f hcd) cv_L_72 1 rfl rfl [1, 2, 3, 4, 5, 6, 7, 8, 9, 10, 11, 12, 13, 14, 15, 16, 17, 18] [0] [(out, aJ K 1 go)] rfl rfl (by decide) rfl (st := [.int (nI 0), .ref out]) rfl (Nat.le_of_ble_eq_true rfl) (by decide) ⟨by decide, by decide⟩ dL_word_5 [] (0, 9, 12, 76) [(0, 9, 16, 15)] rfl wc_word_1 (fun q9 w9 ho => ?_)
    show lx_W K 5 E 1 6 12 [(0, .ref x), (1, .int r), (2, .int f), (3, .ref out)] [.ref q9] ((out, aJ K 1 go) :: w9)
    refine lx_astore F [(0, .ref x), (1, .int r), (2, .int f), (3, .ref out), (4, .ref q9)] [1, 2, 3, 4, 0] dL_word_12 rfl (by decide) ?_
    refine lx_iconst F dL_word_14 kc_1 ?_
    refine lx_wide (a' := 1) (b' := 6) (by decide) (by decide) ?_
    exact lx_iret F hR dL_word_15 ⟨by rw [hcd], _, w9, ho, fun h9 => absurd h9 (by rw [hcd]; decide), rfl⟩
  · skip
    refine lx_aload_n F dL_word_0 3 rfl ?_
    refine lx_iconst F dL_word_1 kc_0 ?_
    refine lx_aload_n F dL_word_2 0 rfl ?_
    refine lx_iload_n F dL_word_3 1 rfl ?_
    refine lx_iload_n F dL_word_4 2 rfl ?_
    refine lx_cvC F hTh htb (zX_word_2 (xl E) K x c w u rt z hst _ ⟨_, _, _, _, _, _, _, _, _, _, _, _, _, _, _, _, _, _, _, _, _, _, _, _, _, _, _, _, _, _, _, _, _, hh, hro, rfl⟩ r f hcd) cv_L_72 1 rfl rfl [1, 2, 3, 4, 5, 6, 7, 8, 9, 10, 11, 12, 13, 14, 15, 16, 17, 18] [0] [(out, aJ K 1 go)] rfl rfl (by decide) rfl (st := [.int (nI 0), .ref out]) rfl (Nat.le_of_ble_eq_true rfl) (by decide) ⟨by decide, by decide⟩ dL_word_5 [(0, 9, 12, 76)] (0, 9, 16, 15) [] rfl wc_word_2 (fun q9 w9 ho => ?_)
    show lx_W K 5 E 1 6 16 [(0, .ref x), (1, .int r), (2, .int f), (3, .ref out)] [.ref q9] ((out, aJ K 1 go) :: w9)
    refine lx_astore F [(0, .ref x), (1, .int r), (2, .int f), (3, .ref out), (4, .ref q9)] [1, 2, 3, 4, 0] dL_word_16 rfl (by decide) ?_
    refine lx_iconst F dL_word_18 kc_2 ?_
    refine lx_wide (a' := 1) (b' := 6) (by decide) (by decide) ?_
    exact lx_iret F hR dL_word_19 ⟨by rw [hcd], _, w9, ho, fun h9 => absurd h9 (by rw [hcd]; decide), rfl⟩
