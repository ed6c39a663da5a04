set_option maxHeartbeats 4000000 in
set_option maxRecDepth 100000 in
theorem zk_layCell (l : Launch) (K : lm_G) (k l0 il ir np : Nat) (mn : Int32) (fn : Nat → Int32) (h ca co : Nat) (f : Nat → Int32) (g : Nat → Int64) (t : Int32) (h2 ca2 co2 : Nat) (f2 : Nat → Int32) (g2 : Nat → Int64) (c : Nat → Nat) (w : Nat → lm_V) (u : Nat) (hw : lm_wf c w u) (hh : lm_hf f g c w u) (s : lm_S) (hsb : lm_sb s) (hos : lm_os fn f2 g2 s) (p : Nat) (hp : lm_cl c w u p) (hlen : (lm_lay c w s p).1.2.length ≤ 120) : lm_C l K mX0_layCell (rk 2) [.ref k, .ref h, .ref h2, .int (nI p)] [(k, .inr (0, [.ref l0, .ref il, .ref ir, .ref np, .int mn])), (np, aI K 120 fn), (h, .inr (1, [.ref ca, .ref co, .int t])), (ca, aI K 120 f), (co, aJ K 120 g), (h2, .inr (1, [.ref ca2, .ref co2, .int (nI s.2.length)])), (ca2, aI K 120 f2), (co2, aJ K 120 g2)] (fun v9 w9 => v9 = some (.int (oI (lm_lay c w s p).2)) ∧ ∃ (fn1 f3 : Nat → Int32) (g3 : Nat → Int64), lm_os fn1 f3 g3 (lm_lay c w s p).1 ∧ w9 = [(k, .inr (0, [.ref l0, .ref il, .ref ir, .ref np, .int mn])), (np, aI K 120 fn1), (h, .inr (1, [.ref ca, .ref co, .int t])), (ca, aI K 120 f), (co, aJ K 120 g), (h2, .inr (1, [.ref ca2, .ref co2, .int (nI ((lm_lay c w s p).1.2.length))])), (ca2, aI K 120 f3), (co2, aJ K 120 g3)]) := by
  refine lx_met RX0 pn_X0 rfl (Nat.le_of_ble_eq_true rfl) (fun E hE hnm F hR => ?_)
  have F : lx_F K 9 E cX0_layCell RX0 (some .int) (rk 2) := F
  show lx_W K 9 E 0 0 0 [(0, .ref k), (1, .ref h), (2, .ref h2), (3, .int (nI p))] [] [(k, .inr (0, [.ref l0, .ref il, .ref ir, .ref np, .int mn])), (np, aI K 120 fn), (h, .inr (1, [.ref ca, .ref co, .int t])), (ca, aI K 120 f), (co, aJ K 120 g), (h2, .inr (1, [.ref ca2, .ref co2, .int (nI s.2.length)])), (ca2, aI K 120 f2), (co2, aJ K 120 g2)]
  have hu := hw.1
  have hp1 := hp.1
  have hok1 := lm_first_ok hw hp
  have hok2 := lm_rest_ok hw hp
  have hk3 := lm_ok_kind hok2
  have hl1 := lm_lay_len (c := c) (w := w) (s := s) (p := p)
  refine lx_aload_n F dX0_layCell_0 1 rfl ?_
  refine lx_iload_n F dX0_layCell_1 3 rfl ?_
  refine lx_cv F (zh_contentAt (xl E) K h ca co f g t p (by omega) (en (w p)) (hh p hp1).2) cv_X0_44 2 rfl rfl [2, 3, 4] [0, 1, 5, 6, 7] [(k, .inr (0, [.ref l0, .ref il, .ref ir, .ref np, .int mn])), (np, aI K 120 fn), (h2, .inr (1, [.ref ca2, .ref co2, .int (nI s.2.length)])), (ca2, aI K 120 f2), (co2, aJ K 120 g2)] rfl rfl (by decide) rfl (st := []) rfl (Nat.le_of_ble_eq_true rfl) (by decide) ⟨by decide, by decide⟩ dX0_layCell_2 (fun v9 w9 h9 => ?_)
  obtain ⟨rfl, rfl⟩ := h9
  refine lx_perm [0, 1, 5, 6, 7, 2, 3, 4] [(k, .inr (0, [.ref l0, .ref il, .ref ir, .ref np, .int mn])), (np, aI K 120 fn), (h, .inr (1, [.ref ca, .ref co, .int t])), (ca, aI K 120 f), (co, aJ K 120 g), (h2, .inr (1, [.ref ca2, .ref co2, .int (nI s.2.length)])), (ca2, aI K 120 f2), (co2, aJ K 120 g2)] (by decide) rfl ?_
  refine lx_st (a' := 0) (b' := 0) [.long (en (w p))] rfl rfl rfl ?_
  refine lx_lstore F [(0, .ref k), (1, .ref h), (2, .ref h2), (3, .int (nI p)), (4, .long (en (w p)))] [1, 2, 3, 4, 0] dX0_layCell_5 rfl (by decide) ?_
  refine lx_aload_n F dX0_layCell_7 1 rfl ?_
  refine lx_iload_n F dX0_layCell_8 3 rfl ?_
  refine lx_cv F (zh_restOf (xl E) K h ca co f g t c w u hw hh p hp) cv_X0_38 2 rfl rfl [2, 3, 4] [0, 1, 5, 6, 7] [(k, .inr (0, [.ref l0, .ref il, .ref ir, .ref np, .int mn])), (np, aI K 120 fn), (h2, .inr (1, [.ref ca2, .ref co2, .int (nI s.2.length)])), (ca2, aI K 120 f2), (co2, aJ K 120 g2)] rfl rfl (by decide) rfl (st := []) rfl (Nat.le_of_ble_eq_true rfl) (by decide) ⟨by decide, by decide⟩ dX0_layCell_9 (fun v9 w9 h9 => ?_)
  obtain ⟨rfl, rfl⟩ := h9
  refine lx_perm [0, 1, 5, 6, 7, 2, 3, 4] [(k, .inr (0, [.ref l0, .ref il, .ref ir, .ref np, .int mn])), (np, aI K 120 fn), (h, .inr (1, [.ref ca, .ref co, .int t])), (ca, aI K 120 f), (co, aJ K 120 g), (h2, .inr (1, [.ref ca2, .ref co2, .int (nI s.2.length)])), (ca2, aI K 120 f2), (co2, aJ K 120 g2)] (by decide) rfl ?_
  refine lx_st (a' := 0) (b' := 0) [.long (en (lm_rest c w p))] rfl rfl rfl ?_
  refine lx_lstore F [(0, .ref k), (1, .ref h), (2, .ref h2), (3, .int (nI p)), (4, .long (en (w p))), (6, .long (en (lm_rest c w p)))] [1, 2, 3, 4, 5, 0] dX0_layCell_12 rfl (by decide) ?_
  refine lx_aload_n F dX0_layCell_14 0 rfl ?_
  refine gf_X0_21 F 0 rfl rfl dX0_layCell_15 ?_
  refine lx_iload_n F dX0_layCell_18 3 rfl ?_
  refine lx_aload_n F dX0_layCell_19 2 rfl ?_
  refine gf_X0_58 F 5 rfl rfl dX0_layCell_20 ?_
  refine lx_iast F 1 p [(k, .inr (0, [.ref l0, .ref il, .ref ir, .ref np, .int mn])), (np, aI K 120 (lm_up fn p (nI s.2.length))), (h, .inr (1, [.ref ca, .ref co, .int t])), (ca, aI K 120 f), (co, aJ K 120 g), (h2, .inr (1, [.ref ca2, .ref co2, .int (nI s.2.length)])), (ca2, aI K 120 f2), (co2, aJ K 120 g2)] dX0_layCell_23 rfl (by omega) (by decide) rfl ?_
  refine lx_lload F dX0_layCell_24 5 rfl ?_
  refine lx_csn F (zs_kindOf (xl E) K (lm_rest c w p) (by omega)) cs_X0_47 [] [0, 1, 2, 3, 4, 5, 6, 7] [(k, .inr (0, [.ref l0, .ref il, .ref ir, .ref np, .int mn])), (np, aI K 120 (lm_up fn p (nI s.2.length))), (h, .inr (1, [.ref ca, .ref co, .int t])), (ca, aI K 120 f), (co, aJ K 120 g), (h2, .inr (1, [.ref ca2, .ref co2, .int (nI s.2.length)])), (ca2, aI K 120 f2), (co2, aJ K 120 g2)] rfl rfl (by decide) rfl (st := []) rfl (Nat.le_of_ble_eq_true rfl) (by decide) ⟨by decide, by decide⟩ dX0_layCell_26 (fun v9 w9 h9 => ?_)
  obtain ⟨rfl, rfl⟩ := h9
  refine lx_perm [0, 1, 2, 3, 4, 5, 6, 7] [(k, .inr (0, [.ref l0, .ref il, .ref ir, .ref np, .int mn])), (np, aI K 120 (lm_up fn p (nI s.2.length))), (h, .inr (1, [.ref ca, .ref co, .int t])), (ca, aI K 120 f), (co, aJ K 120 g), (h2, .inr (1, [.ref ca2, .ref co2, .int (nI s.2.length)])), (ca2, aI K 120 f2), (co2, aJ K 120 g2)] (by decide) rfl ?_
  refine lx_st (a' := 0) (b' := 0) [.int (nI ((lm_rest c w p).1))] rfl rfl rfl ?_
  refine lx_ifN_ne F 42 (by omega) dX0_layCell_29 rfl (fun h0 => ?_) (fun h0 => ?_)
  · skip
    refine lx_lload F dX0_layCell_42 5 rfl ?_
    refine lx_csn F (zs_kindOf (xl E) K (lm_rest c w p) (by omega)) cs_X0_47 [] [0, 1, 2, 3, 4, 5, 6, 7] [(k, .inr (0, [.ref l0, .ref il, .ref ir, .ref np, .int mn])), (np, aI K 120 (lm_up fn p (nI s.2.length))), (h, .inr (1, [.ref ca, .ref co, .int t])), (ca, aI K 120 f), (co, aJ K 120 g), (h2, .inr (1, [.ref ca2, .ref co2, .int (nI s.2.length)])), (ca2, aI K 120 f2), (co2, aJ K 120 g2)] rfl rfl (by decide) rfl (st := []) rfl (Nat.le_of_ble_eq_true rfl) (by decide) ⟨by decide, by decide⟩ dX0_layCell_44 (fun v9 w9 h9 => ?_)
    obtain ⟨rfl, rfl⟩ := h9
    refine lx_perm [0, 1, 2, 3, 4, 5, 6, 7] [(k, .inr (0, [.ref l0, .ref il, .ref ir, .ref np, .int mn])), (np, aI K 120 (lm_up fn p (nI s.2.length))), (h, .inr (1, [.ref ca, .ref co, .int t])), (ca, aI K 120 f), (co, aJ K 120 g), (h2, .inr (1, [.ref ca2, .ref co2, .int (nI s.2.length)])), (ca2, aI K 120 f2), (co2, aJ K 120 g2)] (by decide) rfl ?_
    refine lx_st (a' := 0) (b' := 0) [.int (nI ((lm_rest c w p).1))] rfl rfl rfl ?_
    refine lx_iconst F dX0_layCell_47 kc_2 ?_
    refine lx_icmpN_ne F 81 (by omega) (by omega) dX0_layCell_48 rfl (fun h2e => ?_) (fun h2e => ?_)
    · skip
      have hno : ¬ ((lm_rest c w p).1 = 2 ∧ lm_mark s.1 p s.2.length (lm_to w (lm_rest c w p)) = none) := fun z => h2e z.1
      have hlay := lm_lay_p (s := s) h0 hno
      have hl2 : s.2.length + 2 ≤ 120 := by rw [hlay] at hlen; simpa using hlen
      refine lx_aload_n F dX0_layCell_81 2 rfl ?_
      refine lx_lload F dX0_layCell_82 4 rfl ?_
      refine lx_lload F dX0_layCell_84 5 rfl ?_
      refine lx_cv F (zh_takeTwo (xl E) K h2 ca2 co2 f2 g2 s.2.length hl2 (en (w p)) (en (lm_rest c w p))) cv_X0_65 5 rfl rfl [5, 6, 7] [0, 1, 2, 3, 4] [(k, .inr (0, [.ref l0, .ref il, .ref ir, .ref np, .int mn])), (np, aI K 120 (lm_up fn p (nI s.2.length))), (h, .inr (1, [.ref ca, .ref co, .int t])), (ca, aI K 120 f), (co, aJ K 120 g)] rfl rfl (by decide) rfl (st := []) rfl (Nat.le_of_ble_eq_true rfl) (by decide) ⟨by decide, by decide⟩ dX0_layCell_86 (fun v9 w9 h9 => ?_)
      obtain ⟨rfl, rfl⟩ := h9
      refine lx_perm [0, 1, 2, 3, 4, 5, 6, 7] [(k, .inr (0, [.ref l0, .ref il, .ref ir, .ref np, .int mn])), (np, aI K 120 (lm_up fn p (nI s.2.length))), (h, .inr (1, [.ref ca, .ref co, .int t])), (ca, aI K 120 f), (co, aJ K 120 g), (h2, .inr (1, [.ref ca2, .ref co2, .int (nI (s.2.length + 1 + 1))])), (ca2, aI K 120 (lm_up (lm_up f2 s.2.length (nI 2)) (s.2.length + 1) (nI 3))), (co2, aJ K 120 (lm_up (lm_up g2 s.2.length (en (w p))) (s.2.length + 1) (en (lm_rest c w p))))] (by decide) rfl ?_
      refine lx_st (a' := 0) (b' := 0) [.int (nI s.2.length)] rfl rfl rfl ?_
      refine lx_pop F dX0_layCell_89 rfl ?_
      refine lx_iconst F dX0_layCell_90 kc_m1 ?_
      exact lx_iret F hR dX0_layCell_91 ⟨by rw [hlay]; rfl, _, _, _, by rw [hlay]; exact lm_os_2 hos, by rw [hlay, List.length_append]; rfl⟩
    · skip
      have hx : lm_to w (lm_rest c w p) < 120 := Nat.lt_of_lt_of_le (lm_to_cl hw hok2 h2e).1 hu
      refine lx_aload_n F dX0_layCell_51 1 rfl ?_
      refine lx_lload F dX0_layCell_52 5 rfl ?_
      refine lx_cv F (zh_cellOf (xl E) K h ca co f g t c w u hw hh (lm_rest c w p) hok2 h2e) cv_X0_51 2 rfl rfl [2, 3, 4] [0, 1, 5, 6, 7] [(k, .inr (0, [.ref l0, .ref il, .ref ir, .ref np, .int mn])), (np, aI K 120 (lm_up fn p (nI s.2.length))), (h2, .inr (1, [.ref ca2, .ref co2, .int (nI s.2.length)])), (ca2, aI K 120 f2), (co2, aJ K 120 g2)] rfl rfl (by decide) rfl (st := []) rfl (Nat.le_of_ble_eq_true rfl) (by decide) ⟨by decide, by decide⟩ dX0_layCell_54 (fun v9 w9 h9 => ?_)
      obtain ⟨rfl, rfl⟩ := h9
      refine lx_perm [0, 1, 5, 6, 7, 2, 3, 4] [(k, .inr (0, [.ref l0, .ref il, .ref ir, .ref np, .int mn])), (np, aI K 120 (lm_up fn p (nI s.2.length))), (h, .inr (1, [.ref ca, .ref co, .int t])), (ca, aI K 120 f), (co, aJ K 120 g), (h2, .inr (1, [.ref ca2, .ref co2, .int (nI s.2.length)])), (ca2, aI K 120 f2), (co2, aJ K 120 g2)] (by decide) rfl ?_
      refine lx_st (a' := 0) (b' := 0) [.int (nI (lm_to w (lm_rest c w p)))] rfl rfl rfl ?_
      refine lx_istore F [(0, .ref k), (1, .ref h), (2, .ref h2), (3, .int (nI p)), (4, .long (en (w p))), (6, .long (en (lm_rest c w p))), (8, .int (nI (lm_to w (lm_rest c w p))))] [1, 2, 3, 4, 5, 6, 0] dX0_layCell_57 rfl (by decide) ?_
      refine lx_aload_n F dX0_layCell_59 0 rfl ?_
      refine gf_X0_21 F 0 rfl rfl dX0_layCell_60 ?_
      refine lx_iload F dX0_layCell_63 6 rfl ?_
      refine lx_iald F 1 (lm_to w (lm_rest c w p)) dX0_layCell_65 rfl hx (by decide) ?_
      rw [lm_mark_up hos.1 _ hx]
      refine lx_iconst F dX0_layCell_66 kc_m1 ?_
      refine lx_icmp_ne F 81 dX0_layCell_67 rfl (fun h1 => ?_) (fun h1 => ?_)
      · skip
        have hno : ¬ ((lm_rest c w p).1 = 2 ∧ lm_mark s.1 p s.2.length (lm_to w (lm_rest c w p)) = none) := fun z => h1 (by rw [z.2]; rfl)
        have hlay := lm_lay_p (s := s) h0 hno
        have hl2 : s.2.length + 2 ≤ 120 := by rw [hlay] at hlen; simpa using hlen
        refine lx_aload_n F dX0_layCell_81 2 rfl ?_
        refine lx_lload F dX0_layCell_82 4 rfl ?_
        refine lx_lload F dX0_layCell_84 5 rfl ?_
        refine lx_cv F (zh_takeTwo (xl E) K h2 ca2 co2 f2 g2 s.2.length hl2 (en (w p)) (en (lm_rest c w p))) cv_X0_65 5 rfl rfl [5, 6, 7] [0, 1, 2, 3, 4] [(k, .inr (0, [.ref l0, .ref il, .ref ir, .ref np, .int mn])), (np, aI K 120 (lm_up fn p (nI s.2.length))), (h, .inr (1, [.ref ca, .ref co, .int t])), (ca, aI K 120 f), (co, aJ K 120 g)] rfl rfl (by decide) rfl (st := []) rfl (Nat.le_of_ble_eq_true rfl) (by decide) ⟨by decide, by decide⟩ dX0_layCell_86 (fun v9 w9 h9 => ?_)
        obtain ⟨rfl, rfl⟩ := h9
        refine lx_perm [0, 1, 2, 3, 4, 5, 6, 7] [(k, .inr (0, [.ref l0, .ref il, .ref ir, .ref np, .int mn])), (np, aI K 120 (lm_up fn p (nI s.2.length))), (h, .inr (1, [.ref ca, .ref co, .int t])), (ca, aI K 120 f), (co, aJ K 120 g), (h2, .inr (1, [.ref ca2, .ref co2, .int (nI (s.2.length + 1 + 1))])), (ca2, aI K 120 (lm_up (lm_up f2 s.2.length (nI 2)) (s.2.length + 1) (nI 3))), (co2, aJ K 120 (lm_up (lm_up g2 s.2.length (en (w p))) (s.2.length + 1) (en (lm_rest c w p))))] (by decide) rfl ?_
        refine lx_st (a' := 0) (b' := 0) [.int (nI s.2.length)] rfl rfl rfl ?_
        refine lx_pop F dX0_layCell_89 rfl ?_
        refine lx_iconst F dX0_layCell_90 kc_m1 ?_
        exact lx_iret F hR dX0_layCell_91 ⟨by rw [hlay]; rfl, _, _, _, by rw [hlay]; exact lm_os_2 hos, by rw [hlay, List.length_append]; rfl⟩
      · skip
        have h1n := (oI_none (fun n hn => lm_mark_b hsb (by omega) _ n hn)).mp h1
        have hlay := lm_lay_n (s := s) h2e h1n
        refine lx_aload_n F dX0_layCell_70 2 rfl ?_
        refine lx_iconst F dX0_layCell_71 kc_0 ?_
        refine lx_lload F dX0_layCell_72 4 rfl ?_
        refine lx_cv F (zh_take (xl E) K h2 ca2 co2 f2 g2 s.2.length (by omega) (nI 0) (en (w p))) cv_X0_61 5 rfl rfl [5, 6, 7] [0, 1, 2, 3, 4] [(k, .inr (0, [.ref l0, .ref il, .ref ir, .ref np, .int mn])), (np, aI K 120 (lm_up fn p (nI s.2.length))), (h, .inr (1, [.ref ca, .ref co, .int t])), (ca, aI K 120 f), (co, aJ K 120 g)] rfl rfl (by decide) rfl (st := []) rfl (Nat.le_of_ble_eq_true rfl) (by decide) ⟨by decide, by decide⟩ dX0_layCell_74 (fun v9 w9 h9 => ?_)
        obtain ⟨rfl, rfl⟩ := h9
        refine lx_perm [0, 1, 2, 3, 4, 5, 6, 7] [(k, .inr (0, [.ref l0, .ref il, .ref ir, .ref np, .int mn])), (np, aI K 120 (lm_up fn p (nI s.2.length))), (h, .inr (1, [.ref ca, .ref co, .int t])), (ca, aI K 120 f), (co, aJ K 120 g), (h2, .inr (1, [.ref ca2, .ref co2, .int (nI (s.2.length + 1))])), (ca2, aI K 120 (lm_up f2 s.2.length (nI 0))), (co2, aJ K 120 (lm_up g2 s.2.length (en (w p))))] (by decide) rfl ?_
        refine lx_st (a' := 0) (b' := 0) [.int (nI s.2.length)] rfl rfl rfl ?_
        refine lx_pop F dX0_layCell_77 rfl ?_
        refine lx_iload F dX0_layCell_78 6 rfl ?_
        exact lx_iret F hR dX0_layCell_80 ⟨by rw [hlay]; rfl, _, _, _, by rw [hlay]; exact lm_os_1 hos, by rw [hlay, List.length_append]; rfl⟩
  · skip
    have hlay := lm_lay_e (s := s) h0
    refine lx_aload_n F dX0_layCell_32 2 rfl ?_
    refine lx_iconst F dX0_layCell_33 kc_1 ?_
    refine lx_lload F dX0_layCell_34 4 rfl ?_
    refine lx_cv F (zh_take (xl E) K h2 ca2 co2 f2 g2 s.2.length (by omega) (nI 1) (en (w p))) cv_X0_61 5 rfl rfl [5, 6, 7] [0, 1, 2, 3, 4] [(k, .inr (0, [.ref l0, .ref il, .ref ir, .ref np, .int mn])), (np, aI K 120 (lm_up fn p (nI s.2.length))), (h, .inr (1, [.ref ca, .ref co, .int t])), (ca, aI K 120 f), (co, aJ K 120 g)] rfl rfl (by decide) rfl (st := []) rfl (Nat.le_of_ble_eq_true rfl) (by decide) ⟨by decide, by decide⟩ dX0_layCell_36 (fun v9 w9 h9 => ?_)
    obtain ⟨rfl, rfl⟩ := h9
    refine lx_perm [0, 1, 2, 3, 4, 5, 6, 7] [(k, .inr (0, [.ref l0, .ref il, .ref ir, .ref np, .int mn])), (np, aI K 120 (lm_up fn p (nI s.2.length))), (h, .inr (1, [.ref ca, .ref co, .int t])), (ca, aI K 120 f), (co, aJ K 120 g), (h2, .inr (1, [.ref ca2, .ref co2, .int (nI (s.2.length + 1))])), (ca2, aI K 120 (lm_up f2 s.2.length (nI 1))), (co2, aJ K 120 (lm_up g2 s.2.length (en (w p))))] (by decide) rfl ?_
    refine lx_st (a' := 0) (b' := 0) [.int (nI s.2.length)] rfl rfl rfl ?_
    refine lx_pop F dX0_layCell_39 rfl ?_
    refine lx_iconst F dX0_layCell_40 kc_m1 ?_
    exact lx_iret F hR dX0_layCell_41 ⟨by rw [hlay]; rfl, _, _, _, by rw [hlay]; exact lm_os_1 hos, by rw [hlay, List.length_append]; rfl⟩

set_option maxHeartbeats 4000000 in
set_option maxRecDepth 100000 in
theorem zk_layListed (l : Launch) (K : lm_G) (k l0 il ir np : Nat) (fl fr fn : Nat → Int32) (h ca co : Nat) (f : Nat → Int32) (g : Nat → Int64) (t : Int32) (h2 ca2 co2 : Nat) (f2 : Nat → Int32) (g2 : Nat → Int64) (c : Nat → Nat) (w : Nat → lm_V) (u : Nat) (hw : lm_wf c w u) (hh : lm_hf f g c w u) (L : List Nat) (hL : lm_gd c w u L) (hfl : ∀ j, j < L.length → fl j = nI (L.getD j 0)) (hfr : ∀ p, p < 120 → fr p = nI (if lm_isRb c w L p = true then 1 else 0)) (hd : Bool) (s0 : lm_S) (hsb : lm_sb s0) (hos : lm_os fn f2 g2 s0) (hlen : (lm_phase c w L hd s0 L.length).2.length ≤ 120) : lm_C l K mX0_layListed (rk 3) [.ref k, .ref h, .ref h2, .int (bI hd)] [(k, .inr (0, [.ref l0, .ref il, .ref ir, .ref np, .int (nI L.length)])), (l0, aI K 120 fl), (ir, aI K 120 fr), (np, aI K 120 fn), (h, .inr (1, [.ref ca, .ref co, .int t])), (ca, aI K 120 f), (co, aJ K 120 g), (h2, .inr (1, [.ref ca2, .ref co2, .int (nI s0.2.length)])), (ca2, aI K 120 f2), (co2, aJ K 120 g2)] (fun v9 w9 => v9 = none ∧ ∃ (fn1 f3 : Nat → Int32) (g3 : Nat → Int64), lm_os fn1 f3 g3 (lm_phase c w L hd s0 L.length) ∧ w9 = [(k, .inr (0, [.ref l0, .ref il, .ref ir, .ref np, .int (nI L.length)])), (l0, aI K 120 fl), (ir, aI K 120 fr), (np, aI K 120 fn1), (h, .inr (1, [.ref ca, .ref co, .int t])), (ca, aI K 120 f), (co, aJ K 120 g), (h2, .inr (1, [.ref ca2, .ref co2, .int (nI ((lm_phase c w L hd s0 L.length).2.length))])), (ca2, aI K 120 f3), (co2, aJ K 120 g3)]) := by
  refine lx_met RX0 pn_X0 rfl (Nat.le_of_ble_eq_true rfl) (fun E hE hnm F hR => ?_)
  have F : lx_F K 7 E cX0_layListed RX0 none (rk 3) := F
  show lx_W K 7 E 0 0 0 [(0, .ref k), (1, .ref h), (2, .ref h2), (3, .int (bI hd))] [] [(k, .inr (0, [.ref l0, .ref il, .ref ir, .ref np, .int (nI L.length)])), (l0, aI K 120 fl), (ir, aI K 120 fr), (np, aI K 120 fn), (h, .inr (1, [.ref ca, .ref co, .int t])), (ca, aI K 120 f), (co, aJ K 120 g), (h2, .inr (1, [.ref ca2, .ref co2, .int (nI s0.2.length)])), (ca2, aI K 120 f2), (co2, aJ K 120 g2)]
  have hu := hw.1
  have hLn : L.length ≤ u := lm_gd_len hL
  refine lx_iconst F dX0_layListed_0 kc_0 ?_
  refine lx_istore F [(0, .ref k), (1, .ref h), (2, .ref h2), (3, .int (bI hd)), (4, .int (nI 0))] [1, 2, 3, 4, 0] dX0_layListed_1 rfl (by decide) ?_
  have loop : ∀ (n9 : Nat) (i : Nat) (fn1 f3 : Nat → Int32) (g3 : Nat → Int64), i + n9 = L.length → lm_os fn1 f3 g3 (lm_phase c w L hd s0 i) → lx_W K 7 E 0 0 3 [(0, .ref k), (1, .ref h), (2, .ref h2), (3, .int (bI hd)), (4, .int (nI i))] [] [(k, .inr (0, [.ref l0, .ref il, .ref ir, .ref np, .int (nI L.length)])), (l0, aI K 120 fl), (ir, aI K 120 fr), (np, aI K 120 fn1), (h, .inr (1, [.ref ca, .ref co, .int t])), (ca, aI K 120 f), (co, aJ K 120 g), (h2, .inr (1, [.ref ca2, .ref co2, .int (nI ((lm_phase c w L hd s0 i).2.length))])), (ca2, aI K 120 f3), (co2, aJ K 120 g3)] := by
    intro n9
    induction n9 with
    | zero =>
      intro i fn1 f3 g3 hi hos1
      refine lx_iload F dX0_layListed_3 4 rfl ?_
      refine lx_aload_n F dX0_layListed_5 0 rfl ?_
      refine gf_X0_24 F 0 rfl rfl dX0_layListed_6 ?_
      refine lx_icmpN_ge F 95 (by omega) (by omega) dX0_layListed_9 rfl (fun _ => ?_) (fun h => absurd h (by omega))
      exact lx_vret F hR dX0_layListed_95 ⟨rfl, fn1, f3, g3, by rw [← show i = L.length by omega]; exact hos1, by rw [← show i = L.length by omega]⟩
    | succ n9 ih =>
      intro i fn1 f3 g3 hi hos1
      refine lx_iload F dX0_layListed_3 4 rfl ?_
      refine lx_aload_n F dX0_layListed_5 0 rfl ?_
      refine gf_X0_24 F 0 rfl rfl dX0_layListed_6 ?_
      refine lx_icmpN_ge F 95 (by omega) (by omega) dX0_layListed_9 rfl (fun h => absurd h (by omega)) (fun _ => ?_)
      refine lx_iload F dX0_layListed_12 4 rfl ?_
      refine lx_bipush F dX0_layListed_14 kb_120 ?_
      refine lx_icmpN_ge F 95 (by omega) (by omega) dX0_layListed_16 rfl (fun h => absurd h (by omega)) (fun _ => ?_)
      refine lx_aload_n F dX0_layListed_19 0 rfl ?_
      refine gf_X0_9 F 0 rfl rfl dX0_layListed_20 ?_
      refine lx_iload F dX0_layListed_23 4 rfl ?_
      obtain ⟨p, hpe⟩ : ∃ p, p = L.getD i 0 := ⟨_, rfl⟩
      have hcp : lm_cl c w u p := by rw [hpe]; exact hL.2 _ (lm_getD_in (by omega))
      have hp1 := hcp.1
      have hph : lm_phase c w L hd s0 (i + 1) = lm_try c w L hd (lm_phase c w L hd s0 i) p := by rw [hpe]; rfl
      have hle0 := lm_phase_len (c := c) (w := w) (L := L) (hd := hd) (s := s0) L.length (i + 1) (by omega)
      have hle9 := lm_phase_len (c := c) (w := w) (L := L) (hd := hd) (s := s0) L.length i (by omega)
      have hsb1 := lm_phase_b (c := c) (w := w) (L := L) (hd := hd) hsb i (by omega)
      refine lx_iald F 1 i dX0_layListed_25 rfl (by omega) (by decide) ?_
      rw [show fl i = nI p by rw [hfl i (by omega), hpe]]
      refine lx_istore F [(0, .ref k), (1, .ref h), (2, .ref h2), (3, .int (bI hd)), (4, .int (nI i)), (5, .int (nI p))] [1, 2, 3, 4, 5, 0] dX0_layListed_26 rfl (by decide) ?_
      refine lx_aload_n F dX0_layListed_28 0 rfl ?_
      refine gf_X0_21 F 0 rfl rfl dX0_layListed_29 ?_
      refine lx_iload F dX0_layListed_32 5 rfl ?_
      refine lx_iald F 3 p dX0_layListed_34 rfl (by omega) (by decide) ?_
      rw [hos1.1 p (by omega)]
      refine lx_iconst F dX0_layListed_35 kc_m1 ?_
      refine lx_icmp_ne F 89 dX0_layListed_36 rfl (fun h1 => ?_) (fun h1 => ?_)
      · skip
        have hno : ¬ ((lm_phase c w L hd s0 i).1 p = none ∧ ¬ (hd = true ∧ lm_isRb c w L p = true)) := fun z => h1 (by rw [z.1]; rfl)
        have htry : lm_phase c w L hd s0 (i + 1) = lm_phase c w L hd s0 i := hph.trans (lm_try_n hno)
        refine lx_iinc F [(0, .ref k), (1, .ref h), (2, .ref h2), (3, .int (bI hd)), (4, .int (nI (i + 1))), (5, .int (nI p))] 4 [1, 2, 3, 4, 0, 5] dX0_layListed_89 rfl (k_inc _) rfl (by decide) ?_
        refine lx_goto F 3 dX0_layListed_92 rfl ?_
        refine lx_lv [0, 1, 2, 3, 4] [(0, .ref k), (1, .ref h), (2, .ref h2), (3, .int (bI hd)), (4, .int (nI (i + 1)))] rfl ?_
        have z9 := ih (i + 1) fn1 f3 g3 (by omega) (by rw [htry]; exact hos1)
        rw [htry] at z9
        exact z9
      · skip
        have h1n := (oI_none (fun n hn => hsb1 p n hn)).mp h1
        by_cases hR : hd = true ∧ lm_isRb c w L p = true
        · skip
          have hno : ¬ ((lm_phase c w L hd s0 i).1 p = none ∧ ¬ (hd = true ∧ lm_isRb c w L p = true)) := fun z => z.2 hR
          have htry : lm_phase c w L hd s0 (i + 1) = lm_phase c w L hd s0 i := hph.trans (lm_try_n hno)
          refine lx_iload_n F dX0_layListed_39 3 rfl ?_
          refine lx_if_eq F 57 dX0_layListed_40 rfl (fun h => absurd h (by rw [hR.1]; decide)) (fun _ => ?_)
          refine lx_aload_n F dX0_layListed_43 0 rfl ?_
          refine gf_X0_18 F 0 rfl rfl dX0_layListed_44 ?_
          refine lx_iload F dX0_layListed_47 5 rfl ?_
          refine lx_iald F 2 p dX0_layListed_49 rfl (by omega) (by decide) ?_
          rw [show fr p = nI 1 by rw [hfr p (by omega), if_pos hR.2]]
          refine lx_iconst F dX0_layListed_50 kc_1 ?_
          refine lx_icmpN_ne F 57 (by omega) (by omega) dX0_layListed_51 rfl (fun h => absurd h (by omega)) (fun _ => ?_)
          refine lx_goto F 89 dX0_layListed_54 rfl ?_
          refine lx_iinc F [(0, .ref k), (1, .ref h), (2, .ref h2), (3, .int (bI hd)), (4, .int (nI (i + 1))), (5, .int (nI p))] 4 [1, 2, 3, 4, 0, 5] dX0_layListed_89 rfl (k_inc _) rfl (by decide) ?_
          refine lx_goto F 3 dX0_layListed_92 rfl ?_
          refine lx_lv [0, 1, 2, 3, 4] [(0, .ref k), (1, .ref h), (2, .ref h2), (3, .int (bI hd)), (4, .int (nI (i + 1)))] rfl ?_
          have z9 := ih (i + 1) fn1 f3 g3 (by omega) (by rw [htry]; exact hos1)
          rw [htry] at z9
          exact z9
        · skip
          have hsp0 : lm_spO c w 120 (lm_phase c w L hd s0 i) (some p) = lm_phase c w L hd s0 (i + 1) := (hph.trans (lm_try_y h1n hR)).symm
          refine lx_iload_n F dX0_layListed_39 3 rfl ?_
          refine lx_if_eq F 57 dX0_layListed_40 rfl (fun hz => ?_) (fun hz => ?_)
          · skip
            refine lx_iconst F dX0_layListed_57 kc_0 ?_
            refine lx_istore F [(0, .ref k), (1, .ref h), (2, .ref h2), (3, .int (bI hd)), (4, .int (nI i)), (5, .int (nI p)), (6, .int (nI 0))] [1, 2, 3, 4, 5, 6, 0] dX0_layListed_58 rfl (by decide) ?_
            have loop2 : ∀ (n8 : Nat) (j : Nat) (s : lm_S) (o : Option Nat) (fn4 f4 : Nat → Int32) (g4 : Nat → Int64), j + n8 = 120 → lm_spO c w n8 s o = lm_phase c w L hd s0 (i + 1) → lm_sb s → (∀ q, o = some q → lm_cl c w u q) → lm_os fn4 f4 g4 s → lx_W K 7 E 0 0 60 [(0, .ref k), (1, .ref h), (2, .ref h2), (3, .int (bI hd)), (4, .int (nI i)), (5, .int (oI o)), (6, .int (nI j))] [] [(k, .inr (0, [.ref l0, .ref il, .ref ir, .ref np, .int (nI L.length)])), (l0, aI K 120 fl), (ir, aI K 120 fr), (np, aI K 120 fn4), (h, .inr (1, [.ref ca, .ref co, .int t])), (ca, aI K 120 f), (co, aJ K 120 g), (h2, .inr (1, [.ref ca2, .ref co2, .int (nI s.2.length)])), (ca2, aI K 120 f4), (co2, aJ K 120 g4)] := by
              intro n8
              induction n8 with
              | zero =>
                intro j s o fn4 f4 g4 hj hsp hsb4 hco hos4
                refine lx_iload F dX0_layListed_60 6 rfl ?_
                refine lx_bipush F dX0_layListed_62 kb_120 ?_
                refine lx_icmpN_ge F 89 (by omega) (by omega) dX0_layListed_64 rfl (fun _ => ?_) (fun h => absurd h (by omega))
                refine lx_iinc F [(0, .ref k), (1, .ref h), (2, .ref h2), (3, .int (bI hd)), (4, .int (nI (i + 1))), (5, .int (oI o)), (6, .int (nI j))] 4 [1, 2, 3, 4, 0, 5, 6] dX0_layListed_89 rfl (k_inc _) rfl (by decide) ?_
                refine lx_goto F 3 dX0_layListed_92 rfl ?_
                refine lx_lv [0, 1, 2, 3, 4] [(0, .ref k), (1, .ref h), (2, .ref h2), (3, .int (bI hd)), (4, .int (nI (i + 1)))] rfl ?_
                have hs9 : s = lm_phase c w L hd s0 (i + 1) := by rw [← hsp]; exact (by cases o <;> rfl)
                subst hs9
                exact ih (i + 1) fn4 f4 g4 (by omega) hos4
              | succ n8 ih2 =>
                intro j s o fn4 f4 g4 hj hsp hsb4 hco hos4
                refine lx_iload F dX0_layListed_60 6 rfl ?_
                refine lx_bipush F dX0_layListed_62 kb_120 ?_
                refine lx_icmpN_ge F 89 (by omega) (by omega) dX0_layListed_64 rfl (fun h => absurd h (by omega)) (fun _ => ?_)
                refine lx_iload F dX0_layListed_67 5 rfl ?_
                refine lx_iconst F dX0_layListed_69 kc_m1 ?_
                refine lx_icmp_eq F 89 dX0_layListed_70 rfl (fun ho => ?_) (fun ho => ?_)
                · skip
                  have hon : o = none := (oI_none (fun q hq => by have h9 := hco q hq; have h8 := h9.1; omega)).mp ho
                  subst hon
                  refine lx_iinc F [(0, .ref k), (1, .ref h), (2, .ref h2), (3, .int (bI hd)), (4, .int (nI (i + 1))), (5, .int (oI none)), (6, .int (nI j))] 4 [1, 2, 3, 4, 0, 5, 6] dX0_layListed_89 rfl (k_inc _) rfl (by decide) ?_
                  refine lx_goto F 3 dX0_layListed_92 rfl ?_
                  refine lx_lv [0, 1, 2, 3, 4] [(0, .ref k), (1, .ref h), (2, .ref h2), (3, .int (bI hd)), (4, .int (nI (i + 1)))] rfl ?_
                  have hs9 : s = lm_phase c w L hd s0 (i + 1) := by rw [← hsp]; exact rfl
                  subst hs9
                  exact ih (i + 1) fn4 f4 g4 (by omega) hos4
                · skip
                  obtain ⟨p, rfl⟩ : ∃ p, o = some p := by
                    cases o with
                    | none => exact absurd rfl ho
                    | some p => exact ⟨p, rfl⟩
                  have hcp := hco p rfl
                  rw [lm_spO_s] at hsp
                  have hle1 := lm_spO_len (c := c) (w := w) n8 (lm_lay c w s p).1 (lm_lay c w s p).2
                  rw [hsp] at hle1
                  have hle2 := lm_lay_len (c := c) (w := w) (s := s) (p := p)
                  refine lx_aload_n F dX0_layListed_73 0 rfl ?_
                  refine lx_aload_n F dX0_layListed_74 1 rfl ?_
                  refine lx_aload_n F dX0_layListed_75 2 rfl ?_
                  refine lx_iload F dX0_layListed_76 5 rfl ?_
                  refine lx_cv F (zk_layCell (xl E) K k l0 il ir np (nI L.length) fn4 h ca co f g t h2 ca2 co2 f4 g4 c w u hw hh s hsb4 hos4 p hcp (by omega)) cv_X0_54 0 rfl rfl [0, 3, 4, 5, 6, 7, 8, 9] [1, 2] [(l0, aI K 120 fl), (ir, aI K 120 fr)] rfl rfl (by decide) rfl (st := []) rfl (Nat.le_of_ble_eq_true rfl) (by decide) ⟨by decide, by decide⟩ dX0_layListed_78 (fun v9 w9 h9 => ?_)
                  obtain ⟨rfl, fn5, f5, g5, hos5, rfl⟩ := h9
                  refine lx_perm [2, 0, 1, 3, 4, 5, 6, 7, 8, 9] [(k, .inr (0, [.ref l0, .ref il, .ref ir, .ref np, .int (nI L.length)])), (l0, aI K 120 fl), (ir, aI K 120 fr), (np, aI K 120 fn5), (h, .inr (1, [.ref ca, .ref co, .int t])), (ca, aI K 120 f), (co, aJ K 120 g), (h2, .inr (1, [.ref ca2, .ref co2, .int (nI ((lm_lay c w s p).1.2.length))])), (ca2, aI K 120 f5), (co2, aJ K 120 g5)] (by decide) rfl ?_
                  refine lx_st (a' := 0) (b' := 0) [.int (oI (lm_lay c w s p).2)] rfl rfl rfl ?_
                  refine lx_istore F [(0, .ref k), (1, .ref h), (2, .ref h2), (3, .int (bI hd)), (4, .int (nI i)), (5, .int (oI (lm_lay c w s p).2)), (6, .int (nI j))] [1, 2, 3, 4, 5, 0, 6] dX0_layListed_81 rfl (by decide) ?_
                  refine lx_iinc F [(0, .ref k), (1, .ref h), (2, .ref h2), (3, .int (bI hd)), (4, .int (nI i)), (5, .int (oI (lm_lay c w s p).2)), (6, .int (nI (j + 1)))] 6 [1, 2, 3, 4, 5, 6, 0] dX0_layListed_83 rfl (k_inc _) rfl (by decide) ?_
                  refine lx_goto F 60 dX0_layListed_86 rfl ?_
                  exact ih2 (j + 1) _ _ fn5 f5 g5 (by omega) hsp (lm_lay_b hsb4 (by omega)) (fun q hq => lm_lay_q hw hcp hq) hos5
            exact loop2 120 0 _ (some p) fn1 f3 g3 (by omega) hsp0 hsb1 (fun q hq => by cases hq; exact hcp) hos1
          · skip
            have hRb : lm_isRb c w L p = false := by
              cases hd with
              | false => exact absurd (by decide) hz
              | true => cases hb9 : lm_isRb c w L p with
                | false => rfl
                | true => exact absurd ⟨rfl, hb9⟩ hR
            refine lx_aload_n F dX0_layListed_43 0 rfl ?_
            refine gf_X0_18 F 0 rfl rfl dX0_layListed_44 ?_
            refine lx_iload F dX0_layListed_47 5 rfl ?_
            refine lx_iald F 2 p dX0_layListed_49 rfl (by omega) (by decide) ?_
            rw [show fr p = nI 0 by rw [hfr p (by omega), hRb]; rfl]
            refine lx_iconst F dX0_layListed_50 kc_1 ?_
            refine lx_icmpN_ne F 57 (by omega) (by omega) dX0_layListed_51 rfl (fun _ => ?_) (fun h => absurd h (by omega))
            refine lx_iconst F dX0_layListed_57 kc_0 ?_
            refine lx_istore F [(0, .ref k), (1, .ref h), (2, .ref h2), (3, .int (bI hd)), (4, .int (nI i)), (5, .int (nI p)), (6, .int (nI 0))] [1, 2, 3, 4, 5, 6, 0] dX0_layListed_58 rfl (by decide) ?_
            have loop2 : ∀ (n8 : Nat) (j : Nat) (s : lm_S) (o : Option Nat) (fn4 f4 : Nat → Int32) (g4 : Nat → Int64), j + n8 = 120 → lm_spO c w n8 s o = lm_phase c w L hd s0 (i + 1) → lm_sb s → (∀ q, o = some q → lm_cl c w u q) → lm_os fn4 f4 g4 s → lx_W K 7 E 0 0 60 [(0, .ref k), (1, .ref h), (2, .ref h2), (3, .int (bI hd)), (4, .int (nI i)), (5, .int (oI o)), (6, .int (nI j))] [] [(k, .inr (0, [.ref l0, .ref il, .ref ir, .ref np, .int (nI L.length)])), (l0, aI K 120 fl), (ir, aI K 120 fr), (np, aI K 120 fn4), (h, .inr (1, [.ref ca, .ref co, .int t])), (ca, aI K 120 f), (co, aJ K 120 g), (h2, .inr (1, [.ref ca2, .ref co2, .int (nI s.2.length)])), (ca2, aI K 120 f4), (co2, aJ K 120 g4)] := by
              intro n8
              induction n8 with
              | zero =>
                intro j s o fn4 f4 g4 hj hsp hsb4 hco hos4
                refine lx_iload F dX0_layListed_60 6 rfl ?_
                refine lx_bipush F dX0_layListed_62 kb_120 ?_
                refine lx_icmpN_ge F 89 (by omega) (by omega) dX0_layListed_64 rfl (fun _ => ?_) (fun h => absurd h (by omega))
                refine lx_iinc F [(0, .ref k), (1, .ref h), (2, .ref h2), (3, .int (bI hd)), (4, .int (nI (i + 1))), (5, .int (oI o)), (6, .int (nI j))] 4 [1, 2, 3, 4, 0, 5, 6] dX0_layListed_89 rfl (k_inc _) rfl (by decide) ?_
                refine lx_goto F 3 dX0_layListed_92 rfl ?_
                refine lx_lv [0, 1, 2, 3, 4] [(0, .ref k), (1, .ref h), (2, .ref h2), (3, .int (bI hd)), (4, .int (nI (i + 1)))] rfl ?_
                have hs9 : s = lm_phase c w L hd s0 (i + 1) := by rw [← hsp]; exact (by cases o <;> rfl)
                subst hs9
                exact ih (i + 1) fn4 f4 g4 (by omega) hos4
              | succ n8 ih2 =>
                intro j s o fn4 f4 g4 hj hsp hsb4 hco hos4
                refine lx_iload F dX0_layListed_60 6 rfl ?_
                refine lx_bipush F dX0_layListed_62 kb_120 ?_
                refine lx_icmpN_ge F 89 (by omega) (by omega) dX0_layListed_64 rfl (fun h => absurd h (by omega)) (fun _ => ?_)
                refine lx_iload F dX0_layListed_67 5 rfl ?_
                refine lx_iconst F dX0_layListed_69 kc_m1 ?_
                refine lx_icmp_eq F 89 dX0_layListed_70 rfl (fun ho => ?_) (fun ho => ?_)
                · skip
                  have hon : o = none := (oI_none (fun q hq => by have h9 := hco q hq; have h8 := h9.1; omega)).mp ho
                  subst hon
                  refine lx_iinc F [(0, .ref k), (1, .ref h), (2, .ref h2), (3, .int (bI hd)), (4, .int (nI (i + 1))), (5, .int (oI none)), (6, .int (nI j))] 4 [1, 2, 3, 4, 0, 5, 6] dX0_layListed_89 rfl (k_inc _) rfl (by decide) ?_
                  refine lx_goto F 3 dX0_layListed_92 rfl ?_
                  refine lx_lv [0, 1, 2, 3, 4] [(0, .ref k), (1, .ref h), (2, .ref h2), (3, .int (bI hd)), (4, .int (nI (i + 1)))] rfl ?_
                  have hs9 : s = lm_phase c w L hd s0 (i + 1) := by rw [← hsp]; exact rfl
                  subst hs9
                  exact ih (i + 1) fn4 f4 g4 (by omega) hos4
                · skip
                  obtain ⟨p, rfl⟩ : ∃ p, o = some p := by
                    cases o with
                    | none => exact absurd rfl ho
                    | some p => exact ⟨p, rfl⟩
                  have hcp := hco p rfl
                  rw [lm_spO_s] at hsp
                  have hle1 := lm_spO_len (c := c) (w := w) n8 (lm_lay c w s p).1 (lm_lay c w s p).2
                  rw [hsp] at hle1
                  have hle2 := lm_lay_len (c := c) (w := w) (s := s) (p := p)
                  refine lx_aload_n F dX0_layListed_73 0 rfl ?_
                  refine lx_aload_n F dX0_layListed_74 1 rfl ?_
                  refine lx_aload_n F dX0_layListed_75 2 rfl ?_
                  refine lx_iload F dX0_layListed_76 5 rfl ?_
                  refine lx_cv F (zk_layCell (xl E) K k l0 il ir np (nI L.length) fn4 h ca co f g t h2 ca2 co2 f4 g4 c w u hw hh s hsb4 hos4 p hcp (by omega)) cv_X0_54 0 rfl rfl [0, 3, 4, 5, 6, 7, 8, 9] [1, 2] [(l0, aI K 120 fl), (ir, aI K 120 fr)] rfl rfl (by decide) rfl (st := []) rfl (Nat.le_of_ble_eq_true rfl) (by decide) ⟨by decide, by decide⟩ dX0_layListed_78 (fun v9 w9 h9 => ?_)
                  obtain ⟨rfl, fn5, f5, g5, hos5, rfl⟩ := h9
                  refine lx_perm [2, 0, 1, 3, 4, 5, 6, 7, 8, 9] [(k, .inr (0, [.ref l0, .ref il, .ref ir, .ref np, .int (nI L.length)])), (l0, aI K 120 fl), (ir, aI K 120 fr), (np, aI K 120 fn5), (h, .inr (1, [.ref ca, .ref co, .int t])), (ca, aI K 120 f), (co, aJ K 120 g), (h2, .inr (1, [.ref ca2, .ref co2, .int (nI ((lm_lay c w s p).1.2.length))])), (ca2, aI K 120 f5), (co2, aJ K 120 g5)] (by decide) rfl ?_
                  refine lx_st (a' := 0) (b' := 0) [.int (oI (lm_lay c w s p).2)] rfl rfl rfl ?_
                  refine lx_istore F [(0, .ref k), (1, .ref h), (2, .ref h2), (3, .int (bI hd)), (4, .int (nI i)), (5, .int (oI (lm_lay c w s p).2)), (6, .int (nI j))] [1, 2, 3, 4, 5, 0, 6] dX0_layListed_81 rfl (by decide) ?_
                  refine lx_iinc F [(0, .ref k), (1, .ref h), (2, .ref h2), (3, .int (bI hd)), (4, .int (nI i)), (5, .int (oI (lm_lay c w s p).2)), (6, .int (nI (j + 1)))] 6 [1, 2, 3, 4, 5, 6, 0] dX0_layListed_83 rfl (k_inc _) rfl (by decide) ?_
                  refine lx_goto F 60 dX0_layListed_86 rfl ?_
                  exact ih2 (j + 1) _ _ fn5 f5 g5 (by omega) hsp (lm_lay_b hsb4 (by omega)) (fun q hq => lm_lay_q hw hcp hq) hos5
            exact loop2 120 0 _ (some p) fn1 f3 g3 (by omega) hsp0 hsb1 (fun q hq => by cases hq; exact hcp) hos1
  exact loop L.length 0 fn f2 g2 (by omega) hos

set_option maxHeartbeats 4000000 in
set_option maxRecDepth 100000 in
theorem zk_inNewHalf (l : Launch) (K : lm_G) (k l0 il ir np : Nat) (mn : Int32) (fn : Nat → Int32) (h ca co : Nat) (f : Nat → Int32) (g : Nat → Int64) (t : Int32) (c : Nat → Nat) (w : Nat → lm_V) (u : Nat) (hw : lm_wf c w u) (hh : lm_hf f g c w u) (lay : Nat → Option Nat) (hfn : ∀ p, p < 120 → fn p = oI (lay p)) (v : lm_V) (hv : lm_ok c u v) (hlay : v.1 = 2 → ∃ n, lay (lm_to w v) = some n ∧ n < 2 ^ 31) : lm_C l K mX0_inNewHalf (rk 2) [.ref k, .ref h, .long (en v)] [(k, .inr (0, [.ref l0, .ref il, .ref ir, .ref np, .int mn])), (np, aI K 120 fn), (h, .inr (1, [.ref ca, .ref co, .int t])), (ca, aI K 120 f), (co, aJ K 120 g)] (fun v9 w9 => v9 = some (.long (en (lm_tr w lay v))) ∧ w9 = [(k, .inr (0, [.ref l0, .ref il, .ref ir, .ref np, .int mn])), (np, aI K 120 fn), (h, .inr (1, [.ref ca, .ref co, .int t])), (ca, aI K 120 f), (co, aJ K 120 g)]) := by
  refine lx_met RX0 pn_X0 rfl (Nat.le_of_ble_eq_true rfl) (fun E hE hnm F hR => ?_)
  have F : lx_F K 4 E cX0_inNewHalf RX0 (some .long) (rk 2) := F
  show lx_W K 4 E 0 0 0 [(0, .ref k), (1, .ref h), (2, .long (en v))] [] [(k, .inr (0, [.ref l0, .ref il, .ref ir, .ref np, .int mn])), (np, aI K 120 fn), (h, .inr (1, [.ref ca, .ref co, .int t])), (ca, aI K 120 f), (co, aJ K 120 g)]
  have hu := hw.1
  have hv3 := lm_ok_kind hv
  refine lx_lload_n F dX0_inNewHalf_0 2 rfl ?_
  refine lx_csn F (zs_kindOf (xl E) K v (by omega)) cs_X0_47 [] [0, 1, 2, 3, 4] [(k, .inr (0, [.ref l0, .ref il, .ref ir, .ref np, .int mn])), (np, aI K 120 fn), (h, .inr (1, [.ref ca, .ref co, .int t])), (ca, aI K 120 f), (co, aJ K 120 g)] rfl rfl (by decide) rfl (st := []) rfl (Nat.le_of_ble_eq_true rfl) (by decide) ⟨by decide, by decide⟩ dX0_inNewHalf_1 (fun v9 w9 h9 => ?_)
  obtain ⟨rfl, rfl⟩ := h9
  refine lx_perm [0, 1, 2, 3, 4] [(k, .inr (0, [.ref l0, .ref il, .ref ir, .ref np, .int mn])), (np, aI K 120 fn), (h, .inr (1, [.ref ca, .ref co, .int t])), (ca, aI K 120 f), (co, aJ K 120 g)] (by decide) rfl ?_
  refine lx_st (a' := 0) (b' := 0) [.int (nI v.1)] rfl rfl rfl ?_
  refine lx_iconst F dX0_inNewHalf_4 kc_2 ?_
  refine lx_icmpN_eq F 10 (by omega) (by omega) dX0_inNewHalf_5 rfl (fun h2 => ?_) (fun h2 => ?_)
  · skip
    have hx : lm_to w v < 120 := Nat.lt_of_lt_of_le (lm_to_cl hw hv h2).1 hu
    obtain ⟨n, hn, hn2⟩ := hlay h2
    have htr : lm_tr w lay v = (2, ((n : Nat) : Int)) := by unfold lm_tr; rw [if_pos h2, hn]; rfl
    refine lx_iconst F dX0_inNewHalf_10 kc_2 ?_
    refine lx_aload_n F dX0_inNewHalf_11 0 rfl ?_
    refine gf_X0_21 F 0 rfl rfl dX0_inNewHalf_12 ?_
    refine lx_aload_n F dX0_inNewHalf_15 1 rfl ?_
    refine lx_lload_n F dX0_inNewHalf_16 2 rfl ?_
    refine lx_cv F (zh_cellOf (xl E) K h ca co f g t c w u hw hh v hv h2) cv_X0_51 2 rfl rfl [2, 3, 4] [0, 1] [(k, .inr (0, [.ref l0, .ref il, .ref ir, .ref np, .int mn])), (np, aI K 120 fn)] rfl rfl (by decide) rfl (st := [.ref np, .int (nI 2)]) rfl (Nat.le_of_ble_eq_true rfl) (by decide) ⟨by decide, by decide⟩ dX0_inNewHalf_17 (fun v9 w9 h9 => ?_)
    obtain ⟨rfl, rfl⟩ := h9
    refine lx_perm [0, 1, 2, 3, 4] [(k, .inr (0, [.ref l0, .ref il, .ref ir, .ref np, .int mn])), (np, aI K 120 fn), (h, .inr (1, [.ref ca, .ref co, .int t])), (ca, aI K 120 f), (co, aJ K 120 g)] (by decide) rfl ?_
    refine lx_st (a' := 0) (b' := 0) [.int (nI (lm_to w v)), .ref np, .int (nI 2)] rfl rfl rfl ?_
    refine lx_iald F 1 (lm_to w v) dX0_inNewHalf_20 rfl hx (by decide) ?_
    rw [show fn (lm_to w v) = nI n by rw [hfn _ hx, hn]; rfl]
    refine lx_i2l F dX0_inNewHalf_21 (jI_i2l hn2) ?_
    refine lx_csn F (zs_content (xl E) K 2 ((n : Nat) : Int) (by decide)) cs_X0_77 [] [0, 1, 2, 3, 4] [(k, .inr (0, [.ref l0, .ref il, .ref ir, .ref np, .int mn])), (np, aI K 120 fn), (h, .inr (1, [.ref ca, .ref co, .int t])), (ca, aI K 120 f), (co, aJ K 120 g)] rfl rfl (by decide) rfl (st := []) rfl (Nat.le_of_ble_eq_true rfl) (by decide) ⟨by decide, by decide⟩ dX0_inNewHalf_22 (fun v9 w9 h9 => ?_)
    obtain ⟨rfl, rfl⟩ := h9
    refine lx_perm [0, 1, 2, 3, 4] [(k, .inr (0, [.ref l0, .ref il, .ref ir, .ref np, .int mn])), (np, aI K 120 fn), (h, .inr (1, [.ref ca, .ref co, .int t])), (ca, aI K 120 f), (co, aJ K 120 g)] (by decide) rfl ?_
    refine lx_st (a' := 0) (b' := 0) [.long (en (2, ((n : Nat) : Int)))] rfl rfl rfl ?_
    exact lx_lret F hR dX0_inNewHalf_25 ⟨by rw [htr], rfl⟩
  · skip
    refine lx_lload_n F dX0_inNewHalf_8 2 rfl ?_
    exact lx_lret F hR dX0_inNewHalf_9 ⟨by rw [lm_tr_no h2], rfl⟩

set_option maxHeartbeats 4000000 in
set_option maxRecDepth 100000 in
theorem zk_tell (l : Launch) (K : lm_G) (k l0 il ir np : Nat) (ro : Nat) (mn : Int32) (fn : Nat → Int32) (gr : Nat → Int64) (h ca co : Nat) (f : Nat → Int32) (g : Nat → Int64) (t : Int32) (h2 ca2 co2 : Nat) (f2 : Nat → Int32) (g2 : Nat → Int64) (c : Nat → Nat) (w : Nat → lm_V) (u : Nat) (hw : lm_wf c w u) (hh : lm_hf f g c w u) (lay : Nat → Option Nat) (hfn : ∀ p, p < 120 → fn p = oI (lay p)) (O9 : lm_O) (ho : O9.length ≤ 120) (hg2 : ∀ j, j < O9.length → g2 j = en (O9.getD j (0, 0, 0)).2) (hvo : ∀ j, j < O9.length → lm_ok c u (O9.getD j (0, 0, 0)).2) (hvl : ∀ j, j < O9.length → (O9.getD j (0, 0, 0)).2.1 = 2 → ∃ n, lay (lm_to w (O9.getD j (0, 0, 0)).2) = some n ∧ n < 2 ^ 31) (rt : Nat → lm_V) (hr : ∀ r, r < 10 → lm_ok c u (rt r)) (hro : ∀ r, r < 10 → gr r = en (rt r)) (hrl : ∀ r, r < 10 → (rt r).1 = 2 → ∃ n, lay (lm_to w (rt r)) = some n ∧ n < 2 ^ 31) : lm_C l K mX0_tellNewPlaces (rk 3) [.ref k, .ref h, .ref h2, .ref ro] [(k, .inr (0, [.ref l0, .ref il, .ref ir, .ref np, .int mn])), (np, aI K 120 fn), (h, .inr (1, [.ref ca, .ref co, .int t])), (ca, aI K 120 f), (co, aJ K 120 g), (h2, .inr (1, [.ref ca2, .ref co2, .int (nI O9.length)])), (ca2, aI K 120 f2), (co2, aJ K 120 g2), (ro, aJ K 10 gr)] (fun v9 w9 => v9 = none ∧ ∃ (g3 gr1 : Nat → Int64), (∀ j, j < O9.length → g3 j = en (lm_tr w lay (O9.getD j (0, 0, 0)).2)) ∧ (∀ r, r < 10 → gr1 r = en (lm_tr w lay (rt r))) ∧ w9 = [(k, .inr (0, [.ref l0, .ref il, .ref ir, .ref np, .int mn])), (np, aI K 120 fn), (h, .inr (1, [.ref ca, .ref co, .int t])), (ca, aI K 120 f), (co, aJ K 120 g), (h2, .inr (1, [.ref ca2, .ref co2, .int (nI O9.length)])), (ca2, aI K 120 f2), (co2, aJ K 120 g3), (ro, aJ K 10 gr1)]) := by
  refine lx_met RX0 pn_X0 rfl (Nat.le_of_ble_eq_true rfl) (fun E hE hnm F hR => ?_)
  have F : lx_F K 5 E cX0_tellNewPlaces RX0 none (rk 3) := F
  show lx_W K 5 E 0 0 0 [(0, .ref k), (1, .ref h), (2, .ref h2), (3, .ref ro)] [] [(k, .inr (0, [.ref l0, .ref il, .ref ir, .ref np, .int mn])), (np, aI K 120 fn), (h, .inr (1, [.ref ca, .ref co, .int t])), (ca, aI K 120 f), (co, aJ K 120 g), (h2, .inr (1, [.ref ca2, .ref co2, .int (nI O9.length)])), (ca2, aI K 120 f2), (co2, aJ K 120 g2), (ro, aJ K 10 gr)]
  have hu := hw.1
  refine lx_iconst F dX0_tellNewPlaces_0 kc_0 ?_
  refine lx_istore F [(0, .ref k), (1, .ref h), (2, .ref h2), (3, .ref ro), (4, .int (nI 0))] [1, 2, 3, 4, 0] dX0_tellNewPlaces_1 rfl (by decide) ?_
  have loop2 : ∀ (n9 : Nat) (i : Nat) (gr1 : Nat → Int64) (g4 : Nat → Int64), i + n9 = 10 → (∀ r, r < i → gr1 r = en (lm_tr w lay (rt r))) → (∀ r, i ≤ r → r < 10 → gr1 r = en (rt r)) → (∀ j, j < O9.length → g4 j = en (lm_tr w lay (O9.getD j (0, 0, 0)).2)) → lx_W K 5 E 0 0 38 [(0, .ref k), (1, .ref h), (2, .ref h2), (3, .ref ro), (4, .int (nI i))] [] [(k, .inr (0, [.ref l0, .ref il, .ref ir, .ref np, .int mn])), (np, aI K 120 fn), (h, .inr (1, [.ref ca, .ref co, .int t])), (ca, aI K 120 f), (co, aJ K 120 g), (h2, .inr (1, [.ref ca2, .ref co2, .int (nI O9.length)])), (ca2, aI K 120 f2), (co2, aJ K 120 g4), (ro, aJ K 10 gr1)] := by
    intro n9
    induction n9 with
    | zero =>
      intro i gr1 g4 hi ha hb hg4
      refine lx_iload F dX0_tellNewPlaces_38 4 rfl ?_
      refine lx_aload_n F dX0_tellNewPlaces_40 3 rfl ?_
      refine lx_alenJ F 8 dX0_tellNewPlaces_41 rfl ?_
      refine lx_icmpN_ge F 64 (by omega) (by omega) dX0_tellNewPlaces_42 rfl (fun _ => ?_) (fun h => absurd h (by omega))
      exact lx_vret F hR dX0_tellNewPlaces_64 ⟨rfl, g4, gr1, hg4, fun r hr9 => ha r (by omega), rfl⟩
    | succ n9 ih =>
      intro i gr1 g4 hi ha hb hg4
      refine lx_iload F dX0_tellNewPlaces_38 4 rfl ?_
      refine lx_aload_n F dX0_tellNewPlaces_40 3 rfl ?_
      refine lx_alenJ F 8 dX0_tellNewPlaces_41 rfl ?_
      refine lx_icmpN_ge F 64 (by omega) (by omega) dX0_tellNewPlaces_42 rfl (fun h => absurd h (by omega)) (fun _ => ?_)
      refine lx_aload_n F dX0_tellNewPlaces_45 3 rfl ?_
      refine lx_iload F dX0_tellNewPlaces_46 4 rfl ?_
      refine lx_aload_n F dX0_tellNewPlaces_48 0 rfl ?_
      refine lx_aload_n F dX0_tellNewPlaces_49 1 rfl ?_
      refine lx_aload_n F dX0_tellNewPlaces_50 3 rfl ?_
      refine lx_iload F dX0_tellNewPlaces_51 4 rfl ?_
      refine lx_lald F 8 i dX0_tellNewPlaces_53 rfl (by omega) (by decide) ?_
      rw [hb i (by omega) (by omega)]
      refine lx_cv F (zk_inNewHalf (xl E) K k l0 il ir np mn fn h ca co f g t c w u hw hh lay hfn (rt i) (hr i (by omega)) (hrl i (by omega))) cv_X0_69 0 rfl rfl [0, 1, 2, 3, 4] [5, 6, 7, 8] [(h2, .inr (1, [.ref ca2, .ref co2, .int (nI O9.length)])), (ca2, aI K 120 f2), (co2, aJ K 120 g4), (ro, aJ K 10 gr1)] rfl rfl (by decide) rfl (st := [.int (nI i), .ref ro]) rfl (Nat.le_of_ble_eq_true rfl) (by decide) ⟨by decide, by decide⟩ dX0_tellNewPlaces_54 (fun v9 w9 h9 => ?_)
      obtain ⟨rfl, rfl⟩ := h9
      refine lx_perm [4, 5, 6, 7, 8, 0, 1, 2, 3] [(k, .inr (0, [.ref l0, .ref il, .ref ir, .ref np, .int mn])), (np, aI K 120 fn), (h, .inr (1, [.ref ca, .ref co, .int t])), (ca, aI K 120 f), (co, aJ K 120 g), (h2, .inr (1, [.ref ca2, .ref co2, .int (nI O9.length)])), (ca2, aI K 120 f2), (co2, aJ K 120 g4), (ro, aJ K 10 gr1)] (by decide) rfl ?_
      refine lx_st (a' := 0) (b' := 0) [.long (en (lm_tr w lay (rt i))), .int (nI i), .ref ro] rfl rfl rfl ?_
      refine lx_last F 8 i [(k, .inr (0, [.ref l0, .ref il, .ref ir, .ref np, .int mn])), (np, aI K 120 fn), (h, .inr (1, [.ref ca, .ref co, .int t])), (ca, aI K 120 f), (co, aJ K 120 g), (h2, .inr (1, [.ref ca2, .ref co2, .int (nI O9.length)])), (ca2, aI K 120 f2), (co2, aJ K 120 g4), (ro, aJ K 10 (lm_up gr1 i (en (lm_tr w lay (rt i)))))] dX0_tellNewPlaces_57 rfl (by omega) (by decide) rfl ?_
      refine lx_iinc F [(0, .ref k), (1, .ref h), (2, .ref h2), (3, .ref ro), (4, .int (nI (i + 1)))] 4 [1, 2, 3, 4, 0] dX0_tellNewPlaces_58 rfl (k_inc _) rfl (by decide) ?_
      refine lx_goto F 38 dX0_tellNewPlaces_61 rfl ?_
      exact ih (i + 1) _ g4 (by omega) (lm_up_lt ha) (fun r h1 h2 => by rw [lm_up_ne (by omega)]; exact hb r (by omega) h2) hg4
  have loop1 : ∀ (n9 : Nat) (i : Nat) (g3 : Nat → Int64), i + n9 = O9.length → (∀ j, j < i → g3 j = en (lm_tr w lay (O9.getD j (0, 0, 0)).2)) → (∀ j, i ≤ j → j < O9.length → g3 j = en (O9.getD j (0, 0, 0)).2) → lx_W K 5 E 0 0 3 [(0, .ref k), (1, .ref h), (2, .ref h2), (3, .ref ro), (4, .int (nI i))] [] [(k, .inr (0, [.ref l0, .ref il, .ref ir, .ref np, .int mn])), (np, aI K 120 fn), (h, .inr (1, [.ref ca, .ref co, .int t])), (ca, aI K 120 f), (co, aJ K 120 g), (h2, .inr (1, [.ref ca2, .ref co2, .int (nI O9.length)])), (ca2, aI K 120 f2), (co2, aJ K 120 g3), (ro, aJ K 10 gr)] := by
    intro n9
    induction n9 with
    | zero =>
      intro i g3 hi ha hb
      refine lx_iload F dX0_tellNewPlaces_3 4 rfl ?_
      refine lx_aload_n F dX0_tellNewPlaces_5 2 rfl ?_
      refine gf_X0_58 F 5 rfl rfl dX0_tellNewPlaces_6 ?_
      refine lx_icmpN_ge F 35 (by omega) (by omega) dX0_tellNewPlaces_9 rfl (fun _ => ?_) (fun h => absurd h (by omega))
      refine lx_iconst F dX0_tellNewPlaces_35 kc_0 ?_
      refine lx_istore F [(0, .ref k), (1, .ref h), (2, .ref h2), (3, .ref ro), (4, .int (nI 0))] [1, 2, 3, 4, 0] dX0_tellNewPlaces_36 rfl (by decide) ?_
      exact loop2 10 0 gr g3 (by omega) (fun r hr9 => absurd hr9 (by omega)) (fun r _ h9 => hro r h9) (fun j hj => ha j (by omega))
    | succ n9 ih =>
      intro i g3 hi ha hb
      refine lx_iload F dX0_tellNewPlaces_3 4 rfl ?_
      refine lx_aload_n F dX0_tellNewPlaces_5 2 rfl ?_
      refine gf_X0_58 F 5 rfl rfl dX0_tellNewPlaces_6 ?_
      refine lx_icmpN_ge F 35 (by omega) (by omega) dX0_tellNewPlaces_9 rfl (fun h => absurd h (by omega)) (fun _ => ?_)
      refine lx_aload_n F dX0_tellNewPlaces_12 2 rfl ?_
      refine lx_iload F dX0_tellNewPlaces_13 4 rfl ?_
      refine lx_aload_n F dX0_tellNewPlaces_15 0 rfl ?_
      refine lx_aload_n F dX0_tellNewPlaces_16 1 rfl ?_
      refine lx_aload_n F dX0_tellNewPlaces_17 2 rfl ?_
      refine lx_iload F dX0_tellNewPlaces_18 4 rfl ?_
      have hio : i < O9.length := by omega
      refine lx_cv F (zh_contentAt (xl E) K h2 ca2 co2 f2 g3 (nI O9.length) i (by omega) (en (O9.getD i (0, 0, 0)).2) (hb i (by omega) hio)) cv_X0_44 5 rfl rfl [5, 6, 7] [0, 1, 2, 3, 4, 8] [(k, .inr (0, [.ref l0, .ref il, .ref ir, .ref np, .int mn])), (np, aI K 120 fn), (h, .inr (1, [.ref ca, .ref co, .int t])), (ca, aI K 120 f), (co, aJ K 120 g), (ro, aJ K 10 gr)] rfl rfl (by decide) rfl (st := [.ref h, .ref k, .int (nI i), .ref h2]) rfl (Nat.le_of_ble_eq_true rfl) (by decide) ⟨by decide, by decide⟩ dX0_tellNewPlaces_20 (fun v9 w9 h9 => ?_)
      obtain ⟨rfl, rfl⟩ := h9
      refine lx_perm [0, 1, 2, 3, 4, 6, 7, 8, 5] [(k, .inr (0, [.ref l0, .ref il, .ref ir, .ref np, .int mn])), (np, aI K 120 fn), (h, .inr (1, [.ref ca, .ref co, .int t])), (ca, aI K 120 f), (co, aJ K 120 g), (h2, .inr (1, [.ref ca2, .ref co2, .int (nI O9.length)])), (ca2, aI K 120 f2), (co2, aJ K 120 g3), (ro, aJ K 10 gr)] (by decide) rfl ?_
      refine lx_st (a' := 0) (b' := 0) [.long (en ((O9.getD i (0, 0, 0)).2)), .ref h, .ref k, .int (nI i), .ref h2] rfl rfl rfl ?_
      refine lx_cv F (zk_inNewHalf (xl E) K k l0 il ir np mn fn h ca co f g t c w u hw hh lay hfn (O9.getD i (0, 0, 0)).2 (hvo i hio) (hvl i hio)) cv_X0_69 0 rfl rfl [0, 1, 2, 3, 4] [5, 6, 7, 8] [(h2, .inr (1, [.ref ca2, .ref co2, .int (nI O9.length)])), (ca2, aI K 120 f2), (co2, aJ K 120 g3), (ro, aJ K 10 gr)] rfl rfl (by decide) rfl (st := [.int (nI i), .ref h2]) rfl (Nat.le_of_ble_eq_true rfl) (by decide) ⟨by decide, by decide⟩ dX0_tellNewPlaces_23 (fun v9 w9 h9 => ?_)
      obtain ⟨rfl, rfl⟩ := h9
      refine lx_perm [4, 5, 6, 7, 8, 0, 1, 2, 3] [(k, .inr (0, [.ref l0, .ref il, .ref ir, .ref np, .int mn])), (np, aI K 120 fn), (h, .inr (1, [.ref ca, .ref co, .int t])), (ca, aI K 120 f), (co, aJ K 120 g), (h2, .inr (1, [.ref ca2, .ref co2, .int (nI O9.length)])), (ca2, aI K 120 f2), (co2, aJ K 120 g3), (ro, aJ K 10 gr)] (by decide) rfl ?_
      refine lx_st (a' := 0) (b' := 0) [.long (en (lm_tr w lay (O9.getD i (0, 0, 0)).2)), .int (nI i), .ref h2] rfl rfl rfl ?_
      refine lx_cv F (zh_setContent (xl E) K h2 ca2 co2 f2 g3 (nI O9.length) i (by omega) (en (lm_tr w lay (O9.getD i (0, 0, 0)).2))) cv_X0_73 5 rfl rfl [5, 6, 7] [0, 1, 2, 3, 4, 8] [(k, .inr (0, [.ref l0, .ref il, .ref ir, .ref np, .int mn])), (np, aI K 120 fn), (h, .inr (1, [.ref ca, .ref co, .int t])), (ca, aI K 120 f), (co, aJ K 120 g), (ro, aJ K 10 gr)] rfl rfl (by decide) rfl (st := []) rfl (Nat.le_of_ble_eq_true rfl) (by decide) ⟨by decide, by decide⟩ dX0_tellNewPlaces_26 (fun v9 w9 h9 => ?_)
      obtain ⟨rfl, rfl⟩ := h9
      refine lx_perm [0, 1, 2, 3, 4, 6, 7, 8, 5] [(k, .inr (0, [.ref l0, .ref il, .ref ir, .ref np, .int mn])), (np, aI K 120 fn), (h, .inr (1, [.ref ca, .ref co, .int t])), (ca, aI K 120 f), (co, aJ K 120 g), (h2, .inr (1, [.ref ca2, .ref co2, .int (nI O9.length)])), (ca2, aI K 120 f2), (co2, aJ K 120 (lm_up g3 i (en (lm_tr w lay (O9.getD i (0, 0, 0)).2)))), (ro, aJ K 10 gr)] (by decide) rfl ?_
      refine lx_st (a' := 0) (b' := 0) [] rfl rfl rfl ?_
      refine lx_iinc F [(0, .ref k), (1, .ref h), (2, .ref h2), (3, .ref ro), (4, .int (nI (i + 1)))] 4 [1, 2, 3, 4, 0] dX0_tellNewPlaces_29 rfl (k_inc _) rfl (by decide) ?_
      refine lx_goto F 3 dX0_tellNewPlaces_32 rfl ?_
      exact ih (i + 1) _ (by omega) (lm_up_lt ha) (fun j h1 h2 => by rw [lm_up_ne (by omega)]; exact hb j (by omega) h2)
  exact loop1 O9.length 0 g2 (by omega) (fun j hj => absurd hj (by omega)) (fun j _ hj => hg2 j hj)
