set_option maxHeartbeats 4000000 in
set_option maxRecDepth 100000 in
theorem zl_takeFirsts (l : Launch) (K : lm_G) (x ro k mt cn h2 : Nat) (z : Int32) (h ca co : Nat) (f : Nat → Int32) (g : Nat → Int64) (c : Nat → Nat) (w : Nat → lm_V) (u : Nat) (hw : lm_wf c w u) (hh : lm_hf f g c w u) (v0 : lm_V) (hv0 : lm_ok c u v0) (many : Nat) (hmany : many ≤ 120) (hL : lm_isL c w many v0) (ed : lm_V) (hend : lm_ok c u ed) (hroom : u + (lm_apM c w many v0 ed).length ≤ 120) : lm_C l K mX3_takeFirsts (rk 2) [.ref x, .long (en v0), .int (nI many), .long (en ed)] [(x, .inr (3, [.ref ro, .ref k, .ref mt, .ref cn, .ref h, .ref h2, .int z])), (h, .inr (1, [.ref ca, .ref co, .int (nI u)])), (ca, aI K 120 f), (co, aJ K 120 g)] (fun v9 w9 => v9 = none ∧ ∃ (f1 : Nat → Int32) (g1 : Nat → Int64), lm_hf f1 g1 (lm_ac c u (lm_apM c w many v0 ed)) (lm_aw w u (lm_apM c w many v0 ed)) (u + (lm_apM c w many v0 ed).length) ∧ w9 = [(x, .inr (3, [.ref ro, .ref k, .ref mt, .ref cn, .ref h, .ref h2, .int z])), (h, .inr (1, [.ref ca, .ref co, .int (nI (u + (lm_apM c w many v0 ed).length))])), (ca, aI K 120 f1), (co, aJ K 120 g1)]) := by
  refine lx_met RX3 pn_X3 rfl (Nat.le_of_ble_eq_true rfl) (fun E hE hnm F hR => ?_)
  have F : lx_F K 13 E cX3_takeFirsts RX3 none (rk 2) := F
  show lx_W K 13 E 0 0 0 [(0, .ref x), (1, .long (en v0)), (3, .int (nI many)), (4, .long (en ed))] [] [(x, .inr (3, [.ref ro, .ref k, .ref mt, .ref cn, .ref h, .ref h2, .int z])), (h, .inr (1, [.ref ca, .ref co, .int (nI u)])), (ca, aI K 120 f), (co, aJ K 120 g)]
  have hu := hw.1
  have he3 := lm_ok_kind hend
  have loop : ∀ (n9 : Nat) (i : Nat) (v : lm_V) (Md : lm_O) (f1 : Nat → Int32) (g1 : Nat → Int64) (e1 : Nat), i + n9 = many → e1 = (if ed.1 = 0 then 1 else 0) → lm_isL c w n9 v → lm_ok c u v → Md ++ lm_apM c w n9 v ed = lm_apM c w many v0 ed → Md.length = i → lm_hf f1 g1 (lm_ac c u Md) (lm_aw w u Md) (u + i) → lx_W K 13 E 0 0 21 [(0, .ref x), (1, .long (en v0)), (3, .int (nI many)), (4, .long (en ed)), (6, .int (nI e1)), (7, .long (en v)), (9, .int (nI i))] [] [(x, .inr (3, [.ref ro, .ref k, .ref mt, .ref cn, .ref h, .ref h2, .int z])), (h, .inr (1, [.ref ca, .ref co, .int (nI (u + i))])), (ca, aI K 120 f1), (co, aJ K 120 g1)] := by
    intro n9
    induction n9 with
    | zero =>
      intro i v Md f1 g1 e1 hi he1 hisL hv hM hMi hh1
      have hM0 : Md = lm_apM c w many v0 ed := by rw [← hM]; simp [lm_apM]
      refine lx_iload F dX3_takeFirsts_21 6 rfl ?_
      refine lx_iload_n F dX3_takeFirsts_23 2 rfl ?_
      refine lx_icmpN_ge F 119 (by omega) (by omega) dX3_takeFirsts_24 rfl (fun _ => ?_) (fun h => absurd h (by omega))
      exact lx_vret F hR dX3_takeFirsts_119 ⟨rfl, _, _, by rw [← hM0]; exact (by rw [hMi]; exact hh1), by rw [← hM0, hMi]⟩
    | succ n9 ih =>
      intro i v Md f1 g1 e1 hi he1 hisL hv hM hMi hh1
      have h2e := hisL.1
      have hcv := lm_to_cl hw hv h2e
      have hx : lm_to w v < 120 := Nat.lt_of_lt_of_le hcv.1 hu
      have hlow := lm_hf_low hh1
      have htot : (lm_apM c w many v0 ed).length = i + (lm_apM c w (n9 + 1) v ed).length := by rw [← hM, List.length_append, hMi]
      have hpos := lm_apM_pos c w n9 v ed
      refine lx_iload F dX3_takeFirsts_21 6 rfl ?_
      refine lx_iload_n F dX3_takeFirsts_23 2 rfl ?_
      refine lx_icmpN_ge F 119 (by omega) (by omega) dX3_takeFirsts_24 rfl (fun h => absurd h (by omega)) (fun _ => ?_)
      refine lx_aload_n F dX3_takeFirsts_27 0 rfl ?_
      refine gf_X3_34 F 0 rfl rfl dX3_takeFirsts_28 ?_
      refine lx_lload F dX3_takeFirsts_31 5 rfl ?_
      refine lx_cv F (zh_cellOf (xl E) K h ca co f1 g1 (nI (u + i)) c w u hw hlow v hv h2e) cv_X3_87 1 rfl rfl [1, 2, 3] [0] [(x, .inr (3, [.ref ro, .ref k, .ref mt, .ref cn, .ref h, .ref h2, .int z]))] rfl rfl (by decide) rfl (st := []) rfl (Nat.le_of_ble_eq_true rfl) (by decide) ⟨by decide, by decide⟩ dX3_takeFirsts_33 (fun v9 w9 h9 => ?_)
      obtain ⟨rfl, rfl⟩ := h9
      refine lx_perm [0, 1, 2, 3] [(x, .inr (3, [.ref ro, .ref k, .ref mt, .ref cn, .ref h, .ref h2, .int z])), (h, .inr (1, [.ref ca, .ref co, .int (nI (u + i))])), (ca, aI K 120 f1), (co, aJ K 120 g1)] (by decide) rfl ?_
      refine lx_st (a' := 0) (b' := 0) [.int (nI (lm_to w v))] rfl rfl rfl ?_
      refine lx_istore F [(0, .ref x), (1, .long (en v0)), (3, .int (nI many)), (4, .long (en ed)), (6, .int (nI e1)), (7, .long (en v)), (9, .int (nI i)), (10, .int (nI (lm_to w v)))] [1, 2, 3, 4, 5, 6, 7, 0] dX3_takeFirsts_36 rfl (by decide) ?_
      refine lx_aload_n F dX3_takeFirsts_38 0 rfl ?_
      refine gf_X3_34 F 0 rfl rfl dX3_takeFirsts_39 ?_
      refine lx_iload F dX3_takeFirsts_42 7 rfl ?_
      refine lx_cv F (zh_contentAt (xl E) K h ca co f1 g1 (nI (u + i)) (lm_to w v) hx (en (w (lm_to w v))) (hlow _ hcv.1).2) cv_X3_91 1 rfl rfl [1, 2, 3] [0] [(x, .inr (3, [.ref ro, .ref k, .ref mt, .ref cn, .ref h, .ref h2, .int z]))] rfl rfl (by decide) rfl (st := []) rfl (Nat.le_of_ble_eq_true rfl) (by decide) ⟨by decide, by decide⟩ dX3_takeFirsts_44 (fun v9 w9 h9 => ?_)
      obtain ⟨rfl, rfl⟩ := h9
      refine lx_perm [0, 1, 2, 3] [(x, .inr (3, [.ref ro, .ref k, .ref mt, .ref cn, .ref h, .ref h2, .int z])), (h, .inr (1, [.ref ca, .ref co, .int (nI (u + i))])), (ca, aI K 120 f1), (co, aJ K 120 g1)] (by decide) rfl ?_
      refine lx_st (a' := 0) (b' := 0) [.long (en (w (lm_to w v)))] rfl rfl rfl ?_
      refine lx_lstore F [(0, .ref x), (1, .long (en v0)), (3, .int (nI many)), (4, .long (en ed)), (6, .int (nI e1)), (7, .long (en v)), (9, .int (nI i)), (10, .int (nI (lm_to w v))), (11, .long (en (w (lm_to w v))))] [1, 2, 3, 4, 5, 6, 7, 8, 0] dX3_takeFirsts_47 rfl (by decide) ?_
      by_cases hlast : n9 = 0
      · skip
        subst hlast
        refine lx_iload F dX3_takeFirsts_49 6 rfl ?_
        refine lx_iload_n F dX3_takeFirsts_51 2 rfl ?_
        refine lx_iconst F dX3_takeFirsts_52 kc_1 ?_
        refine lx_isub F dX3_takeFirsts_53 (pk_sub (by omega)) ?_
        refine lx_icmpN_ge F 71 (by omega) (by omega) dX3_takeFirsts_54 rfl (fun _ => ?_) (fun h => absurd h (by omega))
        by_cases hnil : ed.1 = 0
        · skip
          have he9 := he1
          rw [if_pos hnil] at he1
          have hA := lm_apM_1n (c := c) (w := w) (v := v) hnil
          rw [hA] at hM htot
          have hh2 := lm_hf_app (k := 1) (x := w (lm_to w v)) hh1 hMi
          have htot2 : (lm_apM c w many v0 ed).length = i + 1 := htot
          refine lx_iload F dX3_takeFirsts_71 4 rfl ?_
          refine lx_ifN_eq F 90 (by omega) dX3_takeFirsts_73 rfl (fun h => absurd h (by omega)) (fun _ => ?_)
          refine lx_aload_n F dX3_takeFirsts_76 0 rfl ?_
          refine gf_X3_34 F 0 rfl rfl dX3_takeFirsts_77 ?_
          refine lx_iconst F dX3_takeFirsts_80 kc_1 ?_
          refine lx_lload F dX3_takeFirsts_81 8 rfl ?_
          refine lx_cv F (zh_take (xl E) K h ca co f1 g1 (u + i) (by omega) (nI 1) (en (w (lm_to w v)))) cv_X3_80 1 rfl rfl [1, 2, 3] [0] [(x, .inr (3, [.ref ro, .ref k, .ref mt, .ref cn, .ref h, .ref h2, .int z]))] rfl rfl (by decide) rfl (st := []) rfl (Nat.le_of_ble_eq_true rfl) (by decide) ⟨by decide, by decide⟩ dX3_takeFirsts_83 (fun v9 w9 h9 => ?_)
          obtain ⟨rfl, rfl⟩ := h9
          refine lx_perm [0, 1, 2, 3] [(x, .inr (3, [.ref ro, .ref k, .ref mt, .ref cn, .ref h, .ref h2, .int z])), (h, .inr (1, [.ref ca, .ref co, .int (nI (u + i + 1))])), (ca, aI K 120 (lm_up f1 (u + i) (nI 1))), (co, aJ K 120 (lm_up g1 (u + i) (en (w (lm_to w v)))))] (by decide) rfl ?_
          refine lx_st (a' := 0) (b' := 0) [.int (nI (u + i))] rfl rfl rfl ?_
          refine lx_pop F dX3_takeFirsts_86 rfl ?_
          refine lx_goto F 102 dX3_takeFirsts_87 rfl ?_
          refine lx_aload_n F dX3_takeFirsts_102 0 rfl ?_
          refine gf_X3_34 F 0 rfl rfl dX3_takeFirsts_103 ?_
          refine lx_iload F dX3_takeFirsts_106 7 rfl ?_
          refine lx_cv F (zh_restOf (xl E) K h ca co (lm_up f1 (u + i) (nI 1)) (lm_up g1 (u + i) (en (w (lm_to w v)))) (nI (u + i + 1)) c w u hw (lm_hf_le hh2 (by omega)) (lm_to w v) hcv) cv_X3_95 1 rfl rfl [1, 2, 3] [0] [(x, .inr (3, [.ref ro, .ref k, .ref mt, .ref cn, .ref h, .ref h2, .int z]))] rfl rfl (by decide) rfl (st := []) rfl (Nat.le_of_ble_eq_true rfl) (by decide) ⟨by decide, by decide⟩ dX3_takeFirsts_108 (fun v9 w9 h9 => ?_)
          obtain ⟨rfl, rfl⟩ := h9
          refine lx_perm [0, 1, 2, 3] [(x, .inr (3, [.ref ro, .ref k, .ref mt, .ref cn, .ref h, .ref h2, .int z])), (h, .inr (1, [.ref ca, .ref co, .int (nI (u + i + 1))])), (ca, aI K 120 (lm_up f1 (u + i) (nI 1))), (co, aJ K 120 (lm_up g1 (u + i) (en (w (lm_to w v)))))] (by decide) rfl ?_
          refine lx_st (a' := 0) (b' := 0) [.long (en (lm_rest c w (lm_to w v)))] rfl rfl rfl ?_
          refine lx_lstore F [(0, .ref x), (1, .long (en v0)), (3, .int (nI many)), (4, .long (en ed)), (6, .int (nI e1)), (7, .long (en (lm_rest c w (lm_to w v)))), (9, .int (nI i)), (10, .int (nI (lm_to w v))), (11, .long (en (w (lm_to w v))))] [1, 2, 3, 4, 5, 0, 6, 7, 8] dX3_takeFirsts_111 rfl (by decide) ?_
          refine lx_iinc F [(0, .ref x), (1, .long (en v0)), (3, .int (nI many)), (4, .long (en ed)), (6, .int (nI e1)), (7, .long (en (lm_rest c w (lm_to w v)))), (9, .int (nI (i + 1))), (10, .int (nI (lm_to w v))), (11, .long (en (w (lm_to w v))))] 6 [1, 2, 3, 4, 5, 6, 0, 7, 8] dX3_takeFirsts_113 rfl (k_inc _) rfl (by decide) ?_
          refine lx_goto F 21 dX3_takeFirsts_116 rfl ?_
          refine lx_lv [0, 1, 2, 3, 4, 5, 6] [(0, .ref x), (1, .long (en v0)), (3, .int (nI many)), (4, .long (en ed)), (6, .int (nI e1)), (7, .long (en (lm_rest c w (lm_to w v)))), (9, .int (nI (i + 1)))] rfl ?_
          exact ih (i + 1) _ (Md ++ [(1, w (lm_to w v))]) _ _ e1 (by omega) he9 trivial (lm_rest_ok hw hcv) (by rw [hM]; simp [lm_apM]) (by simp [hMi]) hh2
        · skip
          have he9 := he1
          rw [if_neg hnil] at he1
          have hA := lm_apM_1p (c := c) (w := w) (v := v) hnil
          rw [hA] at hM htot
          have hh2 := lm_hf_app2 (k := 2) (k2 := 3) (x := w (lm_to w v)) (x2 := ed) hh1 hMi
          have htot2 : (lm_apM c w many v0 ed).length = i + 2 := htot
          refine lx_iload F dX3_takeFirsts_71 4 rfl ?_
          refine lx_ifN_eq F 90 (by omega) dX3_takeFirsts_73 rfl (fun _ => ?_) (fun h => absurd h (by omega))
          refine lx_aload_n F dX3_takeFirsts_90 0 rfl ?_
          refine gf_X3_34 F 0 rfl rfl dX3_takeFirsts_91 ?_
          refine lx_lload F dX3_takeFirsts_94 8 rfl ?_
          refine lx_lload F dX3_takeFirsts_96 3 rfl ?_
          refine lx_cv F (zh_takeTwo (xl E) K h ca co f1 g1 (u + i) (by omega) (en (w (lm_to w v))) (en ed)) cv_X3_71 1 rfl rfl [1, 2, 3] [0] [(x, .inr (3, [.ref ro, .ref k, .ref mt, .ref cn, .ref h, .ref h2, .int z]))] rfl rfl (by decide) rfl (st := []) rfl (Nat.le_of_ble_eq_true rfl) (by decide) ⟨by decide, by decide⟩ dX3_takeFirsts_98 (fun v9 w9 h9 => ?_)
          obtain ⟨rfl, rfl⟩ := h9
          refine lx_perm [0, 1, 2, 3] [(x, .inr (3, [.ref ro, .ref k, .ref mt, .ref cn, .ref h, .ref h2, .int z])), (h, .inr (1, [.ref ca, .ref co, .int (nI (u + i + 1 + 1))])), (ca, aI K 120 (lm_up (lm_up f1 (u + i) (nI 2)) (u + i + 1) (nI 3))), (co, aJ K 120 (lm_up (lm_up g1 (u + i) (en (w (lm_to w v)))) (u + i + 1) (en ed)))] (by decide) rfl ?_
          refine lx_st (a' := 0) (b' := 0) [.int (nI (u + i))] rfl rfl rfl ?_
          refine lx_pop F dX3_takeFirsts_101 rfl ?_
          refine lx_aload_n F dX3_takeFirsts_102 0 rfl ?_
          refine gf_X3_34 F 0 rfl rfl dX3_takeFirsts_103 ?_
          refine lx_iload F dX3_takeFirsts_106 7 rfl ?_
          refine lx_cv F (zh_restOf (xl E) K h ca co (lm_up (lm_up f1 (u + i) (nI 2)) (u + i + 1) (nI 3)) (lm_up (lm_up g1 (u + i) (en (w (lm_to w v)))) (u + i + 1) (en ed)) (nI (u + i + 1 + 1)) c w u hw (lm_hf_le hh2 (by omega)) (lm_to w v) hcv) cv_X3_95 1 rfl rfl [1, 2, 3] [0] [(x, .inr (3, [.ref ro, .ref k, .ref mt, .ref cn, .ref h, .ref h2, .int z]))] rfl rfl (by decide) rfl (st := []) rfl (Nat.le_of_ble_eq_true rfl) (by decide) ⟨by decide, by decide⟩ dX3_takeFirsts_108 (fun v9 w9 h9 => ?_)
          obtain ⟨rfl, rfl⟩ := h9
          refine lx_perm [0, 1, 2, 3] [(x, .inr (3, [.ref ro, .ref k, .ref mt, .ref cn, .ref h, .ref h2, .int z])), (h, .inr (1, [.ref ca, .ref co, .int (nI (u + i + 1 + 1))])), (ca, aI K 120 (lm_up (lm_up f1 (u + i) (nI 2)) (u + i + 1) (nI 3))), (co, aJ K 120 (lm_up (lm_up g1 (u + i) (en (w (lm_to w v)))) (u + i + 1) (en ed)))] (by decide) rfl ?_
          refine lx_st (a' := 0) (b' := 0) [.long (en (lm_rest c w (lm_to w v)))] rfl rfl rfl ?_
          refine lx_lstore F [(0, .ref x), (1, .long (en v0)), (3, .int (nI many)), (4, .long (en ed)), (6, .int (nI e1)), (7, .long (en (lm_rest c w (lm_to w v)))), (9, .int (nI i)), (10, .int (nI (lm_to w v))), (11, .long (en (w (lm_to w v))))] [1, 2, 3, 4, 5, 0, 6, 7, 8] dX3_takeFirsts_111 rfl (by decide) ?_
          refine lx_iinc F [(0, .ref x), (1, .long (en v0)), (3, .int (nI many)), (4, .long (en ed)), (6, .int (nI e1)), (7, .long (en (lm_rest c w (lm_to w v)))), (9, .int (nI (i + 1))), (10, .int (nI (lm_to w v))), (11, .long (en (w (lm_to w v))))] 6 [1, 2, 3, 4, 5, 6, 0, 7, 8] dX3_takeFirsts_113 rfl (k_inc _) rfl (by decide) ?_
          refine lx_goto F 21 dX3_takeFirsts_116 rfl ?_
          refine lx_lv [0, 1, 2, 3, 4, 5, 6] [(0, .ref x), (1, .long (en v0)), (3, .int (nI many)), (4, .long (en ed)), (6, .int (nI e1)), (7, .long (en (lm_rest c w (lm_to w v)))), (9, .int (nI (i + 1)))] rfl ?_
          have hlen9 : u + (lm_apM c w many v0 ed).length = u + i + 1 + 1 := by rw [← hM, List.length_append, hMi]; rfl
          refine lx_iload F dX3_takeFirsts_21 6 rfl ?_
          refine lx_iload_n F dX3_takeFirsts_23 2 rfl ?_
          refine lx_icmpN_ge F 119 (by omega) (by omega) dX3_takeFirsts_24 rfl (fun _ => ?_) (fun h => absurd h (by omega))
          exact lx_vret F hR dX3_takeFirsts_119 ⟨rfl, _, _, by rw [hlen9, ← hM]; exact hh2, by rw [hlen9]⟩
      · skip
        obtain ⟨n8, rfl⟩ : ∃ n8, n9 = n8 + 1 := ⟨n9 - 1, by omega⟩
        have hA := lm_apM_2 (c := c) (w := w) (n := n8) (v := v) (ed := ed)
        rw [hA] at hM htot
        have hh2 := lm_hf_app (k := 0) (x := w (lm_to w v)) hh1 hMi
        have htot2 : (lm_apM c w many v0 ed).length = i + 1 + (lm_apM c w (n8 + 1) (lm_rest c w (lm_to w v)) ed).length := by rw [htot]; simp; omega
        refine lx_iload F dX3_takeFirsts_49 6 rfl ?_
        refine lx_iload_n F dX3_takeFirsts_51 2 rfl ?_
        refine lx_iconst F dX3_takeFirsts_52 kc_1 ?_
        refine lx_isub F dX3_takeFirsts_53 (pk_sub (by omega)) ?_
        refine lx_icmpN_ge F 71 (by omega) (by omega) dX3_takeFirsts_54 rfl (fun h => absurd h (by omega)) (fun _ => ?_)
        refine lx_aload_n F dX3_takeFirsts_57 0 rfl ?_
        refine gf_X3_34 F 0 rfl rfl dX3_takeFirsts_58 ?_
        refine lx_iconst F dX3_takeFirsts_61 kc_0 ?_
        refine lx_lload F dX3_takeFirsts_62 8 rfl ?_
        refine lx_cv F (zh_take (xl E) K h ca co f1 g1 (u + i) (by omega) (nI 0) (en (w (lm_to w v)))) cv_X3_80 1 rfl rfl [1, 2, 3] [0] [(x, .inr (3, [.ref ro, .ref k, .ref mt, .ref cn, .ref h, .ref h2, .int z]))] rfl rfl (by decide) rfl (st := []) rfl (Nat.le_of_ble_eq_true rfl) (by decide) ⟨by decide, by decide⟩ dX3_takeFirsts_64 (fun v9 w9 h9 => ?_)
        obtain ⟨rfl, rfl⟩ := h9
        refine lx_perm [0, 1, 2, 3] [(x, .inr (3, [.ref ro, .ref k, .ref mt, .ref cn, .ref h, .ref h2, .int z])), (h, .inr (1, [.ref ca, .ref co, .int (nI (u + i + 1))])), (ca, aI K 120 (lm_up f1 (u + i) (nI 0))), (co, aJ K 120 (lm_up g1 (u + i) (en (w (lm_to w v)))))] (by decide) rfl ?_
        refine lx_st (a' := 0) (b' := 0) [.int (nI (u + i))] rfl rfl rfl ?_
        refine lx_pop F dX3_takeFirsts_67 rfl ?_
        refine lx_goto F 102 dX3_takeFirsts_68 rfl ?_
        refine lx_aload_n F dX3_takeFirsts_102 0 rfl ?_
        refine gf_X3_34 F 0 rfl rfl dX3_takeFirsts_103 ?_
        refine lx_iload F dX3_takeFirsts_106 7 rfl ?_
        refine lx_cv F (zh_restOf (xl E) K h ca co (lm_up f1 (u + i) (nI 0)) (lm_up g1 (u + i) (en (w (lm_to w v)))) (nI (u + i + 1)) c w u hw (lm_hf_le hh2 (by omega)) (lm_to w v) hcv) cv_X3_95 1 rfl rfl [1, 2, 3] [0] [(x, .inr (3, [.ref ro, .ref k, .ref mt, .ref cn, .ref h, .ref h2, .int z]))] rfl rfl (by decide) rfl (st := []) rfl (Nat.le_of_ble_eq_true rfl) (by decide) ⟨by decide, by decide⟩ dX3_takeFirsts_108 (fun v9 w9 h9 => ?_)
        obtain ⟨rfl, rfl⟩ := h9
        refine lx_perm [0, 1, 2, 3] [(x, .inr (3, [.ref ro, .ref k, .ref mt, .ref cn, .ref h, .ref h2, .int z])), (h, .inr (1, [.ref ca, .ref co, .int (nI (u + i + 1))])), (ca, aI K 120 (lm_up f1 (u + i) (nI 0))), (co, aJ K 120 (lm_up g1 (u + i) (en (w (lm_to w v)))))] (by decide) rfl ?_
        refine lx_st (a' := 0) (b' := 0) [.long (en (lm_rest c w (lm_to w v)))] rfl rfl rfl ?_
        refine lx_lstore F [(0, .ref x), (1, .long (en v0)), (3, .int (nI many)), (4, .long (en ed)), (6, .int (nI e1)), (7, .long (en (lm_rest c w (lm_to w v)))), (9, .int (nI i)), (10, .int (nI (lm_to w v))), (11, .long (en (w (lm_to w v))))] [1, 2, 3, 4, 5, 0, 6, 7, 8] dX3_takeFirsts_111 rfl (by decide) ?_
        refine lx_iinc F [(0, .ref x), (1, .long (en v0)), (3, .int (nI many)), (4, .long (en ed)), (6, .int (nI e1)), (7, .long (en (lm_rest c w (lm_to w v)))), (9, .int (nI (i + 1))), (10, .int (nI (lm_to w v))), (11, .long (en (w (lm_to w v))))] 6 [1, 2, 3, 4, 5, 6, 0, 7, 8] dX3_takeFirsts_113 rfl (k_inc _) rfl (by decide) ?_
        refine lx_goto F 21 dX3_takeFirsts_116 rfl ?_
        refine lx_lv [0, 1, 2, 3, 4, 5, 6] [(0, .ref x), (1, .long (en v0)), (3, .int (nI many)), (4, .long (en ed)), (6, .int (nI e1)), (7, .long (en (lm_rest c w (lm_to w v)))), (9, .int (nI (i + 1)))] rfl ?_
        exact ih (i + 1) _ (Md ++ [(0, w (lm_to w v))]) _ _ e1 (by omega) he1 hisL.2 (lm_rest_ok hw hcv) (by rw [← hM]; simp) (by simp [hMi]) hh2
  refine lx_lload F dX3_takeFirsts_0 3 rfl ?_
  refine lx_cs F (zs_kindOf (xl E) K ed (by omega)) cs_X3_118 [] [0, 1, 2, 3] [(x, .inr (3, [.ref ro, .ref k, .ref mt, .ref cn, .ref h, .ref h2, .int z])), (h, .inr (1, [.ref ca, .ref co, .int (nI u)])), (ca, aI K 120 f), (co, aJ K 120 g)] rfl rfl (by decide) rfl (st := []) rfl (Nat.le_of_ble_eq_true rfl) (by decide) ⟨by decide, by decide⟩ dX3_takeFirsts_2 (fun v9 w9 h9 => ?_)
  obtain ⟨rfl, rfl⟩ := h9
  refine lx_perm [0, 1, 2, 3] [(x, .inr (3, [.ref ro, .ref k, .ref mt, .ref cn, .ref h, .ref h2, .int z])), (h, .inr (1, [.ref ca, .ref co, .int (nI u)])), (ca, aI K 120 f), (co, aJ K 120 g)] (by decide) rfl ?_
  refine lx_st (a' := 0) (b' := 0) [.int (nI ed.1)] rfl rfl rfl ?_
  refine lx_ifN_ne F 12 (by omega) dX3_takeFirsts_5 rfl (fun h0 => ?_) (fun h0 => ?_)
  · skip
    refine lx_iconst F dX3_takeFirsts_12 kc_0 ?_
    refine lx_istore F [(0, .ref x), (1, .long (en v0)), (3, .int (nI many)), (4, .long (en ed)), (6, .int (nI 0))] [1, 2, 3, 4, 0] dX3_takeFirsts_13 rfl (by decide) ?_
    refine lx_lload_n F dX3_takeFirsts_15 1 rfl ?_
    refine lx_lstore F [(0, .ref x), (1, .long (en v0)), (3, .int (nI many)), (4, .long (en ed)), (6, .int (nI 0)), (7, .long (en v0))] [1, 2, 3, 4, 5, 0] dX3_takeFirsts_16 rfl (by decide) ?_
    refine lx_iconst F dX3_takeFirsts_18 kc_0 ?_
    refine lx_istore F [(0, .ref x), (1, .long (en v0)), (3, .int (nI many)), (4, .long (en ed)), (6, .int (nI 0)), (7, .long (en v0)), (9, .int (nI 0))] [1, 2, 3, 4, 5, 6, 0] dX3_takeFirsts_19 rfl (by decide) ?_
    exact loop many 0 v0 [] f g 0 (by omega) (if_neg h0).symm hL hv0 rfl rfl (lm_hf_0 hh)
  · skip
    refine lx_iconst F dX3_takeFirsts_8 kc_1 ?_
    refine lx_goto F 13 dX3_takeFirsts_9 rfl ?_
    refine lx_istore F [(0, .ref x), (1, .long (en v0)), (3, .int (nI many)), (4, .long (en ed)), (6, .int (nI 1))] [1, 2, 3, 4, 0] dX3_takeFirsts_13 rfl (by decide) ?_
    refine lx_lload_n F dX3_takeFirsts_15 1 rfl ?_
    refine lx_lstore F [(0, .ref x), (1, .long (en v0)), (3, .int (nI many)), (4, .long (en ed)), (6, .int (nI 1)), (7, .long (en v0))] [1, 2, 3, 4, 5, 0] dX3_takeFirsts_16 rfl (by decide) ?_
    refine lx_iconst F dX3_takeFirsts_18 kc_0 ?_
    refine lx_istore F [(0, .ref x), (1, .long (en v0)), (3, .int (nI many)), (4, .long (en ed)), (6, .int (nI 1)), (7, .long (en v0)), (9, .int (nI 0))] [1, 2, 3, 4, 5, 6, 0] dX3_takeFirsts_19 rfl (by decide) ?_
    exact loop many 0 v0 [] f g 1 (by omega) (if_pos h0).symm hL hv0 rfl rfl (lm_hf_0 hh)
