set_option maxHeartbeats 4000000 in
set_option maxRecDepth 100000 in
theorem zr_thrown (l : Launch) (K : lm_G) (y acd akd act ark arr ali ala anc ank ant aag abk atd ase : Nat) (th z kk : Int32) (kc : Int64) (mn nx : Int32) (us : Int32) : lm_C l K mX4_thrown (rk 0) [.ref y] [(y, .inr (4, [.int th, .ref acd, .ref akd, .ref act, .int us, .ref ark, .ref arr, .int z, .int kk, .long kc, .ref ali, .int mn, .ref ala, .ref anc, .ref ank, .ref ant, .int nx, .ref aag, .ref abk, .ref atd, .ref ase]))] (fun v9 w9 => v9 = some (.int th) ∧ w9 = [(y, .inr (4, [.int th, .ref acd, .ref akd, .ref act, .int us, .ref ark, .ref arr, .int z, .int kk, .long kc, .ref ali, .int mn, .ref ala, .ref anc, .ref ank, .ref ant, .int nx, .ref aag, .ref abk, .ref atd, .ref ase]))]) := by
  refine lx_met RX4 pn_X4 rfl (Nat.le_of_ble_eq_true rfl) (fun E hE hnm F hR => ?_)
  have F : lx_F K 1 E cX4_thrown RX4 (some .int) (rk 0) := F
  show lx_W K 1 E 0 0 0 [(0, .ref y)] [] [(y, .inr (4, [.int th, .ref acd, .ref akd, .ref act, .int us, .ref ark, .ref arr, .int z, .int kk, .long kc, .ref ali, .int mn, .ref ala, .ref anc, .ref ank, .ref ant, .int nx, .ref aag, .ref abk, .ref atd, .ref ase]))]
  refine lx_aload_n F dX4_thrown_0 0 rfl ?_
  refine gf_X4_54 F 0 rfl rfl dX4_thrown_1 ?_
  exact lx_iret F hR dX4_thrown_4 ⟨rfl, rfl⟩

set_option maxHeartbeats 4000000 in
set_option maxRecDepth 100000 in
theorem zr_refuse (l : Launch) (K : lm_G) (y acd akd act ark arr ali ala anc ank ant aag abk atd ase : Nat) (th z kk : Int32) (kc : Int64) (mn nx : Int32) (us : Int32) (a b : Bool) : lm_C l K mX4_refuse (rk 0) [.ref y, .int (bI a), .int (bI b)] [(y, .inr (4, [.int th, .ref acd, .ref akd, .ref act, .int us, .ref ark, .ref arr, .int z, .int kk, .long kc, .ref ali, .int mn, .ref ala, .ref anc, .ref ank, .ref ant, .int nx, .ref aag, .ref abk, .ref atd, .ref ase]))] (fun v9 w9 => v9 = some (.int (bI (a || b))) ∧ w9 = [(y, .inr (4, [.int (nI (lm_rf a b)), .ref acd, .ref akd, .ref act, .int us, .ref ark, .ref arr, .int z, .int kk, .long kc, .ref ali, .int mn, .ref ala, .ref anc, .ref ank, .ref ant, .int nx, .ref aag, .ref abk, .ref atd, .ref ase]))]) := by
  refine lx_met RX4 pn_X4 rfl (Nat.le_of_ble_eq_true rfl) (fun E hE hnm F hR => ?_)
  have F : lx_F K 3 E cX4_refuse RX4 (some .boolean) (rk 0) := F
  show lx_W K 3 E 0 0 0 [(0, .ref y), (1, .int (bI a)), (2, .int (bI b))] [] [(y, .inr (4, [.int th, .ref acd, .ref akd, .ref act, .int us, .ref ark, .ref arr, .int z, .int kk, .long kc, .ref ali, .int mn, .ref ala, .ref anc, .ref ank, .ref ant, .int nx, .ref aag, .ref abk, .ref atd, .ref ase]))]
  cases a <;> cases b
  · skip
    refine lx_aload_n F dX4_refuse_0 0 rfl ?_
    refine lx_iload_n F dX4_refuse_1 1 rfl ?_
    refine lx_if_eq F 9 dX4_refuse_2 rfl (fun _ => ?_) (fun h => absurd (by decide) h)
    refine lx_iload_n F dX4_refuse_9 2 rfl ?_
    refine lx_if_eq F 17 dX4_refuse_10 rfl (fun _ => ?_) (fun h => absurd (by decide) h)
    refine lx_iconst F dX4_refuse_17 kc_0 ?_
    refine pf_X4_54 F 0 [(y, .inr (4, [.int (nI 0), .ref acd, .ref akd, .ref act, .int us, .ref ark, .ref arr, .int z, .int kk, .long kc, .ref ali, .int mn, .ref ala, .ref anc, .ref ank, .ref ant, .int nx, .ref aag, .ref abk, .ref atd, .ref ase]))] rfl rfl dX4_refuse_18 rfl ?_
    refine lx_aload_n F dX4_refuse_21 0 rfl ?_
    refine gf_X4_54 F 0 rfl rfl dX4_refuse_22 ?_
    refine lx_ifN_le F 32 (by omega) dX4_refuse_25 rfl (fun _ => ?_) (fun h => absurd h (by omega))
    refine lx_iconst F dX4_refuse_32 kc_0 ?_
    exact lx_zret F hR (by first | rfl | decide) dX4_refuse_33 ⟨rfl, rfl⟩
  · skip
    refine lx_aload_n F dX4_refuse_0 0 rfl ?_
    refine lx_iload_n F dX4_refuse_1 1 rfl ?_
    refine lx_if_eq F 9 dX4_refuse_2 rfl (fun _ => ?_) (fun h => absurd (by decide) h)
    refine lx_iload_n F dX4_refuse_9 2 rfl ?_
    refine lx_if_eq F 17 dX4_refuse_10 rfl (fun h => absurd h (by decide)) (fun _ => ?_)
    refine lx_iconst F dX4_refuse_13 kc_2 ?_
    refine lx_goto F 18 dX4_refuse_14 rfl ?_
    refine pf_X4_54 F 0 [(y, .inr (4, [.int (nI 2), .ref acd, .ref akd, .ref act, .int us, .ref ark, .ref arr, .int z, .int kk, .long kc, .ref ali, .int mn, .ref ala, .ref anc, .ref ank, .ref ant, .int nx, .ref aag, .ref abk, .ref atd, .ref ase]))] rfl rfl dX4_refuse_18 rfl ?_
    refine lx_aload_n F dX4_refuse_21 0 rfl ?_
    refine gf_X4_54 F 0 rfl rfl dX4_refuse_22 ?_
    refine lx_ifN_le F 32 (by omega) dX4_refuse_25 rfl (fun h => absurd h (by omega)) (fun _ => ?_)
    refine lx_iconst F dX4_refuse_28 kc_1 ?_
    refine lx_goto F 33 dX4_refuse_29 rfl ?_
    exact lx_zret F hR (by first | rfl | decide) dX4_refuse_33 ⟨rfl, rfl⟩
  · skip
    refine lx_aload_n F dX4_refuse_0 0 rfl ?_
    refine lx_iload_n F dX4_refuse_1 1 rfl ?_
    refine lx_if_eq F 9 dX4_refuse_2 rfl (fun h => absurd h (by decide)) (fun _ => ?_)
    refine lx_iconst F dX4_refuse_5 kc_1 ?_
    refine lx_goto F 18 dX4_refuse_6 rfl ?_
    refine pf_X4_54 F 0 [(y, .inr (4, [.int (nI 1), .ref acd, .ref akd, .ref act, .int us, .ref ark, .ref arr, .int z, .int kk, .long kc, .ref ali, .int mn, .ref ala, .ref anc, .ref ank, .ref ant, .int nx, .ref aag, .ref abk, .ref atd, .ref ase]))] rfl rfl dX4_refuse_18 rfl ?_
    refine lx_aload_n F dX4_refuse_21 0 rfl ?_
    refine gf_X4_54 F 0 rfl rfl dX4_refuse_22 ?_
    refine lx_ifN_le F 32 (by omega) dX4_refuse_25 rfl (fun h => absurd h (by omega)) (fun _ => ?_)
    refine lx_iconst F dX4_refuse_28 kc_1 ?_
    refine lx_goto F 33 dX4_refuse_29 rfl ?_
    exact lx_zret F hR (by first | rfl | decide) dX4_refuse_33 ⟨rfl, rfl⟩
  · skip
    refine lx_aload_n F dX4_refuse_0 0 rfl ?_
    refine lx_iload_n F dX4_refuse_1 1 rfl ?_
    refine lx_if_eq F 9 dX4_refuse_2 rfl (fun h => absurd h (by decide)) (fun _ => ?_)
    refine lx_iconst F dX4_refuse_5 kc_1 ?_
    refine lx_goto F 18 dX4_refuse_6 rfl ?_
    refine pf_X4_54 F 0 [(y, .inr (4, [.int (nI 1), .ref acd, .ref akd, .ref act, .int us, .ref ark, .ref arr, .int z, .int kk, .long kc, .ref ali, .int mn, .ref ala, .ref anc, .ref ank, .ref ant, .int nx, .ref aag, .ref abk, .ref atd, .ref ase]))] rfl rfl dX4_refuse_18 rfl ?_
    refine lx_aload_n F dX4_refuse_21 0 rfl ?_
    refine gf_X4_54 F 0 rfl rfl dX4_refuse_22 ?_
    refine lx_ifN_le F 32 (by omega) dX4_refuse_25 rfl (fun h => absurd h (by omega)) (fun _ => ?_)
    refine lx_iconst F dX4_refuse_28 kc_1 ?_
    refine lx_goto F 33 dX4_refuse_29 rfl ?_
    exact lx_zret F hR (by first | rfl | decide) dX4_refuse_33 ⟨rfl, rfl⟩

set_option maxHeartbeats 4000000 in
set_option maxRecDepth 100000 in
theorem zr_none (l : Launch) (K : lm_G) (r : Int32) : lm_C l K mX4_none (rk 0) [.int r] [] (fun v9 w9 => v9 = some (.int (bI (lm_none r))) ∧ w9 = []) := by
  refine lx_met RX4 pn_X4 rfl (Nat.le_of_ble_eq_true rfl) (fun E hE hnm F hR => ?_)
  have F : lx_F K 1 E cX4_none RX4 (some .boolean) (rk 0) := F
  show lx_W K 1 E 0 0 0 [(0, .int r)] [] []
  refine lx_iload_n F dX4_none_0 0 rfl ?_
  refine lx_if_lt F 10 dX4_none_1 rfl (fun h1 => ?_) (fun h1 => ?_)
  · skip
    refine lx_iconst F dX4_none_10 kc_1 ?_
    refine lx_goto F 15 dX4_none_11 rfl ?_
    exact lx_zret F hR (by first | rfl | decide) dX4_none_15 ⟨by rw [lm_none_1 h1]; rfl, rfl⟩
  · skip
    refine lx_iload_n F dX4_none_4 0 rfl ?_
    refine lx_bipush F dX4_none_5 kb_9 ?_
    refine lx_icmp_le F 14 dX4_none_7 rfl (fun h2 => ?_) (fun h2 => ?_)
    · skip
      refine lx_iconst F dX4_none_14 kc_0 ?_
      exact lx_zret F hR (by first | rfl | decide) dX4_none_15 ⟨by rw [lm_none_3 h1 h2]; rfl, rfl⟩
    · skip
      refine lx_iconst F dX4_none_10 kc_1 ?_
      refine lx_goto F 15 dX4_none_11 rfl ?_
      exact lx_zret F hR (by first | rfl | decide) dX4_none_15 ⟨by rw [lm_none_2 h2]; rfl, rfl⟩

set_option maxHeartbeats 4000000 in
set_option maxRecDepth 100000 in
theorem zr_setRoot (l : Launch) (K : lm_G) (y acd akd act ark arr ali ala anc ank ant aag abk atd ase : Nat) (th z kk : Int32) (kc : Int64) (mn nx : Int32) (us : Int32) (rk1 : Nat → Int32) (rr1 : Nat → Int64) (r : Nat) (hr : r < 10) (x : Int32) (v : Int64) : lm_C l K mX4_setRoot (rk 0) [.ref y, .int (nI r), .int x, .long v] [(y, .inr (4, [.int th, .ref acd, .ref akd, .ref act, .int us, .ref ark, .ref arr, .int z, .int kk, .long kc, .ref ali, .int mn, .ref ala, .ref anc, .ref ank, .ref ant, .int nx, .ref aag, .ref abk, .ref atd, .ref ase])), (ark, aI K 10 rk1), (arr, aJ K 10 rr1)] (fun v9 w9 => v9 = none ∧ w9 = [(y, .inr (4, [.int th, .ref acd, .ref akd, .ref act, .int us, .ref ark, .ref arr, .int z, .int kk, .long kc, .ref ali, .int mn, .ref ala, .ref anc, .ref ank, .ref ant, .int nx, .ref aag, .ref abk, .ref atd, .ref ase])), (ark, aI K 10 (lm_up rk1 r x)), (arr, aJ K 10 (lm_up rr1 r v))]) := by
  refine lx_met RX4 pn_X4 rfl (Nat.le_of_ble_eq_true rfl) (fun E hE hnm F hR => ?_)
  have F : lx_F K 5 E cX4_setRoot RX4 none (rk 0) := F
  show lx_W K 5 E 0 0 0 [(0, .ref y), (1, .int (nI r)), (2, .int x), (3, .long v)] [] [(y, .inr (4, [.int th, .ref acd, .ref akd, .ref act, .int us, .ref ark, .ref arr, .int z, .int kk, .long kc, .ref ali, .int mn, .ref ala, .ref anc, .ref ank, .ref ant, .int nx, .ref aag, .ref abk, .ref atd, .ref ase])), (ark, aI K 10 rk1), (arr, aJ K 10 rr1)]
  refine lx_aload_n F dX4_setRoot_0 0 rfl ?_
  refine gf_X4_20 F 0 rfl rfl dX4_setRoot_1 ?_
  refine lx_iload_n F dX4_setRoot_4 1 rfl ?_
  refine lx_iload_n F dX4_setRoot_5 2 rfl ?_
  refine lx_iast F 1 r [(y, .inr (4, [.int th, .ref acd, .ref akd, .ref act, .int us, .ref ark, .ref arr, .int z, .int kk, .long kc, .ref ali, .int mn, .ref ala, .ref anc, .ref ank, .ref ant, .int nx, .ref aag, .ref abk, .ref atd, .ref ase])), (ark, aI K 10 (lm_up rk1 r x)), (arr, aJ K 10 rr1)] dX4_setRoot_6 rfl (by omega) (by decide) rfl ?_
  refine lx_aload_n F dX4_setRoot_7 0 rfl ?_
  refine gf_X4_23 F 0 rfl rfl dX4_setRoot_8 ?_
  refine lx_iload_n F dX4_setRoot_11 1 rfl ?_
  refine lx_lload_n F dX4_setRoot_12 3 rfl ?_
  refine lx_last F 2 r [(y, .inr (4, [.int th, .ref acd, .ref akd, .ref act, .int us, .ref ark, .ref arr, .int z, .int kk, .long kc, .ref ali, .int mn, .ref ala, .ref anc, .ref ank, .ref ant, .int nx, .ref aag, .ref abk, .ref atd, .ref ase])), (ark, aI K 10 (lm_up rk1 r x)), (arr, aJ K 10 (lm_up rr1 r v))] dX4_setRoot_13 rfl (by omega) (by decide) rfl ?_
  exact lx_vret F hR dX4_setRoot_14 ⟨rfl, rfl⟩

set_option maxHeartbeats 4000000 in
set_option maxRecDepth 100000 in
theorem zr_look (l : Launch) (K : lm_G) (y acd akd act ark arr ali ala anc ank ant aag abk atd ase : Nat) (th z kk : Int32) (kc : Int64) (mn nx : Int32) (us x : Int32) (v : Int64) : lm_C l K mX4_look (rk 0) [.ref y, .int x, .long v] [(y, .inr (4, [.int th, .ref acd, .ref akd, .ref act, .int us, .ref ark, .ref arr, .int z, .int kk, .long kc, .ref ali, .int mn, .ref ala, .ref anc, .ref ank, .ref ant, .int nx, .ref aag, .ref abk, .ref atd, .ref ase]))] (fun v9 w9 => v9 = none ∧ w9 = [(y, .inr (4, [.int th, .ref acd, .ref akd, .ref act, .int us, .ref ark, .ref arr, .int z, .int x, .long v, .ref ali, .int mn, .ref ala, .ref anc, .ref ank, .ref ant, .int nx, .ref aag, .ref abk, .ref atd, .ref ase]))]) := by
  refine lx_met RX4 pn_X4 rfl (Nat.le_of_ble_eq_true rfl) (fun E hE hnm F hR => ?_)
  have F : lx_F K 4 E cX4_look RX4 none (rk 0) := F
  show lx_W K 4 E 0 0 0 [(0, .ref y), (1, .int x), (2, .long v)] [] [(y, .inr (4, [.int th, .ref acd, .ref akd, .ref act, .int us, .ref ark, .ref arr, .int z, .int kk, .long kc, .ref ali, .int mn, .ref ala, .ref anc, .ref ank, .ref ant, .int nx, .ref aag, .ref abk, .ref atd, .ref ase]))]
  refine lx_aload_n F dX4_look_0 0 rfl ?_
  refine lx_iload_n F dX4_look_1 1 rfl ?_
  refine pf_X4_58 F 0 [(y, .inr (4, [.int th, .ref acd, .ref akd, .ref act, .int us, .ref ark, .ref arr, .int z, .int x, .long kc, .ref ali, .int mn, .ref ala, .ref anc, .ref ank, .ref ant, .int nx, .ref aag, .ref abk, .ref atd, .ref ase]))] rfl rfl dX4_look_2 rfl ?_
  refine lx_aload_n F dX4_look_5 0 rfl ?_
  refine lx_lload_n F dX4_look_6 2 rfl ?_
  refine pf_X4_61 F 0 [(y, .inr (4, [.int th, .ref acd, .ref akd, .ref act, .int us, .ref ark, .ref arr, .int z, .int x, .long v, .ref ali, .int mn, .ref ala, .ref anc, .ref ank, .ref ant, .int nx, .ref aag, .ref abk, .ref atd, .ref ase]))] rfl rfl dX4_look_7 rfl ?_
  exact lx_vret F hR dX4_look_10 ⟨rfl, rfl⟩

set_option maxHeartbeats 4000000 in
set_option maxRecDepth 100000 in
theorem zr_cell (l : Launch) (K : lm_G) (y acd akd act ark arr ali ala anc ank ant aag abk atd ase : Nat) (th z kk : Int32) (kc : Int64) (mn nx : Int32) (cd kd : Nat → Int32) (ct : Nat → Int64) (c : Nat → Nat) (w : Nat → lm_V) (u : Nat) (hw : lm_wf c w u) (hh : lm_mf cd kd ct c w u) (q : Nat) (hq : q < u) (hc : c q ≠ 3) : lm_C l K mX4_cell (rk 0) [.ref y, .long (jI ((q : Nat) : Int))] [(y, .inr (4, [.int th, .ref acd, .ref akd, .ref act, .int (nI u), .ref ark, .ref arr, .int z, .int kk, .long kc, .ref ali, .int mn, .ref ala, .ref anc, .ref ank, .ref ant, .int nx, .ref aag, .ref abk, .ref atd, .ref ase])), (akd, aI K 120 kd), (act, aJ K 120 ct)] (fun v9 w9 => v9 = some (.int (nI (lm_cell w q))) ∧ w9 = [(y, .inr (4, [.int th, .ref acd, .ref akd, .ref act, .int (nI u), .ref ark, .ref arr, .int z, .int kk, .long kc, .ref ali, .int mn, .ref ala, .ref anc, .ref ank, .ref ant, .int nx, .ref aag, .ref abk, .ref atd, .ref ase])), (akd, aI K 120 kd), (act, aJ K 120 ct)]) := by
  refine lx_met RX4 pn_X4 rfl (Nat.le_of_ble_eq_true rfl) (fun E hE hnm F hR => ?_)
  have F : lx_F K 4 E cX4_cell RX4 (some .int) (rk 0) := F
  show lx_W K 4 E 0 0 0 [(0, .ref y), (1, .long (jI ((q : Nat) : Int)))] [] [(y, .inr (4, [.int th, .ref acd, .ref akd, .ref act, .int (nI u), .ref ark, .ref arr, .int z, .int kk, .long kc, .ref ali, .int mn, .ref ala, .ref anc, .ref ank, .ref ant, .int nx, .ref aag, .ref abk, .ref atd, .ref ase])), (akd, aI K 120 kd), (act, aJ K 120 ct)]
  have hu := hw.1
  have hk4 := lm_k4 hw hq
  have hcl := lm_cell_cl hw hq hc
  refine lx_lload_n F dX4_cell_0 1 rfl ?_
  refine lx_l2i F dX4_cell_1 (jI_l2i q) ?_
  refine lx_istore_n F [(0, .ref y), (1, .long (jI ((q : Nat) : Int))), (3, .int (nI q))] [1, 2, 0] dX4_cell_2 rfl (by decide) ?_
  refine lx_aload_n F dX4_cell_3 0 rfl ?_
  refine gf_X4_13 F 0 rfl rfl dX4_cell_4 ?_
  refine lx_iload_n F dX4_cell_7 2 rfl ?_
  refine lx_iald F 1 q dX4_cell_8 rfl (by omega) (by decide) ?_
  rw [(hh q hq).2.1]
  refine lx_iconst F dX4_cell_9 kc_3 ?_
  refine lx_icmpN_ne F 24 (by omega) (by omega) dX4_cell_10 rfl (fun h3 => ?_) (fun h3 => ?_)
  · skip
    refine lx_iload_n F dX4_cell_24 2 rfl ?_
    exact lx_iret F hR dX4_cell_25 ⟨by rw [lm_cell_n h3], rfl⟩
  · skip
    obtain ⟨r, hr, hr2⟩ := lm_cell_m hw hq h3
    rw [hr2] at hcl
    have hru := hcl.1
    have hk5 := hcl.2.2
    have hk6 := lm_k4 hw hru
    refine lx_aload_n F dX4_cell_13 0 rfl ?_
    refine gf_X4_16 F 0 rfl rfl dX4_cell_14 ?_
    refine lx_iload_n F dX4_cell_17 2 rfl ?_
    refine lx_lald F 2 q dX4_cell_18 rfl (by omega) (by decide) ?_
    rw [show ct q = jI ((r : Nat) : Int) by rw [(hh q hq).2.2, hr]]
    refine lx_l2i F dX4_cell_19 (jI_l2i r) ?_
    refine lx_istore_n F [(0, .ref y), (1, .long (jI ((q : Nat) : Int))), (3, .int (nI r))] [1, 2, 0] dX4_cell_20 rfl (by decide) ?_
    refine lx_goto F 3 dX4_cell_21 rfl ?_
    refine lx_aload_n F dX4_cell_3 0 rfl ?_
    refine gf_X4_13 F 0 rfl rfl dX4_cell_4 ?_
    refine lx_iload_n F dX4_cell_7 2 rfl ?_
    refine lx_iald F 1 r dX4_cell_8 rfl (by omega) (by decide) ?_
    rw [(hh r hru).2.1]
    refine lx_iconst F dX4_cell_9 kc_3 ?_
    refine lx_icmpN_ne F 24 (by omega) (by omega) dX4_cell_10 rfl (fun _ => ?_) (fun h => absurd h (by omega))
    refine lx_iload_n F dX4_cell_24 2 rfl ?_
    exact lx_iret F hR dX4_cell_25 ⟨by rw [hr2], rfl⟩

set_option maxHeartbeats 4000000 in
set_option maxRecDepth 100000 in
theorem zr_lookRest (l : Launch) (K : lm_G) (y acd akd act ark arr ali ala anc ank ant aag abk atd ase : Nat) (th z kk : Int32) (kc : Int64) (mn nx : Int32) (cd kd : Nat → Int32) (ct : Nat → Int64) (c : Nat → Nat) (w : Nat → lm_V) (u : Nat) (hw : lm_wf c w u) (hh : lm_mf cd kd ct c w u) (p : Nat) (hp : lm_cl c w u p) : lm_C l K mX4_lookRest (rk 1) [.ref y, .int (nI p)] [(y, .inr (4, [.int th, .ref acd, .ref akd, .ref act, .int (nI u), .ref ark, .ref arr, .int z, .int kk, .long kc, .ref ali, .int mn, .ref ala, .ref anc, .ref ank, .ref ant, .int nx, .ref aag, .ref abk, .ref atd, .ref ase])), (acd, aI K 120 cd), (akd, aI K 120 kd), (act, aJ K 120 ct)] (fun v9 w9 => v9 = none ∧ w9 = [(y, .inr (4, [.int th, .ref acd, .ref akd, .ref act, .int (nI u), .ref ark, .ref arr, .int z, .int (nI ((lm_rest c w p).1)), .long (jI ((lm_rest c w p).2)), .ref ali, .int mn, .ref ala, .ref anc, .ref ank, .ref ant, .int nx, .ref aag, .ref abk, .ref atd, .ref ase])), (acd, aI K 120 cd), (akd, aI K 120 kd), (act, aJ K 120 ct)]) := by
  refine lx_met RX4 pn_X4 rfl (Nat.le_of_ble_eq_true rfl) (fun E hE hnm F hR => ?_)
  have F : lx_F K 2 E cX4_lookRest RX4 none (rk 1) := F
  show lx_W K 2 E 0 0 0 [(0, .ref y), (1, .int (nI p))] [] [(y, .inr (4, [.int th, .ref acd, .ref akd, .ref act, .int (nI u), .ref ark, .ref arr, .int z, .int kk, .long kc, .ref ali, .int mn, .ref ala, .ref anc, .ref ank, .ref ant, .int nx, .ref aag, .ref abk, .ref atd, .ref ase])), (acd, aI K 120 cd), (akd, aI K 120 kd), (act, aJ K 120 ct)]
  have hu := hw.1
  have hp1 := hp.1
  have hc3 := hw.2.1 p hp.1
  have hc33 := hp.2.1
  refine lx_aload_n F dX4_lookRest_0 0 rfl ?_
  refine gf_X4_7 F 0 rfl rfl dX4_lookRest_1 ?_
  refine lx_iload_n F dX4_lookRest_4 1 rfl ?_
  refine lx_iald F 1 p dX4_lookRest_5 rfl (by omega) (by decide) ?_
  rw [(hh p hp1).1]
  refine lx_ifN_ne F 21 (by omega) dX4_lookRest_6 rfl (fun h0 => ?_) (fun h0 => ?_)
  · skip
    refine lx_aload_n F dX4_lookRest_21 0 rfl ?_
    refine gf_X4_7 F 0 rfl rfl dX4_lookRest_22 ?_
    refine lx_iload_n F dX4_lookRest_25 1 rfl ?_
    refine lx_iald F 1 p dX4_lookRest_26 rfl (by omega) (by decide) ?_
    rw [(hh p hp1).1]
    refine lx_iconst F dX4_lookRest_27 kc_1 ?_
    refine lx_icmpN_ne F 40 (by omega) (by omega) dX4_lookRest_28 rfl (fun h1 => ?_) (fun h1 => ?_)
    · skip
      have h2 : c p = 2 := by omega
      have hp2 := hw.2.2.2.1 p hp1 h2
      have hp3 := hp2.1
      refine lx_aload_n F dX4_lookRest_40 0 rfl ?_
      refine lx_aload_n F dX4_lookRest_41 0 rfl ?_
      refine gf_X4_13 F 0 rfl rfl dX4_lookRest_42 ?_
      refine lx_iload_n F dX4_lookRest_45 1 rfl ?_
      refine lx_iconst F dX4_lookRest_46 kc_1 ?_
      refine lx_iadd F dX4_lookRest_47 (nI_add _ _) ?_
      refine lx_iald F 2 (p + 1) dX4_lookRest_48 rfl (by omega) (by decide) ?_
      rw [(hh (p + 1) hp3).2.1]
      refine lx_aload_n F dX4_lookRest_49 0 rfl ?_
      refine gf_X4_16 F 0 rfl rfl dX4_lookRest_50 ?_
      refine lx_iload_n F dX4_lookRest_53 1 rfl ?_
      refine lx_iconst F dX4_lookRest_54 kc_1 ?_
      refine lx_iadd F dX4_lookRest_55 (nI_add _ _) ?_
      refine lx_lald F 3 (p + 1) dX4_lookRest_56 rfl (by omega) (by decide) ?_
      rw [(hh (p + 1) hp3).2.2]
      refine lx_cv F (zr_look (xl E) K y acd akd act ark arr ali ala anc ank ant aag abk atd ase th z kk kc mn nx (nI u) (nI (w (p + 1)).1) (jI (w (p + 1)).2)) cv_X4_69 0 rfl rfl [0] [1, 2, 3] [(acd, aI K 120 cd), (akd, aI K 120 kd), (act, aJ K 120 ct)] rfl rfl (by decide) rfl (st := []) rfl (Nat.le_of_ble_eq_true rfl) (by decide) ⟨by decide, by decide⟩ dX4_lookRest_57 (fun v9 w9 h9 => ?_)
      obtain ⟨rfl, rfl⟩ := h9
      refine lx_perm [3, 0, 1, 2] [(y, .inr (4, [.int th, .ref acd, .ref akd, .ref act, .int (nI u), .ref ark, .ref arr, .int z, .int (nI ((w (p + 1)).1)), .long (jI ((w (p + 1)).2)), .ref ali, .int mn, .ref ala, .ref anc, .ref ank, .ref ant, .int nx, .ref aag, .ref abk, .ref atd, .ref ase])), (acd, aI K 120 cd), (akd, aI K 120 kd), (act, aJ K 120 ct)] (by decide) rfl ?_
      refine lx_st (a' := 0) (b' := 0) [] rfl rfl rfl ?_
      exact lx_vret F hR dX4_lookRest_60 ⟨rfl, by rw [lm_rest_2 h2]⟩
    · skip
      refine lx_aload_n F dX4_lookRest_31 0 rfl ?_
      refine lx_iconst F dX4_lookRest_32 kc_0 ?_
      refine lx_lconst F dX4_lookRest_33 kl_0 ?_
      refine lx_cv F (zr_look (xl E) K y acd akd act ark arr ali ala anc ank ant aag abk atd ase th z kk kc mn nx (nI u) (nI 0) (jI 0)) cv_X4_69 0 rfl rfl [0] [1, 2, 3] [(acd, aI K 120 cd), (akd, aI K 120 kd), (act, aJ K 120 ct)] rfl rfl (by decide) rfl (st := []) rfl (Nat.le_of_ble_eq_true rfl) (by decide) ⟨by decide, by decide⟩ dX4_lookRest_34 (fun v9 w9 h9 => ?_)
      obtain ⟨rfl, rfl⟩ := h9
      refine lx_perm [3, 0, 1, 2] [(y, .inr (4, [.int th, .ref acd, .ref akd, .ref act, .int (nI u), .ref ark, .ref arr, .int z, .int (nI 0), .long (jI 0), .ref ali, .int mn, .ref ala, .ref anc, .ref ank, .ref ant, .int nx, .ref aag, .ref abk, .ref atd, .ref ase])), (acd, aI K 120 cd), (akd, aI K 120 kd), (act, aJ K 120 ct)] (by decide) rfl ?_
      refine lx_st (a' := 0) (b' := 0) [] rfl rfl rfl ?_
      refine lx_goto F 60 dX4_lookRest_37 rfl ?_
      exact lx_vret F hR dX4_lookRest_60 ⟨rfl, by rw [lm_rest_0 h0 (by omega)]⟩
  · skip
    refine lx_aload_n F dX4_lookRest_9 0 rfl ?_
    refine lx_iconst F dX4_lookRest_10 kc_2 ?_
    refine lx_iload_n F dX4_lookRest_11 1 rfl ?_
    refine lx_i2l F dX4_lookRest_12 (jI_i2l (by omega)) ?_
    refine lx_lconst F dX4_lookRest_13 kl_1 ?_
    refine lx_ladd F dX4_lookRest_14 (jI_add _ _) ?_
    refine lx_cv F (zr_look (xl E) K y acd akd act ark arr ali ala anc ank ant aag abk atd ase th z kk kc mn nx (nI u) (nI 2) (jI ((p + 1 : Nat) : Int))) cv_X4_69 0 rfl rfl [0] [1, 2, 3] [(acd, aI K 120 cd), (akd, aI K 120 kd), (act, aJ K 120 ct)] rfl rfl (by decide) rfl (st := []) rfl (Nat.le_of_ble_eq_true rfl) (by decide) ⟨by decide, by decide⟩ dX4_lookRest_15 (fun v9 w9 h9 => ?_)
    obtain ⟨rfl, rfl⟩ := h9
    refine lx_perm [3, 0, 1, 2] [(y, .inr (4, [.int th, .ref acd, .ref akd, .ref act, .int (nI u), .ref ark, .ref arr, .int z, .int (nI 2), .long (jI ((p + 1 : Nat) : Int)), .ref ali, .int mn, .ref ala, .ref anc, .ref ank, .ref ant, .int nx, .ref aag, .ref abk, .ref atd, .ref ase])), (acd, aI K 120 cd), (akd, aI K 120 kd), (act, aJ K 120 ct)] (by decide) rfl ?_
    refine lx_st (a' := 0) (b' := 0) [] rfl rfl rfl ?_
    refine lx_goto F 60 dX4_lookRest_18 rfl ?_
    exact lx_vret F hR dX4_lookRest_60 ⟨rfl, by rw [lm_rest_n h0]⟩

set_option maxHeartbeats 4000000 in
set_option maxRecDepth 100000 in
theorem zr_isSame (l : Launch) (K : lm_G) (y acd akd act ark arr ali ala anc ank ant aag abk atd ase : Nat) (th z kk : Int32) (kc : Int64) (mn nx : Int32) (cd kd : Nat → Int32) (ct : Nat → Int64) (c : Nat → Nat) (w : Nat → lm_V) (u : Nat) (hw : lm_wf c w u) (hh : lm_mf cd kd ct c w u) (a b : lm_V) (ha : lm_ok c u a) (hb : lm_ok c u b) : lm_C l K mX4_isSame (rk 1) [.ref y, .int (nI a.1), .long (jI a.2), .int (nI b.1), .long (jI b.2)] [(y, .inr (4, [.int th, .ref acd, .ref akd, .ref act, .int (nI u), .ref ark, .ref arr, .int z, .int kk, .long kc, .ref ali, .int mn, .ref ala, .ref anc, .ref ank, .ref ant, .int nx, .ref aag, .ref abk, .ref atd, .ref ase])), (akd, aI K 120 kd), (act, aJ K 120 ct)] (fun v9 w9 => v9 = some (.int (bI (lm_same w a b))) ∧ w9 = [(y, .inr (4, [.int th, .ref acd, .ref akd, .ref act, .int (nI u), .ref ark, .ref arr, .int z, .int kk, .long kc, .ref ali, .int mn, .ref ala, .ref anc, .ref ank, .ref ant, .int nx, .ref aag, .ref abk, .ref atd, .ref ase])), (akd, aI K 120 kd), (act, aJ K 120 ct)]) := by
  refine lx_met RX4 pn_X4 rfl (Nat.le_of_ble_eq_true rfl) (fun E hE hnm F hR => ?_)
  have F : lx_F K 7 E cX4_isSame RX4 (some .boolean) (rk 1) := F
  show lx_W K 7 E 0 0 0 [(0, .ref y), (1, .int (nI a.1)), (2, .long (jI a.2)), (4, .int (nI b.1)), (5, .long (jI b.2))] [] [(y, .inr (4, [.int th, .ref acd, .ref akd, .ref act, .int (nI u), .ref ark, .ref arr, .int z, .int kk, .long kc, .ref ali, .int mn, .ref ala, .ref anc, .ref ank, .ref ant, .int nx, .ref aag, .ref abk, .ref atd, .ref ase])), (akd, aI K 120 kd), (act, aJ K 120 ct)]
  have hu := hw.1
  have ha3 := lm_ok_kind ha
  have hb3 := lm_ok_kind hb
  refine lx_iload_n F dX4_isSame_0 1 rfl ?_
  refine lx_iload F dX4_isSame_1 3 rfl ?_
  refine lx_icmpN_eq F 8 (by omega) (by omega) dX4_isSame_3 rfl (fun h1 => ?_) (fun h1 => ?_)
  · skip
    refine lx_iload_n F dX4_isSame_8 1 rfl ?_
    refine lx_ifN_eq F 41 (by omega) dX4_isSame_9 rfl (fun h0 => ?_) (fun h0 => ?_)
    · skip
      refine lx_iconst F dX4_isSame_41 kc_1 ?_
      refine lx_goto F 46 dX4_isSame_42 rfl ?_
      exact lx_zret F hR (by first | rfl | decide) dX4_isSame_46 ⟨by rw [lm_same_z ha hb h1 h0]; rfl, rfl⟩
    · skip
      refine lx_iload_n F dX4_isSame_12 1 rfl ?_
      refine lx_iconst F dX4_isSame_13 kc_1 ?_
      refine lx_icmpN_ne F 27 (by omega) (by omega) dX4_isSame_14 rfl (fun h2 => ?_) (fun h2 => ?_)
      · skip
        have h2a : a.1 = 2 := by omega
        have h2b : b.1 = 2 := by omega
        obtain ⟨qa, ea, la, na⟩ := lm_ok_p ha h2a
        obtain ⟨qb, eb, lb, nb⟩ := lm_ok_p hb h2b
        have ta : lm_to w a = lm_cell w qa := lm_to_q ea
        have tb : lm_to w b = lm_cell w qb := lm_to_q eb
        have ra := (lm_cell_cl hw la na).1
        have rb := (lm_cell_cl hw lb nb).1
        rw [ea, eb]
        refine lx_aload_n F dX4_isSame_27 0 rfl ?_
        refine lx_lload_n F dX4_isSame_28 2 rfl ?_
        refine lx_cv F (zr_cell (xl E) K y acd akd act ark arr ali ala anc ank ant aag abk atd ase th z kk kc mn nx cd kd ct c w u hw hh qa la na) cv_X4_65 0 rfl rfl [0, 1, 2] [] [] rfl rfl (by decide) rfl (st := []) rfl (Nat.le_of_ble_eq_true rfl) (by decide) ⟨by decide, by decide⟩ dX4_isSame_29 (fun v9 w9 h9 => ?_)
        obtain ⟨rfl, rfl⟩ := h9
        refine lx_perm [0, 1, 2] [(y, .inr (4, [.int th, .ref acd, .ref akd, .ref act, .int (nI u), .ref ark, .ref arr, .int z, .int kk, .long kc, .ref ali, .int mn, .ref ala, .ref anc, .ref ank, .ref ant, .int nx, .ref aag, .ref abk, .ref atd, .ref ase])), (akd, aI K 120 kd), (act, aJ K 120 ct)] (by decide) rfl ?_
        refine lx_st (a' := 0) (b' := 0) [.int (nI (lm_cell w qa))] rfl rfl rfl ?_
        refine lx_aload_n F dX4_isSame_32 0 rfl ?_
        refine lx_lload F dX4_isSame_33 4 rfl ?_
        refine lx_cv F (zr_cell (xl E) K y acd akd act ark arr ali ala anc ank ant aag abk atd ase th z kk kc mn nx cd kd ct c w u hw hh qb lb nb) cv_X4_65 0 rfl rfl [0, 1, 2] [] [] rfl rfl (by decide) rfl (st := [.int (nI (lm_cell w qa))]) rfl (Nat.le_of_ble_eq_true rfl) (by decide) ⟨by decide, by decide⟩ dX4_isSame_35 (fun v9 w9 h9 => ?_)
        obtain ⟨rfl, rfl⟩ := h9
        refine lx_perm [0, 1, 2] [(y, .inr (4, [.int th, .ref acd, .ref akd, .ref act, .int (nI u), .ref ark, .ref arr, .int z, .int kk, .long kc, .ref ali, .int mn, .ref ala, .ref anc, .ref ank, .ref ant, .int nx, .ref aag, .ref abk, .ref atd, .ref ase])), (akd, aI K 120 kd), (act, aJ K 120 ct)] (by decide) rfl ?_
        refine lx_st (a' := 0) (b' := 0) [.int (nI (lm_cell w qb)), .int (nI (lm_cell w qa))] rfl rfl rfl ?_
        refine lx_icmpN_ne F 45 (by omega) (by omega) dX4_isSame_38 rfl (fun he => ?_) (fun he => ?_)
        · skip
          refine lx_iconst F dX4_isSame_45 kc_0 ?_
          exact lx_zret F hR (by first | rfl | decide) dX4_isSame_46 ⟨by rw [lm_same_p h2a h2b, ta, tb, decide_eq_false he]; rfl, rfl⟩
        · skip
          refine lx_iconst F dX4_isSame_41 kc_1 ?_
          refine lx_goto F 46 dX4_isSame_42 rfl ?_
          exact lx_zret F hR (by first | rfl | decide) dX4_isSame_46 ⟨by rw [lm_same_p h2a h2b, ta, tb, decide_eq_true he]; rfl, rfl⟩
      · skip
        refine lx_lload_n F dX4_isSame_17 2 rfl ?_
        refine lx_lload F dX4_isSame_18 4 rfl ?_
        refine lx_lcmp_ifne F 45 dX4_isSame_20 dX4_isSame_21 rfl (fun he => ?_) (fun he => ?_)
        · skip
          refine lx_iconst F dX4_isSame_45 kc_0 ?_
          exact lx_zret F hR (by first | rfl | decide) dX4_isSame_46 ⟨by rw [lm_same_e1 hw ha hb h2 (by omega) he]; rfl, rfl⟩
        · skip
          refine lx_goto F 41 dX4_isSame_24 rfl ?_
          refine lx_iconst F dX4_isSame_41 kc_1 ?_
          refine lx_goto F 46 dX4_isSame_42 rfl ?_
          exact lx_zret F hR (by first | rfl | decide) dX4_isSame_46 ⟨by rw [lm_same_e2 hw ha hb h2 (by omega) he]; rfl, rfl⟩
  · skip
    refine lx_iconst F dX4_isSame_6 kc_0 ?_
    exact lx_zret F hR (by first | rfl | decide) dX4_isSame_7 ⟨by rw [lm_same_k h1]; rfl, rfl⟩

set_option maxHeartbeats 4000000 in
set_option maxRecDepth 100000 in
theorem zr_put (l : Launch) (K : lm_G) (y acd akd act ark arr ali ala anc ank ant aag abk atd ase : Nat) (th z kk : Int32) (kc : Int64) (mn nx : Int32) (cd kd : Nat → Int32) (ct : Nat → Int64) (u : Nat) (hu : u < 120) (x k : Int32) (v : Int64) : lm_C l K mX4_put (rk 0) [.ref y, .int x, .int k, .long v] [(y, .inr (4, [.int th, .ref acd, .ref akd, .ref act, .int (nI u), .ref ark, .ref arr, .int z, .int kk, .long kc, .ref ali, .int mn, .ref ala, .ref anc, .ref ank, .ref ant, .int nx, .ref aag, .ref abk, .ref atd, .ref ase])), (acd, aI K 120 cd), (akd, aI K 120 kd), (act, aJ K 120 ct)] (fun v9 w9 => v9 = some (.int (nI u)) ∧ w9 = [(y, .inr (4, [.int th, .ref acd, .ref akd, .ref act, .int (nI (u + 1)), .ref ark, .ref arr, .int z, .int kk, .long kc, .ref ali, .int mn, .ref ala, .ref anc, .ref ank, .ref ant, .int nx, .ref aag, .ref abk, .ref atd, .ref ase])), (acd, aI K 120 (lm_up cd u x)), (akd, aI K 120 (lm_up kd u k)), (act, aJ K 120 (lm_up ct u v))]) := by
  refine lx_met RX4 pn_X4 rfl (Nat.le_of_ble_eq_true rfl) (fun E hE hnm F hR => ?_)
  have F : lx_F K 5 E cX4_put RX4 (some .int) (rk 0) := F
  show lx_W K 5 E 0 0 0 [(0, .ref y), (1, .int x), (2, .int k), (3, .long v)] [] [(y, .inr (4, [.int th, .ref acd, .ref akd, .ref act, .int (nI u), .ref ark, .ref arr, .int z, .int kk, .long kc, .ref ali, .int mn, .ref ala, .ref anc, .ref ank, .ref ant, .int nx, .ref aag, .ref abk, .ref atd, .ref ase])), (acd, aI K 120 cd), (akd, aI K 120 kd), (act, aJ K 120 ct)]
  refine lx_aload_n F dX4_put_0 0 rfl ?_
  refine gf_X4_7 F 0 rfl rfl dX4_put_1 ?_
  refine lx_aload_n F dX4_put_4 0 rfl ?_
  refine gf_X4_73 F 0 rfl rfl dX4_put_5 ?_
  refine lx_iload_n F dX4_put_8 1 rfl ?_
  refine lx_iast F 1 u [(y, .inr (4, [.int th, .ref acd, .ref akd, .ref act, .int (nI u), .ref ark, .ref arr, .int z, .int kk, .long kc, .ref ali, .int mn, .ref ala, .ref anc, .ref ank, .ref ant, .int nx, .ref aag, .ref abk, .ref atd, .ref ase])), (acd, aI K 120 (lm_up cd u x)), (akd, aI K 120 kd), (act, aJ K 120 ct)] dX4_put_9 rfl (by omega) (by decide) rfl ?_
  refine lx_aload_n F dX4_put_10 0 rfl ?_
  refine gf_X4_13 F 0 rfl rfl dX4_put_11 ?_
  refine lx_aload_n F dX4_put_14 0 rfl ?_
  refine gf_X4_73 F 0 rfl rfl dX4_put_15 ?_
  refine lx_iload_n F dX4_put_18 2 rfl ?_
  refine lx_iast F 2 u [(y, .inr (4, [.int th, .ref acd, .ref akd, .ref act, .int (nI u), .ref ark, .ref arr, .int z, .int kk, .long kc, .ref ali, .int mn, .ref ala, .ref anc, .ref ank, .ref ant, .int nx, .ref aag, .ref abk, .ref atd, .ref ase])), (acd, aI K 120 (lm_up cd u x)), (akd, aI K 120 (lm_up kd u k)), (act, aJ K 120 ct)] dX4_put_19 rfl (by omega) (by decide) rfl ?_
  refine lx_aload_n F dX4_put_20 0 rfl ?_
  refine gf_X4_16 F 0 rfl rfl dX4_put_21 ?_
  refine lx_aload_n F dX4_put_24 0 rfl ?_
  refine gf_X4_73 F 0 rfl rfl dX4_put_25 ?_
  refine lx_lload_n F dX4_put_28 3 rfl ?_
  refine lx_last F 3 u [(y, .inr (4, [.int th, .ref acd, .ref akd, .ref act, .int (nI u), .ref ark, .ref arr, .int z, .int kk, .long kc, .ref ali, .int mn, .ref ala, .ref anc, .ref ank, .ref ant, .int nx, .ref aag, .ref abk, .ref atd, .ref ase])), (acd, aI K 120 (lm_up cd u x)), (akd, aI K 120 (lm_up kd u k)), (act, aJ K 120 (lm_up ct u v))] dX4_put_29 rfl (by omega) (by decide) rfl ?_
  refine lx_aload_n F dX4_put_30 0 rfl ?_
  refine lx_dup F dX4_put_31 rfl ?_
  refine gf_X4_73 F 0 rfl rfl dX4_put_32 ?_
  refine lx_iconst F dX4_put_35 kc_1 ?_
  refine lx_iadd F dX4_put_36 (nI_add _ _) ?_
  refine pf_X4_73 F 0 [(y, .inr (4, [.int th, .ref acd, .ref akd, .ref act, .int (nI (u + 1)), .ref ark, .ref arr, .int z, .int kk, .long kc, .ref ali, .int mn, .ref ala, .ref anc, .ref ank, .ref ant, .int nx, .ref aag, .ref abk, .ref atd, .ref ase])), (acd, aI K 120 (lm_up cd u x)), (akd, aI K 120 (lm_up kd u k)), (act, aJ K 120 (lm_up ct u v))] rfl rfl dX4_put_37 rfl ?_
  refine lx_aload_n F dX4_put_40 0 rfl ?_
  refine gf_X4_73 F 0 rfl rfl dX4_put_41 ?_
  refine lx_iconst F dX4_put_44 kc_1 ?_
  refine lx_isub F dX4_put_45 (pk_sub (by omega)) ?_
  exact lx_iret F hR dX4_put_46 ⟨by rw [Nat.add_sub_cancel], rfl⟩

set_option maxHeartbeats 4000000 in
set_option maxRecDepth 100000 in
theorem zr_lay (l : Launch) (K : lm_G) (y acd akd act ark arr ali ala anc ank ant aag abk atd ase : Nat) (th z kk : Int32) (kc : Int64) (mn nx : Int32) (us : Int32) (nc nk : Nat → Int32) (nt : Nat → Int64) (n : Nat) (hn : n < 120) (x k : Int32) (v : Int64) : lm_C l K mX4_lay (rk 0) [.ref y, .int x, .int k, .long v] [(y, .inr (4, [.int th, .ref acd, .ref akd, .ref act, .int us, .ref ark, .ref arr, .int z, .int kk, .long kc, .ref ali, .int mn, .ref ala, .ref anc, .ref ank, .ref ant, .int (nI n), .ref aag, .ref abk, .ref atd, .ref ase])), (anc, aI K 120 nc), (ank, aI K 120 nk), (ant, aJ K 120 nt)] (fun v9 w9 => v9 = none ∧ w9 = [(y, .inr (4, [.int th, .ref acd, .ref akd, .ref act, .int us, .ref ark, .ref arr, .int z, .int kk, .long kc, .ref ali, .int mn, .ref ala, .ref anc, .ref ank, .ref ant, .int (nI (n + 1)), .ref aag, .ref abk, .ref atd, .ref ase])), (anc, aI K 120 (lm_up nc n x)), (ank, aI K 120 (lm_up nk n k)), (ant, aJ K 120 (lm_up nt n v))]) := by
  refine lx_met RX4 pn_X4 rfl (Nat.le_of_ble_eq_true rfl) (fun E hE hnm F hR => ?_)
  have F : lx_F K 5 E cX4_lay RX4 none (rk 0) := F
  show lx_W K 5 E 0 0 0 [(0, .ref y), (1, .int x), (2, .int k), (3, .long v)] [] [(y, .inr (4, [.int th, .ref acd, .ref akd, .ref act, .int us, .ref ark, .ref arr, .int z, .int kk, .long kc, .ref ali, .int mn, .ref ala, .ref anc, .ref ank, .ref ant, .int (nI n), .ref aag, .ref abk, .ref atd, .ref ase])), (anc, aI K 120 nc), (ank, aI K 120 nk), (ant, aJ K 120 nt)]
  refine lx_aload_n F dX4_lay_0 0 rfl ?_
  refine gf_X4_32 F 0 rfl rfl dX4_lay_1 ?_
  refine lx_aload_n F dX4_lay_4 0 rfl ?_
  refine gf_X4_82 F 0 rfl rfl dX4_lay_5 ?_
  refine lx_iload_n F dX4_lay_8 1 rfl ?_
  refine lx_iast F 1 n [(y, .inr (4, [.int th, .ref acd, .ref akd, .ref act, .int us, .ref ark, .ref arr, .int z, .int kk, .long kc, .ref ali, .int mn, .ref ala, .ref anc, .ref ank, .ref ant, .int (nI n), .ref aag, .ref abk, .ref atd, .ref ase])), (anc, aI K 120 (lm_up nc n x)), (ank, aI K 120 nk), (ant, aJ K 120 nt)] dX4_lay_9 rfl (by omega) (by decide) rfl ?_
  refine lx_aload_n F dX4_lay_10 0 rfl ?_
  refine gf_X4_35 F 0 rfl rfl dX4_lay_11 ?_
  refine lx_aload_n F dX4_lay_14 0 rfl ?_
  refine gf_X4_82 F 0 rfl rfl dX4_lay_15 ?_
  refine lx_iload_n F dX4_lay_18 2 rfl ?_
  refine lx_iast F 2 n [(y, .inr (4, [.int th, .ref acd, .ref akd, .ref act, .int us, .ref ark, .ref arr, .int z, .int kk, .long kc, .ref ali, .int mn, .ref ala, .ref anc, .ref ank, .ref ant, .int (nI n), .ref aag, .ref abk, .ref atd, .ref ase])), (anc, aI K 120 (lm_up nc n x)), (ank, aI K 120 (lm_up nk n k)), (ant, aJ K 120 nt)] dX4_lay_19 rfl (by omega) (by decide) rfl ?_
  refine lx_aload_n F dX4_lay_20 0 rfl ?_
  refine gf_X4_38 F 0 rfl rfl dX4_lay_21 ?_
  refine lx_aload_n F dX4_lay_24 0 rfl ?_
  refine gf_X4_82 F 0 rfl rfl dX4_lay_25 ?_
  refine lx_lload_n F dX4_lay_28 3 rfl ?_
  refine lx_last F 3 n [(y, .inr (4, [.int th, .ref acd, .ref akd, .ref act, .int us, .ref ark, .ref arr, .int z, .int kk, .long kc, .ref ali, .int mn, .ref ala, .ref anc, .ref ank, .ref ant, .int (nI n), .ref aag, .ref abk, .ref atd, .ref ase])), (anc, aI K 120 (lm_up nc n x)), (ank, aI K 120 (lm_up nk n k)), (ant, aJ K 120 (lm_up nt n v))] dX4_lay_29 rfl (by omega) (by decide) rfl ?_
  refine lx_aload_n F dX4_lay_30 0 rfl ?_
  refine lx_dup F dX4_lay_31 rfl ?_
  refine gf_X4_82 F 0 rfl rfl dX4_lay_32 ?_
  refine lx_iconst F dX4_lay_35 kc_1 ?_
  refine lx_iadd F dX4_lay_36 (nI_add _ _) ?_
  refine pf_X4_82 F 0 [(y, .inr (4, [.int th, .ref acd, .ref akd, .ref act, .int us, .ref ark, .ref arr, .int z, .int kk, .long kc, .ref ali, .int mn, .ref ala, .ref anc, .ref ank, .ref ant, .int (nI (n + 1)), .ref aag, .ref abk, .ref atd, .ref ase])), (anc, aI K 120 (lm_up nc n x)), (ank, aI K 120 (lm_up nk n k)), (ant, aJ K 120 (lm_up nt n v))] rfl rfl dX4_lay_37 rfl ?_
  exact lx_vret F hR dX4_lay_40 ⟨rfl, rfl⟩

set_option maxHeartbeats 4000000 in
set_option maxRecDepth 100000 in
theorem zr_enlist (l : Launch) (K : lm_G) (y acd akd act ark arr ali ala anc ank ant aag abk atd ase : Nat) (th z kk : Int32) (kc : Int64) (mn nx : Int32) (cd kd : Nat → Int32) (ct : Nat → Int64) (fl : Nat → Int32) (c : Nat → Nat) (w : Nat → lm_V) (u : Nat) (hw : lm_wf c w u) (hh : lm_mf cd kd ct c w u) (L : List Nat) (hL : lm_gd c w u L) (hl : ∀ j, j < L.length → fl j = nI (L.getD j 0)) (v : lm_V) (hv : lm_ok c u v) : lm_C l K mX4_enlist (rk 1) [.ref y, .int (nI v.1), .long (jI v.2)] [(y, .inr (4, [.int th, .ref acd, .ref akd, .ref act, .int (nI u), .ref ark, .ref arr, .int z, .int kk, .long kc, .ref ali, .int (nI L.length), .ref ala, .ref anc, .ref ank, .ref ant, .int nx, .ref aag, .ref abk, .ref atd, .ref ase])), (akd, aI K 120 kd), (act, aJ K 120 ct), (ali, aI K 120 fl)] (fun v9 w9 => v9 = none ∧ ∃ fl1 : Nat → Int32, (∀ j, j < (lm_enl w L v).length → fl1 j = nI ((lm_enl w L v).getD j 0)) ∧ w9 = [(y, .inr (4, [.int th, .ref acd, .ref akd, .ref act, .int (nI u), .ref ark, .ref arr, .int z, .int kk, .long kc, .ref ali, .int (nI ((lm_enl w L v).length)), .ref ala, .ref anc, .ref ank, .ref ant, .int nx, .ref aag, .ref abk, .ref atd, .ref ase])), (akd, aI K 120 kd), (act, aJ K 120 ct), (ali, aI K 120 fl1)]) := by
  refine lx_met RX4 pn_X4 rfl (Nat.le_of_ble_eq_true rfl) (fun E hE hnm F hR => ?_)
  have F : lx_F K 6 E cX4_enlist RX4 none (rk 1) := F
  show lx_W K 6 E 0 0 0 [(0, .ref y), (1, .int (nI v.1)), (2, .long (jI v.2))] [] [(y, .inr (4, [.int th, .ref acd, .ref akd, .ref act, .int (nI u), .ref ark, .ref arr, .int z, .int kk, .long kc, .ref ali, .int (nI L.length), .ref ala, .ref anc, .ref ank, .ref ant, .int nx, .ref aag, .ref abk, .ref atd, .ref ase])), (akd, aI K 120 kd), (act, aJ K 120 ct), (ali, aI K 120 fl)]
  have hu := hw.1
  have hv3 := lm_ok_kind hv
  have hLn : L.length ≤ u := lm_gd_len hL
  refine lx_iload_n F dX4_enlist_0 1 rfl ?_
  refine lx_iconst F dX4_enlist_1 kc_2 ?_
  refine lx_icmpN_ne F 64 (by omega) (by omega) dX4_enlist_2 rfl (fun h2 => ?_) (fun h2 => ?_)
  · skip
    exact lx_vret F hR dX4_enlist_64 ⟨rfl, fl, by rw [lm_enl_no h2]; exact hl, by rw [lm_enl_no h2]⟩
  · skip
    obtain ⟨qa, ea, la, na⟩ := lm_ok_p hv h2
    have ta : lm_to w v = lm_cell w qa := lm_to_q ea
    have ra := (lm_cell_cl hw la na).1
    rw [ea]
    refine lx_aload_n F dX4_enlist_5 0 rfl ?_
    refine lx_lload_n F dX4_enlist_6 2 rfl ?_
    refine lx_cv F (zr_cell (xl E) K y acd akd act ark arr ali ala anc ank ant aag abk atd ase th z kk kc (nI L.length) nx cd kd ct c w u hw hh qa la na) cv_X4_65 0 rfl rfl [0, 1, 2] [3] [(ali, aI K 120 fl)] rfl rfl (by decide) rfl (st := []) rfl (Nat.le_of_ble_eq_true rfl) (by decide) ⟨by decide, by decide⟩ dX4_enlist_7 (fun v9 w9 h9 => ?_)
    obtain ⟨rfl, rfl⟩ := h9
    refine lx_perm [1, 2, 3, 0] [(y, .inr (4, [.int th, .ref acd, .ref akd, .ref act, .int (nI u), .ref ark, .ref arr, .int z, .int kk, .long kc, .ref ali, .int (nI L.length), .ref ala, .ref anc, .ref ank, .ref ant, .int nx, .ref aag, .ref abk, .ref atd, .ref ase])), (akd, aI K 120 kd), (act, aJ K 120 ct), (ali, aI K 120 fl)] (by decide) rfl ?_
    refine lx_st (a' := 0) (b' := 0) [.int (nI (lm_cell w qa))] rfl rfl rfl ?_
    refine lx_istore F [(0, .ref y), (1, .int (nI v.1)), (2, .long (jI ((qa : Nat) : Int))), (4, .int (nI (lm_cell w qa)))] [1, 2, 3, 0] dX4_enlist_10 rfl (by decide) ?_
    refine lx_iconst F dX4_enlist_12 kc_0 ?_
    refine lx_istore F [(0, .ref y), (1, .int (nI v.1)), (2, .long (jI ((qa : Nat) : Int))), (4, .int (nI (lm_cell w qa))), (5, .int (nI 0))] [1, 2, 3, 4, 0] dX4_enlist_13 rfl (by decide) ?_
    have loop : ∀ (n9 : Nat) (i : Nat), i + n9 = L.length → (∀ j, j < i → L.getD j 0 ≠ lm_to w v) → lx_W K 6 E 0 0 15 [(0, .ref y), (1, .int (nI v.1)), (2, .long (jI ((qa : Nat) : Int))), (4, .int (nI (lm_cell w qa))), (5, .int (nI i))] [] [(y, .inr (4, [.int th, .ref acd, .ref akd, .ref act, .int (nI u), .ref ark, .ref arr, .int z, .int kk, .long kc, .ref ali, .int (nI L.length), .ref ala, .ref anc, .ref ank, .ref ant, .int nx, .ref aag, .ref abk, .ref atd, .ref ase])), (akd, aI K 120 kd), (act, aJ K 120 ct), (ali, aI K 120 fl)] := by
      intro n9
      induction n9 with
      | zero =>
        intro i hi hno
        refine lx_iload F dX4_enlist_15 4 rfl ?_
        refine lx_aload_n F dX4_enlist_17 0 rfl ?_
        refine gf_X4_79 F 0 rfl rfl dX4_enlist_18 ?_
        refine lx_icmpN_ge F 43 (by omega) (by omega) dX4_enlist_21 rfl (fun _ => ?_) (fun h => absurd h (by omega))
        refine lx_aload_n F dX4_enlist_43 0 rfl ?_
        refine gf_X4_26 F 0 rfl rfl dX4_enlist_44 ?_
        refine lx_aload_n F dX4_enlist_47 0 rfl ?_
        refine gf_X4_79 F 0 rfl rfl dX4_enlist_48 ?_
        refine lx_iload F dX4_enlist_51 3 rfl ?_
        have hm : lm_to w v ∉ L := lm_notin (fun j hj => hno j (by omega))
        have hlen := lm_enl_lt hw hL hv h2 hm
        refine lx_iast F 3 L.length [(y, .inr (4, [.int th, .ref acd, .ref akd, .ref act, .int (nI u), .ref ark, .ref arr, .int z, .int kk, .long kc, .ref ali, .int (nI L.length), .ref ala, .ref anc, .ref ank, .ref ant, .int nx, .ref aag, .ref abk, .ref atd, .ref ase])), (akd, aI K 120 kd), (act, aJ K 120 ct), (ali, aI K 120 (lm_up fl L.length (nI (lm_cell w qa))))] dX4_enlist_53 rfl (by omega) (by decide) rfl ?_
        refine lx_aload_n F dX4_enlist_54 0 rfl ?_
        refine lx_dup F dX4_enlist_55 rfl ?_
        refine gf_X4_79 F 0 rfl rfl dX4_enlist_56 ?_
        refine lx_iconst F dX4_enlist_59 kc_1 ?_
        refine lx_iadd F dX4_enlist_60 (nI_add _ _) ?_
        refine pf_X4_79 F 0 [(y, .inr (4, [.int th, .ref acd, .ref akd, .ref act, .int (nI u), .ref ark, .ref arr, .int z, .int kk, .long kc, .ref ali, .int (nI (L.length + 1)), .ref ala, .ref anc, .ref ank, .ref ant, .int nx, .ref aag, .ref abk, .ref atd, .ref ase])), (akd, aI K 120 kd), (act, aJ K 120 ct), (ali, aI K 120 (lm_up fl L.length (nI (lm_cell w qa))))] rfl rfl dX4_enlist_61 rfl ?_
        exact lx_vret F hR dX4_enlist_64 ⟨rfl, _, by rw [lm_enl_new h2 hm, ta]; exact lm_l1_new hl, by rw [lm_enl_new h2 hm, List.length_append]; rfl⟩
      | succ n9 ih =>
        intro i hi hno
        refine lx_iload F dX4_enlist_15 4 rfl ?_
        refine lx_aload_n F dX4_enlist_17 0 rfl ?_
        refine gf_X4_79 F 0 rfl rfl dX4_enlist_18 ?_
        refine lx_icmpN_ge F 43 (by omega) (by omega) dX4_enlist_21 rfl (fun h => absurd h (by omega)) (fun _ => ?_)
        refine lx_aload_n F dX4_enlist_24 0 rfl ?_
        refine gf_X4_26 F 0 rfl rfl dX4_enlist_25 ?_
        refine lx_iload F dX4_enlist_28 4 rfl ?_
        refine lx_iald F 3 i dX4_enlist_30 rfl (by omega) (by decide) ?_
        rw [hl i (by omega)]
        refine lx_iload F dX4_enlist_31 3 rfl ?_
        have hgi := (hL.2 _ (lm_getD_in (show i < L.length by omega))).1
        refine lx_icmpN_ne F 37 (by omega) (by omega) dX4_enlist_33 rfl (fun he => ?_) (fun he => ?_)
        · skip
          refine lx_iinc F [(0, .ref y), (1, .int (nI v.1)), (2, .long (jI ((qa : Nat) : Int))), (4, .int (nI (lm_cell w qa))), (5, .int (nI (i + 1)))] 4 [1, 2, 3, 4, 0] dX4_enlist_37 rfl (k_inc _) rfl (by decide) ?_
          refine lx_goto F 15 dX4_enlist_40 rfl ?_
          exact ih (i + 1) (by omega) (lm_ne_s hno (by rw [ta]; exact he))
        · skip
          exact lx_vret F hR dX4_enlist_36 ⟨rfl, fl, by rw [lm_enl_old (show lm_to w v ∈ L by rw [ta, ← he]; exact lm_getD_in (by omega))]; exact hl, by rw [lm_enl_old (show lm_to w v ∈ L by rw [ta, ← he]; exact lm_getD_in (by omega))]⟩
    exact loop L.length 0 (by omega) (fun j hj => absurd hj (by omega))
