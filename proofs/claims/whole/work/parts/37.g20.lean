set_option maxHeartbeats 4000000 in
set_option maxRecDepth 100000 in
theorem zL_number {K : lm_G} {E : lx_E} (F : lx_F K 8 E cL_law RL (some .boolean) room_1) {s0 L : Nat} {vs : Nat → Int32} (hX : lx_S E s0 L vs) (hTh : lm_Th (xl E) (xA E) (xs E) (xs E).heap) (hL : L ≤ 2048) (x y out k : Nat) (hk : 4 * k + 4 ≤ L) (c : Nat → Nat) (w : Nat → lm_V) (u : Nat) (rt : Nat → lm_V) (z : Int32) (hst : lm_st c w u rt) (th : Int32) (go : Nat → Int64) (W1 W2 : va_W) (h1 : lm_obj K x (c, w, u, rt, z) W1) (h2 : lm_mod K y (c, w, u, rt, z) th W2) (hend : ∀ (σ9 : lm_X) (t9 : Int32) (g9 : Nat → Int64) (A9 B9 : va_W), lm_sx σ9 → lm_obj K x σ9 A9 → lm_mod K y σ9 t9 B9 → lx_W K 8 E (34 + k + 1) (2954 + 6 * k + 6) 1142 [(0, .ref s0), (1, .ref x), (2, .ref y), (3, .ref out), (4, .int (nI (4 * k)))] [] (B9 ++ ((out, aJ K 1 g9) :: A9))) : lx_W K 8 E (34 + k) (2954 + 6 * k) 128 [(0, .ref s0), (1, .ref x), (2, .ref y), (3, .ref out), (4, .int (nI (4 * k)))] [] (W2 ++ ((out, aJ K 1 go) :: W1)) := by
  obtain ⟨fs1, he1⟩ := lm_obj_0 h1
  obtain ⟨fs2, he2⟩ := lm_mod_0 h2
  refine lx_aload_n F dL_law_128 1 rfl ?_
  refine lx_aload_n F dL_law_129 0 rfl ?_
  refine lx_iload F dL_law_130 4 rfl ?_
  refine lx_iconst F dL_law_132 kc_1 ?_
  refine lx_iadd F dL_law_133 (nI_add _ _) ?_
  refine lx_sld F hX ((4 * k) + 1) dL_law_134 (by omega) (by omega) ?_
  refine lx_aload_n F dL_law_135 0 rfl ?_
  refine lx_iload F dL_law_136 4 rfl ?_
  refine lx_iconst F dL_law_138 kc_2 ?_
  refine lx_iadd F dL_law_139 (nI_add _ _) ?_
  refine lx_sld F hX ((4 * k) + 2) dL_law_140 (by omega) (by omega) ?_
  refine lx_i2l F dL_law_141 rfl ?_
  refine lx_bipush F dL_law_142 kb_32 ?_
  refine lx_lshl F dL_law_144 rfl ?_
  refine lx_aload_n F dL_law_145 0 rfl ?_
  refine lx_iload F dL_law_146 4 rfl ?_
  refine lx_iconst F dL_law_148 kc_3 ?_
  refine lx_iadd F dL_law_149 (nI_add _ _) ?_
  refine lx_sld F hX ((4 * k) + 3) dL_law_150 (by omega) (by omega) ?_
  refine lx_i2l F dL_law_151 rfl ?_
  refine lx_ldc2 F dL_law_152 kj_L_82 ?_
  refine lx_land F dL_law_155 rfl ?_
  refine lx_lor F dL_law_156 rfl ?_
  rw [show W2 ++ ((out, aJ K 1 go) :: W1) = (W2 ++ [(out, aJ K 1 go)]) ++ W1 by simp]
  refine lx_csH F hTh (zW_number (xl E) K x c w u rt z hst W1 h1 (vs ((4 * k) + 1)) ((((vs ((4 * k) + 2)).toInt64) <<< ((nI 32).toInt64 &&& 63)) ||| (((vs ((4 * k) + 3)).toInt64) &&& (jI 4294967295)))) cw_L_84 rfl (st := []) rfl (Nat.le_of_ble_eq_true rfl) (by decide) ⟨by show 34 + k + 1 ≤ 1067; omega, by show 2954 + 6 * k + 6 ≤ 11200; omega⟩ dL_law_157 (fun v9 w9 h9 => ?_)
  obtain ⟨rfl, ho⟩ := h9
  rw [List.append_assoc]
  show lx_W K 8 E (34 + k + 1) (2954 + 6 * k + 6) 160 [(0, .ref s0), (1, .ref x), (2, .ref y), (3, .ref out), (4, .int (nI (4 * k)))] [.int (nI (lm_oNumber (vs ((4 * k) + 1)) ((((vs ((4 * k) + 2)).toInt64) <<< ((nI 32).toInt64 &&& 63)) ||| (((vs ((4 * k) + 3)).toInt64) &&& (jI 4294967295))) (c, w, u, rt, z)).1)] (W2 ++ ((out, aJ K 1 go) :: w9))
  refine lx_istore F [(0, .ref s0), (1, .ref x), (2, .ref y), (3, .ref out), (4, .int (nI (4 * k))), (5, .int (nI (lm_oNumber (vs ((4 * k) + 1)) ((((vs ((4 * k) + 2)).toInt64) <<< ((nI 32).toInt64 &&& 63)) ||| (((vs ((4 * k) + 3)).toInt64) &&& (jI 4294967295))) (c, w, u, rt, z)).1))] [1, 2, 3, 4, 5, 0] dL_law_160 rfl (by decide) ?_
  refine lx_aload_n F dL_law_162 2 rfl ?_
  refine lx_aload_n F dL_law_163 0 rfl ?_
  refine lx_iload F dL_law_164 4 rfl ?_
  refine lx_iconst F dL_law_166 kc_1 ?_
  refine lx_iadd F dL_law_167 (nI_add _ _) ?_
  refine lx_sld F hX ((4 * k) + 1) dL_law_168 (by omega) (by omega) ?_
  refine lx_aload_n F dL_law_169 0 rfl ?_
  refine lx_iload F dL_law_170 4 rfl ?_
  refine lx_iconst F dL_law_172 kc_2 ?_
  refine lx_iadd F dL_law_173 (nI_add _ _) ?_
  refine lx_sld F hX ((4 * k) + 2) dL_law_174 (by omega) (by omega) ?_
  refine lx_i2l F dL_law_175 rfl ?_
  refine lx_bipush F dL_law_176 kb_32 ?_
  refine lx_lshl F dL_law_178 rfl ?_
  refine lx_aload_n F dL_law_179 0 rfl ?_
  refine lx_iload F dL_law_180 4 rfl ?_
  refine lx_iconst F dL_law_182 kc_3 ?_
  refine lx_iadd F dL_law_183 (nI_add _ _) ?_
  refine lx_sld F hX ((4 * k) + 3) dL_law_184 (by omega) (by omega) ?_
  refine lx_i2l F dL_law_185 rfl ?_
  refine lx_ldc2 F dL_law_186 kj_L_82 ?_
  refine lx_land F dL_law_189 rfl ?_
  refine lx_lor F dL_law_190 rfl ?_
  refine lx_swap ?_
  refine lx_cvA F (zR_number (xl E) K y c w u rt z hst th W2 h2 (vs ((4 * k) + 1)) ((((vs ((4 * k) + 2)).toInt64) <<< ((nI 32).toInt64 &&& 63)) ||| (((vs ((4 * k) + 3)).toInt64) &&& (jI 4294967295)))) cv_L_89 (ci := 4) rfl he2 rfl (st := []) rfl (Nat.le_of_ble_eq_true rfl) (by decide) ⟨by show 34 + k + 1 ≤ 1067; omega, by show 2954 + 6 * k + 6 ≤ 11200; omega⟩ dL_law_191 (fun v8 w8 h8 => ?_)
  obtain ⟨rfl, hm⟩ := h8
  have hkp : lm_sx (lm_oNumber (vs ((4 * k) + 1)) ((((vs ((4 * k) + 2)).toInt64) <<< ((nI 32).toInt64 &&& 63)) ||| (((vs ((4 * k) + 3)).toInt64) &&& (jI 4294967295))) (c, w, u, rt, z)).2 := lm_k_number (vs ((4 * k) + 1)) ((((vs ((4 * k) + 2)).toInt64) <<< ((nI 32).toInt64 &&& 63)) ||| (((vs ((4 * k) + 3)).toInt64) &&& (jI 4294967295))) (σ := (c, w, u, rt, z)) hst
  generalize lm_oNumber (vs ((4 * k) + 1)) ((((vs ((4 * k) + 2)).toInt64) <<< ((nI 32).toInt64 &&& 63)) ||| (((vs ((4 * k) + 3)).toInt64) &&& (jI 4294967295))) (c, w, u, rt, z) = r9 at ho hm hkp ⊢
  obtain ⟨cd, c1, w1, u1, rt1, z1⟩ := r9
  show lx_W K 8 E (34 + k + 1) (2954 + 6 * k + 6) 194 [(0, .ref s0), (1, .ref x), (2, .ref y), (3, .ref out), (4, .int (nI (4 * k))), (5, .int (nI cd))] [] (((out, aJ K 1 go) :: w9) ++ w8)
  refine lx_aload_n F dL_law_194 2 rfl ?_
  obtain ⟨fs3, he3⟩ := lm_mod_0 hm
  refine lx_cvA F (zR_thrown (xl E) K y c1 w1 u1 rt1 z1 (nI cd) w8 hm) cv_L_90 (ci := 4) rfl he3 rfl (st := []) rfl (Nat.le_of_ble_eq_true rfl) (by decide) ⟨by show 34 + k + 1 ≤ 1067; omega, by show 2954 + 6 * k + 6 ≤ 11200; omega⟩ dL_law_195 (fun v6 w7 h6 => ?_)
  obtain ⟨rfl, hm7⟩ := h6
  show lx_W K 8 E (34 + k + 1) (2954 + 6 * k + 6) 198 [(0, .ref s0), (1, .ref x), (2, .ref y), (3, .ref out), (4, .int (nI (4 * k))), (5, .int (nI cd))] [.int (nI cd)] (((out, aJ K 1 go) :: w9) ++ w7)
  refine lx_iload F dL_law_198 5 rfl ?_
  refine lx_icmp_eq F 205 dL_law_200 rfl (fun _ => ?_) (fun h => absurd rfl h)
  refine lx_goto F 1142 dL_law_205 rfl ?_
  refine lx_swap ?_
  refine lx_lv [0, 1, 2, 3, 4] [(0, .ref s0), (1, .ref x), (2, .ref y), (3, .ref out), (4, .int (nI (4 * k)))] rfl ?_
  exact hend _ _ _ _ _ hkp ho hm7

set_option maxHeartbeats 4000000 in
set_option maxRecDepth 100000 in
theorem zL_drop {K : lm_G} {E : lx_E} (F : lx_F K 8 E cL_law RL (some .boolean) room_1) {s0 L : Nat} {vs : Nat → Int32} (hX : lx_S E s0 L vs) (hTh : lm_Th (xl E) (xA E) (xs E) (xs E).heap) (hL : L ≤ 2048) (x y out k : Nat) (hk : 4 * k + 4 ≤ L) (c : Nat → Nat) (w : Nat → lm_V) (u : Nat) (rt : Nat → lm_V) (z : Int32) (hst : lm_st c w u rt) (th : Int32) (go : Nat → Int64) (W1 W2 : va_W) (h1 : lm_obj K x (c, w, u, rt, z) W1) (h2 : lm_mod K y (c, w, u, rt, z) th W2) (hend : ∀ (σ9 : lm_X) (t9 : Int32) (g9 : Nat → Int64) (A9 B9 : va_W), lm_sx σ9 → lm_obj K x σ9 A9 → lm_mod K y σ9 t9 B9 → lx_W K 8 E (34 + k + 1) (2954 + 6 * k + 6) 1142 [(0, .ref s0), (1, .ref x), (2, .ref y), (3, .ref out), (4, .int (nI (4 * k)))] [] (B9 ++ ((out, aJ K 1 g9) :: A9))) : lx_W K 8 E (34 + k) (2954 + 6 * k) 208 [(0, .ref s0), (1, .ref x), (2, .ref y), (3, .ref out), (4, .int (nI (4 * k)))] [] (W2 ++ ((out, aJ K 1 go) :: W1)) := by
  obtain ⟨fs1, he1⟩ := lm_obj_0 h1
  obtain ⟨fs2, he2⟩ := lm_mod_0 h2
  refine lx_aload_n F dL_law_208 1 rfl ?_
  refine lx_aload_n F dL_law_209 0 rfl ?_
  refine lx_iload F dL_law_210 4 rfl ?_
  refine lx_iconst F dL_law_212 kc_1 ?_
  refine lx_iadd F dL_law_213 (nI_add _ _) ?_
  refine lx_sld F hX ((4 * k) + 1) dL_law_214 (by omega) (by omega) ?_
  rw [show W2 ++ ((out, aJ K 1 go) :: W1) = (W2 ++ [(out, aJ K 1 go)]) ++ W1 by simp]
  refine lx_csH F hTh (zW_drop (xl E) K x c w u rt z hst W1 h1 (vs ((4 * k) + 1))) cw_L_94 rfl (st := []) rfl (Nat.le_of_ble_eq_true rfl) (by decide) ⟨by show 34 + k + 1 ≤ 1067; omega, by show 2954 + 6 * k + 6 ≤ 11200; omega⟩ dL_law_215 (fun v9 w9 h9 => ?_)
  obtain ⟨rfl, ho⟩ := h9
  rw [List.append_assoc]
  show lx_W K 8 E (34 + k + 1) (2954 + 6 * k + 6) 218 [(0, .ref s0), (1, .ref x), (2, .ref y), (3, .ref out), (4, .int (nI (4 * k)))] [.int (nI (lm_oDrop (vs ((4 * k) + 1)) (c, w, u, rt, z)).1)] (W2 ++ ((out, aJ K 1 go) :: w9))
  refine lx_istore F [(0, .ref s0), (1, .ref x), (2, .ref y), (3, .ref out), (4, .int (nI (4 * k))), (5, .int (nI (lm_oDrop (vs ((4 * k) + 1)) (c, w, u, rt, z)).1))] [1, 2, 3, 4, 5, 0] dL_law_218 rfl (by decide) ?_
  refine lx_aload_n F dL_law_220 2 rfl ?_
  refine lx_aload_n F dL_law_221 0 rfl ?_
  refine lx_iload F dL_law_222 4 rfl ?_
  refine lx_iconst F dL_law_224 kc_1 ?_
  refine lx_iadd F dL_law_225 (nI_add _ _) ?_
  refine lx_sld F hX ((4 * k) + 1) dL_law_226 (by omega) (by omega) ?_
  refine lx_swap ?_
  refine lx_cvA F (zR_drop (xl E) K y c w u rt z hst th W2 h2 (vs ((4 * k) + 1))) cv_L_97 (ci := 4) rfl he2 rfl (st := []) rfl (Nat.le_of_ble_eq_true rfl) (by decide) ⟨by show 34 + k + 1 ≤ 1067; omega, by show 2954 + 6 * k + 6 ≤ 11200; omega⟩ dL_law_227 (fun v8 w8 h8 => ?_)
  obtain ⟨rfl, hm⟩ := h8
  have hkp : lm_sx (lm_oDrop (vs ((4 * k) + 1)) (c, w, u, rt, z)).2 := lm_k_drop (vs ((4 * k) + 1)) (σ := (c, w, u, rt, z)) hst
  generalize lm_oDrop (vs ((4 * k) + 1)) (c, w, u, rt, z) = r9 at ho hm hkp ⊢
  obtain ⟨cd, c1, w1, u1, rt1, z1⟩ := r9
  show lx_W K 8 E (34 + k + 1) (2954 + 6 * k + 6) 230 [(0, .ref s0), (1, .ref x), (2, .ref y), (3, .ref out), (4, .int (nI (4 * k))), (5, .int (nI cd))] [] (((out, aJ K 1 go) :: w9) ++ w8)
  refine lx_aload_n F dL_law_230 2 rfl ?_
  obtain ⟨fs3, he3⟩ := lm_mod_0 hm
  refine lx_cvA F (zR_thrown (xl E) K y c1 w1 u1 rt1 z1 (nI cd) w8 hm) cv_L_90 (ci := 4) rfl he3 rfl (st := []) rfl (Nat.le_of_ble_eq_true rfl) (by decide) ⟨by show 34 + k + 1 ≤ 1067; omega, by show 2954 + 6 * k + 6 ≤ 11200; omega⟩ dL_law_231 (fun v6 w7 h6 => ?_)
  obtain ⟨rfl, hm7⟩ := h6
  show lx_W K 8 E (34 + k + 1) (2954 + 6 * k + 6) 234 [(0, .ref s0), (1, .ref x), (2, .ref y), (3, .ref out), (4, .int (nI (4 * k))), (5, .int (nI cd))] [.int (nI cd)] (((out, aJ K 1 go) :: w9) ++ w7)
  refine lx_iload F dL_law_234 5 rfl ?_
  refine lx_icmp_eq F 241 dL_law_236 rfl (fun _ => ?_) (fun h => absurd rfl h)
  refine lx_goto F 1142 dL_law_241 rfl ?_
  refine lx_swap ?_
  refine lx_lv [0, 1, 2, 3, 4] [(0, .ref s0), (1, .ref x), (2, .ref y), (3, .ref out), (4, .int (nI (4 * k)))] rfl ?_
  exact hend _ _ _ _ _ hkp ho hm7

set_option maxHeartbeats 4000000 in
set_option maxRecDepth 100000 in
theorem zL_copy {K : lm_G} {E : lx_E} (F : lx_F K 8 E cL_law RL (some .boolean) room_1) {s0 L : Nat} {vs : Nat → Int32} (hX : lx_S E s0 L vs) (hTh : lm_Th (xl E) (xA E) (xs E) (xs E).heap) (hL : L ≤ 2048) (x y out k : Nat) (hk : 4 * k + 4 ≤ L) (c : Nat → Nat) (w : Nat → lm_V) (u : Nat) (rt : Nat → lm_V) (z : Int32) (hst : lm_st c w u rt) (th : Int32) (go : Nat → Int64) (W1 W2 : va_W) (h1 : lm_obj K x (c, w, u, rt, z) W1) (h2 : lm_mod K y (c, w, u, rt, z) th W2) (hend : ∀ (σ9 : lm_X) (t9 : Int32) (g9 : Nat → Int64) (A9 B9 : va_W), lm_sx σ9 → lm_obj K x σ9 A9 → lm_mod K y σ9 t9 B9 → lx_W K 8 E (34 + k + 1) (2954 + 6 * k + 6) 1142 [(0, .ref s0), (1, .ref x), (2, .ref y), (3, .ref out), (4, .int (nI (4 * k)))] [] (B9 ++ ((out, aJ K 1 g9) :: A9))) : lx_W K 8 E (34 + k) (2954 + 6 * k) 244 [(0, .ref s0), (1, .ref x), (2, .ref y), (3, .ref out), (4, .int (nI (4 * k)))] [] (W2 ++ ((out, aJ K 1 go) :: W1)) := by
  obtain ⟨fs1, he1⟩ := lm_obj_0 h1
  obtain ⟨fs2, he2⟩ := lm_mod_0 h2
  refine lx_aload_n F dL_law_244 1 rfl ?_
  refine lx_aload_n F dL_law_245 0 rfl ?_
  refine lx_iload F dL_law_246 4 rfl ?_
  refine lx_iconst F dL_law_248 kc_1 ?_
  refine lx_iadd F dL_law_249 (nI_add _ _) ?_
  refine lx_sld F hX ((4 * k) + 1) dL_law_250 (by omega) (by omega) ?_
  refine lx_aload_n F dL_law_251 0 rfl ?_
  refine lx_iload F dL_law_252 4 rfl ?_
  refine lx_iconst F dL_law_254 kc_2 ?_
  refine lx_iadd F dL_law_255 (nI_add _ _) ?_
  refine lx_sld F hX ((4 * k) + 2) dL_law_256 (by omega) (by omega) ?_
  rw [show W2 ++ ((out, aJ K 1 go) :: W1) = (W2 ++ [(out, aJ K 1 go)]) ++ W1 by simp]
  refine lx_csH F hTh (zW_copy (xl E) K x c w u rt z hst W1 h1 (vs ((4 * k) + 1)) (vs ((4 * k) + 2))) cw_L_98 rfl (st := []) rfl (Nat.le_of_ble_eq_true rfl) (by decide) ⟨by show 34 + k + 1 ≤ 1067; omega, by show 2954 + 6 * k + 6 ≤ 11200; omega⟩ dL_law_257 (fun v9 w9 h9 => ?_)
  obtain ⟨rfl, ho⟩ := h9
  rw [List.append_assoc]
  show lx_W K 8 E (34 + k + 1) (2954 + 6 * k + 6) 260 [(0, .ref s0), (1, .ref x), (2, .ref y), (3, .ref out), (4, .int (nI (4 * k)))] [.int (nI (lm_oCopy (vs ((4 * k) + 1)) (vs ((4 * k) + 2)) (c, w, u, rt, z)).1)] (W2 ++ ((out, aJ K 1 go) :: w9))
  refine lx_istore F [(0, .ref s0), (1, .ref x), (2, .ref y), (3, .ref out), (4, .int (nI (4 * k))), (5, .int (nI (lm_oCopy (vs ((4 * k) + 1)) (vs ((4 * k) + 2)) (c, w, u, rt, z)).1))] [1, 2, 3, 4, 5, 0] dL_law_260 rfl (by decide) ?_
  refine lx_aload_n F dL_law_262 2 rfl ?_
  refine lx_aload_n F dL_law_263 0 rfl ?_
  refine lx_iload F dL_law_264 4 rfl ?_
  refine lx_iconst F dL_law_266 kc_1 ?_
  refine lx_iadd F dL_law_267 (nI_add _ _) ?_
  refine lx_sld F hX ((4 * k) + 1) dL_law_268 (by omega) (by omega) ?_
  refine lx_aload_n F dL_law_269 0 rfl ?_
  refine lx_iload F dL_law_270 4 rfl ?_
  refine lx_iconst F dL_law_272 kc_2 ?_
  refine lx_iadd F dL_law_273 (nI_add _ _) ?_
  refine lx_sld F hX ((4 * k) + 2) dL_law_274 (by omega) (by omega) ?_
  refine lx_swap ?_
  refine lx_cvA F (zR_copy (xl E) K y c w u rt z hst th W2 h2 (vs ((4 * k) + 1)) (vs ((4 * k) + 2))) cv_L_101 (ci := 4) rfl he2 rfl (st := []) rfl (Nat.le_of_ble_eq_true rfl) (by decide) ⟨by show 34 + k + 1 ≤ 1067; omega, by show 2954 + 6 * k + 6 ≤ 11200; omega⟩ dL_law_275 (fun v8 w8 h8 => ?_)
  obtain ⟨rfl, hm⟩ := h8
  have hkp : lm_sx (lm_oCopy (vs ((4 * k) + 1)) (vs ((4 * k) + 2)) (c, w, u, rt, z)).2 := lm_k_copy (vs ((4 * k) + 1)) (vs ((4 * k) + 2)) (σ := (c, w, u, rt, z)) hst
  generalize lm_oCopy (vs ((4 * k) + 1)) (vs ((4 * k) + 2)) (c, w, u, rt, z) = r9 at ho hm hkp ⊢
  obtain ⟨cd, c1, w1, u1, rt1, z1⟩ := r9
  show lx_W K 8 E (34 + k + 1) (2954 + 6 * k + 6) 278 [(0, .ref s0), (1, .ref x), (2, .ref y), (3, .ref out), (4, .int (nI (4 * k))), (5, .int (nI cd))] [] (((out, aJ K 1 go) :: w9) ++ w8)
  refine lx_aload_n F dL_law_278 2 rfl ?_
  obtain ⟨fs3, he3⟩ := lm_mod_0 hm
  refine lx_cvA F (zR_thrown (xl E) K y c1 w1 u1 rt1 z1 (nI cd) w8 hm) cv_L_90 (ci := 4) rfl he3 rfl (st := []) rfl (Nat.le_of_ble_eq_true rfl) (by decide) ⟨by show 34 + k + 1 ≤ 1067; omega, by show 2954 + 6 * k + 6 ≤ 11200; omega⟩ dL_law_279 (fun v6 w7 h6 => ?_)
  obtain ⟨rfl, hm7⟩ := h6
  show lx_W K 8 E (34 + k + 1) (2954 + 6 * k + 6) 282 [(0, .ref s0), (1, .ref x), (2, .ref y), (3, .ref out), (4, .int (nI (4 * k))), (5, .int (nI cd))] [.int (nI cd)] (((out, aJ K 1 go) :: w9) ++ w7)
  refine lx_iload F dL_law_282 5 rfl ?_
  refine lx_icmp_eq F 289 dL_law_284 rfl (fun _ => ?_) (fun h => absurd rfl h)
  refine lx_goto F 1142 dL_law_289 rfl ?_
  refine lx_swap ?_
  refine lx_lv [0, 1, 2, 3, 4] [(0, .ref s0), (1, .ref x), (2, .ref y), (3, .ref out), (4, .int (nI (4 * k)))] rfl ?_
  exact hend _ _ _ _ _ hkp ho hm7

set_option maxHeartbeats 4000000 in
set_option maxRecDepth 100000 in
theorem zL_cons {K : lm_G} {E : lx_E} (F : lx_F K 8 E cL_law RL (some .boolean) room_1) {s0 L : Nat} {vs : Nat → Int32} (hX : lx_S E s0 L vs) (hTh : lm_Th (xl E) (xA E) (xs E) (xs E).heap) (hL : L ≤ 2048) (x y out k : Nat) (hk : 4 * k + 4 ≤ L) (c : Nat → Nat) (w : Nat → lm_V) (u : Nat) (rt : Nat → lm_V) (z : Int32) (hst : lm_st c w u rt) (th : Int32) (go : Nat → Int64) (W1 W2 : va_W) (h1 : lm_obj K x (c, w, u, rt, z) W1) (h2 : lm_mod K y (c, w, u, rt, z) th W2) (hend : ∀ (σ9 : lm_X) (t9 : Int32) (g9 : Nat → Int64) (A9 B9 : va_W), lm_sx σ9 → lm_obj K x σ9 A9 → lm_mod K y σ9 t9 B9 → lx_W K 8 E (34 + k + 1) (2954 + 6 * k + 6) 1142 [(0, .ref s0), (1, .ref x), (2, .ref y), (3, .ref out), (4, .int (nI (4 * k)))] [] (B9 ++ ((out, aJ K 1 g9) :: A9))) : lx_W K 8 E (34 + k) (2954 + 6 * k) 292 [(0, .ref s0), (1, .ref x), (2, .ref y), (3, .ref out), (4, .int (nI (4 * k)))] [] (W2 ++ ((out, aJ K 1 go) :: W1)) := by
  obtain ⟨fs1, he1⟩ := lm_obj_0 h1
  obtain ⟨fs2, he2⟩ := lm_mod_0 h2
  refine lx_aload_n F dL_law_292 1 rfl ?_
  refine lx_aload_n F dL_law_293 0 rfl ?_
  refine lx_iload F dL_law_294 4 rfl ?_
  refine lx_iconst F dL_law_296 kc_1 ?_
  refine lx_iadd F dL_law_297 (nI_add _ _) ?_
  refine lx_sld F hX ((4 * k) + 1) dL_law_298 (by omega) (by omega) ?_
  refine lx_aload_n F dL_law_299 0 rfl ?_
  refine lx_iload F dL_law_300 4 rfl ?_
  refine lx_iconst F dL_law_302 kc_2 ?_
  refine lx_iadd F dL_law_303 (nI_add _ _) ?_
  refine lx_sld F hX ((4 * k) + 2) dL_law_304 (by omega) (by omega) ?_
  refine lx_aload_n F dL_law_305 0 rfl ?_
  refine lx_iload F dL_law_306 4 rfl ?_
  refine lx_iconst F dL_law_308 kc_3 ?_
  refine lx_iadd F dL_law_309 (nI_add _ _) ?_
  refine lx_sld F hX ((4 * k) + 3) dL_law_310 (by omega) (by omega) ?_
  rw [show W2 ++ ((out, aJ K 1 go) :: W1) = (W2 ++ [(out, aJ K 1 go)]) ++ W1 by simp]
  refine lx_csH F hTh (zW_cons (xl E) K x c w u rt z hst W1 h1 (vs ((4 * k) + 1)) (vs ((4 * k) + 2)) (vs ((4 * k) + 3))) cw_L_102 rfl (st := []) rfl (Nat.le_of_ble_eq_true rfl) (by decide) ⟨by show 34 + k + 1 ≤ 1067; omega, by show 2954 + 6 * k + 6 ≤ 11200; omega⟩ dL_law_311 (fun v9 w9 h9 => ?_)
  obtain ⟨rfl, ho⟩ := h9
  rw [List.append_assoc]
  show lx_W K 8 E (34 + k + 1) (2954 + 6 * k + 6) 314 [(0, .ref s0), (1, .ref x), (2, .ref y), (3, .ref out), (4, .int (nI (4 * k)))] [.int (nI (lm_oCons (vs ((4 * k) + 1)) (vs ((4 * k) + 2)) (vs ((4 * k) + 3)) (c, w, u, rt, z)).1)] (W2 ++ ((out, aJ K 1 go) :: w9))
  refine lx_istore F [(0, .ref s0), (1, .ref x), (2, .ref y), (3, .ref out), (4, .int (nI (4 * k))), (5, .int (nI (lm_oCons (vs ((4 * k) + 1)) (vs ((4 * k) + 2)) (vs ((4 * k) + 3)) (c, w, u, rt, z)).1))] [1, 2, 3, 4, 5, 0] dL_law_314 rfl (by decide) ?_
  refine lx_aload_n F dL_law_316 2 rfl ?_
  refine lx_aload_n F dL_law_317 0 rfl ?_
  refine lx_iload F dL_law_318 4 rfl ?_
  refine lx_iconst F dL_law_320 kc_1 ?_
  refine lx_iadd F dL_law_321 (nI_add _ _) ?_
  refine lx_sld F hX ((4 * k) + 1) dL_law_322 (by omega) (by omega) ?_
  refine lx_aload_n F dL_law_323 0 rfl ?_
  refine lx_iload F dL_law_324 4 rfl ?_
  refine lx_iconst F dL_law_326 kc_2 ?_
  refine lx_iadd F dL_law_327 (nI_add _ _) ?_
  refine lx_sld F hX ((4 * k) + 2) dL_law_328 (by omega) (by omega) ?_
  refine lx_aload_n F dL_law_329 0 rfl ?_
  refine lx_iload F dL_law_330 4 rfl ?_
  refine lx_iconst F dL_law_332 kc_3 ?_
  refine lx_iadd F dL_law_333 (nI_add _ _) ?_
  refine lx_sld F hX ((4 * k) + 3) dL_law_334 (by omega) (by omega) ?_
  refine lx_swap ?_
  refine lx_cvA F (zR_cons (xl E) K y c w u rt z hst th W2 h2 (vs ((4 * k) + 1)) (vs ((4 * k) + 2)) (vs ((4 * k) + 3))) cv_L_105 (ci := 4) rfl he2 rfl (st := []) rfl (Nat.le_of_ble_eq_true rfl) (by decide) ⟨by show 34 + k + 1 ≤ 1067; omega, by show 2954 + 6 * k + 6 ≤ 11200; omega⟩ dL_law_335 (fun v8 w8 h8 => ?_)
  obtain ⟨rfl, hm⟩ := h8
  have hkp : lm_sx (lm_oCons (vs ((4 * k) + 1)) (vs ((4 * k) + 2)) (vs ((4 * k) + 3)) (c, w, u, rt, z)).2 := lm_k_cons (vs ((4 * k) + 1)) (vs ((4 * k) + 2)) (vs ((4 * k) + 3)) (σ := (c, w, u, rt, z)) hst
  generalize lm_oCons (vs ((4 * k) + 1)) (vs ((4 * k) + 2)) (vs ((4 * k) + 3)) (c, w, u, rt, z) = r9 at ho hm hkp ⊢
  obtain ⟨cd, c1, w1, u1, rt1, z1⟩ := r9
  show lx_W K 8 E (34 + k + 1) (2954 + 6 * k + 6) 338 [(0, .ref s0), (1, .ref x), (2, .ref y), (3, .ref out), (4, .int (nI (4 * k))), (5, .int (nI cd))] [] (((out, aJ K 1 go) :: w9) ++ w8)
  refine lx_aload_n F dL_law_338 2 rfl ?_
  obtain ⟨fs3, he3⟩ := lm_mod_0 hm
  refine lx_cvA F (zR_thrown (xl E) K y c1 w1 u1 rt1 z1 (nI cd) w8 hm) cv_L_90 (ci := 4) rfl he3 rfl (st := []) rfl (Nat.le_of_ble_eq_true rfl) (by decide) ⟨by show 34 + k + 1 ≤ 1067; omega, by show 2954 + 6 * k + 6 ≤ 11200; omega⟩ dL_law_339 (fun v6 w7 h6 => ?_)
  obtain ⟨rfl, hm7⟩ := h6
  show lx_W K 8 E (34 + k + 1) (2954 + 6 * k + 6) 342 [(0, .ref s0), (1, .ref x), (2, .ref y), (3, .ref out), (4, .int (nI (4 * k))), (5, .int (nI cd))] [.int (nI cd)] (((out, aJ K 1 go) :: w9) ++ w7)
  refine lx_iload F dL_law_342 5 rfl ?_
  refine lx_icmp_eq F 349 dL_law_344 rfl (fun _ => ?_) (fun h => absurd rfl h)
  refine lx_goto F 1142 dL_law_349 rfl ?_
  refine lx_swap ?_
  refine lx_lv [0, 1, 2, 3, 4] [(0, .ref s0), (1, .ref x), (2, .ref y), (3, .ref out), (4, .int (nI (4 * k)))] rfl ?_
  exact hend _ _ _ _ _ hkp ho hm7

set_option maxHeartbeats 4000000 in
set_option maxRecDepth 100000 in
theorem zL_list {K : lm_G} {E : lx_E} (F : lx_F K 8 E cL_law RL (some .boolean) room_1) {s0 L : Nat} {vs : Nat → Int32} (hX : lx_S E s0 L vs) (hTh : lm_Th (xl E) (xA E) (xs E) (xs E).heap) (hL : L ≤ 2048) (x y out k : Nat) (hk : 4 * k + 4 ≤ L) (c : Nat → Nat) (w : Nat → lm_V) (u : Nat) (rt : Nat → lm_V) (z : Int32) (hst : lm_st c w u rt) (th : Int32) (go : Nat → Int64) (W1 W2 : va_W) (h1 : lm_obj K x (c, w, u, rt, z) W1) (h2 : lm_mod K y (c, w, u, rt, z) th W2) (hend : ∀ (σ9 : lm_X) (t9 : Int32) (g9 : Nat → Int64) (A9 B9 : va_W), lm_sx σ9 → lm_obj K x σ9 A9 → lm_mod K y σ9 t9 B9 → lx_W K 8 E (34 + k + 1) (2954 + 6 * k + 6) 1142 [(0, .ref s0), (1, .ref x), (2, .ref y), (3, .ref out), (4, .int (nI (4 * k)))] [] (B9 ++ ((out, aJ K 1 g9) :: A9))) : lx_W K 8 E (34 + k) (2954 + 6 * k) 352 [(0, .ref s0), (1, .ref x), (2, .ref y), (3, .ref out), (4, .int (nI (4 * k)))] [] (W2 ++ ((out, aJ K 1 go) :: W1)) := by
  obtain ⟨fs1, he1⟩ := lm_obj_0 h1
  obtain ⟨fs2, he2⟩ := lm_mod_0 h2
  refine lx_aload_n F dL_law_352 1 rfl ?_
  refine lx_aload_n F dL_law_353 0 rfl ?_
  refine lx_iload F dL_law_354 4 rfl ?_
  refine lx_iconst F dL_law_356 kc_1 ?_
  refine lx_iadd F dL_law_357 (nI_add _ _) ?_
  refine lx_sld F hX ((4 * k) + 1) dL_law_358 (by omega) (by omega) ?_
  refine lx_aload_n F dL_law_359 0 rfl ?_
  refine lx_iload F dL_law_360 4 rfl ?_
  refine lx_iconst F dL_law_362 kc_2 ?_
  refine lx_iadd F dL_law_363 (nI_add _ _) ?_
  refine lx_sld F hX ((4 * k) + 2) dL_law_364 (by omega) (by omega) ?_
  refine lx_aload_n F dL_law_365 0 rfl ?_
  refine lx_iload F dL_law_366 4 rfl ?_
  refine lx_iconst F dL_law_368 kc_3 ?_
  refine lx_iadd F dL_law_369 (nI_add _ _) ?_
  refine lx_sld F hX ((4 * k) + 3) dL_law_370 (by omega) (by omega) ?_
  rw [show W2 ++ ((out, aJ K 1 go) :: W1) = (W2 ++ [(out, aJ K 1 go)]) ++ W1 by simp]
  refine lx_csH F hTh (zW_list (xl E) K x c w u rt z hst W1 h1 (vs ((4 * k) + 1)) (vs ((4 * k) + 2)) (vs ((4 * k) + 3))) cw_L_106 rfl (st := []) rfl (Nat.le_of_ble_eq_true rfl) (by decide) ⟨by show 34 + k + 1 ≤ 1067; omega, by show 2954 + 6 * k + 6 ≤ 11200; omega⟩ dL_law_371 (fun v9 w9 h9 => ?_)
  obtain ⟨rfl, ho⟩ := h9
  rw [List.append_assoc]
  show lx_W K 8 E (34 + k + 1) (2954 + 6 * k + 6) 374 [(0, .ref s0), (1, .ref x), (2, .ref y), (3, .ref out), (4, .int (nI (4 * k)))] [.int (nI (lm_oList (vs ((4 * k) + 1)) (vs ((4 * k) + 2)) (vs ((4 * k) + 3)) (c, w, u, rt, z)).1)] (W2 ++ ((out, aJ K 1 go) :: w9))
  refine lx_istore F [(0, .ref s0), (1, .ref x), (2, .ref y), (3, .ref out), (4, .int (nI (4 * k))), (5, .int (nI (lm_oList (vs ((4 * k) + 1)) (vs ((4 * k) + 2)) (vs ((4 * k) + 3)) (c, w, u, rt, z)).1))] [1, 2, 3, 4, 5, 0] dL_law_374 rfl (by decide) ?_
  refine lx_aload_n F dL_law_376 2 rfl ?_
  refine lx_aload_n F dL_law_377 0 rfl ?_
  refine lx_iload F dL_law_378 4 rfl ?_
  refine lx_iconst F dL_law_380 kc_1 ?_
  refine lx_iadd F dL_law_381 (nI_add _ _) ?_
  refine lx_sld F hX ((4 * k) + 1) dL_law_382 (by omega) (by omega) ?_
  refine lx_aload_n F dL_law_383 0 rfl ?_
  refine lx_iload F dL_law_384 4 rfl ?_
  refine lx_iconst F dL_law_386 kc_2 ?_
  refine lx_iadd F dL_law_387 (nI_add _ _) ?_
  refine lx_sld F hX ((4 * k) + 2) dL_law_388 (by omega) (by omega) ?_
  refine lx_aload_n F dL_law_389 0 rfl ?_
  refine lx_iload F dL_law_390 4 rfl ?_
  refine lx_iconst F dL_law_392 kc_3 ?_
  refine lx_iadd F dL_law_393 (nI_add _ _) ?_
  refine lx_sld F hX ((4 * k) + 3) dL_law_394 (by omega) (by omega) ?_
  refine lx_swap ?_
  refine lx_cvA F (zR_list (xl E) K y c w u rt z hst th W2 h2 (vs ((4 * k) + 1)) (vs ((4 * k) + 2)) (vs ((4 * k) + 3))) cv_L_108 (ci := 4) rfl he2 rfl (st := []) rfl (Nat.le_of_ble_eq_true rfl) (by decide) ⟨by show 34 + k + 1 ≤ 1067; omega, by show 2954 + 6 * k + 6 ≤ 11200; omega⟩ dL_law_395 (fun v8 w8 h8 => ?_)
  obtain ⟨rfl, hm⟩ := h8
  have hkp : lm_sx (lm_oList (vs ((4 * k) + 1)) (vs ((4 * k) + 2)) (vs ((4 * k) + 3)) (c, w, u, rt, z)).2 := lm_k_list (vs ((4 * k) + 1)) (vs ((4 * k) + 2)) (vs ((4 * k) + 3)) (σ := (c, w, u, rt, z)) hst
  generalize lm_oList (vs ((4 * k) + 1)) (vs ((4 * k) + 2)) (vs ((4 * k) + 3)) (c, w, u, rt, z) = r9 at ho hm hkp ⊢
  obtain ⟨cd, c1, w1, u1, rt1, z1⟩ := r9
  show lx_W K 8 E (34 + k + 1) (2954 + 6 * k + 6) 398 [(0, .ref s0), (1, .ref x), (2, .ref y), (3, .ref out), (4, .int (nI (4 * k))), (5, .int (nI cd))] [] (((out, aJ K 1 go) :: w9) ++ w8)
  refine lx_aload_n F dL_law_398 2 rfl ?_
  obtain ⟨fs3, he3⟩ := lm_mod_0 hm
  refine lx_cvA F (zR_thrown (xl E) K y c1 w1 u1 rt1 z1 (nI cd) w8 hm) cv_L_90 (ci := 4) rfl he3 rfl (st := []) rfl (Nat.le_of_ble_eq_true rfl) (by decide) ⟨by show 34 + k + 1 ≤ 1067; omega, by show 2954 + 6 * k + 6 ≤ 11200; omega⟩ dL_law_399 (fun v6 w7 h6 => ?_)
  obtain ⟨rfl, hm7⟩ := h6
  show lx_W K 8 E (34 + k + 1) (2954 + 6 * k + 6) 402 [(0, .ref s0), (1, .ref x), (2, .ref y), (3, .ref out), (4, .int (nI (4 * k))), (5, .int (nI cd))] [.int (nI cd)] (((out, aJ K 1 go) :: w9) ++ w7)
  refine lx_iload F dL_law_402 5 rfl ?_
  refine lx_icmp_eq F 409 dL_law_404 rfl (fun _ => ?_) (fun h => absurd rfl h)
  refine lx_goto F 1142 dL_law_409 rfl ?_
  refine lx_swap ?_
  refine lx_lv [0, 1, 2, 3, 4] [(0, .ref s0), (1, .ref x), (2, .ref y), (3, .ref out), (4, .int (nI (4 * k)))] rfl ?_
  exact hend _ _ _ _ _ hkp ho hm7

set_option maxHeartbeats 4000000 in
set_option maxRecDepth 100000 in
theorem zL_first {K : lm_G} {E : lx_E} (F : lx_F K 8 E cL_law RL (some .boolean) room_1) {s0 L : Nat} {vs : Nat → Int32} (hX : lx_S E s0 L vs) (hTh : lm_Th (xl E) (xA E) (xs E) (xs E).heap) (hL : L ≤ 2048) (x y out k : Nat) (hk : 4 * k + 4 ≤ L) (c : Nat → Nat) (w : Nat → lm_V) (u : Nat) (rt : Nat → lm_V) (z : Int32) (hst : lm_st c w u rt) (th : Int32) (go : Nat → Int64) (W1 W2 : va_W) (h1 : lm_obj K x (c, w, u, rt, z) W1) (h2 : lm_mod K y (c, w, u, rt, z) th W2) (hend : ∀ (σ9 : lm_X) (t9 : Int32) (g9 : Nat → Int64) (A9 B9 : va_W), lm_sx σ9 → lm_obj K x σ9 A9 → lm_mod K y σ9 t9 B9 → lx_W K 8 E (34 + k + 1) (2954 + 6 * k + 6) 1142 [(0, .ref s0), (1, .ref x), (2, .ref y), (3, .ref out), (4, .int (nI (4 * k)))] [] (B9 ++ ((out, aJ K 1 g9) :: A9))) : lx_W K 8 E (34 + k) (2954 + 6 * k) 412 [(0, .ref s0), (1, .ref x), (2, .ref y), (3, .ref out), (4, .int (nI (4 * k)))] [] (W2 ++ ((out, aJ K 1 go) :: W1)) := by
  obtain ⟨fs1, he1⟩ := lm_obj_0 h1
  obtain ⟨fs2, he2⟩ := lm_mod_0 h2
  refine lx_aload_n F dL_law_412 1 rfl ?_
  refine lx_aload_n F dL_law_413 0 rfl ?_
  refine lx_iload F dL_law_414 4 rfl ?_
  refine lx_iconst F dL_law_416 kc_1 ?_
  refine lx_iadd F dL_law_417 (nI_add _ _) ?_
  refine lx_sld F hX ((4 * k) + 1) dL_law_418 (by omega) (by omega) ?_
  refine lx_aload_n F dL_law_419 0 rfl ?_
  refine lx_iload F dL_law_420 4 rfl ?_
  refine lx_iconst F dL_law_422 kc_2 ?_
  refine lx_iadd F dL_law_423 (nI_add _ _) ?_
  refine lx_sld F hX ((4 * k) + 2) dL_law_424 (by omega) (by omega) ?_
  rw [show W2 ++ ((out, aJ K 1 go) :: W1) = (W2 ++ [(out, aJ K 1 go)]) ++ W1 by simp]
  refine lx_csH F hTh (zW_first (xl E) K x c w u rt z hst W1 h1 (vs ((4 * k) + 1)) (vs ((4 * k) + 2))) cw_L_109 rfl (st := []) rfl (Nat.le_of_ble_eq_true rfl) (by decide) ⟨by show 34 + k + 1 ≤ 1067; omega, by show 2954 + 6 * k + 6 ≤ 11200; omega⟩ dL_law_425 (fun v9 w9 h9 => ?_)
  obtain ⟨rfl, ho⟩ := h9
  rw [List.append_assoc]
  show lx_W K 8 E (34 + k + 1) (2954 + 6 * k + 6) 428 [(0, .ref s0), (1, .ref x), (2, .ref y), (3, .ref out), (4, .int (nI (4 * k)))] [.int (nI (lm_oFirst (vs ((4 * k) + 1)) (vs ((4 * k) + 2)) (c, w, u, rt, z)).1)] (W2 ++ ((out, aJ K 1 go) :: w9))
  refine lx_istore F [(0, .ref s0), (1, .ref x), (2, .ref y), (3, .ref out), (4, .int (nI (4 * k))), (5, .int (nI (lm_oFirst (vs ((4 * k) + 1)) (vs ((4 * k) + 2)) (c, w, u, rt, z)).1))] [1, 2, 3, 4, 5, 0] dL_law_428 rfl (by decide) ?_
  refine lx_aload_n F dL_law_430 2 rfl ?_
  refine lx_aload_n F dL_law_431 0 rfl ?_
  refine lx_iload F dL_law_432 4 rfl ?_
  refine lx_iconst F dL_law_434 kc_1 ?_
  refine lx_iadd F dL_law_435 (nI_add _ _) ?_
  refine lx_sld F hX ((4 * k) + 1) dL_law_436 (by omega) (by omega) ?_
  refine lx_aload_n F dL_law_437 0 rfl ?_
  refine lx_iload F dL_law_438 4 rfl ?_
  refine lx_iconst F dL_law_440 kc_2 ?_
  refine lx_iadd F dL_law_441 (nI_add _ _) ?_
  refine lx_sld F hX ((4 * k) + 2) dL_law_442 (by omega) (by omega) ?_
  refine lx_swap ?_
  refine lx_cvA F (zR_first (xl E) K y c w u rt z hst th W2 h2 (vs ((4 * k) + 1)) (vs ((4 * k) + 2))) cv_L_111 (ci := 4) rfl he2 rfl (st := []) rfl (Nat.le_of_ble_eq_true rfl) (by decide) ⟨by show 34 + k + 1 ≤ 1067; omega, by show 2954 + 6 * k + 6 ≤ 11200; omega⟩ dL_law_443 (fun v8 w8 h8 => ?_)
  obtain ⟨rfl, hm⟩ := h8
  have hkp : lm_sx (lm_oFirst (vs ((4 * k) + 1)) (vs ((4 * k) + 2)) (c, w, u, rt, z)).2 := lm_k_first (vs ((4 * k) + 1)) (vs ((4 * k) + 2)) (σ := (c, w, u, rt, z)) hst
  generalize lm_oFirst (vs ((4 * k) + 1)) (vs ((4 * k) + 2)) (c, w, u, rt, z) = r9 at ho hm hkp ⊢
  obtain ⟨cd, c1, w1, u1, rt1, z1⟩ := r9
  show lx_W K 8 E (34 + k + 1) (2954 + 6 * k + 6) 446 [(0, .ref s0), (1, .ref x), (2, .ref y), (3, .ref out), (4, .int (nI (4 * k))), (5, .int (nI cd))] [] (((out, aJ K 1 go) :: w9) ++ w8)
  refine lx_aload_n F dL_law_446 2 rfl ?_
  obtain ⟨fs3, he3⟩ := lm_mod_0 hm
  refine lx_cvA F (zR_thrown (xl E) K y c1 w1 u1 rt1 z1 (nI cd) w8 hm) cv_L_90 (ci := 4) rfl he3 rfl (st := []) rfl (Nat.le_of_ble_eq_true rfl) (by decide) ⟨by show 34 + k + 1 ≤ 1067; omega, by show 2954 + 6 * k + 6 ≤ 11200; omega⟩ dL_law_447 (fun v6 w7 h6 => ?_)
  obtain ⟨rfl, hm7⟩ := h6
  show lx_W K 8 E (34 + k + 1) (2954 + 6 * k + 6) 450 [(0, .ref s0), (1, .ref x), (2, .ref y), (3, .ref out), (4, .int (nI (4 * k))), (5, .int (nI cd))] [.int (nI cd)] (((out, aJ K 1 go) :: w9) ++ w7)
  refine lx_iload F dL_law_450 5 rfl ?_
  refine lx_icmp_eq F 457 dL_law_452 rfl (fun _ => ?_) (fun h => absurd rfl h)
  refine lx_goto F 1142 dL_law_457 rfl ?_
  refine lx_swap ?_
  refine lx_lv [0, 1, 2, 3, 4] [(0, .ref s0), (1, .ref x), (2, .ref y), (3, .ref out), (4, .int (nI (4 * k)))] rfl ?_
  exact hend _ _ _ _ _ hkp ho hm7

set_option maxHeartbeats 4000000 in
set_option maxRecDepth 100000 in
theorem zL_rest {K : lm_G} {E : lx_E} (F : lx_F K 8 E cL_law RL (some .boolean) room_1) {s0 L : Nat} {vs : Nat → Int32} (hX : lx_S E s0 L vs) (hTh : lm_Th (xl E) (xA E) (xs E) (xs E).heap) (hL : L ≤ 2048) (x y out k : Nat) (hk : 4 * k + 4 ≤ L) (c : Nat → Nat) (w : Nat → lm_V) (u : Nat) (rt : Nat → lm_V) (z : Int32) (hst : lm_st c w u rt) (th : Int32) (go : Nat → Int64) (W1 W2 : va_W) (h1 : lm_obj K x (c, w, u, rt, z) W1) (h2 : lm_mod K y (c, w, u, rt, z) th W2) (hend : ∀ (σ9 : lm_X) (t9 : Int32) (g9 : Nat → Int64) (A9 B9 : va_W), lm_sx σ9 → lm_obj K x σ9 A9 → lm_mod K y σ9 t9 B9 → lx_W K 8 E (34 + k + 1) (2954 + 6 * k + 6) 1142 [(0, .ref s0), (1, .ref x), (2, .ref y), (3, .ref out), (4, .int (nI (4 * k)))] [] (B9 ++ ((out, aJ K 1 g9) :: A9))) : lx_W K 8 E (34 + k) (2954 + 6 * k) 460 [(0, .ref s0), (1, .ref x), (2, .ref y), (3, .ref out), (4, .int (nI (4 * k)))] [] (W2 ++ ((out, aJ K 1 go) :: W1)) := by
  obtain ⟨fs1, he1⟩ := lm_obj_0 h1
  obtain ⟨fs2, he2⟩ := lm_mod_0 h2
  refine lx_aload_n F dL_law_460 1 rfl ?_
  refine lx_aload_n F dL_law_461 0 rfl ?_
  refine lx_iload F dL_law_462 4 rfl ?_
  refine lx_iconst F dL_law_464 kc_1 ?_
  refine lx_iadd F dL_law_465 (nI_add _ _) ?_
  refine lx_sld F hX ((4 * k) + 1) dL_law_466 (by omega) (by omega) ?_
  refine lx_aload_n F dL_law_467 0 rfl ?_
  refine lx_iload F dL_law_468 4 rfl ?_
  refine lx_iconst F dL_law_470 kc_2 ?_
  refine lx_iadd F dL_law_471 (nI_add _ _) ?_
  refine lx_sld F hX ((4 * k) + 2) dL_law_472 (by omega) (by omega) ?_
  rw [show W2 ++ ((out, aJ K 1 go) :: W1) = (W2 ++ [(out, aJ K 1 go)]) ++ W1 by simp]
  refine lx_csH F hTh (zW_rest (xl E) K x c w u rt z hst W1 h1 (vs ((4 * k) + 1)) (vs ((4 * k) + 2))) cw_L_112 rfl (st := []) rfl (Nat.le_of_ble_eq_true rfl) (by decide) ⟨by show 34 + k + 1 ≤ 1067; omega, by show 2954 + 6 * k + 6 ≤ 11200; omega⟩ dL_law_473 (fun v9 w9 h9 => ?_)
  obtain ⟨rfl, ho⟩ := h9
  rw [List.append_assoc]
  show lx_W K 8 E (34 + k + 1) (2954 + 6 * k + 6) 476 [(0, .ref s0), (1, .ref x), (2, .ref y), (3, .ref out), (4, .int (nI (4 * k)))] [.int (nI (lm_oRest (vs ((4 * k) + 1)) (vs ((4 * k) + 2)) (c, w, u, rt, z)).1)] (W2 ++ ((out, aJ K 1 go) :: w9))
  refine lx_istore F [(0, .ref s0), (1, .ref x), (2, .ref y), (3, .ref out), (4, .int (nI (4 * k))), (5, .int (nI (lm_oRest (vs ((4 * k) + 1)) (vs ((4 * k) + 2)) (c, w, u, rt, z)).1))] [1, 2, 3, 4, 5, 0] dL_law_476 rfl (by decide) ?_
  refine lx_aload_n F dL_law_478 2 rfl ?_
  refine lx_aload_n F dL_law_479 0 rfl ?_
  refine lx_iload F dL_law_480 4 rfl ?_
  refine lx_iconst F dL_law_482 kc_1 ?_
  refine lx_iadd F dL_law_483 (nI_add _ _) ?_
  refine lx_sld F hX ((4 * k) + 1) dL_law_484 (by omega) (by omega) ?_
  refine lx_aload_n F dL_law_485 0 rfl ?_
  refine lx_iload F dL_law_486 4 rfl ?_
  refine lx_iconst F dL_law_488 kc_2 ?_
  refine lx_iadd F dL_law_489 (nI_add _ _) ?_
  refine lx_sld F hX ((4 * k) + 2) dL_law_490 (by omega) (by omega) ?_
  refine lx_swap ?_
  refine lx_cvA F (zR_rest (xl E) K y c w u rt z hst th W2 h2 (vs ((4 * k) + 1)) (vs ((4 * k) + 2))) cv_L_114 (ci := 4) rfl he2 rfl (st := []) rfl (Nat.le_of_ble_eq_true rfl) (by decide) ⟨by show 34 + k + 1 ≤ 1067; omega, by show 2954 + 6 * k + 6 ≤ 11200; omega⟩ dL_law_491 (fun v8 w8 h8 => ?_)
  obtain ⟨rfl, hm⟩ := h8
  have hkp : lm_sx (lm_oRest (vs ((4 * k) + 1)) (vs ((4 * k) + 2)) (c, w, u, rt, z)).2 := lm_k_rest (vs ((4 * k) + 1)) (vs ((4 * k) + 2)) (σ := (c, w, u, rt, z)) hst
  generalize lm_oRest (vs ((4 * k) + 1)) (vs ((4 * k) + 2)) (c, w, u, rt, z) = r9 at ho hm hkp ⊢
  obtain ⟨cd, c1, w1, u1, rt1, z1⟩ := r9
  show lx_W K 8 E (34 + k + 1) (2954 + 6 * k + 6) 494 [(0, .ref s0), (1, .ref x), (2, .ref y), (3, .ref out), (4, .int (nI (4 * k))), (5, .int (nI cd))] [] (((out, aJ K 1 go) :: w9) ++ w8)
  refine lx_aload_n F dL_law_494 2 rfl ?_
  obtain ⟨fs3, he3⟩ := lm_mod_0 hm
  refine lx_cvA F (zR_thrown (xl E) K y c1 w1 u1 rt1 z1 (nI cd) w8 hm) cv_L_90 (ci := 4) rfl he3 rfl (st := []) rfl (Nat.le_of_ble_eq_true rfl) (by decide) ⟨by show 34 + k + 1 ≤ 1067; omega, by show 2954 + 6 * k + 6 ≤ 11200; omega⟩ dL_law_495 (fun v6 w7 h6 => ?_)
  obtain ⟨rfl, hm7⟩ := h6
  show lx_W K 8 E (34 + k + 1) (2954 + 6 * k + 6) 498 [(0, .ref s0), (1, .ref x), (2, .ref y), (3, .ref out), (4, .int (nI (4 * k))), (5, .int (nI cd))] [.int (nI cd)] (((out, aJ K 1 go) :: w9) ++ w7)
  refine lx_iload F dL_law_498 5 rfl ?_
  refine lx_icmp_eq F 505 dL_law_500 rfl (fun _ => ?_) (fun h => absurd rfl h)
  refine lx_goto F 1142 dL_law_505 rfl ?_
  refine lx_swap ?_
  refine lx_lv [0, 1, 2, 3, 4] [(0, .ref s0), (1, .ref x), (2, .ref y), (3, .ref out), (4, .int (nI (4 * k)))] rfl ?_
  exact hend _ _ _ _ _ hkp ho hm7

set_option maxHeartbeats 4000000 in
set_option maxRecDepth 100000 in
theorem zL_setFirst {K : lm_G} {E : lx_E} (F : lx_F K 8 E cL_law RL (some .boolean) room_1) {s0 L : Nat} {vs : Nat → Int32} (hX : lx_S E s0 L vs) (hTh : lm_Th (xl E) (xA E) (xs E) (xs E).heap) (hL : L ≤ 2048) (x y out k : Nat) (hk : 4 * k + 4 ≤ L) (c : Nat → Nat) (w : Nat → lm_V) (u : Nat) (rt : Nat → lm_V) (z : Int32) (hst : lm_st c w u rt) (th : Int32) (go : Nat → Int64) (W1 W2 : va_W) (h1 : lm_obj K x (c, w, u, rt, z) W1) (h2 : lm_mod K y (c, w, u, rt, z) th W2) (hend : ∀ (σ9 : lm_X) (t9 : Int32) (g9 : Nat → Int64) (A9 B9 : va_W), lm_sx σ9 → lm_obj K x σ9 A9 → lm_mod K y σ9 t9 B9 → lx_W K 8 E (34 + k + 1) (2954 + 6 * k + 6) 1142 [(0, .ref s0), (1, .ref x), (2, .ref y), (3, .ref out), (4, .int (nI (4 * k)))] [] (B9 ++ ((out, aJ K 1 g9) :: A9))) : lx_W K 8 E (34 + k) (2954 + 6 * k) 508 [(0, .ref s0), (1, .ref x), (2, .ref y), (3, .ref out), (4, .int (nI (4 * k)))] [] (W2 ++ ((out, aJ K 1 go) :: W1)) := by
  obtain ⟨fs1, he1⟩ := lm_obj_0 h1
  obtain ⟨fs2, he2⟩ := lm_mod_0 h2
  refine lx_aload_n F dL_law_508 1 rfl ?_
  refine lx_aload_n F dL_law_509 0 rfl ?_
  refine lx_iload F dL_law_510 4 rfl ?_
  refine lx_iconst F dL_law_512 kc_1 ?_
  refine lx_iadd F dL_law_513 (nI_add _ _) ?_
  refine lx_sld F hX ((4 * k) + 1) dL_law_514 (by omega) (by omega) ?_
  refine lx_aload_n F dL_law_515 0 rfl ?_
  refine lx_iload F dL_law_516 4 rfl ?_
  refine lx_iconst F dL_law_518 kc_2 ?_
  refine lx_iadd F dL_law_519 (nI_add _ _) ?_
  refine lx_sld F hX ((4 * k) + 2) dL_law_520 (by omega) (by omega) ?_
  rw [show W2 ++ ((out, aJ K 1 go) :: W1) = (W2 ++ [(out, aJ K 1 go)]) ++ W1 by simp]
  refine lx_csH F hTh (zW_setFirst (xl E) K x c w u rt z hst W1 h1 (vs ((4 * k) + 1)) (vs ((4 * k) + 2))) cw_L_115 rfl (st := []) rfl (Nat.le_of_ble_eq_true rfl) (by decide) ⟨by show 34 + k + 1 ≤ 1067; omega, by show 2954 + 6 * k + 6 ≤ 11200; omega⟩ dL_law_521 (fun v9 w9 h9 => ?_)
  obtain ⟨rfl, ho⟩ := h9
  rw [List.append_assoc]
  show lx_W K 8 E (34 + k + 1) (2954 + 6 * k + 6) 524 [(0, .ref s0), (1, .ref x), (2, .ref y), (3, .ref out), (4, .int (nI (4 * k)))] [.int (nI (lm_oSetFirst (vs ((4 * k) + 1)) (vs ((4 * k) + 2)) (c, w, u, rt, z)).1)] (W2 ++ ((out, aJ K 1 go) :: w9))
  refine lx_istore F [(0, .ref s0), (1, .ref x), (2, .ref y), (3, .ref out), (4, .int (nI (4 * k))), (5, .int (nI (lm_oSetFirst (vs ((4 * k) + 1)) (vs ((4 * k) + 2)) (c, w, u, rt, z)).1))] [1, 2, 3, 4, 5, 0] dL_law_524 rfl (by decide) ?_
  refine lx_aload_n F dL_law_526 2 rfl ?_
  refine lx_aload_n F dL_law_527 0 rfl ?_
  refine lx_iload F dL_law_528 4 rfl ?_
  refine lx_iconst F dL_law_530 kc_1 ?_
  refine lx_iadd F dL_law_531 (nI_add _ _) ?_
  refine lx_sld F hX ((4 * k) + 1) dL_law_532 (by omega) (by omega) ?_
  refine lx_aload_n F dL_law_533 0 rfl ?_
  refine lx_iload F dL_law_534 4 rfl ?_
  refine lx_iconst F dL_law_536 kc_2 ?_
  refine lx_iadd F dL_law_537 (nI_add _ _) ?_
  refine lx_sld F hX ((4 * k) + 2) dL_law_538 (by omega) (by omega) ?_
  refine lx_swap ?_
  refine lx_cvA F (zR_setFirst (xl E) K y c w u rt z hst th W2 h2 (vs ((4 * k) + 1)) (vs ((4 * k) + 2))) cv_L_117 (ci := 4) rfl he2 rfl (st := []) rfl (Nat.le_of_ble_eq_true rfl) (by decide) ⟨by show 34 + k + 1 ≤ 1067; omega, by show 2954 + 6 * k + 6 ≤ 11200; omega⟩ dL_law_539 (fun v8 w8 h8 => ?_)
  obtain ⟨rfl, hm⟩ := h8
  have hkp : lm_sx (lm_oSetFirst (vs ((4 * k) + 1)) (vs ((4 * k) + 2)) (c, w, u, rt, z)).2 := lm_k_setFirst (vs ((4 * k) + 1)) (vs ((4 * k) + 2)) (σ := (c, w, u, rt, z)) hst
  generalize lm_oSetFirst (vs ((4 * k) + 1)) (vs ((4 * k) + 2)) (c, w, u, rt, z) = r9 at ho hm hkp ⊢
  obtain ⟨cd, c1, w1, u1, rt1, z1⟩ := r9
  show lx_W K 8 E (34 + k + 1) (2954 + 6 * k + 6) 542 [(0, .ref s0), (1, .ref x), (2, .ref y), (3, .ref out), (4, .int (nI (4 * k))), (5, .int (nI cd))] [] (((out, aJ K 1 go) :: w9) ++ w8)
  refine lx_aload_n F dL_law_542 2 rfl ?_
  obtain ⟨fs3, he3⟩ := lm_mod_0 hm
  refine lx_cvA F (zR_thrown (xl E) K y c1 w1 u1 rt1 z1 (nI cd) w8 hm) cv_L_90 (ci := 4) rfl he3 rfl (st := []) rfl (Nat.le_of_ble_eq_true rfl) (by decide) ⟨by show 34 + k + 1 ≤ 1067; omega, by show 2954 + 6 * k + 6 ≤ 11200; omega⟩ dL_law_543 (fun v6 w7 h6 => ?_)
  obtain ⟨rfl, hm7⟩ := h6
  show lx_W K 8 E (34 + k + 1) (2954 + 6 * k + 6) 546 [(0, .ref s0), (1, .ref x), (2, .ref y), (3, .ref out), (4, .int (nI (4 * k))), (5, .int (nI cd))] [.int (nI cd)] (((out, aJ K 1 go) :: w9) ++ w7)
  refine lx_iload F dL_law_546 5 rfl ?_
  refine lx_icmp_eq F 553 dL_law_548 rfl (fun _ => ?_) (fun h => absurd rfl h)
  refine lx_goto F 1142 dL_law_553 rfl ?_
  refine lx_swap ?_
  refine lx_lv [0, 1, 2, 3, 4] [(0, .ref s0), (1, .ref x), (2, .ref y), (3, .ref out), (4, .int (nI (4 * k)))] rfl ?_
  exact hend _ _ _ _ _ hkp ho hm7

set_option maxHeartbeats 4000000 in
set_option maxRecDepth 100000 in
theorem zL_setRest {K : lm_G} {E : lx_E} (F : lx_F K 8 E cL_law RL (some .boolean) room_1) {s0 L : Nat} {vs : Nat → Int32} (hX : lx_S E s0 L vs) (hTh : lm_Th (xl E) (xA E) (xs E) (xs E).heap) (hL : L ≤ 2048) (x y out k : Nat) (hk : 4 * k + 4 ≤ L) (c : Nat → Nat) (w : Nat → lm_V) (u : Nat) (rt : Nat → lm_V) (z : Int32) (hst : lm_st c w u rt) (th : Int32) (go : Nat → Int64) (W1 W2 : va_W) (h1 : lm_obj K x (c, w, u, rt, z) W1) (h2 : lm_mod K y (c, w, u, rt, z) th W2) (hend : ∀ (σ9 : lm_X) (t9 : Int32) (g9 : Nat → Int64) (A9 B9 : va_W), lm_sx σ9 → lm_obj K x σ9 A9 → lm_mod K y σ9 t9 B9 → lx_W K 8 E (34 + k + 1) (2954 + 6 * k + 6) 1142 [(0, .ref s0), (1, .ref x), (2, .ref y), (3, .ref out), (4, .int (nI (4 * k)))] [] (B9 ++ ((out, aJ K 1 g9) :: A9))) : lx_W K 8 E (34 + k) (2954 + 6 * k) 556 [(0, .ref s0), (1, .ref x), (2, .ref y), (3, .ref out), (4, .int (nI (4 * k)))] [] (W2 ++ ((out, aJ K 1 go) :: W1)) := by
  obtain ⟨fs1, he1⟩ := lm_obj_0 h1
  obtain ⟨fs2, he2⟩ := lm_mod_0 h2
  refine lx_aload_n F dL_law_556 1 rfl ?_
  refine lx_aload_n F dL_law_557 0 rfl ?_
  refine lx_iload F dL_law_558 4 rfl ?_
  refine lx_iconst F dL_law_560 kc_1 ?_
  refine lx_iadd F dL_law_561 (nI_add _ _) ?_
  refine lx_sld F hX ((4 * k) + 1) dL_law_562 (by omega) (by omega) ?_
  refine lx_aload_n F dL_law_563 0 rfl ?_
  refine lx_iload F dL_law_564 4 rfl ?_
  refine lx_iconst F dL_law_566 kc_2 ?_
  refine lx_iadd F dL_law_567 (nI_add _ _) ?_
  refine lx_sld F hX ((4 * k) + 2) dL_law_568 (by omega) (by omega) ?_
  rw [show W2 ++ ((out, aJ K 1 go) :: W1) = (W2 ++ [(out, aJ K 1 go)]) ++ W1 by simp]
  refine lx_csH F hTh (zW_setRest (xl E) K x c w u rt z hst W1 h1 (vs ((4 * k) + 1)) (vs ((4 * k) + 2))) cw_L_118 rfl (st := []) rfl (Nat.le_of_ble_eq_true rfl) (by decide) ⟨by show 34 + k + 1 ≤ 1067; omega, by show 2954 + 6 * k + 6 ≤ 11200; omega⟩ dL_law_569 (fun v9 w9 h9 => ?_)
  obtain ⟨rfl, ho⟩ := h9
  rw [List.append_assoc]
  show lx_W K 8 E (34 + k + 1) (2954 + 6 * k + 6) 572 [(0, .ref s0), (1, .ref x), (2, .ref y), (3, .ref out), (4, .int (nI (4 * k)))] [.int (nI (lm_oSetRest (vs ((4 * k) + 1)) (vs ((4 * k) + 2)) (c, w, u, rt, z)).1)] (W2 ++ ((out, aJ K 1 go) :: w9))
  refine lx_istore F [(0, .ref s0), (1, .ref x), (2, .ref y), (3, .ref out), (4, .int (nI (4 * k))), (5, .int (nI (lm_oSetRest (vs ((4 * k) + 1)) (vs ((4 * k) + 2)) (c, w, u, rt, z)).1))] [1, 2, 3, 4, 5, 0] dL_law_572 rfl (by decide) ?_
  refine lx_aload_n F dL_law_574 2 rfl ?_
  refine lx_aload_n F dL_law_575 0 rfl ?_
  refine lx_iload F dL_law_576 4 rfl ?_
  refine lx_iconst F dL_law_578 kc_1 ?_
  refine lx_iadd F dL_law_579 (nI_add _ _) ?_
  refine lx_sld F hX ((4 * k) + 1) dL_law_580 (by omega) (by omega) ?_
  refine lx_aload_n F dL_law_581 0 rfl ?_
  refine lx_iload F dL_law_582 4 rfl ?_
  refine lx_iconst F dL_law_584 kc_2 ?_
  refine lx_iadd F dL_law_585 (nI_add _ _) ?_
  refine lx_sld F hX ((4 * k) + 2) dL_law_586 (by omega) (by omega) ?_
  refine lx_swap ?_
  refine lx_cvA F (zR_setRest (xl E) K y c w u rt z hst th W2 h2 (vs ((4 * k) + 1)) (vs ((4 * k) + 2))) cv_L_120 (ci := 4) rfl he2 rfl (st := []) rfl (Nat.le_of_ble_eq_true rfl) (by decide) ⟨by show 34 + k + 1 ≤ 1067; omega, by show 2954 + 6 * k + 6 ≤ 11200; omega⟩ dL_law_587 (fun v8 w8 h8 => ?_)
  obtain ⟨rfl, hm⟩ := h8
  have hkp : lm_sx (lm_oSetRest (vs ((4 * k) + 1)) (vs ((4 * k) + 2)) (c, w, u, rt, z)).2 := lm_k_setRest (vs ((4 * k) + 1)) (vs ((4 * k) + 2)) (σ := (c, w, u, rt, z)) hst
  generalize lm_oSetRest (vs ((4 * k) + 1)) (vs ((4 * k) + 2)) (c, w, u, rt, z) = r9 at ho hm hkp ⊢
  obtain ⟨cd, c1, w1, u1, rt1, z1⟩ := r9
  show lx_W K 8 E (34 + k + 1) (2954 + 6 * k + 6) 590 [(0, .ref s0), (1, .ref x), (2, .ref y), (3, .ref out), (4, .int (nI (4 * k))), (5, .int (nI cd))] [] (((out, aJ K 1 go) :: w9) ++ w8)
  refine lx_aload_n F dL_law_590 2 rfl ?_
  obtain ⟨fs3, he3⟩ := lm_mod_0 hm
  refine lx_cvA F (zR_thrown (xl E) K y c1 w1 u1 rt1 z1 (nI cd) w8 hm) cv_L_90 (ci := 4) rfl he3 rfl (st := []) rfl (Nat.le_of_ble_eq_true rfl) (by decide) ⟨by show 34 + k + 1 ≤ 1067; omega, by show 2954 + 6 * k + 6 ≤ 11200; omega⟩ dL_law_591 (fun v6 w7 h6 => ?_)
  obtain ⟨rfl, hm7⟩ := h6
  show lx_W K 8 E (34 + k + 1) (2954 + 6 * k + 6) 594 [(0, .ref s0), (1, .ref x), (2, .ref y), (3, .ref out), (4, .int (nI (4 * k))), (5, .int (nI cd))] [.int (nI cd)] (((out, aJ K 1 go) :: w9) ++ w7)
  refine lx_iload F dL_law_594 5 rfl ?_
  refine lx_icmp_eq F 601 dL_law_596 rfl (fun _ => ?_) (fun h => absurd rfl h)
  refine lx_goto F 1142 dL_law_601 rfl ?_
  refine lx_swap ?_
  refine lx_lv [0, 1, 2, 3, 4] [(0, .ref s0), (1, .ref x), (2, .ref y), (3, .ref out), (4, .int (nI (4 * k)))] rfl ?_
  exact hend _ _ _ _ _ hkp ho hm7

set_option maxHeartbeats 4000000 in
set_option maxRecDepth 100000 in
theorem zL_append {K : lm_G} {E : lx_E} (F : lx_F K 8 E cL_law RL (some .boolean) room_1) {s0 L : Nat} {vs : Nat → Int32} (hX : lx_S E s0 L vs) (hTh : lm_Th (xl E) (xA E) (xs E) (xs E).heap) (hL : L ≤ 2048) (x y out k : Nat) (hk : 4 * k + 4 ≤ L) (c : Nat → Nat) (w : Nat → lm_V) (u : Nat) (rt : Nat → lm_V) (z : Int32) (hst : lm_st c w u rt) (th : Int32) (go : Nat → Int64) (W1 W2 : va_W) (h1 : lm_obj K x (c, w, u, rt, z) W1) (h2 : lm_mod K y (c, w, u, rt, z) th W2) (hend : ∀ (σ9 : lm_X) (t9 : Int32) (g9 : Nat → Int64) (A9 B9 : va_W), lm_sx σ9 → lm_obj K x σ9 A9 → lm_mod K y σ9 t9 B9 → lx_W K 8 E (34 + k + 1) (2954 + 6 * k + 6) 1142 [(0, .ref s0), (1, .ref x), (2, .ref y), (3, .ref out), (4, .int (nI (4 * k)))] [] (B9 ++ ((out, aJ K 1 g9) :: A9))) : lx_W K 8 E (34 + k) (2954 + 6 * k) 604 [(0, .ref s0), (1, .ref x), (2, .ref y), (3, .ref out), (4, .int (nI (4 * k)))] [] (W2 ++ ((out, aJ K 1 go) :: W1)) := by
  obtain ⟨fs1, he1⟩ := lm_obj_0 h1
  obtain ⟨fs2, he2⟩ := lm_mod_0 h2
  refine lx_aload_n F dL_law_604 1 rfl ?_
  refine lx_aload_n F dL_law_605 0 rfl ?_
  refine lx_iload F dL_law_606 4 rfl ?_
  refine lx_iconst F dL_law_608 kc_1 ?_
  refine lx_iadd F dL_law_609 (nI_add _ _) ?_
  refine lx_sld F hX ((4 * k) + 1) dL_law_610 (by omega) (by omega) ?_
  refine lx_aload_n F dL_law_611 0 rfl ?_
  refine lx_iload F dL_law_612 4 rfl ?_
  refine lx_iconst F dL_law_614 kc_2 ?_
  refine lx_iadd F dL_law_615 (nI_add _ _) ?_
  refine lx_sld F hX ((4 * k) + 2) dL_law_616 (by omega) (by omega) ?_
  refine lx_aload_n F dL_law_617 0 rfl ?_
  refine lx_iload F dL_law_618 4 rfl ?_
  refine lx_iconst F dL_law_620 kc_3 ?_
  refine lx_iadd F dL_law_621 (nI_add _ _) ?_
  refine lx_sld F hX ((4 * k) + 3) dL_law_622 (by omega) (by omega) ?_
  rw [show W2 ++ ((out, aJ K 1 go) :: W1) = (W2 ++ [(out, aJ K 1 go)]) ++ W1 by simp]
  refine lx_csH F hTh (zW_append (xl E) K x c w u rt z hst W1 h1 (vs ((4 * k) + 1)) (vs ((4 * k) + 2)) (vs ((4 * k) + 3))) cw_L_121 rfl (st := []) rfl (Nat.le_of_ble_eq_true rfl) (by decide) ⟨by show 34 + k + 1 ≤ 1067; omega, by show 2954 + 6 * k + 6 ≤ 11200; omega⟩ dL_law_623 (fun v9 w9 h9 => ?_)
  obtain ⟨rfl, ho⟩ := h9
  rw [List.append_assoc]
  show lx_W K 8 E (34 + k + 1) (2954 + 6 * k + 6) 626 [(0, .ref s0), (1, .ref x), (2, .ref y), (3, .ref out), (4, .int (nI (4 * k)))] [.int (nI (lm_oAppend (vs ((4 * k) + 1)) (vs ((4 * k) + 2)) (vs ((4 * k) + 3)) (c, w, u, rt, z)).1)] (W2 ++ ((out, aJ K 1 go) :: w9))
  refine lx_istore F [(0, .ref s0), (1, .ref x), (2, .ref y), (3, .ref out), (4, .int (nI (4 * k))), (5, .int (nI (lm_oAppend (vs ((4 * k) + 1)) (vs ((4 * k) + 2)) (vs ((4 * k) + 3)) (c, w, u, rt, z)).1))] [1, 2, 3, 4, 5, 0] dL_law_626 rfl (by decide) ?_
  refine lx_aload_n F dL_law_628 2 rfl ?_
  refine lx_aload_n F dL_law_629 0 rfl ?_
  refine lx_iload F dL_law_630 4 rfl ?_
  refine lx_iconst F dL_law_632 kc_1 ?_
  refine lx_iadd F dL_law_633 (nI_add _ _) ?_
  refine lx_sld F hX ((4 * k) + 1) dL_law_634 (by omega) (by omega) ?_
  refine lx_aload_n F dL_law_635 0 rfl ?_
  refine lx_iload F dL_law_636 4 rfl ?_
  refine lx_iconst F dL_law_638 kc_2 ?_
  refine lx_iadd F dL_law_639 (nI_add _ _) ?_
  refine lx_sld F hX ((4 * k) + 2) dL_law_640 (by omega) (by omega) ?_
  refine lx_aload_n F dL_law_641 0 rfl ?_
  refine lx_iload F dL_law_642 4 rfl ?_
  refine lx_iconst F dL_law_644 kc_3 ?_
  refine lx_iadd F dL_law_645 (nI_add _ _) ?_
  refine lx_sld F hX ((4 * k) + 3) dL_law_646 (by omega) (by omega) ?_
  refine lx_swap ?_
  refine lx_cvA F (zR_append (xl E) K y c w u rt z hst th W2 h2 (vs ((4 * k) + 1)) (vs ((4 * k) + 2)) (vs ((4 * k) + 3))) cv_L_123 (ci := 4) rfl he2 rfl (st := []) rfl (Nat.le_of_ble_eq_true rfl) (by decide) ⟨by show 34 + k + 1 ≤ 1067; omega, by show 2954 + 6 * k + 6 ≤ 11200; omega⟩ dL_law_647 (fun v8 w8 h8 => ?_)
  obtain ⟨rfl, hm⟩ := h8
  have hkp : lm_sx (lm_oAppend (vs ((4 * k) + 1)) (vs ((4 * k) + 2)) (vs ((4 * k) + 3)) (c, w, u, rt, z)).2 := lm_k_append (vs ((4 * k) + 1)) (vs ((4 * k) + 2)) (vs ((4 * k) + 3)) (σ := (c, w, u, rt, z)) hst
  generalize lm_oAppend (vs ((4 * k) + 1)) (vs ((4 * k) + 2)) (vs ((4 * k) + 3)) (c, w, u, rt, z) = r9 at ho hm hkp ⊢
  obtain ⟨cd, c1, w1, u1, rt1, z1⟩ := r9
  show lx_W K 8 E (34 + k + 1) (2954 + 6 * k + 6) 650 [(0, .ref s0), (1, .ref x), (2, .ref y), (3, .ref out), (4, .int (nI (4 * k))), (5, .int (nI cd))] [] (((out, aJ K 1 go) :: w9) ++ w8)
  refine lx_aload_n F dL_law_650 2 rfl ?_
  obtain ⟨fs3, he3⟩ := lm_mod_0 hm
  refine lx_cvA F (zR_thrown (xl E) K y c1 w1 u1 rt1 z1 (nI cd) w8 hm) cv_L_90 (ci := 4) rfl he3 rfl (st := []) rfl (Nat.le_of_ble_eq_true rfl) (by decide) ⟨by show 34 + k + 1 ≤ 1067; omega, by show 2954 + 6 * k + 6 ≤ 11200; omega⟩ dL_law_651 (fun v6 w7 h6 => ?_)
  obtain ⟨rfl, hm7⟩ := h6
  show lx_W K 8 E (34 + k + 1) (2954 + 6 * k + 6) 654 [(0, .ref s0), (1, .ref x), (2, .ref y), (3, .ref out), (4, .int (nI (4 * k))), (5, .int (nI cd))] [.int (nI cd)] (((out, aJ K 1 go) :: w9) ++ w7)
  refine lx_iload F dL_law_654 5 rfl ?_
  refine lx_icmp_eq F 661 dL_law_656 rfl (fun _ => ?_) (fun h => absurd rfl h)
  refine lx_goto F 1142 dL_law_661 rfl ?_
  refine lx_swap ?_
  refine lx_lv [0, 1, 2, 3, 4] [(0, .ref s0), (1, .ref x), (2, .ref y), (3, .ref out), (4, .int (nI (4 * k)))] rfl ?_
  exact hend _ _ _ _ _ hkp ho hm7

set_option maxHeartbeats 4000000 in
set_option maxRecDepth 100000 in
theorem zL_kind {K : lm_G} {E : lx_E} (F : lx_F K 8 E cL_law RL (some .boolean) room_1) {s0 L : Nat} {vs : Nat → Int32} (hX : lx_S E s0 L vs) (hTh : lm_Th (xl E) (xA E) (xs E) (xs E).heap) (hL : L ≤ 2048) (x y out k : Nat) (hk : 4 * k + 4 ≤ L) (c : Nat → Nat) (w : Nat → lm_V) (u : Nat) (rt : Nat → lm_V) (z : Int32) (hst : lm_st c w u rt) (th : Int32) (go : Nat → Int64) (W1 W2 : va_W) (h1 : lm_obj K x (c, w, u, rt, z) W1) (h2 : lm_mod K y (c, w, u, rt, z) th W2) (hend : ∀ (σ9 : lm_X) (t9 : Int32) (g9 : Nat → Int64) (A9 B9 : va_W), lm_sx σ9 → lm_obj K x σ9 A9 → lm_mod K y σ9 t9 B9 → lx_W K 8 E (34 + k + 1) (2954 + 6 * k + 6) 1142 [(0, .ref s0), (1, .ref x), (2, .ref y), (3, .ref out), (4, .int (nI (4 * k)))] [] (B9 ++ ((out, aJ K 1 g9) :: A9))) : lx_W K 8 E (34 + k) (2954 + 6 * k) 664 [(0, .ref s0), (1, .ref x), (2, .ref y), (3, .ref out), (4, .int (nI (4 * k)))] [] (W2 ++ ((out, aJ K 1 go) :: W1)) := by
  obtain ⟨fs1, he1⟩ := lm_obj_0 h1
  obtain ⟨fs2, he2⟩ := lm_mod_0 h2
  refine lx_aload_n F dL_law_664 1 rfl ?_
  refine lx_aload_n F dL_law_665 0 rfl ?_
  refine lx_iload F dL_law_666 4 rfl ?_
  refine lx_iconst F dL_law_668 kc_1 ?_
  refine lx_iadd F dL_law_669 (nI_add _ _) ?_
  refine lx_sld F hX ((4 * k) + 1) dL_law_670 (by omega) (by omega) ?_
  refine lx_aload_n F dL_law_671 3 rfl ?_
  refine lx_csH F hTh (zW_kind (xl E) K x c w u rt z hst W1 h1 out go (vs ((4 * k) + 1))) cw_L_124 rfl (st := []) rfl (Nat.le_of_ble_eq_true rfl) (by decide) ⟨by show 34 + k + 1 ≤ 1067; omega, by show 2954 + 6 * k + 6 ≤ 11200; omega⟩ dL_law_672 (fun v9 w9 h9 => ?_)
  obtain ⟨rfl, g1, w1, ho, hans, rfl⟩ := h9
  show lx_W K 8 E (34 + k + 1) (2954 + 6 * k + 6) 675 [(0, .ref s0), (1, .ref x), (2, .ref y), (3, .ref out), (4, .int (nI (4 * k)))] [.int (nI (lm_q1 (vs ((4 * k) + 1)) (c, w, u, rt, z)).1)] (W2 ++ ((out, aJ K 1 g1) :: w1))
  refine lx_istore F [(0, .ref s0), (1, .ref x), (2, .ref y), (3, .ref out), (4, .int (nI (4 * k))), (5, .int (nI (lm_q1 (vs ((4 * k) + 1)) (c, w, u, rt, z)).1))] [1, 2, 3, 4, 5, 0] dL_law_675 rfl (by decide) ?_
  refine lx_aload_n F dL_law_677 2 rfl ?_
  refine lx_aload_n F dL_law_678 0 rfl ?_
  refine lx_iload F dL_law_679 4 rfl ?_
  refine lx_iconst F dL_law_681 kc_1 ?_
  refine lx_iadd F dL_law_682 (nI_add _ _) ?_
  refine lx_sld F hX ((4 * k) + 1) dL_law_683 (by omega) (by omega) ?_
  refine lx_swap ?_
  refine lx_cvA F (zR_kind (xl E) K y c w u rt z hst th W2 h2 (vs ((4 * k) + 1))) cv_L_127 (ci := 4) rfl he2 rfl (st := []) rfl (Nat.le_of_ble_eq_true rfl) (by decide) ⟨by show 34 + k + 1 ≤ 1067; omega, by show 2954 + 6 * k + 6 ≤ 11200; omega⟩ dL_law_684 (fun v8 w8 h8 => ?_)
  obtain ⟨rfl, hm⟩ := h8
  have ho : lm_obj K x (c, w, u, rt, z) w1 := ho
  have hm : lm_mod K y (c, w, u, rt, z) (nI (lm_q1 (vs ((4 * k) + 1)) (c, w, u, rt, z)).1) w8 := hm
  have hcds := lm_cd_kind c w u rt z (vs ((4 * k) + 1))
  generalize (lm_q1 (vs ((4 * k) + 1)) (c, w, u, rt, z)).1 = cd at hans hm hcds ⊢
  refine lx_nmI (fun av hav => ?_)
  rw [← hav] at hans
  show lx_W K 8 E (34 + k + 1) (2954 + 6 * k + 6) 687 [(0, .ref s0), (1, .ref x), (2, .ref y), (3, .ref out), (4, .int (nI (4 * k))), (5, .int (nI cd))] [.int av] (((out, aJ K 1 g1) :: w1) ++ w8)
  refine lx_istore F [(0, .ref s0), (1, .ref x), (2, .ref y), (3, .ref out), (4, .int (nI (4 * k))), (5, .int (nI cd)), (6, .int av)] [1, 2, 3, 4, 5, 6, 0] dL_law_687 rfl (by decide) ?_
  refine lx_aload_n F dL_law_689 2 rfl ?_
  obtain ⟨fs3, he3⟩ := lm_mod_0 hm
  refine lx_cvA F (zR_thrown (xl E) K y c w u rt z (nI cd) w8 hm) cv_L_90 (ci := 4) rfl he3 rfl (st := []) rfl (Nat.le_of_ble_eq_true rfl) (by decide) ⟨by show 34 + k + 1 ≤ 1067; omega, by show 2954 + 6 * k + 6 ≤ 11200; omega⟩ dL_law_690 (fun v6 w7 h6 => ?_)
  obtain ⟨rfl, hm7⟩ := h6
  show lx_W K 8 E (34 + k + 1) (2954 + 6 * k + 6) 693 [(0, .ref s0), (1, .ref x), (2, .ref y), (3, .ref out), (4, .int (nI (4 * k))), (5, .int (nI cd)), (6, .int av)] [.int (nI cd)] (((out, aJ K 1 g1) :: w1) ++ w7)
  rcases hcds with hc | hc
  · skip
    subst hc
    have hans := hans rfl
    refine lx_iload F dL_law_693 5 rfl ?_
    refine lx_icmp_eq F 700 dL_law_695 rfl (fun _ => ?_) (fun h => absurd rfl h)
    refine lx_iload F dL_law_700 5 rfl ?_
    refine lx_if_ne F 717 dL_law_702 rfl (fun h => absurd rfl h) (fun _ => ?_)
    refine lx_aload_n F dL_law_705 3 rfl ?_
    refine lx_iconst F dL_law_706 kc_0 ?_
    refine lx_lald F 0 0 dL_law_707 rfl (by decide) (by decide) ?_
    refine lx_iload F dL_law_708 6 rfl ?_
    refine lx_i2l F dL_law_710 rfl ?_
    refine lx_lcmp_ifeq F 717 dL_law_711 dL_law_712 rfl (fun _ => ?_) (fun h => absurd hans h)
    refine lx_goto F 1142 dL_law_717 rfl ?_
    refine lx_swap ?_
    refine lx_lv [0, 1, 2, 3, 4] [(0, .ref s0), (1, .ref x), (2, .ref y), (3, .ref out), (4, .int (nI (4 * k)))] rfl ?_
    exact hend (c, w, u, rt, z) _ _ _ _ hst ho hm7
  · skip
    subst hc
    refine lx_iload F dL_law_693 5 rfl ?_
    refine lx_icmp_eq F 700 dL_law_695 rfl (fun _ => ?_) (fun h => absurd rfl h)
    refine lx_iload F dL_law_700 5 rfl ?_
    refine lx_if_ne F 717 dL_law_702 rfl (fun _ => ?_) (fun h => absurd h (by decide))
    refine lx_goto F 1142 dL_law_717 rfl ?_
    refine lx_swap ?_
    refine lx_lv [0, 1, 2, 3, 4] [(0, .ref s0), (1, .ref x), (2, .ref y), (3, .ref out), (4, .int (nI (4 * k)))] rfl ?_
    exact hend (c, w, u, rt, z) _ _ _ _ hst ho hm7

set_option maxHeartbeats 4000000 in
set_option maxRecDepth 100000 in
theorem zL_value {K : lm_G} {E : lx_E} (F : lx_F K 8 E cL_law RL (some .boolean) room_1) {s0 L : Nat} {vs : Nat → Int32} (hX : lx_S E s0 L vs) (hTh : lm_Th (xl E) (xA E) (xs E) (xs E).heap) (hL : L ≤ 2048) (x y out k : Nat) (hk : 4 * k + 4 ≤ L) (c : Nat → Nat) (w : Nat → lm_V) (u : Nat) (rt : Nat → lm_V) (z : Int32) (hst : lm_st c w u rt) (th : Int32) (go : Nat → Int64) (W1 W2 : va_W) (h1 : lm_obj K x (c, w, u, rt, z) W1) (h2 : lm_mod K y (c, w, u, rt, z) th W2) (hend : ∀ (σ9 : lm_X) (t9 : Int32) (g9 : Nat → Int64) (A9 B9 : va_W), lm_sx σ9 → lm_obj K x σ9 A9 → lm_mod K y σ9 t9 B9 → lx_W K 8 E (34 + k + 1) (2954 + 6 * k + 6) 1142 [(0, .ref s0), (1, .ref x), (2, .ref y), (3, .ref out), (4, .int (nI (4 * k)))] [] (B9 ++ ((out, aJ K 1 g9) :: A9))) : lx_W K 8 E (34 + k) (2954 + 6 * k) 720 [(0, .ref s0), (1, .ref x), (2, .ref y), (3, .ref out), (4, .int (nI (4 * k)))] [] (W2 ++ ((out, aJ K 1 go) :: W1)) := by
  obtain ⟨fs1, he1⟩ := lm_obj_0 h1
  obtain ⟨fs2, he2⟩ := lm_mod_0 h2
  refine lx_aload_n F dL_law_720 1 rfl ?_
  refine lx_aload_n F dL_law_721 0 rfl ?_
  refine lx_iload F dL_law_722 4 rfl ?_
  refine lx_iconst F dL_law_724 kc_1 ?_
  refine lx_iadd F dL_law_725 (nI_add _ _) ?_
  refine lx_sld F hX ((4 * k) + 1) dL_law_726 (by omega) (by omega) ?_
  refine lx_aload_n F dL_law_727 3 rfl ?_
  refine lx_csH F hTh (zW_value (xl E) K x c w u rt z hst W1 h1 out go (vs ((4 * k) + 1))) cw_L_128 rfl (st := []) rfl (Nat.le_of_ble_eq_true rfl) (by decide) ⟨by show 34 + k + 1 ≤ 1067; omega, by show 2954 + 6 * k + 6 ≤ 11200; omega⟩ dL_law_728 (fun v9 w9 h9 => ?_)
  obtain ⟨rfl, g1, w1, ho, hans, rfl⟩ := h9
  show lx_W K 8 E (34 + k + 1) (2954 + 6 * k + 6) 731 [(0, .ref s0), (1, .ref x), (2, .ref y), (3, .ref out), (4, .int (nI (4 * k)))] [.int (nI (lm_qv (vs ((4 * k) + 1)) (c, w, u, rt, z)).1)] (W2 ++ ((out, aJ K 1 g1) :: w1))
  refine lx_istore F [(0, .ref s0), (1, .ref x), (2, .ref y), (3, .ref out), (4, .int (nI (4 * k))), (5, .int (nI (lm_qv (vs ((4 * k) + 1)) (c, w, u, rt, z)).1))] [1, 2, 3, 4, 5, 0] dL_law_731 rfl (by decide) ?_
  refine lx_aload_n F dL_law_733 2 rfl ?_
  refine lx_aload_n F dL_law_734 0 rfl ?_
  refine lx_iload F dL_law_735 4 rfl ?_
  refine lx_iconst F dL_law_737 kc_1 ?_
  refine lx_iadd F dL_law_738 (nI_add _ _) ?_
  refine lx_sld F hX ((4 * k) + 1) dL_law_739 (by omega) (by omega) ?_
  refine lx_swap ?_
  refine lx_cvA F (zR_value (xl E) K y c w u rt z hst th W2 h2 (vs ((4 * k) + 1))) cv_L_130 (ci := 4) rfl he2 rfl (st := []) rfl (Nat.le_of_ble_eq_true rfl) (by decide) ⟨by show 34 + k + 1 ≤ 1067; omega, by show 2954 + 6 * k + 6 ≤ 11200; omega⟩ dL_law_740 (fun v8 w8 h8 => ?_)
  obtain ⟨rfl, hm⟩ := h8
  have ho : lm_obj K x (c, w, u, rt, z) w1 := ho
  have hm : lm_mod K y (c, w, u, rt, z) (nI (lm_qv (vs ((4 * k) + 1)) (c, w, u, rt, z)).1) w8 := hm
  have hcds := lm_cd_value c w u rt z (vs ((4 * k) + 1))
  generalize (lm_qv (vs ((4 * k) + 1)) (c, w, u, rt, z)).1 = cd at hans hm hcds ⊢
  refine lx_nmJ (fun av hav => ?_)
  rw [← hav] at hans
  show lx_W K 8 E (34 + k + 1) (2954 + 6 * k + 6) 743 [(0, .ref s0), (1, .ref x), (2, .ref y), (3, .ref out), (4, .int (nI (4 * k))), (5, .int (nI cd))] [.long av] (((out, aJ K 1 g1) :: w1) ++ w8)
  refine lx_lstore F [(0, .ref s0), (1, .ref x), (2, .ref y), (3, .ref out), (4, .int (nI (4 * k))), (5, .int (nI cd)), (6, .long av)] [1, 2, 3, 4, 5, 6, 0] dL_law_743 rfl (by decide) ?_
  refine lx_aload_n F dL_law_745 2 rfl ?_
  obtain ⟨fs3, he3⟩ := lm_mod_0 hm
  refine lx_cvA F (zR_thrown (xl E) K y c w u rt z (nI cd) w8 hm) cv_L_90 (ci := 4) rfl he3 rfl (st := []) rfl (Nat.le_of_ble_eq_true rfl) (by decide) ⟨by show 34 + k + 1 ≤ 1067; omega, by show 2954 + 6 * k + 6 ≤ 11200; omega⟩ dL_law_746 (fun v6 w7 h6 => ?_)
  obtain ⟨rfl, hm7⟩ := h6
  show lx_W K 8 E (34 + k + 1) (2954 + 6 * k + 6) 749 [(0, .ref s0), (1, .ref x), (2, .ref y), (3, .ref out), (4, .int (nI (4 * k))), (5, .int (nI cd)), (6, .long av)] [.int (nI cd)] (((out, aJ K 1 g1) :: w1) ++ w7)
  rcases hcds with hc | hc | hc
  · skip
    subst hc
    have hans := hans rfl
    refine lx_iload F dL_law_749 5 rfl ?_
    refine lx_icmp_eq F 756 dL_law_751 rfl (fun _ => ?_) (fun h => absurd rfl h)
    refine lx_iload F dL_law_756 5 rfl ?_
    refine lx_if_ne F 772 dL_law_758 rfl (fun h => absurd rfl h) (fun _ => ?_)
    refine lx_aload_n F dL_law_761 3 rfl ?_
    refine lx_iconst F dL_law_762 kc_0 ?_
    refine lx_lald F 0 0 dL_law_763 rfl (by decide) (by decide) ?_
    refine lx_lload F dL_law_764 6 rfl ?_
    refine lx_lcmp_ifeq F 772 dL_law_766 dL_law_767 rfl (fun _ => ?_) (fun h => absurd hans h)
    refine lx_goto F 1142 dL_law_772 rfl ?_
    refine lx_swap ?_
    refine lx_lv [0, 1, 2, 3, 4] [(0, .ref s0), (1, .ref x), (2, .ref y), (3, .ref out), (4, .int (nI (4 * k)))] rfl ?_
    exact hend (c, w, u, rt, z) _ _ _ _ hst ho hm7
  · skip
    subst hc
    refine lx_iload F dL_law_749 5 rfl ?_
    refine lx_icmp_eq F 756 dL_law_751 rfl (fun _ => ?_) (fun h => absurd rfl h)
    refine lx_iload F dL_law_756 5 rfl ?_
    refine lx_if_ne F 772 dL_law_758 rfl (fun _ => ?_) (fun h => absurd h (by decide))
    refine lx_goto F 1142 dL_law_772 rfl ?_
    refine lx_swap ?_
    refine lx_lv [0, 1, 2, 3, 4] [(0, .ref s0), (1, .ref x), (2, .ref y), (3, .ref out), (4, .int (nI (4 * k)))] rfl ?_
    exact hend (c, w, u, rt, z) _ _ _ _ hst ho hm7
  · skip
    subst hc
    refine lx_iload F dL_law_749 5 rfl ?_
    refine lx_icmp_eq F 756 dL_law_751 rfl (fun _ => ?_) (fun h => absurd rfl h)
    refine lx_iload F dL_law_756 5 rfl ?_
    refine lx_if_ne F 772 dL_law_758 rfl (fun _ => ?_) (fun h => absurd h (by decide))
    refine lx_goto F 1142 dL_law_772 rfl ?_
    refine lx_swap ?_
    refine lx_lv [0, 1, 2, 3, 4] [(0, .ref s0), (1, .ref x), (2, .ref y), (3, .ref out), (4, .int (nI (4 * k)))] rfl ?_
    exact hend (c, w, u, rt, z) _ _ _ _ hst ho hm7

set_option maxHeartbeats 4000000 in
set_option maxRecDepth 100000 in
theorem zL_same {K : lm_G} {E : lx_E} (F : lx_F K 8 E cL_law RL (some .boolean) room_1) {s0 L : Nat} {vs : Nat → Int32} (hX : lx_S E s0 L vs) (hTh : lm_Th (xl E) (xA E) (xs E) (xs E).heap) (hL : L ≤ 2048) (x y out k : Nat) (hk : 4 * k + 4 ≤ L) (c : Nat → Nat) (w : Nat → lm_V) (u : Nat) (rt : Nat → lm_V) (z : Int32) (hst : lm_st c w u rt) (th : Int32) (go : Nat → Int64) (W1 W2 : va_W) (h1 : lm_obj K x (c, w, u, rt, z) W1) (h2 : lm_mod K y (c, w, u, rt, z) th W2) (hend : ∀ (σ9 : lm_X) (t9 : Int32) (g9 : Nat → Int64) (A9 B9 : va_W), lm_sx σ9 → lm_obj K x σ9 A9 → lm_mod K y σ9 t9 B9 → lx_W K 8 E (34 + k + 1) (2954 + 6 * k + 6) 1142 [(0, .ref s0), (1, .ref x), (2, .ref y), (3, .ref out), (4, .int (nI (4 * k)))] [] (B9 ++ ((out, aJ K 1 g9) :: A9))) : lx_W K 8 E (34 + k) (2954 + 6 * k) 775 [(0, .ref s0), (1, .ref x), (2, .ref y), (3, .ref out), (4, .int (nI (4 * k)))] [] (W2 ++ ((out, aJ K 1 go) :: W1)) := by
  obtain ⟨fs1, he1⟩ := lm_obj_0 h1
  obtain ⟨fs2, he2⟩ := lm_mod_0 h2
  refine lx_aload_n F dL_law_775 1 rfl ?_
  refine lx_aload_n F dL_law_776 0 rfl ?_
  refine lx_iload F dL_law_777 4 rfl ?_
  refine lx_iconst F dL_law_779 kc_1 ?_
  refine lx_iadd F dL_law_780 (nI_add _ _) ?_
  refine lx_sld F hX ((4 * k) + 1) dL_law_781 (by omega) (by omega) ?_
  refine lx_aload_n F dL_law_782 0 rfl ?_
  refine lx_iload F dL_law_783 4 rfl ?_
  refine lx_iconst F dL_law_785 kc_2 ?_
  refine lx_iadd F dL_law_786 (nI_add _ _) ?_
  refine lx_sld F hX ((4 * k) + 2) dL_law_787 (by omega) (by omega) ?_
  refine lx_aload_n F dL_law_788 3 rfl ?_
  refine lx_csH F hTh (zW_same (xl E) K x c w u rt z hst W1 h1 out go (vs ((4 * k) + 1)) (vs ((4 * k) + 2))) cw_L_131 rfl (st := []) rfl (Nat.le_of_ble_eq_true rfl) (by decide) ⟨by show 34 + k + 1 ≤ 1067; omega, by show 2954 + 6 * k + 6 ≤ 11200; omega⟩ dL_law_789 (fun v9 w9 h9 => ?_)
  obtain ⟨rfl, g1, w1, ho, hans, rfl⟩ := h9
  show lx_W K 8 E (34 + k + 1) (2954 + 6 * k + 6) 792 [(0, .ref s0), (1, .ref x), (2, .ref y), (3, .ref out), (4, .int (nI (4 * k)))] [.int (nI (lm_q2 (vs ((4 * k) + 1)) (vs ((4 * k) + 2)) (c, w, u, rt, z)).1)] (W2 ++ ((out, aJ K 1 g1) :: w1))
  refine lx_istore F [(0, .ref s0), (1, .ref x), (2, .ref y), (3, .ref out), (4, .int (nI (4 * k))), (5, .int (nI (lm_q2 (vs ((4 * k) + 1)) (vs ((4 * k) + 2)) (c, w, u, rt, z)).1))] [1, 2, 3, 4, 5, 0] dL_law_792 rfl (by decide) ?_
  refine lx_aload_n F dL_law_794 2 rfl ?_
  refine lx_aload_n F dL_law_795 0 rfl ?_
  refine lx_iload F dL_law_796 4 rfl ?_
  refine lx_iconst F dL_law_798 kc_1 ?_
  refine lx_iadd F dL_law_799 (nI_add _ _) ?_
  refine lx_sld F hX ((4 * k) + 1) dL_law_800 (by omega) (by omega) ?_
  refine lx_aload_n F dL_law_801 0 rfl ?_
  refine lx_iload F dL_law_802 4 rfl ?_
  refine lx_iconst F dL_law_804 kc_2 ?_
  refine lx_iadd F dL_law_805 (nI_add _ _) ?_
  refine lx_sld F hX ((4 * k) + 2) dL_law_806 (by omega) (by omega) ?_
  refine lx_swap ?_
  refine lx_cvA F (zR_same (xl E) K y c w u rt z hst th W2 h2 (vs ((4 * k) + 1)) (vs ((4 * k) + 2))) cv_L_134 (ci := 4) rfl he2 rfl (st := []) rfl (Nat.le_of_ble_eq_true rfl) (by decide) ⟨by show 34 + k + 1 ≤ 1067; omega, by show 2954 + 6 * k + 6 ≤ 11200; omega⟩ dL_law_807 (fun v8 w8 h8 => ?_)
  obtain ⟨rfl, hm⟩ := h8
  have ho : lm_obj K x (c, w, u, rt, z) w1 := ho
  have hm : lm_mod K y (c, w, u, rt, z) (nI (lm_q2 (vs ((4 * k) + 1)) (vs ((4 * k) + 2)) (c, w, u, rt, z)).1) w8 := hm
  have hcds := lm_cd_same c w u rt z (vs ((4 * k) + 1)) (vs ((4 * k) + 2))
  generalize (lm_q2 (vs ((4 * k) + 1)) (vs ((4 * k) + 2)) (c, w, u, rt, z)).1 = cd at hans hm hcds ⊢
  refine lx_nmI (fun av hav => ?_)
  rw [← hav] at hans
  show lx_W K 8 E (34 + k + 1) (2954 + 6 * k + 6) 810 [(0, .ref s0), (1, .ref x), (2, .ref y), (3, .ref out), (4, .int (nI (4 * k))), (5, .int (nI cd))] [.int av] (((out, aJ K 1 g1) :: w1) ++ w8)
  refine lx_istore F [(0, .ref s0), (1, .ref x), (2, .ref y), (3, .ref out), (4, .int (nI (4 * k))), (5, .int (nI cd)), (6, .int av)] [1, 2, 3, 4, 5, 6, 0] dL_law_810 rfl (by decide) ?_
  refine lx_aload_n F dL_law_812 2 rfl ?_
  obtain ⟨fs3, he3⟩ := lm_mod_0 hm
  refine lx_cvA F (zR_thrown (xl E) K y c w u rt z (nI cd) w8 hm) cv_L_90 (ci := 4) rfl he3 rfl (st := []) rfl (Nat.le_of_ble_eq_true rfl) (by decide) ⟨by show 34 + k + 1 ≤ 1067; omega, by show 2954 + 6 * k + 6 ≤ 11200; omega⟩ dL_law_813 (fun v6 w7 h6 => ?_)
  obtain ⟨rfl, hm7⟩ := h6
  show lx_W K 8 E (34 + k + 1) (2954 + 6 * k + 6) 816 [(0, .ref s0), (1, .ref x), (2, .ref y), (3, .ref out), (4, .int (nI (4 * k))), (5, .int (nI cd)), (6, .int av)] [.int (nI cd)] (((out, aJ K 1 g1) :: w1) ++ w7)
  rcases hcds with hc | hc
  · skip
    subst hc
    have hans := hans rfl
    refine lx_iload F dL_law_816 5 rfl ?_
    refine lx_icmp_eq F 823 dL_law_818 rfl (fun _ => ?_) (fun h => absurd rfl h)
    refine lx_iload F dL_law_823 5 rfl ?_
    refine lx_if_ne F 847 dL_law_825 rfl (fun h => absurd rfl h) (fun _ => ?_)
    refine lx_aload_n F dL_law_828 3 rfl ?_
    refine lx_iconst F dL_law_829 kc_0 ?_
    refine lx_lald F 0 0 dL_law_830 rfl (by decide) (by decide) ?_
    refine lx_iload F dL_law_831 6 rfl ?_
    refine lx_if_eq F 840 dL_law_833 rfl (fun hv => ?_) (fun hv => ?_)
    · skip
      refine lx_lconst F dL_law_840 kl_0 ?_
      refine lx_lcmp_ifeq F 847 dL_law_841 dL_law_842 rfl (fun _ => ?_) (fun h => absurd (by rw [hans, if_pos hv]) h)
      refine lx_goto F 1142 dL_law_847 rfl ?_
      refine lx_swap ?_
      refine lx_lv [0, 1, 2, 3, 4] [(0, .ref s0), (1, .ref x), (2, .ref y), (3, .ref out), (4, .int (nI (4 * k)))] rfl ?_
      exact hend (c, w, u, rt, z) _ _ _ _ hst ho hm7
    · skip
      refine lx_lconst F dL_law_836 kl_1 ?_
      refine lx_goto F 841 dL_law_837 rfl ?_
      refine lx_lcmp_ifeq F 847 dL_law_841 dL_law_842 rfl (fun _ => ?_) (fun h => absurd (by rw [hans, if_neg hv]) h)
      refine lx_goto F 1142 dL_law_847 rfl ?_
      refine lx_swap ?_
      refine lx_lv [0, 1, 2, 3, 4] [(0, .ref s0), (1, .ref x), (2, .ref y), (3, .ref out), (4, .int (nI (4 * k)))] rfl ?_
      exact hend (c, w, u, rt, z) _ _ _ _ hst ho hm7
  · skip
    subst hc
    refine lx_iload F dL_law_816 5 rfl ?_
    refine lx_icmp_eq F 823 dL_law_818 rfl (fun _ => ?_) (fun h => absurd rfl h)
    refine lx_iload F dL_law_823 5 rfl ?_
    refine lx_if_ne F 847 dL_law_825 rfl (fun _ => ?_) (fun h => absurd h (by decide))
    refine lx_goto F 1142 dL_law_847 rfl ?_
    refine lx_swap ?_
    refine lx_lv [0, 1, 2, 3, 4] [(0, .ref s0), (1, .ref x), (2, .ref y), (3, .ref out), (4, .int (nI (4 * k)))] rfl ?_
    exact hend (c, w, u, rt, z) _ _ _ _ hst ho hm7

set_option maxHeartbeats 4000000 in
set_option maxRecDepth 100000 in
theorem zL_length {K : lm_G} {E : lx_E} (F : lx_F K 8 E cL_law RL (some .boolean) room_1) {s0 L : Nat} {vs : Nat → Int32} (hX : lx_S E s0 L vs) (hTh : lm_Th (xl E) (xA E) (xs E) (xs E).heap) (hL : L ≤ 2048) (x y out k : Nat) (hk : 4 * k + 4 ≤ L) (c : Nat → Nat) (w : Nat → lm_V) (u : Nat) (rt : Nat → lm_V) (z : Int32) (hst : lm_st c w u rt) (th : Int32) (go : Nat → Int64) (W1 W2 : va_W) (h1 : lm_obj K x (c, w, u, rt, z) W1) (h2 : lm_mod K y (c, w, u, rt, z) th W2) (hend : ∀ (σ9 : lm_X) (t9 : Int32) (g9 : Nat → Int64) (A9 B9 : va_W), lm_sx σ9 → lm_obj K x σ9 A9 → lm_mod K y σ9 t9 B9 → lx_W K 8 E (34 + k + 1) (2954 + 6 * k + 6) 1142 [(0, .ref s0), (1, .ref x), (2, .ref y), (3, .ref out), (4, .int (nI (4 * k)))] [] (B9 ++ ((out, aJ K 1 g9) :: A9))) : lx_W K 8 E (34 + k) (2954 + 6 * k) 850 [(0, .ref s0), (1, .ref x), (2, .ref y), (3, .ref out), (4, .int (nI (4 * k)))] [] (W2 ++ ((out, aJ K 1 go) :: W1)) := by
  obtain ⟨fs1, he1⟩ := lm_obj_0 h1
  obtain ⟨fs2, he2⟩ := lm_mod_0 h2
  refine lx_aload_n F dL_law_850 1 rfl ?_
  refine lx_aload_n F dL_law_851 0 rfl ?_
  refine lx_iload F dL_law_852 4 rfl ?_
  refine lx_iconst F dL_law_854 kc_1 ?_
  refine lx_iadd F dL_law_855 (nI_add _ _) ?_
  refine lx_sld F hX ((4 * k) + 1) dL_law_856 (by omega) (by omega) ?_
  refine lx_aload_n F dL_law_857 3 rfl ?_
  refine lx_csH F hTh (zW_length (xl E) K x c w u rt z hst W1 h1 out go (vs ((4 * k) + 1))) cw_L_135 rfl (st := []) rfl (Nat.le_of_ble_eq_true rfl) (by decide) ⟨by show 34 + k + 1 ≤ 1067; omega, by show 2954 + 6 * k + 6 ≤ 11200; omega⟩ dL_law_858 (fun v9 w9 h9 => ?_)
  obtain ⟨rfl, g1, w1, ho, hans, rfl⟩ := h9
  show lx_W K 8 E (34 + k + 1) (2954 + 6 * k + 6) 861 [(0, .ref s0), (1, .ref x), (2, .ref y), (3, .ref out), (4, .int (nI (4 * k)))] [.int (nI (lm_q1 (vs ((4 * k) + 1)) (c, w, u, rt, z)).1)] (W2 ++ ((out, aJ K 1 g1) :: w1))
  refine lx_istore F [(0, .ref s0), (1, .ref x), (2, .ref y), (3, .ref out), (4, .int (nI (4 * k))), (5, .int (nI (lm_q1 (vs ((4 * k) + 1)) (c, w, u, rt, z)).1))] [1, 2, 3, 4, 5, 0] dL_law_861 rfl (by decide) ?_
  refine lx_aload_n F dL_law_863 2 rfl ?_
  refine lx_aload_n F dL_law_864 0 rfl ?_
  refine lx_iload F dL_law_865 4 rfl ?_
  refine lx_iconst F dL_law_867 kc_1 ?_
  refine lx_iadd F dL_law_868 (nI_add _ _) ?_
  refine lx_sld F hX ((4 * k) + 1) dL_law_869 (by omega) (by omega) ?_
  refine lx_swap ?_
  refine lx_cvA F (zR_length (xl E) K y c w u rt z hst th W2 h2 (vs ((4 * k) + 1))) cv_L_137 (ci := 4) rfl he2 rfl (st := []) rfl (Nat.le_of_ble_eq_true rfl) (by decide) ⟨by show 34 + k + 1 ≤ 1067; omega, by show 2954 + 6 * k + 6 ≤ 11200; omega⟩ dL_law_870 (fun v8 w8 h8 => ?_)
  obtain ⟨rfl, hm⟩ := h8
  have ho : lm_obj K x (c, w, u, rt, z) w1 := ho
  have hm : lm_mod K y (c, w, u, rt, z) (nI (lm_q1 (vs ((4 * k) + 1)) (c, w, u, rt, z)).1) w8 := hm
  have hcds := lm_cd_length c w u rt z (vs ((4 * k) + 1))
  generalize (lm_q1 (vs ((4 * k) + 1)) (c, w, u, rt, z)).1 = cd at hans hm hcds ⊢
  refine lx_nmI (fun av hav => ?_)
  rw [← hav] at hans
  show lx_W K 8 E (34 + k + 1) (2954 + 6 * k + 6) 873 [(0, .ref s0), (1, .ref x), (2, .ref y), (3, .ref out), (4, .int (nI (4 * k))), (5, .int (nI cd))] [.int av] (((out, aJ K 1 g1) :: w1) ++ w8)
  refine lx_istore F [(0, .ref s0), (1, .ref x), (2, .ref y), (3, .ref out), (4, .int (nI (4 * k))), (5, .int (nI cd)), (6, .int av)] [1, 2, 3, 4, 5, 6, 0] dL_law_873 rfl (by decide) ?_
  refine lx_aload_n F dL_law_875 2 rfl ?_
  obtain ⟨fs3, he3⟩ := lm_mod_0 hm
  refine lx_cvA F (zR_thrown (xl E) K y c w u rt z (nI cd) w8 hm) cv_L_90 (ci := 4) rfl he3 rfl (st := []) rfl (Nat.le_of_ble_eq_true rfl) (by decide) ⟨by show 34 + k + 1 ≤ 1067; omega, by show 2954 + 6 * k + 6 ≤ 11200; omega⟩ dL_law_876 (fun v6 w7 h6 => ?_)
  obtain ⟨rfl, hm7⟩ := h6
  show lx_W K 8 E (34 + k + 1) (2954 + 6 * k + 6) 879 [(0, .ref s0), (1, .ref x), (2, .ref y), (3, .ref out), (4, .int (nI (4 * k))), (5, .int (nI cd)), (6, .int av)] [.int (nI cd)] (((out, aJ K 1 g1) :: w1) ++ w7)
  rcases hcds with hc | hc
  · skip
    subst hc
    have hans := hans rfl
    refine lx_iload F dL_law_879 5 rfl ?_
    refine lx_icmp_eq F 886 dL_law_881 rfl (fun _ => ?_) (fun h => absurd rfl h)
    refine lx_iload F dL_law_886 5 rfl ?_
    refine lx_if_ne F 903 dL_law_888 rfl (fun h => absurd rfl h) (fun _ => ?_)
    refine lx_aload_n F dL_law_891 3 rfl ?_
    refine lx_iconst F dL_law_892 kc_0 ?_
    refine lx_lald F 0 0 dL_law_893 rfl (by decide) (by decide) ?_
    refine lx_iload F dL_law_894 6 rfl ?_
    refine lx_i2l F dL_law_896 rfl ?_
    refine lx_lcmp_ifeq F 903 dL_law_897 dL_law_898 rfl (fun _ => ?_) (fun h => absurd hans h)
    refine lx_goto F 1142 dL_law_903 rfl ?_
    refine lx_swap ?_
    refine lx_lv [0, 1, 2, 3, 4] [(0, .ref s0), (1, .ref x), (2, .ref y), (3, .ref out), (4, .int (nI (4 * k)))] rfl ?_
    exact hend (c, w, u, rt, z) _ _ _ _ hst ho hm7
  · skip
    subst hc
    refine lx_iload F dL_law_879 5 rfl ?_
    refine lx_icmp_eq F 886 dL_law_881 rfl (fun _ => ?_) (fun h => absurd rfl h)
    refine lx_iload F dL_law_886 5 rfl ?_
    refine lx_if_ne F 903 dL_law_888 rfl (fun _ => ?_) (fun h => absurd h (by decide))
    refine lx_goto F 1142 dL_law_903 rfl ?_
    refine lx_swap ?_
    refine lx_lv [0, 1, 2, 3, 4] [(0, .ref s0), (1, .ref x), (2, .ref y), (3, .ref out), (4, .int (nI (4 * k)))] rfl ?_
    exact hend (c, w, u, rt, z) _ _ _ _ hst ho hm7

set_option maxHeartbeats 4000000 in
set_option maxRecDepth 100000 in
theorem zL_words {K : lm_G} {E : lx_E} (F : lx_F K 8 E cL_law RL (some .boolean) room_1) {s0 L : Nat} {vs : Nat → Int32} (hX : lx_S E s0 L vs) (hTh : lm_Th (xl E) (xA E) (xs E) (xs E).heap) (hL : L ≤ 2048) (x y out k : Nat) (hk : 4 * k + 4 ≤ L) (c : Nat → Nat) (w : Nat → lm_V) (u : Nat) (rt : Nat → lm_V) (z : Int32) (hst : lm_st c w u rt) (th : Int32) (go : Nat → Int64) (W1 W2 : va_W) (h1 : lm_obj K x (c, w, u, rt, z) W1) (h2 : lm_mod K y (c, w, u, rt, z) th W2) (hend : ∀ (σ9 : lm_X) (t9 : Int32) (g9 : Nat → Int64) (A9 B9 : va_W), lm_sx σ9 → lm_obj K x σ9 A9 → lm_mod K y σ9 t9 B9 → lx_W K 8 E (34 + k + 1) (2954 + 6 * k + 6) 1142 [(0, .ref s0), (1, .ref x), (2, .ref y), (3, .ref out), (4, .int (nI (4 * k)))] [] (B9 ++ ((out, aJ K 1 g9) :: A9))) : lx_W K 8 E (34 + k) (2954 + 6 * k) 906 [(0, .ref s0), (1, .ref x), (2, .ref y), (3, .ref out), (4, .int (nI (4 * k)))] [] (W2 ++ ((out, aJ K 1 go) :: W1)) := by
  obtain ⟨fs1, he1⟩ := lm_obj_0 h1
  obtain ⟨fs2, he2⟩ := lm_mod_0 h2
  refine lx_aload_n F dL_law_906 1 rfl ?_
  refine lx_aload_n F dL_law_907 0 rfl ?_
  refine lx_iload F dL_law_908 4 rfl ?_
  refine lx_iconst F dL_law_910 kc_1 ?_
  refine lx_iadd F dL_law_911 (nI_add _ _) ?_
  refine lx_sld F hX ((4 * k) + 1) dL_law_912 (by omega) (by omega) ?_
  refine lx_aload_n F dL_law_913 3 rfl ?_
  refine lx_csH F hTh (zW_words (xl E) K x c w u rt z hst W1 h1 out go (vs ((4 * k) + 1))) cw_L_138 rfl (st := []) rfl (Nat.le_of_ble_eq_true rfl) (by decide) ⟨by show 34 + k + 1 ≤ 1067; omega, by show 2954 + 6 * k + 6 ≤ 11200; omega⟩ dL_law_914 (fun v9 w9 h9 => ?_)
  obtain ⟨rfl, g1, w1, ho, hans, rfl⟩ := h9
  show lx_W K 8 E (34 + k + 1) (2954 + 6 * k + 6) 917 [(0, .ref s0), (1, .ref x), (2, .ref y), (3, .ref out), (4, .int (nI (4 * k)))] [.int (nI (lm_q1 (vs ((4 * k) + 1)) (c, w, u, rt, z)).1)] (W2 ++ ((out, aJ K 1 g1) :: w1))
  refine lx_istore F [(0, .ref s0), (1, .ref x), (2, .ref y), (3, .ref out), (4, .int (nI (4 * k))), (5, .int (nI (lm_q1 (vs ((4 * k) + 1)) (c, w, u, rt, z)).1))] [1, 2, 3, 4, 5, 0] dL_law_917 rfl (by decide) ?_
  refine lx_aload_n F dL_law_919 2 rfl ?_
  refine lx_aload_n F dL_law_920 0 rfl ?_
  refine lx_iload F dL_law_921 4 rfl ?_
  refine lx_iconst F dL_law_923 kc_1 ?_
  refine lx_iadd F dL_law_924 (nI_add _ _) ?_
  refine lx_sld F hX ((4 * k) + 1) dL_law_925 (by omega) (by omega) ?_
  refine lx_swap ?_
  refine lx_cvA F (zR_words (xl E) K y c w u rt z hst th W2 h2 (vs ((4 * k) + 1))) cv_L_140 (ci := 4) rfl he2 rfl (st := []) rfl (Nat.le_of_ble_eq_true rfl) (by decide) ⟨by show 34 + k + 1 ≤ 1067; omega, by show 2954 + 6 * k + 6 ≤ 11200; omega⟩ dL_law_926 (fun v8 w8 h8 => ?_)
  obtain ⟨rfl, hm⟩ := h8
  have ho : lm_obj K x (c, w, u, rt, z) w1 := ho
  have hm : lm_mod K y (c, w, u, rt, z) (nI (lm_q1 (vs ((4 * k) + 1)) (c, w, u, rt, z)).1) w8 := hm
  have hcds := lm_cd_words c w u rt z (vs ((4 * k) + 1))
  generalize (lm_q1 (vs ((4 * k) + 1)) (c, w, u, rt, z)).1 = cd at hans hm hcds ⊢
  refine lx_nmI (fun av hav => ?_)
  rw [← hav] at hans
  show lx_W K 8 E (34 + k + 1) (2954 + 6 * k + 6) 929 [(0, .ref s0), (1, .ref x), (2, .ref y), (3, .ref out), (4, .int (nI (4 * k))), (5, .int (nI cd))] [.int av] (((out, aJ K 1 g1) :: w1) ++ w8)
  refine lx_istore F [(0, .ref s0), (1, .ref x), (2, .ref y), (3, .ref out), (4, .int (nI (4 * k))), (5, .int (nI cd)), (6, .int av)] [1, 2, 3, 4, 5, 6, 0] dL_law_929 rfl (by decide) ?_
  refine lx_aload_n F dL_law_931 2 rfl ?_
  obtain ⟨fs3, he3⟩ := lm_mod_0 hm
  refine lx_cvA F (zR_thrown (xl E) K y c w u rt z (nI cd) w8 hm) cv_L_90 (ci := 4) rfl he3 rfl (st := []) rfl (Nat.le_of_ble_eq_true rfl) (by decide) ⟨by show 34 + k + 1 ≤ 1067; omega, by show 2954 + 6 * k + 6 ≤ 11200; omega⟩ dL_law_932 (fun v6 w7 h6 => ?_)
  obtain ⟨rfl, hm7⟩ := h6
  show lx_W K 8 E (34 + k + 1) (2954 + 6 * k + 6) 935 [(0, .ref s0), (1, .ref x), (2, .ref y), (3, .ref out), (4, .int (nI (4 * k))), (5, .int (nI cd)), (6, .int av)] [.int (nI cd)] (((out, aJ K 1 g1) :: w1) ++ w7)
  rcases hcds with hc | hc
  · skip
    subst hc
    have hans := hans rfl
    refine lx_iload F dL_law_935 5 rfl ?_
    refine lx_icmp_eq F 942 dL_law_937 rfl (fun _ => ?_) (fun h => absurd rfl h)
    refine lx_iload F dL_law_942 5 rfl ?_
    refine lx_if_ne F 959 dL_law_944 rfl (fun h => absurd rfl h) (fun _ => ?_)
    refine lx_aload_n F dL_law_947 3 rfl ?_
    refine lx_iconst F dL_law_948 kc_0 ?_
    refine lx_lald F 0 0 dL_law_949 rfl (by decide) (by decide) ?_
    refine lx_iload F dL_law_950 6 rfl ?_
    refine lx_i2l F dL_law_952 rfl ?_
    refine lx_lcmp_ifeq F 959 dL_law_953 dL_law_954 rfl (fun _ => ?_) (fun h => absurd hans h)
    refine lx_goto F 1142 dL_law_959 rfl ?_
    refine lx_swap ?_
    refine lx_lv [0, 1, 2, 3, 4] [(0, .ref s0), (1, .ref x), (2, .ref y), (3, .ref out), (4, .int (nI (4 * k)))] rfl ?_
    exact hend (c, w, u, rt, z) _ _ _ _ hst ho hm7
  · skip
    subst hc
    refine lx_iload F dL_law_935 5 rfl ?_
    refine lx_icmp_eq F 942 dL_law_937 rfl (fun _ => ?_) (fun h => absurd rfl h)
    refine lx_iload F dL_law_942 5 rfl ?_
    refine lx_if_ne F 959 dL_law_944 rfl (fun _ => ?_) (fun h => absurd h (by decide))
    refine lx_goto F 1142 dL_law_959 rfl ?_
    refine lx_swap ?_
    refine lx_lv [0, 1, 2, 3, 4] [(0, .ref s0), (1, .ref x), (2, .ref y), (3, .ref out), (4, .int (nI (4 * k)))] rfl ?_
    exact hend (c, w, u, rt, z) _ _ _ _ hst ho hm7

set_option maxHeartbeats 4000000 in
set_option maxRecDepth 100000 in
theorem zL_alike {K : lm_G} {E : lx_E} (F : lx_F K 8 E cL_law RL (some .boolean) room_1) {s0 L : Nat} {vs : Nat → Int32} (hX : lx_S E s0 L vs) (hTh : lm_Th (xl E) (xA E) (xs E) (xs E).heap) (hL : L ≤ 2048) (x y out k : Nat) (hk : 4 * k + 4 ≤ L) (c : Nat → Nat) (w : Nat → lm_V) (u : Nat) (rt : Nat → lm_V) (z : Int32) (hst : lm_st c w u rt) (th : Int32) (go : Nat → Int64) (W1 W2 : va_W) (h1 : lm_obj K x (c, w, u, rt, z) W1) (h2 : lm_mod K y (c, w, u, rt, z) th W2) (hend : ∀ (σ9 : lm_X) (t9 : Int32) (g9 : Nat → Int64) (A9 B9 : va_W), lm_sx σ9 → lm_obj K x σ9 A9 → lm_mod K y σ9 t9 B9 → lx_W K 8 E (34 + k + 1) (2954 + 6 * k + 6) 1142 [(0, .ref s0), (1, .ref x), (2, .ref y), (3, .ref out), (4, .int (nI (4 * k)))] [] (B9 ++ ((out, aJ K 1 g9) :: A9))) : lx_W K 8 E (34 + k) (2954 + 6 * k) 962 [(0, .ref s0), (1, .ref x), (2, .ref y), (3, .ref out), (4, .int (nI (4 * k)))] [] (W2 ++ ((out, aJ K 1 go) :: W1)) := by
  obtain ⟨fs1, he1⟩ := lm_obj_0 h1
  obtain ⟨fs2, he2⟩ := lm_mod_0 h2
  refine lx_aload_n F dL_law_962 1 rfl ?_
  refine lx_aload_n F dL_law_963 0 rfl ?_
  refine lx_iload F dL_law_964 4 rfl ?_
  refine lx_iconst F dL_law_966 kc_1 ?_
  refine lx_iadd F dL_law_967 (nI_add _ _) ?_
  refine lx_sld F hX ((4 * k) + 1) dL_law_968 (by omega) (by omega) ?_
  refine lx_aload_n F dL_law_969 0 rfl ?_
  refine lx_iload F dL_law_970 4 rfl ?_
  refine lx_iconst F dL_law_972 kc_2 ?_
  refine lx_iadd F dL_law_973 (nI_add _ _) ?_
  refine lx_sld F hX ((4 * k) + 2) dL_law_974 (by omega) (by omega) ?_
  refine lx_aload_n F dL_law_975 3 rfl ?_
  refine lx_csH F hTh (zW_alike (xl E) K x c w u rt z hst W1 h1 out go (vs ((4 * k) + 1)) (vs ((4 * k) + 2))) cw_L_141 rfl (st := []) rfl (Nat.le_of_ble_eq_true rfl) (by decide) ⟨by show 34 + k + 1 ≤ 1067; omega, by show 2954 + 6 * k + 6 ≤ 11200; omega⟩ dL_law_976 (fun v9 w9 h9 => ?_)
  obtain ⟨rfl, g1, w1, ho, hans, rfl⟩ := h9
  show lx_W K 8 E (34 + k + 1) (2954 + 6 * k + 6) 979 [(0, .ref s0), (1, .ref x), (2, .ref y), (3, .ref out), (4, .int (nI (4 * k)))] [.int (nI (lm_q2 (vs ((4 * k) + 1)) (vs ((4 * k) + 2)) (c, w, u, rt, z)).1)] (W2 ++ ((out, aJ K 1 g1) :: w1))
  refine lx_istore F [(0, .ref s0), (1, .ref x), (2, .ref y), (3, .ref out), (4, .int (nI (4 * k))), (5, .int (nI (lm_q2 (vs ((4 * k) + 1)) (vs ((4 * k) + 2)) (c, w, u, rt, z)).1))] [1, 2, 3, 4, 5, 0] dL_law_979 rfl (by decide) ?_
  refine lx_aload_n F dL_law_981 2 rfl ?_
  refine lx_aload_n F dL_law_982 0 rfl ?_
  refine lx_iload F dL_law_983 4 rfl ?_
  refine lx_iconst F dL_law_985 kc_1 ?_
  refine lx_iadd F dL_law_986 (nI_add _ _) ?_
  refine lx_sld F hX ((4 * k) + 1) dL_law_987 (by omega) (by omega) ?_
  refine lx_aload_n F dL_law_988 0 rfl ?_
  refine lx_iload F dL_law_989 4 rfl ?_
  refine lx_iconst F dL_law_991 kc_2 ?_
  refine lx_iadd F dL_law_992 (nI_add _ _) ?_
  refine lx_sld F hX ((4 * k) + 2) dL_law_993 (by omega) (by omega) ?_
  refine lx_swap ?_
  refine lx_cvA F (zR_alike (xl E) K y c w u rt z hst th W2 h2 (vs ((4 * k) + 1)) (vs ((4 * k) + 2))) cv_L_143 (ci := 4) rfl he2 rfl (st := []) rfl (Nat.le_of_ble_eq_true rfl) (by decide) ⟨by show 34 + k + 1 ≤ 1067; omega, by show 2954 + 6 * k + 6 ≤ 11200; omega⟩ dL_law_994 (fun v8 w8 h8 => ?_)
  obtain ⟨rfl, hm⟩ := h8
  have ho : lm_obj K x (c, w, u, rt, z) w1 := ho
  have hm : lm_mod K y (c, w, u, rt, z) (nI (lm_q2 (vs ((4 * k) + 1)) (vs ((4 * k) + 2)) (c, w, u, rt, z)).1) w8 := hm
  have hcds := lm_cd_alike c w u rt z (vs ((4 * k) + 1)) (vs ((4 * k) + 2))
  generalize (lm_q2 (vs ((4 * k) + 1)) (vs ((4 * k) + 2)) (c, w, u, rt, z)).1 = cd at hans hm hcds ⊢
  refine lx_nmI (fun av hav => ?_)
  rw [← hav] at hans
  show lx_W K 8 E (34 + k + 1) (2954 + 6 * k + 6) 997 [(0, .ref s0), (1, .ref x), (2, .ref y), (3, .ref out), (4, .int (nI (4 * k))), (5, .int (nI cd))] [.int av] (((out, aJ K 1 g1) :: w1) ++ w8)
  refine lx_istore F [(0, .ref s0), (1, .ref x), (2, .ref y), (3, .ref out), (4, .int (nI (4 * k))), (5, .int (nI cd)), (6, .int av)] [1, 2, 3, 4, 5, 6, 0] dL_law_997 rfl (by decide) ?_
  refine lx_aload_n F dL_law_999 2 rfl ?_
  obtain ⟨fs3, he3⟩ := lm_mod_0 hm
  refine lx_cvA F (zR_thrown (xl E) K y c w u rt z (nI cd) w8 hm) cv_L_90 (ci := 4) rfl he3 rfl (st := []) rfl (Nat.le_of_ble_eq_true rfl) (by decide) ⟨by show 34 + k + 1 ≤ 1067; omega, by show 2954 + 6 * k + 6 ≤ 11200; omega⟩ dL_law_1000 (fun v6 w7 h6 => ?_)
  obtain ⟨rfl, hm7⟩ := h6
  show lx_W K 8 E (34 + k + 1) (2954 + 6 * k + 6) 1003 [(0, .ref s0), (1, .ref x), (2, .ref y), (3, .ref out), (4, .int (nI (4 * k))), (5, .int (nI cd)), (6, .int av)] [.int (nI cd)] (((out, aJ K 1 g1) :: w1) ++ w7)
  rcases hcds with hc | hc
  · skip
    subst hc
    have hans := hans rfl
    refine lx_iload F dL_law_1003 5 rfl ?_
    refine lx_icmp_eq F 1010 dL_law_1005 rfl (fun _ => ?_) (fun h => absurd rfl h)
    refine lx_iload F dL_law_1010 5 rfl ?_
    refine lx_if_ne F 1034 dL_law_1012 rfl (fun h => absurd rfl h) (fun _ => ?_)
    refine lx_aload_n F dL_law_1015 3 rfl ?_
    refine lx_iconst F dL_law_1016 kc_0 ?_
    refine lx_lald F 0 0 dL_law_1017 rfl (by decide) (by decide) ?_
    refine lx_iload F dL_law_1018 6 rfl ?_
    refine lx_if_eq F 1027 dL_law_1020 rfl (fun hv => ?_) (fun hv => ?_)
    · skip
      refine lx_lconst F dL_law_1027 kl_0 ?_
      refine lx_lcmp_ifeq F 1034 dL_law_1028 dL_law_1029 rfl (fun _ => ?_) (fun h => absurd (by rw [hans, if_pos hv]) h)
      refine lx_goto F 1142 dL_law_1034 rfl ?_
      refine lx_swap ?_
      refine lx_lv [0, 1, 2, 3, 4] [(0, .ref s0), (1, .ref x), (2, .ref y), (3, .ref out), (4, .int (nI (4 * k)))] rfl ?_
      exact hend (c, w, u, rt, z) _ _ _ _ hst ho hm7
    · skip
      refine lx_lconst F dL_law_1023 kl_1 ?_
      refine lx_goto F 1028 dL_law_1024 rfl ?_
      refine lx_lcmp_ifeq F 1034 dL_law_1028 dL_law_1029 rfl (fun _ => ?_) (fun h => absurd (by rw [hans, if_neg hv]) h)
      refine lx_goto F 1142 dL_law_1034 rfl ?_
      refine lx_swap ?_
      refine lx_lv [0, 1, 2, 3, 4] [(0, .ref s0), (1, .ref x), (2, .ref y), (3, .ref out), (4, .int (nI (4 * k)))] rfl ?_
      exact hend (c, w, u, rt, z) _ _ _ _ hst ho hm7
  · skip
    subst hc
    refine lx_iload F dL_law_1003 5 rfl ?_
    refine lx_icmp_eq F 1010 dL_law_1005 rfl (fun _ => ?_) (fun h => absurd rfl h)
    refine lx_iload F dL_law_1010 5 rfl ?_
    refine lx_if_ne F 1034 dL_law_1012 rfl (fun _ => ?_) (fun h => absurd h (by decide))
    refine lx_goto F 1142 dL_law_1034 rfl ?_
    refine lx_swap ?_
    refine lx_lv [0, 1, 2, 3, 4] [(0, .ref s0), (1, .ref x), (2, .ref y), (3, .ref out), (4, .int (nI (4 * k)))] rfl ?_
    exact hend (c, w, u, rt, z) _ _ _ _ hst ho hm7

set_option maxHeartbeats 4000000 in
set_option maxRecDepth 100000 in
theorem zL_collect {K : lm_G} {E : lx_E} (F : lx_F K 8 E cL_law RL (some .boolean) room_1) {s0 L : Nat} {vs : Nat → Int32} (hX : lx_S E s0 L vs) (hTh : lm_Th (xl E) (xA E) (xs E) (xs E).heap) (hL : L ≤ 2048) (x y out k : Nat) (hk : 4 * k + 4 ≤ L) (c : Nat → Nat) (w : Nat → lm_V) (u : Nat) (rt : Nat → lm_V) (z : Int32) (hst : lm_st c w u rt) (th : Int32) (go : Nat → Int64) (W1 W2 : va_W) (h1 : lm_obj K x (c, w, u, rt, z) W1) (h2 : lm_mod K y (c, w, u, rt, z) th W2) (hend : ∀ (σ9 : lm_X) (t9 : Int32) (g9 : Nat → Int64) (A9 B9 : va_W), lm_sx σ9 → lm_obj K x σ9 A9 → lm_mod K y σ9 t9 B9 → lx_W K 8 E (34 + k + 1) (2954 + 6 * k + 6) 1142 [(0, .ref s0), (1, .ref x), (2, .ref y), (3, .ref out), (4, .int (nI (4 * k)))] [] (B9 ++ ((out, aJ K 1 g9) :: A9))) : lx_W K 8 E (34 + k) (2954 + 6 * k) 1037 [(0, .ref s0), (1, .ref x), (2, .ref y), (3, .ref out), (4, .int (nI (4 * k)))] [] (W2 ++ ((out, aJ K 1 go) :: W1)) := by
  obtain ⟨fs1, he1⟩ := lm_obj_0 h1
  obtain ⟨fs2, he2⟩ := lm_mod_0 h2
  refine lx_aload_n F dL_law_1037 1 rfl ?_
  rw [show W2 ++ ((out, aJ K 1 go) :: W1) = (W2 ++ [(out, aJ K 1 go)]) ++ W1 by simp]
  refine lx_cvA F (zX_collect_0 (xl E) K x c w u rt z hst W1 h1  rfl) cv_L_144 (ci := 3) rfl he1 rfl (st := []) rfl (Nat.le_of_ble_eq_true rfl) (by decide) ⟨by show 34 + k + 0 ≤ 1067; omega, by show 2954 + 6 * k + 0 ≤ 11200; omega⟩ dL_law_1038 (fun v9 w9 h9 => ?_)
  obtain ⟨rfl, ho⟩ := h9
  rw [List.append_assoc]
  show lx_W K 8 E (34 + k) (2954 + 6 * k) 1041 [(0, .ref s0), (1, .ref x), (2, .ref y), (3, .ref out), (4, .int (nI (4 * k)))] [.int (nI (lm_gu c w rt))] (W2 ++ ((out, aJ K 1 go) :: w9))
  refine lx_aload_n F dL_law_1041 2 rfl ?_
  refine lx_swap ?_
  refine lx_cvA F (zR_collect (xl E) K y c w u rt z hst th W2 h2 ) cv_L_147 (ci := 4) rfl he2 rfl (st := [.int (nI (lm_gu c w rt))]) rfl (Nat.le_of_ble_eq_true rfl) (by decide) ⟨by show 34 + k + 0 ≤ 1067; omega, by show 2954 + 6 * k + 0 ≤ 11200; omega⟩ dL_law_1042 (fun v8 w8 h8 => ?_)
  obtain ⟨rfl, hm⟩ := h8
  show lx_W K 8 E (34 + k) (2954 + 6 * k) 1045 [(0, .ref s0), (1, .ref x), (2, .ref y), (3, .ref out), (4, .int (nI (4 * k)))] [.int (nI (lm_gu c w rt)), .int (nI (lm_gu c w rt))] (((out, aJ K 1 go) :: w9) ++ w8)
  refine lx_icmp_eq F 1142 dL_law_1045 rfl (fun _ => ?_) (fun h => absurd rfl h)
  refine lx_swap ?_
  refine lx_wide (a' := 34 + k + 1) (b' := 2954 + 6 * k + 6) (by omega) (by omega) ?_
  exact hend _ _ _ _ _ (lm_sx_col (σ := (c, w, u, rt, z)) hst) ho hm

set_option maxHeartbeats 4000000 in
set_option maxRecDepth 100000 in
theorem zL_about {K : lm_G} {E : lx_E} (F : lx_F K 8 E cL_law RL (some .boolean) room_1) {s0 L : Nat} {vs : Nat → Int32} (hX : lx_S E s0 L vs) (hTh : lm_Th (xl E) (xA E) (xs E) (xs E).heap) (hL : L ≤ 2048) (x y out k : Nat) (hk : 4 * k + 4 ≤ L) (c : Nat → Nat) (w : Nat → lm_V) (u : Nat) (rt : Nat → lm_V) (z : Int32) (hst : lm_st c w u rt) (th : Int32) (go : Nat → Int64) (W1 W2 : va_W) (h1 : lm_obj K x (c, w, u, rt, z) W1) (h2 : lm_mod K y (c, w, u, rt, z) th W2) (hend : ∀ (σ9 : lm_X) (t9 : Int32) (g9 : Nat → Int64) (A9 B9 : va_W), lm_sx σ9 → lm_obj K x σ9 A9 → lm_mod K y σ9 t9 B9 → lx_W K 8 E (34 + k + 1) (2954 + 6 * k + 6) 1142 [(0, .ref s0), (1, .ref x), (2, .ref y), (3, .ref out), (4, .int (nI (4 * k)))] [] (B9 ++ ((out, aJ K 1 g9) :: A9))) : lx_W K 8 E (34 + k) (2954 + 6 * k) 1050 [(0, .ref s0), (1, .ref x), (2, .ref y), (3, .ref out), (4, .int (nI (4 * k)))] [] (W2 ++ ((out, aJ K 1 go) :: W1)) := by
  obtain ⟨fs1, he1⟩ := lm_obj_0 h1
  obtain ⟨fs2, he2⟩ := lm_mod_0 h2
  refine lx_aload_n F dL_law_1050 1 rfl ?_
  refine lx_aload_n F dL_law_1051 0 rfl ?_
  refine lx_iload F dL_law_1052 4 rfl ?_
  refine lx_iconst F dL_law_1054 kc_1 ?_
  refine lx_iadd F dL_law_1055 (nI_add _ _) ?_
  refine lx_sld F hX ((4 * k) + 1) dL_law_1056 (by omega) (by omega) ?_
  rw [show W2 ++ ((out, aJ K 1 go) :: W1) = (W2 ++ [(out, aJ K 1 go)]) ++ W1 by simp]
  refine lx_cvA F (zX_about_0 (xl E) K x c w u rt z hst W1 h1 (vs ((4 * k) + 1)) rfl) cv_L_148 (ci := 3) rfl he1 rfl (st := []) rfl (Nat.le_of_ble_eq_true rfl) (by decide) ⟨by show 34 + k + 0 ≤ 1067; omega, by show 2954 + 6 * k + 0 ≤ 11200; omega⟩ dL_law_1057 (fun v9 w9 h9 => ?_)
  obtain ⟨rfl, ho⟩ := h9
  rw [List.append_assoc]
  show lx_W K 8 E (34 + k) (2954 + 6 * k) 1060 [(0, .ref s0), (1, .ref x), (2, .ref y), (3, .ref out), (4, .int (nI (4 * k)))] [.int (lm_ab w u z (vs ((4 * k) + 1)))] (W2 ++ ((out, aJ K 1 go) :: w9))
  refine lx_aload_n F dL_law_1060 2 rfl ?_
  refine lx_aload_n F dL_law_1061 0 rfl ?_
  refine lx_iload F dL_law_1062 4 rfl ?_
  refine lx_iconst F dL_law_1064 kc_1 ?_
  refine lx_iadd F dL_law_1065 (nI_add _ _) ?_
  refine lx_sld F hX ((4 * k) + 1) dL_law_1066 (by omega) (by omega) ?_
  refine lx_swap ?_
  refine lx_cvA F (zR_about (xl E) K y c w u rt z hst th W2 h2 (vs ((4 * k) + 1))) cv_L_151 (ci := 4) rfl he2 rfl (st := [.int (lm_ab w u z (vs ((4 * k) + 1)))]) rfl (Nat.le_of_ble_eq_true rfl) (by decide) ⟨by show 34 + k + 0 ≤ 1067; omega, by show 2954 + 6 * k + 0 ≤ 11200; omega⟩ dL_law_1067 (fun v8 w8 h8 => ?_)
  obtain ⟨rfl, hm⟩ := h8
  show lx_W K 8 E (34 + k) (2954 + 6 * k) 1070 [(0, .ref s0), (1, .ref x), (2, .ref y), (3, .ref out), (4, .int (nI (4 * k)))] [.int (lm_ab w u z (vs ((4 * k) + 1))), .int (lm_ab w u z (vs ((4 * k) + 1)))] (((out, aJ K 1 go) :: w9) ++ w8)
  refine lx_icmp_eq F 1142 dL_law_1070 rfl (fun _ => ?_) (fun h => absurd rfl h)
  refine lx_swap ?_
  refine lx_wide (a' := 34 + k + 1) (b' := 2954 + 6 * k + 6) (by omega) (by omega) ?_
  exact hend (c, w, u, rt, z) _ _ _ _ hst ho hm

set_option maxHeartbeats 4000000 in
set_option maxRecDepth 100000 in
theorem zL_word {K : lm_G} {E : lx_E} (F : lx_F K 8 E cL_law RL (some .boolean) room_1) {s0 L : Nat} {vs : Nat → Int32} (hX : lx_S E s0 L vs) (hTh : lm_Th (xl E) (xA E) (xs E) (xs E).heap) (hL : L ≤ 2048) (x y out k : Nat) (hk : 4 * k + 4 ≤ L) (c : Nat → Nat) (w : Nat → lm_V) (u : Nat) (rt : Nat → lm_V) (z : Int32) (hst : lm_st c w u rt) (th : Int32) (go : Nat → Int64) (W1 W2 : va_W) (h1 : lm_obj K x (c, w, u, rt, z) W1) (h2 : lm_mod K y (c, w, u, rt, z) th W2) (hend : ∀ (σ9 : lm_X) (t9 : Int32) (g9 : Nat → Int64) (A9 B9 : va_W), lm_sx σ9 → lm_obj K x σ9 A9 → lm_mod K y σ9 t9 B9 → lx_W K 8 E (34 + k + 1) (2954 + 6 * k + 6) 1142 [(0, .ref s0), (1, .ref x), (2, .ref y), (3, .ref out), (4, .int (nI (4 * k)))] [] (B9 ++ ((out, aJ K 1 g9) :: A9))) : lx_W K 8 E (34 + k) (2954 + 6 * k) 1075 [(0, .ref s0), (1, .ref x), (2, .ref y), (3, .ref out), (4, .int (nI (4 * k)))] [] (W2 ++ ((out, aJ K 1 go) :: W1)) := by
  obtain ⟨fs1, he1⟩ := lm_obj_0 h1
  obtain ⟨fs2, he2⟩ := lm_mod_0 h2
  refine lx_aload_n F dL_law_1075 1 rfl ?_
  refine lx_aload_n F dL_law_1076 0 rfl ?_
  refine lx_iload F dL_law_1077 4 rfl ?_
  refine lx_iconst F dL_law_1079 kc_1 ?_
  refine lx_iadd F dL_law_1080 (nI_add _ _) ?_
  refine lx_sld F hX ((4 * k) + 1) dL_law_1081 (by omega) (by omega) ?_
  refine lx_aload_n F dL_law_1082 0 rfl ?_
  refine lx_iload F dL_law_1083 4 rfl ?_
  refine lx_iconst F dL_law_1085 kc_2 ?_
  refine lx_iadd F dL_law_1086 (nI_add _ _) ?_
  refine lx_sld F hX ((4 * k) + 2) dL_law_1087 (by omega) (by omega) ?_
  refine lx_aload_n F dL_law_1088 3 rfl ?_
  refine lx_csH F hTh (zW_word (xl E) K x c w u rt z hst W1 h1 out go (vs ((4 * k) + 1)) (vs ((4 * k) + 2))) cw_L_152 rfl (st := []) rfl (Nat.le_of_ble_eq_true rfl) (by decide) ⟨by show 34 + k + 1 ≤ 1067; omega, by show 2954 + 6 * k + 6 ≤ 11200; omega⟩ dL_law_1089 (fun v9 w9 h9 => ?_)
  obtain ⟨rfl, g1, w1, ho, hans, rfl⟩ := h9
  show lx_W K 8 E (34 + k + 1) (2954 + 6 * k + 6) 1092 [(0, .ref s0), (1, .ref x), (2, .ref y), (3, .ref out), (4, .int (nI (4 * k)))] [.int (nI (lm_qw (vs ((4 * k) + 1)) (vs ((4 * k) + 2)) (c, w, u, rt, z)).1)] (W2 ++ ((out, aJ K 1 g1) :: w1))
  refine lx_istore F [(0, .ref s0), (1, .ref x), (2, .ref y), (3, .ref out), (4, .int (nI (4 * k))), (5, .int (nI (lm_qw (vs ((4 * k) + 1)) (vs ((4 * k) + 2)) (c, w, u, rt, z)).1))] [1, 2, 3, 4, 5, 0] dL_law_1092 rfl (by decide) ?_
  refine lx_aload_n F dL_law_1094 2 rfl ?_
  refine lx_aload_n F dL_law_1095 0 rfl ?_
  refine lx_iload F dL_law_1096 4 rfl ?_
  refine lx_iconst F dL_law_1098 kc_1 ?_
  refine lx_iadd F dL_law_1099 (nI_add _ _) ?_
  refine lx_sld F hX ((4 * k) + 1) dL_law_1100 (by omega) (by omega) ?_
  refine lx_aload_n F dL_law_1101 0 rfl ?_
  refine lx_iload F dL_law_1102 4 rfl ?_
  refine lx_iconst F dL_law_1104 kc_2 ?_
  refine lx_iadd F dL_law_1105 (nI_add _ _) ?_
  refine lx_sld F hX ((4 * k) + 2) dL_law_1106 (by omega) (by omega) ?_
  refine lx_swap ?_
  refine lx_cvA F (zR_word (xl E) K y c w u rt z hst th W2 h2 (vs ((4 * k) + 1)) (vs ((4 * k) + 2))) cv_L_154 (ci := 4) rfl he2 rfl (st := []) rfl (Nat.le_of_ble_eq_true rfl) (by decide) ⟨by show 34 + k + 1 ≤ 1067; omega, by show 2954 + 6 * k + 6 ≤ 11200; omega⟩ dL_law_1107 (fun v8 w8 h8 => ?_)
  obtain ⟨rfl, hm⟩ := h8
  have ho : lm_obj K x (c, w, u, rt, z) w1 := ho
  have hm : lm_mod K y (c, w, u, rt, z) (nI (lm_qw (vs ((4 * k) + 1)) (vs ((4 * k) + 2)) (c, w, u, rt, z)).1) w8 := hm
  have hcds := lm_cd_word c w u rt z (vs ((4 * k) + 1)) (vs ((4 * k) + 2))
  generalize (lm_qw (vs ((4 * k) + 1)) (vs ((4 * k) + 2)) (c, w, u, rt, z)).1 = cd at hans hm hcds ⊢
  refine lx_nmJ (fun av hav => ?_)
  rw [← hav] at hans
  show lx_W K 8 E (34 + k + 1) (2954 + 6 * k + 6) 1110 [(0, .ref s0), (1, .ref x), (2, .ref y), (3, .ref out), (4, .int (nI (4 * k))), (5, .int (nI cd))] [.long av] (((out, aJ K 1 g1) :: w1) ++ w8)
  refine lx_lstore F [(0, .ref s0), (1, .ref x), (2, .ref y), (3, .ref out), (4, .int (nI (4 * k))), (5, .int (nI cd)), (6, .long av)] [1, 2, 3, 4, 5, 6, 0] dL_law_1110 rfl (by decide) ?_
  refine lx_aload_n F dL_law_1112 2 rfl ?_
  obtain ⟨fs3, he3⟩ := lm_mod_0 hm
  refine lx_cvA F (zR_thrown (xl E) K y c w u rt z (nI cd) w8 hm) cv_L_90 (ci := 4) rfl he3 rfl (st := []) rfl (Nat.le_of_ble_eq_true rfl) (by decide) ⟨by show 34 + k + 1 ≤ 1067; omega, by show 2954 + 6 * k + 6 ≤ 11200; omega⟩ dL_law_1113 (fun v6 w7 h6 => ?_)
  obtain ⟨rfl, hm7⟩ := h6
  show lx_W K 8 E (34 + k + 1) (2954 + 6 * k + 6) 1116 [(0, .ref s0), (1, .ref x), (2, .ref y), (3, .ref out), (4, .int (nI (4 * k))), (5, .int (nI cd)), (6, .long av)] [.int (nI cd)] (((out, aJ K 1 g1) :: w1) ++ w7)
  rcases hcds with hc | hc | hc
  · skip
    subst hc
    have hans := hans rfl
    refine lx_iload F dL_law_1116 5 rfl ?_
    refine lx_icmp_eq F 1123 dL_law_1118 rfl (fun _ => ?_) (fun h => absurd rfl h)
    refine lx_iload F dL_law_1123 5 rfl ?_
    refine lx_if_ne F 1139 dL_law_1125 rfl (fun h => absurd rfl h) (fun _ => ?_)
    refine lx_aload_n F dL_law_1128 3 rfl ?_
    refine lx_iconst F dL_law_1129 kc_0 ?_
    refine lx_lald F 0 0 dL_law_1130 rfl (by decide) (by decide) ?_
    refine lx_lload F dL_law_1131 6 rfl ?_
    refine lx_lcmp_ifeq F 1139 dL_law_1133 dL_law_1134 rfl (fun _ => ?_) (fun h => absurd hans h)
    refine lx_goto F 1142 dL_law_1139 rfl ?_
    refine lx_swap ?_
    refine lx_lv [0, 1, 2, 3, 4] [(0, .ref s0), (1, .ref x), (2, .ref y), (3, .ref out), (4, .int (nI (4 * k)))] rfl ?_
    exact hend (c, w, u, rt, z) _ _ _ _ hst ho hm7
  · skip
    subst hc
    refine lx_iload F dL_law_1116 5 rfl ?_
    refine lx_icmp_eq F 1123 dL_law_1118 rfl (fun _ => ?_) (fun h => absurd rfl h)
    refine lx_iload F dL_law_1123 5 rfl ?_
    refine lx_if_ne F 1139 dL_law_1125 rfl (fun _ => ?_) (fun h => absurd h (by decide))
    refine lx_goto F 1142 dL_law_1139 rfl ?_
    refine lx_swap ?_
    refine lx_lv [0, 1, 2, 3, 4] [(0, .ref s0), (1, .ref x), (2, .ref y), (3, .ref out), (4, .int (nI (4 * k)))] rfl ?_
    exact hend (c, w, u, rt, z) _ _ _ _ hst ho hm7
  · skip
    subst hc
    refine lx_iload F dL_law_1116 5 rfl ?_
    refine lx_icmp_eq F 1123 dL_law_1118 rfl (fun _ => ?_) (fun h => absurd rfl h)
    refine lx_iload F dL_law_1123 5 rfl ?_
    refine lx_if_ne F 1139 dL_law_1125 rfl (fun _ => ?_) (fun h => absurd h (by decide))
    refine lx_goto F 1142 dL_law_1139 rfl ?_
    refine lx_swap ?_
    refine lx_lv [0, 1, 2, 3, 4] [(0, .ref s0), (1, .ref x), (2, .ref y), (3, .ref out), (4, .int (nI (4 * k)))] rfl ?_
    exact hend (c, w, u, rt, z) _ _ _ _ hst ho hm7
