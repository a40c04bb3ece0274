set_option maxHeartbeats 4000000 in
set_option maxRecDepth 100000 in
theorem lc_set {κ : KX} (C : CT κ cL_law RL 4 room_1) {b L : Nat} {xs : Nat → Int32} (hX : va_X b L xs (ks κ) (ks κ).heap) (hbl : b < (ks κ).heap.size) (hbA : ¬ kA κ b) (hL : L ≤ 3072) {j : Nat} (hj : 6 * j + 6 ≤ L) {h h2 : Nat} {X : SX} {w1 w2 : va_W} (hR : RX (kG κ) h w1 X) (hM : RMX (kG κ) h2 w2 X) {c n : Nat} (hc : c + 10 ≤ 600000) (hn : n + 813 ≤ 7302250) (k : ∀ w1 w2 X, RX (kG κ) h w1 X → RMX (kG κ) h2 w2 X → WW κ (c + 10) (n + 813) (w1 ++ w2) 838 [(3, .int (nI (6 * j))), (2, .ref h2), (1, .ref h), (0, .ref b)] []) : WW κ c n (w1 ++ w2) 128 [(3, .int (nI (6 * j))), (2, .ref h2), (1, .ref h), (0, .ref b)] [] := by
  refine w_aload_n (nx := 129) C 2 dL_law_128 rfl rfl rfl ?_
  refine w_aload_n (nx := 130) C 3 dL_law_129 rfl rfl rfl ?_
  refine w_iload_n (nx := 131) C 0 dL_law_130 rfl rfl rfl ?_
  refine w_iconst (nx := 132) C (nI 1) dL_law_131 rfl (by decide) ?_
  refine w_iadd (nx := 133) C (nI (6 * j + 1)) dL_law_132 rfl (nI_add _ _) ?_
  refine w_sld (nx := 134) C hX hbl hbA (6 * j + 1) dL_law_133 rfl rfl (by omega) (by omega) ?_
  refine w_aload_n (nx := 135) C 3 dL_law_134 rfl rfl rfl ?_
  refine w_iload_n (nx := 136) C 0 dL_law_135 rfl rfl rfl ?_
  refine w_iconst (nx := 137) C (nI 2) dL_law_136 rfl (by decide) ?_
  refine w_iadd (nx := 138) C (nI (6 * j + 2)) dL_law_137 rfl (nI_add _ _) ?_
  refine w_sld (nx := 139) C hX hbl hbA (6 * j + 2) dL_law_138 rfl rfl (by omega) (by omega) ?_
  obtain ⟨f8, hv8⟩ := RX_recv hR
  refine w_callV (nx := 142) (ci := 8) (wr := w2) (rest := []) C mi_X8_set (c_X8_set _ _ h w1 X (xs (6 * j + 1)) (xs (6 * j + 2)) hR) 0 dL_law_139 rfl wl_L_13 rfl rfl hv8 (List.Perm.refl _) rfl rfl (Nat.le_of_ble_eq_true rfl) (Nat.le_of_ble_eq_true rfl) (Nat.le_of_ble_eq_true rfl) (rc_c (by omega)) (rc_s (by omega)) (fun v9 w3 R9 => ?_)
  obtain ⟨w9, rfl, rfl, hR3⟩ := R9
  show WW κ (c + 10) (n + 813) (w3 ++ w2) 142 [(3, .int (nI (6 * j))), (2, .ref h2), (1, .ref h), (0, .ref b)] [.int ((o_set X (xs (6 * j + 1)) (xs (6 * j + 2))).1)]
  refine w_aload_n (nx := 143) C 1 dL_law_142 rfl rfl rfl ?_
  refine w_aload_n (nx := 144) C 3 dL_law_143 rfl rfl rfl ?_
  refine w_iload_n (nx := 145) C 0 dL_law_144 rfl rfl rfl ?_
  refine w_iconst (nx := 146) C (nI 1) dL_law_145 rfl (by decide) ?_
  refine w_iadd (nx := 147) C (nI (6 * j + 1)) dL_law_146 rfl (nI_add _ _) ?_
  refine w_sld (nx := 148) C hX hbl hbA (6 * j + 1) dL_law_147 rfl rfl (by omega) (by omega) ?_
  refine w_aload_n (nx := 149) C 3 dL_law_148 rfl rfl rfl ?_
  refine w_iload_n (nx := 150) C 0 dL_law_149 rfl rfl rfl ?_
  refine w_iconst (nx := 151) C (nI 2) dL_law_150 rfl (by decide) ?_
  refine w_iadd (nx := 152) C (nI (6 * j + 2)) dL_law_151 rfl (nI_add _ _) ?_
  refine w_sld (nx := 153) C hX hbl hbA (6 * j + 2) dL_law_152 rfl rfl (by omega) (by omega) ?_
  obtain ⟨f9, hv9⟩ := RMX_recv hM
  refine w_callV (nx := 156) (ci := 9) (wr := w3) (rest := [.int ((o_set X (xs (6 * j + 1)) (xs (6 * j + 2))).1)]) C mi_X9_set (c_X9_set _ _ h2 w2 X (xs (6 * j + 1)) (xs (6 * j + 2)) hM) 0 dL_law_153 rfl wl_L_17 rfl rfl hv9 List.perm_append_comm rfl rfl (Nat.le_of_ble_eq_true rfl) (Nat.le_of_ble_eq_true rfl) (Nat.le_of_ble_eq_true rfl) (rc_c (by omega)) (rc_s (by omega)) (fun v9 w4 R9 => ?_)
  obtain ⟨w9, rfl, rfl, hM4⟩ := R9
  refine ww_perm List.perm_append_comm ?_
  show WW κ (c + 10) (n + 813) (w3 ++ w4) 156 [(3, .int (nI (6 * j))), (2, .ref h2), (1, .ref h), (0, .ref b)] [.int ((o_set X (xs (6 * j + 1)) (xs (6 * j + 2))).1), .int ((o_set X (xs (6 * j + 1)) (xs (6 * j + 2))).1)]
  refine w_icmp_eq (tg := 838) (nx := 159) C dL_law_156 rfl rfl (fun _ => ?_) (fun q9 => absurd rfl q9)
  exact ww_wide (by omega) (by omega) (k _ _ _ hR3 hM4)
set_option maxHeartbeats 4000000 in
set_option maxRecDepth 100000 in
theorem lc_trigger {κ : KX} (C : CT κ cL_law RL 4 room_1) {b L : Nat} {xs : Nat → Int32} (hX : va_X b L xs (ks κ) (ks κ).heap) (hbl : b < (ks κ).heap.size) (hbA : ¬ kA κ b) (hL : L ≤ 3072) {j : Nat} (hj : 6 * j + 6 ≤ L) {h h2 : Nat} {X : SX} {w1 w2 : va_W} (hR : RX (kG κ) h w1 X) (hM : RMX (kG κ) h2 w2 X) {c n : Nat} (hc : c + 10 ≤ 600000) (hn : n + 813 ≤ 7302250) (k : ∀ w1 w2 X, RX (kG κ) h w1 X → RMX (kG κ) h2 w2 X → WW κ (c + 10) (n + 813) (w1 ++ w2) 838 [(3, .int (nI (6 * j))), (2, .ref h2), (1, .ref h), (0, .ref b)] []) : WW κ c n (w1 ++ w2) 161 [(3, .int (nI (6 * j))), (2, .ref h2), (1, .ref h), (0, .ref b)] [] := by
  refine w_aload_n (nx := 162) C 2 dL_law_161 rfl rfl rfl ?_
  refine w_aload_n (nx := 163) C 3 dL_law_162 rfl rfl rfl ?_
  refine w_iload_n (nx := 164) C 0 dL_law_163 rfl rfl rfl ?_
  refine w_iconst (nx := 165) C (nI 1) dL_law_164 rfl (by decide) ?_
  refine w_iadd (nx := 166) C (nI (6 * j + 1)) dL_law_165 rfl (nI_add _ _) ?_
  refine w_sld (nx := 167) C hX hbl hbA (6 * j + 1) dL_law_166 rfl rfl (by omega) (by omega) ?_
  refine w_aload_n (nx := 168) C 3 dL_law_167 rfl rfl rfl ?_
  refine w_iload_n (nx := 169) C 0 dL_law_168 rfl rfl rfl ?_
  refine w_iconst (nx := 170) C (nI 2) dL_law_169 rfl (by decide) ?_
  refine w_iadd (nx := 171) C (nI (6 * j + 2)) dL_law_170 rfl (nI_add _ _) ?_
  refine w_sld (nx := 172) C hX hbl hbA (6 * j + 2) dL_law_171 rfl rfl (by omega) (by omega) ?_
  refine w_aload_n (nx := 173) C 3 dL_law_172 rfl rfl rfl ?_
  refine w_iload_n (nx := 174) C 0 dL_law_173 rfl rfl rfl ?_
  refine w_iconst (nx := 175) C (nI 3) dL_law_174 rfl (by decide) ?_
  refine w_iadd (nx := 176) C (nI (6 * j + 3)) dL_law_175 rfl (nI_add _ _) ?_
  refine w_sld (nx := 177) C hX hbl hbA (6 * j + 3) dL_law_176 rfl rfl (by omega) (by omega) ?_
  refine w_aload_n (nx := 178) C 3 dL_law_177 rfl rfl rfl ?_
  refine w_iload_n (nx := 179) C 0 dL_law_178 rfl rfl rfl ?_
  refine w_iconst (nx := 180) C (nI 4) dL_law_179 rfl (by decide) ?_
  refine w_iadd (nx := 181) C (nI (6 * j + 4)) dL_law_180 rfl (nI_add _ _) ?_
  refine w_sld (nx := 182) C hX hbl hbA (6 * j + 4) dL_law_181 rfl rfl (by omega) (by omega) ?_
  obtain ⟨f8, hv8⟩ := RX_recv hR
  refine w_callV (nx := 185) (ci := 8) (wr := w2) (rest := []) C mi_X8_trigger (c_X8_trigger _ _ h w1 X (xs (6 * j + 1)) (xs (6 * j + 2)) (xs (6 * j + 3)) (xs (6 * j + 4)) hR) 0 dL_law_182 rfl wl_L_18 rfl rfl hv8 (List.Perm.refl _) rfl rfl (Nat.le_of_ble_eq_true rfl) (Nat.le_of_ble_eq_true rfl) (Nat.le_of_ble_eq_true rfl) (rc_c (by omega)) (rc_s (by omega)) (fun v9 w3 R9 => ?_)
  obtain ⟨w9, rfl, rfl, hR3⟩ := R9
  show WW κ (c + 10) (n + 813) (w3 ++ w2) 185 [(3, .int (nI (6 * j))), (2, .ref h2), (1, .ref h), (0, .ref b)] [.int ((o_trigger X (xs (6 * j + 1)) (xs (6 * j + 2)) (xs (6 * j + 3)) (xs (6 * j + 4))).1)]
  refine w_aload_n (nx := 186) C 1 dL_law_185 rfl rfl rfl ?_
  refine w_aload_n (nx := 187) C 3 dL_law_186 rfl rfl rfl ?_
  refine w_iload_n (nx := 188) C 0 dL_law_187 rfl rfl rfl ?_
  refine w_iconst (nx := 189) C (nI 1) dL_law_188 rfl (by decide) ?_
  refine w_iadd (nx := 190) C (nI (6 * j + 1)) dL_law_189 rfl (nI_add _ _) ?_
  refine w_sld (nx := 191) C hX hbl hbA (6 * j + 1) dL_law_190 rfl rfl (by omega) (by omega) ?_
  refine w_aload_n (nx := 192) C 3 dL_law_191 rfl rfl rfl ?_
  refine w_iload_n (nx := 193) C 0 dL_law_192 rfl rfl rfl ?_
  refine w_iconst (nx := 194) C (nI 2) dL_law_193 rfl (by decide) ?_
  refine w_iadd (nx := 195) C (nI (6 * j + 2)) dL_law_194 rfl (nI_add _ _) ?_
  refine w_sld (nx := 196) C hX hbl hbA (6 * j + 2) dL_law_195 rfl rfl (by omega) (by omega) ?_
  refine w_aload_n (nx := 197) C 3 dL_law_196 rfl rfl rfl ?_
  refine w_iload_n (nx := 198) C 0 dL_law_197 rfl rfl rfl ?_
  refine w_iconst (nx := 199) C (nI 3) dL_law_198 rfl (by decide) ?_
  refine w_iadd (nx := 200) C (nI (6 * j + 3)) dL_law_199 rfl (nI_add _ _) ?_
  refine w_sld (nx := 201) C hX hbl hbA (6 * j + 3) dL_law_200 rfl rfl (by omega) (by omega) ?_
  refine w_aload_n (nx := 202) C 3 dL_law_201 rfl rfl rfl ?_
  refine w_iload_n (nx := 203) C 0 dL_law_202 rfl rfl rfl ?_
  refine w_iconst (nx := 204) C (nI 4) dL_law_203 rfl (by decide) ?_
  refine w_iadd (nx := 205) C (nI (6 * j + 4)) dL_law_204 rfl (nI_add _ _) ?_
  refine w_sld (nx := 206) C hX hbl hbA (6 * j + 4) dL_law_205 rfl rfl (by omega) (by omega) ?_
  obtain ⟨f9, hv9⟩ := RMX_recv hM
  refine w_callV (nx := 209) (ci := 9) (wr := w3) (rest := [.int ((o_trigger X (xs (6 * j + 1)) (xs (6 * j + 2)) (xs (6 * j + 3)) (xs (6 * j + 4))).1)]) C mi_X9_trigger (c_X9_trigger _ _ h2 w2 X (xs (6 * j + 1)) (xs (6 * j + 2)) (xs (6 * j + 3)) (xs (6 * j + 4)) hM) 0 dL_law_206 rfl wl_L_22 rfl rfl hv9 List.perm_append_comm rfl rfl (Nat.le_of_ble_eq_true rfl) (Nat.le_of_ble_eq_true rfl) (Nat.le_of_ble_eq_true rfl) (rc_c (by omega)) (rc_s (by omega)) (fun v9 w4 R9 => ?_)
  obtain ⟨w9, rfl, rfl, hM4⟩ := R9
  refine ww_perm List.perm_append_comm ?_
  show WW κ (c + 10) (n + 813) (w3 ++ w4) 209 [(3, .int (nI (6 * j))), (2, .ref h2), (1, .ref h), (0, .ref b)] [.int ((o_trigger X (xs (6 * j + 1)) (xs (6 * j + 2)) (xs (6 * j + 3)) (xs (6 * j + 4))).1), .int ((o_trigger X (xs (6 * j + 1)) (xs (6 * j + 2)) (xs (6 * j + 3)) (xs (6 * j + 4))).1)]
  refine w_icmp_eq (tg := 838) (nx := 212) C dL_law_209 rfl rfl (fun _ => ?_) (fun q9 => absurd rfl q9)
  exact ww_wide (by omega) (by omega) (k _ _ _ hR3 hM4)
set_option maxHeartbeats 4000000 in
set_option maxRecDepth 100000 in
theorem lc_deed {κ : KX} (C : CT κ cL_law RL 4 room_1) {b L : Nat} {xs : Nat → Int32} (hX : va_X b L xs (ks κ) (ks κ).heap) (hbl : b < (ks κ).heap.size) (hbA : ¬ kA κ b) (hL : L ≤ 3072) {j : Nat} (hj : 6 * j + 6 ≤ L) {h h2 : Nat} {X : SX} {w1 w2 : va_W} (hR : RX (kG κ) h w1 X) (hM : RMX (kG κ) h2 w2 X) {c n : Nat} (hc : c + 10 ≤ 600000) (hn : n + 813 ≤ 7302250) (k : ∀ w1 w2 X, RX (kG κ) h w1 X → RMX (kG κ) h2 w2 X → WW κ (c + 10) (n + 813) (w1 ++ w2) 838 [(3, .int (nI (6 * j))), (2, .ref h2), (1, .ref h), (0, .ref b)] []) : WW κ c n (w1 ++ w2) 214 [(3, .int (nI (6 * j))), (2, .ref h2), (1, .ref h), (0, .ref b)] [] := by
  refine w_aload_n (nx := 215) C 2 dL_law_214 rfl rfl rfl ?_
  refine w_aload_n (nx := 216) C 3 dL_law_215 rfl rfl rfl ?_
  refine w_iload_n (nx := 217) C 0 dL_law_216 rfl rfl rfl ?_
  refine w_iconst (nx := 218) C (nI 1) dL_law_217 rfl (by decide) ?_
  refine w_iadd (nx := 219) C (nI (6 * j + 1)) dL_law_218 rfl (nI_add _ _) ?_
  refine w_sld (nx := 220) C hX hbl hbA (6 * j + 1) dL_law_219 rfl rfl (by omega) (by omega) ?_
  refine w_aload_n (nx := 221) C 3 dL_law_220 rfl rfl rfl ?_
  refine w_iload_n (nx := 222) C 0 dL_law_221 rfl rfl rfl ?_
  refine w_iconst (nx := 223) C (nI 2) dL_law_222 rfl (by decide) ?_
  refine w_iadd (nx := 224) C (nI (6 * j + 2)) dL_law_223 rfl (nI_add _ _) ?_
  refine w_sld (nx := 225) C hX hbl hbA (6 * j + 2) dL_law_224 rfl rfl (by omega) (by omega) ?_
  refine w_aload_n (nx := 226) C 3 dL_law_225 rfl rfl rfl ?_
  refine w_iload_n (nx := 227) C 0 dL_law_226 rfl rfl rfl ?_
  refine w_iconst (nx := 228) C (nI 3) dL_law_227 rfl (by decide) ?_
  refine w_iadd (nx := 229) C (nI (6 * j + 3)) dL_law_228 rfl (nI_add _ _) ?_
  refine w_sld (nx := 230) C hX hbl hbA (6 * j + 3) dL_law_229 rfl rfl (by omega) (by omega) ?_
  refine w_aload_n (nx := 231) C 3 dL_law_230 rfl rfl rfl ?_
  refine w_iload_n (nx := 232) C 0 dL_law_231 rfl rfl rfl ?_
  refine w_iconst (nx := 233) C (nI 4) dL_law_232 rfl (by decide) ?_
  refine w_iadd (nx := 234) C (nI (6 * j + 4)) dL_law_233 rfl (nI_add _ _) ?_
  refine w_sld (nx := 235) C hX hbl hbA (6 * j + 4) dL_law_234 rfl rfl (by omega) (by omega) ?_
  refine w_aload_n (nx := 236) C 3 dL_law_235 rfl rfl rfl ?_
  refine w_iload_n (nx := 237) C 0 dL_law_236 rfl rfl rfl ?_
  refine w_iconst (nx := 238) C (nI 5) dL_law_237 rfl (by decide) ?_
  refine w_iadd (nx := 239) C (nI (6 * j + 5)) dL_law_238 rfl (nI_add _ _) ?_
  refine w_sld (nx := 240) C hX hbl hbA (6 * j + 5) dL_law_239 rfl rfl (by omega) (by omega) ?_
  obtain ⟨f8, hv8⟩ := RX_recv hR
  refine w_callV (nx := 243) (ci := 8) (wr := w2) (rest := []) C mi_X8_deed (c_X8_deed _ _ h w1 X (xs (6 * j + 1)) (xs (6 * j + 2)) (xs (6 * j + 3)) (xs (6 * j + 4)) (xs (6 * j + 5)) hR) 0 dL_law_240 rfl wl_L_23 rfl rfl hv8 (List.Perm.refl _) rfl rfl (Nat.le_of_ble_eq_true rfl) (Nat.le_of_ble_eq_true rfl) (Nat.le_of_ble_eq_true rfl) (rc_c (by omega)) (rc_s (by omega)) (fun v9 w3 R9 => ?_)
  obtain ⟨w9, rfl, rfl, hR3⟩ := R9
  show WW κ (c + 10) (n + 813) (w3 ++ w2) 243 [(3, .int (nI (6 * j))), (2, .ref h2), (1, .ref h), (0, .ref b)] [.int ((o_deed X (xs (6 * j + 1)) (xs (6 * j + 2)) (xs (6 * j + 3)) (xs (6 * j + 4)) (xs (6 * j + 5))).1)]
  refine w_aload_n (nx := 244) C 1 dL_law_243 rfl rfl rfl ?_
  refine w_aload_n (nx := 245) C 3 dL_law_244 rfl rfl rfl ?_
  refine w_iload_n (nx := 246) C 0 dL_law_245 rfl rfl rfl ?_
  refine w_iconst (nx := 247) C (nI 1) dL_law_246 rfl (by decide) ?_
  refine w_iadd (nx := 248) C (nI (6 * j + 1)) dL_law_247 rfl (nI_add _ _) ?_
  refine w_sld (nx := 249) C hX hbl hbA (6 * j + 1) dL_law_248 rfl rfl (by omega) (by omega) ?_
  refine w_aload_n (nx := 250) C 3 dL_law_249 rfl rfl rfl ?_
  refine w_iload_n (nx := 251) C 0 dL_law_250 rfl rfl rfl ?_
  refine w_iconst (nx := 252) C (nI 2) dL_law_251 rfl (by decide) ?_
  refine w_iadd (nx := 253) C (nI (6 * j + 2)) dL_law_252 rfl (nI_add _ _) ?_
  refine w_sld (nx := 254) C hX hbl hbA (6 * j + 2) dL_law_253 rfl rfl (by omega) (by omega) ?_
  refine w_aload_n (nx := 255) C 3 dL_law_254 rfl rfl rfl ?_
  refine w_iload_n (nx := 256) C 0 dL_law_255 rfl rfl rfl ?_
  refine w_iconst (nx := 257) C (nI 3) dL_law_256 rfl (by decide) ?_
  refine w_iadd (nx := 258) C (nI (6 * j + 3)) dL_law_257 rfl (nI_add _ _) ?_
  refine w_sld (nx := 259) C hX hbl hbA (6 * j + 3) dL_law_258 rfl rfl (by omega) (by omega) ?_
  refine w_aload_n (nx := 260) C 3 dL_law_259 rfl rfl rfl ?_
  refine w_iload_n (nx := 261) C 0 dL_law_260 rfl rfl rfl ?_
  refine w_iconst (nx := 262) C (nI 4) dL_law_261 rfl (by decide) ?_
  refine w_iadd (nx := 263) C (nI (6 * j + 4)) dL_law_262 rfl (nI_add _ _) ?_
  refine w_sld (nx := 264) C hX hbl hbA (6 * j + 4) dL_law_263 rfl rfl (by omega) (by omega) ?_
  refine w_aload_n (nx := 265) C 3 dL_law_264 rfl rfl rfl ?_
  refine w_iload_n (nx := 266) C 0 dL_law_265 rfl rfl rfl ?_
  refine w_iconst (nx := 267) C (nI 5) dL_law_266 rfl (by decide) ?_
  refine w_iadd (nx := 268) C (nI (6 * j + 5)) dL_law_267 rfl (nI_add _ _) ?_
  refine w_sld (nx := 269) C hX hbl hbA (6 * j + 5) dL_law_268 rfl rfl (by omega) (by omega) ?_
  obtain ⟨f9, hv9⟩ := RMX_recv hM
  refine w_callV (nx := 272) (ci := 9) (wr := w3) (rest := [.int ((o_deed X (xs (6 * j + 1)) (xs (6 * j + 2)) (xs (6 * j + 3)) (xs (6 * j + 4)) (xs (6 * j + 5))).1)]) C mi_X9_deed (c_X9_deed _ _ h2 w2 X (xs (6 * j + 1)) (xs (6 * j + 2)) (xs (6 * j + 3)) (xs (6 * j + 4)) (xs (6 * j + 5)) hM) 0 dL_law_269 rfl wl_L_27 rfl rfl hv9 List.perm_append_comm rfl rfl (Nat.le_of_ble_eq_true rfl) (Nat.le_of_ble_eq_true rfl) (Nat.le_of_ble_eq_true rfl) (rc_c (by omega)) (rc_s (by omega)) (fun v9 w4 R9 => ?_)
  obtain ⟨w9, rfl, rfl, hM4⟩ := R9
  refine ww_perm List.perm_append_comm ?_
  show WW κ (c + 10) (n + 813) (w3 ++ w4) 272 [(3, .int (nI (6 * j))), (2, .ref h2), (1, .ref h), (0, .ref b)] [.int ((o_deed X (xs (6 * j + 1)) (xs (6 * j + 2)) (xs (6 * j + 3)) (xs (6 * j + 4)) (xs (6 * j + 5))).1), .int ((o_deed X (xs (6 * j + 1)) (xs (6 * j + 2)) (xs (6 * j + 3)) (xs (6 * j + 4)) (xs (6 * j + 5))).1)]
  refine w_icmp_eq (tg := 838) (nx := 275) C dL_law_272 rfl rfl (fun _ => ?_) (fun q9 => absurd rfl q9)
  exact ww_wide (by omega) (by omega) (k _ _ _ hR3 hM4)
set_option maxHeartbeats 4000000 in
set_option maxRecDepth 100000 in
theorem lc_dropTrigger {κ : KX} (C : CT κ cL_law RL 4 room_1) {b L : Nat} {xs : Nat → Int32} (hX : va_X b L xs (ks κ) (ks κ).heap) (hbl : b < (ks κ).heap.size) (hbA : ¬ kA κ b) (hL : L ≤ 3072) {j : Nat} (hj : 6 * j + 6 ≤ L) {h h2 : Nat} {X : SX} {w1 w2 : va_W} (hR : RX (kG κ) h w1 X) (hM : RMX (kG κ) h2 w2 X) {c n : Nat} (hc : c + 10 ≤ 600000) (hn : n + 813 ≤ 7302250) (k : ∀ w1 w2 X, RX (kG κ) h w1 X → RMX (kG κ) h2 w2 X → WW κ (c + 10) (n + 813) (w1 ++ w2) 838 [(3, .int (nI (6 * j))), (2, .ref h2), (1, .ref h), (0, .ref b)] []) : WW κ c n (w1 ++ w2) 277 [(3, .int (nI (6 * j))), (2, .ref h2), (1, .ref h), (0, .ref b)] [] := by
  refine w_aload_n (nx := 278) C 2 dL_law_277 rfl rfl rfl ?_
  refine w_aload_n (nx := 279) C 3 dL_law_278 rfl rfl rfl ?_
  refine w_iload_n (nx := 280) C 0 dL_law_279 rfl rfl rfl ?_
  refine w_iconst (nx := 281) C (nI 1) dL_law_280 rfl (by decide) ?_
  refine w_iadd (nx := 282) C (nI (6 * j + 1)) dL_law_281 rfl (nI_add _ _) ?_
  refine w_sld (nx := 283) C hX hbl hbA (6 * j + 1) dL_law_282 rfl rfl (by omega) (by omega) ?_
  obtain ⟨f8, hv8⟩ := RX_recv hR
  refine w_callV (nx := 286) (ci := 8) (wr := w2) (rest := []) C mi_X8_dropTrigger (c_X8_dropTrigger _ _ h w1 X (xs (6 * j + 1)) hR) 0 dL_law_283 rfl wl_L_28 rfl rfl hv8 (List.Perm.refl _) rfl rfl (Nat.le_of_ble_eq_true rfl) (Nat.le_of_ble_eq_true rfl) (Nat.le_of_ble_eq_true rfl) (rc_c (by omega)) (rc_s (by omega)) (fun v9 w3 R9 => ?_)
  obtain ⟨w9, rfl, rfl, hR3⟩ := R9
  show WW κ (c + 10) (n + 813) (w3 ++ w2) 286 [(3, .int (nI (6 * j))), (2, .ref h2), (1, .ref h), (0, .ref b)] [.int ((o_dropTrigger X (xs (6 * j + 1))).1)]
  refine w_aload_n (nx := 287) C 1 dL_law_286 rfl rfl rfl ?_
  refine w_aload_n (nx := 288) C 3 dL_law_287 rfl rfl rfl ?_
  refine w_iload_n (nx := 289) C 0 dL_law_288 rfl rfl rfl ?_
  refine w_iconst (nx := 290) C (nI 1) dL_law_289 rfl (by decide) ?_
  refine w_iadd (nx := 291) C (nI (6 * j + 1)) dL_law_290 rfl (nI_add _ _) ?_
  refine w_sld (nx := 292) C hX hbl hbA (6 * j + 1) dL_law_291 rfl rfl (by omega) (by omega) ?_
  obtain ⟨f9, hv9⟩ := RMX_recv hM
  refine w_callV (nx := 295) (ci := 9) (wr := w3) (rest := [.int ((o_dropTrigger X (xs (6 * j + 1))).1)]) C mi_X9_dropTrigger (c_X9_dropTrigger _ _ h2 w2 X (xs (6 * j + 1)) hM) 0 dL_law_292 rfl wl_L_32 rfl rfl hv9 List.perm_append_comm rfl rfl (Nat.le_of_ble_eq_true rfl) (Nat.le_of_ble_eq_true rfl) (Nat.le_of_ble_eq_true rfl) (rc_c (by omega)) (rc_s (by omega)) (fun v9 w4 R9 => ?_)
  obtain ⟨w9, rfl, rfl, hM4⟩ := R9
  refine ww_perm List.perm_append_comm ?_
  show WW κ (c + 10) (n + 813) (w3 ++ w4) 295 [(3, .int (nI (6 * j))), (2, .ref h2), (1, .ref h), (0, .ref b)] [.int ((o_dropTrigger X (xs (6 * j + 1))).1), .int ((o_dropTrigger X (xs (6 * j + 1))).1)]
  refine w_icmp_eq (tg := 838) (nx := 298) C dL_law_295 rfl rfl (fun _ => ?_) (fun q9 => absurd rfl q9)
  exact ww_wide (by omega) (by omega) (k _ _ _ hR3 hM4)
set_option maxHeartbeats 4000000 in
set_option maxRecDepth 100000 in
theorem lc_state {κ : KX} (C : CT κ cL_law RL 4 room_1) {b L : Nat} {xs : Nat → Int32} (hX : va_X b L xs (ks κ) (ks κ).heap) (hbl : b < (ks κ).heap.size) (hbA : ¬ kA κ b) (hL : L ≤ 3072) {j : Nat} (hj : 6 * j + 6 ≤ L) {h h2 : Nat} {X : SX} {w1 w2 : va_W} (hR : RX (kG κ) h w1 X) (hM : RMX (kG κ) h2 w2 X) {c n : Nat} (hc : c + 10 ≤ 600000) (hn : n + 813 ≤ 7302250) (k : ∀ w1 w2 X, RX (kG κ) h w1 X → RMX (kG κ) h2 w2 X → WW κ (c + 10) (n + 813) (w1 ++ w2) 838 [(3, .int (nI (6 * j))), (2, .ref h2), (1, .ref h), (0, .ref b)] []) : WW κ c n (w1 ++ w2) 300 [(3, .int (nI (6 * j))), (2, .ref h2), (1, .ref h), (0, .ref b)] [] := by
  refine w_aload_n (nx := 301) C 2 dL_law_300 rfl rfl rfl ?_
  refine w_aload_n (nx := 302) C 3 dL_law_301 rfl rfl rfl ?_
  refine w_iload_n (nx := 303) C 0 dL_law_302 rfl rfl rfl ?_
  refine w_iconst (nx := 304) C (nI 1) dL_law_303 rfl (by decide) ?_
  refine w_iadd (nx := 305) C (nI (6 * j + 1)) dL_law_304 rfl (nI_add _ _) ?_
  refine w_sld (nx := 306) C hX hbl hbA (6 * j + 1) dL_law_305 rfl rfl (by omega) (by omega) ?_
  refine w_aload_n (nx := 307) C 3 dL_law_306 rfl rfl rfl ?_
  refine w_iload_n (nx := 308) C 0 dL_law_307 rfl rfl rfl ?_
  refine w_iconst (nx := 309) C (nI 2) dL_law_308 rfl (by decide) ?_
  refine w_iadd (nx := 310) C (nI (6 * j + 2)) dL_law_309 rfl (nI_add _ _) ?_
  refine w_sld (nx := 311) C hX hbl hbA (6 * j + 2) dL_law_310 rfl rfl (by omega) (by omega) ?_
  refine w_aload_n (nx := 312) C 3 dL_law_311 rfl rfl rfl ?_
  refine w_iload_n (nx := 313) C 0 dL_law_312 rfl rfl rfl ?_
  refine w_iconst (nx := 314) C (nI 3) dL_law_313 rfl (by decide) ?_
  refine w_iadd (nx := 315) C (nI (6 * j + 3)) dL_law_314 rfl (nI_add _ _) ?_
  refine w_sld (nx := 316) C hX hbl hbA (6 * j + 3) dL_law_315 rfl rfl (by omega) (by omega) ?_
  refine w_aload_n (nx := 317) C 3 dL_law_316 rfl rfl rfl ?_
  refine w_iload_n (nx := 318) C 0 dL_law_317 rfl rfl rfl ?_
  refine w_iconst (nx := 319) C (nI 4) dL_law_318 rfl (by decide) ?_
  refine w_iadd (nx := 320) C (nI (6 * j + 4)) dL_law_319 rfl (nI_add _ _) ?_
  refine w_sld (nx := 321) C hX hbl hbA (6 * j + 4) dL_law_320 rfl rfl (by omega) (by omega) ?_
  obtain ⟨f8, hv8⟩ := RX_recv hR
  refine w_callV (nx := 324) (ci := 8) (wr := w2) (rest := []) C mi_X8_state (c_X8_state _ _ h w1 X (xs (6 * j + 1)) (xs (6 * j + 2)) (xs (6 * j + 3)) (xs (6 * j + 4)) hR) 0 dL_law_321 rfl wl_L_33 rfl rfl hv8 (List.Perm.refl _) rfl rfl (Nat.le_of_ble_eq_true rfl) (Nat.le_of_ble_eq_true rfl) (Nat.le_of_ble_eq_true rfl) (rc_c (by omega)) (rc_s (by omega)) (fun v9 w3 R9 => ?_)
  obtain ⟨w9, rfl, rfl, hR3⟩ := R9
  show WW κ (c + 10) (n + 813) (w3 ++ w2) 324 [(3, .int (nI (6 * j))), (2, .ref h2), (1, .ref h), (0, .ref b)] [.int ((o_state X (xs (6 * j + 1)) (xs (6 * j + 2)) (xs (6 * j + 3)) (xs (6 * j + 4))).1)]
  refine w_aload_n (nx := 325) C 1 dL_law_324 rfl rfl rfl ?_
  refine w_aload_n (nx := 326) C 3 dL_law_325 rfl rfl rfl ?_
  refine w_iload_n (nx := 327) C 0 dL_law_326 rfl rfl rfl ?_
  refine w_iconst (nx := 328) C (nI 1) dL_law_327 rfl (by decide) ?_
  refine w_iadd (nx := 329) C (nI (6 * j + 1)) dL_law_328 rfl (nI_add _ _) ?_
  refine w_sld (nx := 330) C hX hbl hbA (6 * j + 1) dL_law_329 rfl rfl (by omega) (by omega) ?_
  refine w_aload_n (nx := 331) C 3 dL_law_330 rfl rfl rfl ?_
  refine w_iload_n (nx := 332) C 0 dL_law_331 rfl rfl rfl ?_
  refine w_iconst (nx := 333) C (nI 2) dL_law_332 rfl (by decide) ?_
  refine w_iadd (nx := 334) C (nI (6 * j + 2)) dL_law_333 rfl (nI_add _ _) ?_
  refine w_sld (nx := 335) C hX hbl hbA (6 * j + 2) dL_law_334 rfl rfl (by omega) (by omega) ?_
  refine w_aload_n (nx := 336) C 3 dL_law_335 rfl rfl rfl ?_
  refine w_iload_n (nx := 337) C 0 dL_law_336 rfl rfl rfl ?_
  refine w_iconst (nx := 338) C (nI 3) dL_law_337 rfl (by decide) ?_
  refine w_iadd (nx := 339) C (nI (6 * j + 3)) dL_law_338 rfl (nI_add _ _) ?_
  refine w_sld (nx := 340) C hX hbl hbA (6 * j + 3) dL_law_339 rfl rfl (by omega) (by omega) ?_
  refine w_aload_n (nx := 341) C 3 dL_law_340 rfl rfl rfl ?_
  refine w_iload_n (nx := 342) C 0 dL_law_341 rfl rfl rfl ?_
  refine w_iconst (nx := 343) C (nI 4) dL_law_342 rfl (by decide) ?_
  refine w_iadd (nx := 344) C (nI (6 * j + 4)) dL_law_343 rfl (nI_add _ _) ?_
  refine w_sld (nx := 345) C hX hbl hbA (6 * j + 4) dL_law_344 rfl rfl (by omega) (by omega) ?_
  obtain ⟨f9, hv9⟩ := RMX_recv hM
  refine w_callV (nx := 348) (ci := 9) (wr := w3) (rest := [.int ((o_state X (xs (6 * j + 1)) (xs (6 * j + 2)) (xs (6 * j + 3)) (xs (6 * j + 4))).1)]) C mi_X9_state (c_X9_state _ _ h2 w2 X (xs (6 * j + 1)) (xs (6 * j + 2)) (xs (6 * j + 3)) (xs (6 * j + 4)) hM) 0 dL_law_345 rfl wl_L_36 rfl rfl hv9 List.perm_append_comm rfl rfl (Nat.le_of_ble_eq_true rfl) (Nat.le_of_ble_eq_true rfl) (Nat.le_of_ble_eq_true rfl) (rc_c (by omega)) (rc_s (by omega)) (fun v9 w4 R9 => ?_)
  obtain ⟨w9, rfl, rfl, hM4⟩ := R9
  refine ww_perm List.perm_append_comm ?_
  show WW κ (c + 10) (n + 813) (w3 ++ w4) 348 [(3, .int (nI (6 * j))), (2, .ref h2), (1, .ref h), (0, .ref b)] [.int ((o_state X (xs (6 * j + 1)) (xs (6 * j + 2)) (xs (6 * j + 3)) (xs (6 * j + 4))).1), .int ((o_state X (xs (6 * j + 1)) (xs (6 * j + 2)) (xs (6 * j + 3)) (xs (6 * j + 4))).1)]
  refine w_icmp_eq (tg := 838) (nx := 351) C dL_law_348 rfl rfl (fun _ => ?_) (fun q9 => absurd rfl q9)
  exact ww_wide (by omega) (by omega) (k _ _ _ hR3 hM4)
set_option maxHeartbeats 4000000 in
set_option maxRecDepth 100000 in
theorem lc_tried {κ : KX} (C : CT κ cL_law RL 4 room_1) {b L : Nat} {xs : Nat → Int32} (hX : va_X b L xs (ks κ) (ks κ).heap) (hbl : b < (ks κ).heap.size) (hbA : ¬ kA κ b) (hL : L ≤ 3072) {j : Nat} (hj : 6 * j + 6 ≤ L) {h h2 : Nat} {X : SX} {w1 w2 : va_W} (hR : RX (kG κ) h w1 X) (hM : RMX (kG κ) h2 w2 X) {c n : Nat} (hc : c + 10 ≤ 600000) (hn : n + 813 ≤ 7302250) (k : ∀ w1 w2 X, RX (kG κ) h w1 X → RMX (kG κ) h2 w2 X → WW κ (c + 10) (n + 813) (w1 ++ w2) 838 [(3, .int (nI (6 * j))), (2, .ref h2), (1, .ref h), (0, .ref b)] []) : WW κ c n (w1 ++ w2) 353 [(3, .int (nI (6 * j))), (2, .ref h2), (1, .ref h), (0, .ref b)] [] := by
  refine w_aload_n (nx := 354) C 2 dL_law_353 rfl rfl rfl ?_
  refine w_aload_n (nx := 355) C 3 dL_law_354 rfl rfl rfl ?_
  refine w_iload_n (nx := 356) C 0 dL_law_355 rfl rfl rfl ?_
  refine w_iconst (nx := 357) C (nI 1) dL_law_356 rfl (by decide) ?_
  refine w_iadd (nx := 358) C (nI (6 * j + 1)) dL_law_357 rfl (nI_add _ _) ?_
  refine w_sld (nx := 359) C hX hbl hbA (6 * j + 1) dL_law_358 rfl rfl (by omega) (by omega) ?_
  refine w_aload_n (nx := 360) C 3 dL_law_359 rfl rfl rfl ?_
  refine w_iload_n (nx := 361) C 0 dL_law_360 rfl rfl rfl ?_
  refine w_iconst (nx := 362) C (nI 2) dL_law_361 rfl (by decide) ?_
  refine w_iadd (nx := 363) C (nI (6 * j + 2)) dL_law_362 rfl (nI_add _ _) ?_
  refine w_sld (nx := 364) C hX hbl hbA (6 * j + 2) dL_law_363 rfl rfl (by omega) (by omega) ?_
  refine w_aload_n (nx := 365) C 3 dL_law_364 rfl rfl rfl ?_
  refine w_iload_n (nx := 366) C 0 dL_law_365 rfl rfl rfl ?_
  refine w_iconst (nx := 367) C (nI 3) dL_law_366 rfl (by decide) ?_
  refine w_iadd (nx := 368) C (nI (6 * j + 3)) dL_law_367 rfl (nI_add _ _) ?_
  refine w_sld (nx := 369) C hX hbl hbA (6 * j + 3) dL_law_368 rfl rfl (by omega) (by omega) ?_
  refine w_aload_n (nx := 370) C 3 dL_law_369 rfl rfl rfl ?_
  refine w_iload_n (nx := 371) C 0 dL_law_370 rfl rfl rfl ?_
  refine w_iconst (nx := 372) C (nI 4) dL_law_371 rfl (by decide) ?_
  refine w_iadd (nx := 373) C (nI (6 * j + 4)) dL_law_372 rfl (nI_add _ _) ?_
  refine w_sld (nx := 374) C hX hbl hbA (6 * j + 4) dL_law_373 rfl rfl (by omega) (by omega) ?_
  refine w_aload_n (nx := 375) C 3 dL_law_374 rfl rfl rfl ?_
  refine w_iload_n (nx := 376) C 0 dL_law_375 rfl rfl rfl ?_
  refine w_iconst (nx := 377) C (nI 5) dL_law_376 rfl (by decide) ?_
  refine w_iadd (nx := 378) C (nI (6 * j + 5)) dL_law_377 rfl (nI_add _ _) ?_
  refine w_sld (nx := 379) C hX hbl hbA (6 * j + 5) dL_law_378 rfl rfl (by omega) (by omega) ?_
  obtain ⟨f8, hv8⟩ := RX_recv hR
  refine w_callV (nx := 382) (ci := 8) (wr := w2) (rest := []) C mi_X8_tried (c_X8_tried _ _ h w1 X (xs (6 * j + 1)) (xs (6 * j + 2)) (xs (6 * j + 3)) (xs (6 * j + 4)) (xs (6 * j + 5)) hR) 0 dL_law_379 rfl wl_L_37 rfl rfl hv8 (List.Perm.refl _) rfl rfl (Nat.le_of_ble_eq_true rfl) (Nat.le_of_ble_eq_true rfl) (Nat.le_of_ble_eq_true rfl) (rc_c (by omega)) (rc_s (by omega)) (fun v9 w3 R9 => ?_)
  obtain ⟨w9, rfl, rfl, hR3⟩ := R9
  show WW κ (c) (n) (w3 ++ w2) 382 [(3, .int (nI (6 * j))), (2, .ref h2), (1, .ref h), (0, .ref b)] [.int ((o_tried X (xs (6 * j + 1)) (xs (6 * j + 2)) (xs (6 * j + 3)) (xs (6 * j + 4)) (xs (6 * j + 5))).1)]
  refine w_aload_n (nx := 383) C 1 dL_law_382 rfl rfl rfl ?_
  refine w_aload_n (nx := 384) C 3 dL_law_383 rfl rfl rfl ?_
  refine w_iload_n (nx := 385) C 0 dL_law_384 rfl rfl rfl ?_
  refine w_iconst (nx := 386) C (nI 1) dL_law_385 rfl (by decide) ?_
  refine w_iadd (nx := 387) C (nI (6 * j + 1)) dL_law_386 rfl (nI_add _ _) ?_
  refine w_sld (nx := 388) C hX hbl hbA (6 * j + 1) dL_law_387 rfl rfl (by omega) (by omega) ?_
  refine w_aload_n (nx := 389) C 3 dL_law_388 rfl rfl rfl ?_
  refine w_iload_n (nx := 390) C 0 dL_law_389 rfl rfl rfl ?_
  refine w_iconst (nx := 391) C (nI 2) dL_law_390 rfl (by decide) ?_
  refine w_iadd (nx := 392) C (nI (6 * j + 2)) dL_law_391 rfl (nI_add _ _) ?_
  refine w_sld (nx := 393) C hX hbl hbA (6 * j + 2) dL_law_392 rfl rfl (by omega) (by omega) ?_
  refine w_aload_n (nx := 394) C 3 dL_law_393 rfl rfl rfl ?_
  refine w_iload_n (nx := 395) C 0 dL_law_394 rfl rfl rfl ?_
  refine w_iconst (nx := 396) C (nI 3) dL_law_395 rfl (by decide) ?_
  refine w_iadd (nx := 397) C (nI (6 * j + 3)) dL_law_396 rfl (nI_add _ _) ?_
  refine w_sld (nx := 398) C hX hbl hbA (6 * j + 3) dL_law_397 rfl rfl (by omega) (by omega) ?_
  refine w_aload_n (nx := 399) C 3 dL_law_398 rfl rfl rfl ?_
  refine w_iload_n (nx := 400) C 0 dL_law_399 rfl rfl rfl ?_
  refine w_iconst (nx := 401) C (nI 4) dL_law_400 rfl (by decide) ?_
  refine w_iadd (nx := 402) C (nI (6 * j + 4)) dL_law_401 rfl (nI_add _ _) ?_
  refine w_sld (nx := 403) C hX hbl hbA (6 * j + 4) dL_law_402 rfl rfl (by omega) (by omega) ?_
  refine w_aload_n (nx := 404) C 3 dL_law_403 rfl rfl rfl ?_
  refine w_iload_n (nx := 405) C 0 dL_law_404 rfl rfl rfl ?_
  refine w_iconst (nx := 406) C (nI 5) dL_law_405 rfl (by decide) ?_
  refine w_iadd (nx := 407) C (nI (6 * j + 5)) dL_law_406 rfl (nI_add _ _) ?_
  refine w_sld (nx := 408) C hX hbl hbA (6 * j + 5) dL_law_407 rfl rfl (by omega) (by omega) ?_
  obtain ⟨f9, hv9⟩ := RMX_recv hM
  refine w_callV (nx := 411) (ci := 9) (wr := w3) (rest := [.int ((o_tried X (xs (6 * j + 1)) (xs (6 * j + 2)) (xs (6 * j + 3)) (xs (6 * j + 4)) (xs (6 * j + 5))).1)]) C mi_X9_tried (c_X9_tried _ _ h2 w2 X (xs (6 * j + 1)) (xs (6 * j + 2)) (xs (6 * j + 3)) (xs (6 * j + 4)) (xs (6 * j + 5)) hM) 0 dL_law_408 rfl wl_L_40 rfl rfl hv9 List.perm_append_comm rfl rfl (Nat.le_of_ble_eq_true rfl) (Nat.le_of_ble_eq_true rfl) (Nat.le_of_ble_eq_true rfl) (rc_c (by omega)) (rc_s (by omega)) (fun v9 w4 R9 => ?_)
  obtain ⟨w9, rfl, rfl, hM4⟩ := R9
  refine ww_perm List.perm_append_comm ?_
  show WW κ (c) (n) (w3 ++ w4) 411 [(3, .int (nI (6 * j))), (2, .ref h2), (1, .ref h), (0, .ref b)] [.int ((o_tried X (xs (6 * j + 1)) (xs (6 * j + 2)) (xs (6 * j + 3)) (xs (6 * j + 4)) (xs (6 * j + 5))).1), .int ((o_tried X (xs (6 * j + 1)) (xs (6 * j + 2)) (xs (6 * j + 3)) (xs (6 * j + 4)) (xs (6 * j + 5))).1)]
  refine w_icmp_eq (tg := 838) (nx := 414) C dL_law_411 rfl rfl (fun _ => ?_) (fun q9 => absurd rfl q9)
  exact ww_wide (by omega) (by omega) (k _ _ _ hR3 hM4)
set_option maxHeartbeats 4000000 in
set_option maxRecDepth 100000 in
theorem lc_row {κ : KX} (C : CT κ cL_law RL 4 room_1) {b L : Nat} {xs : Nat → Int32} (hX : va_X b L xs (ks κ) (ks κ).heap) (hbl : b < (ks κ).heap.size) (hbA : ¬ kA κ b) (hL : L ≤ 3072) {j : Nat} (hj : 6 * j + 6 ≤ L) {h h2 : Nat} {X : SX} {w1 w2 : va_W} (hR : RX (kG κ) h w1 X) (hM : RMX (kG κ) h2 w2 X) {c n : Nat} (hc : c + 10 ≤ 600000) (hn : n + 813 ≤ 7302250) (k : ∀ w1 w2 X, RX (kG κ) h w1 X → RMX (kG κ) h2 w2 X → WW κ (c + 10) (n + 813) (w1 ++ w2) 838 [(3, .int (nI (6 * j))), (2, .ref h2), (1, .ref h), (0, .ref b)] []) : WW κ c n (w1 ++ w2) 416 [(3, .int (nI (6 * j))), (2, .ref h2), (1, .ref h), (0, .ref b)] [] := by
  refine w_aload_n (nx := 417) C 2 dL_law_416 rfl rfl rfl ?_
  refine w_aload_n (nx := 418) C 3 dL_law_417 rfl rfl rfl ?_
  refine w_iload_n (nx := 419) C 0 dL_law_418 rfl rfl rfl ?_
  refine w_iconst (nx := 420) C (nI 1) dL_law_419 rfl (by decide) ?_
  refine w_iadd (nx := 421) C (nI (6 * j + 1)) dL_law_420 rfl (nI_add _ _) ?_
  refine w_sld (nx := 422) C hX hbl hbA (6 * j + 1) dL_law_421 rfl rfl (by omega) (by omega) ?_
  refine w_aload_n (nx := 423) C 3 dL_law_422 rfl rfl rfl ?_
  refine w_iload_n (nx := 424) C 0 dL_law_423 rfl rfl rfl ?_
  refine w_iconst (nx := 425) C (nI 2) dL_law_424 rfl (by decide) ?_
  refine w_iadd (nx := 426) C (nI (6 * j + 2)) dL_law_425 rfl (nI_add _ _) ?_
  refine w_sld (nx := 427) C hX hbl hbA (6 * j + 2) dL_law_426 rfl rfl (by omega) (by omega) ?_
  refine w_aload_n (nx := 428) C 3 dL_law_427 rfl rfl rfl ?_
  refine w_iload_n (nx := 429) C 0 dL_law_428 rfl rfl rfl ?_
  refine w_iconst (nx := 430) C (nI 3) dL_law_429 rfl (by decide) ?_
  refine w_iadd (nx := 431) C (nI (6 * j + 3)) dL_law_430 rfl (nI_add _ _) ?_
  refine w_sld (nx := 432) C hX hbl hbA (6 * j + 3) dL_law_431 rfl rfl (by omega) (by omega) ?_
  obtain ⟨f8, hv8⟩ := RX_recv hR
  refine w_callV (nx := 435) (ci := 8) (wr := w2) (rest := []) C mi_X8_row (c_X8_row _ _ h w1 X (xs (6 * j + 1)) (xs (6 * j + 2)) (xs (6 * j + 3)) hR) 0 dL_law_432 rfl wl_L_41 rfl rfl hv8 (List.Perm.refl _) rfl rfl (Nat.le_of_ble_eq_true rfl) (Nat.le_of_ble_eq_true rfl) (Nat.le_of_ble_eq_true rfl) (rc_c (by omega)) (rc_s (by omega)) (fun v9 w3 R9 => ?_)
  obtain ⟨w9, rfl, rfl, hR3⟩ := R9
  show WW κ (c) (n) (w3 ++ w2) 435 [(3, .int (nI (6 * j))), (2, .ref h2), (1, .ref h), (0, .ref b)] [.int ((o_row X (xs (6 * j + 1)) (xs (6 * j + 2)) (xs (6 * j + 3))).1)]
  refine w_aload_n (nx := 436) C 1 dL_law_435 rfl rfl rfl ?_
  refine w_aload_n (nx := 437) C 3 dL_law_436 rfl rfl rfl ?_
  refine w_iload_n (nx := 438) C 0 dL_law_437 rfl rfl rfl ?_
  refine w_iconst (nx := 439) C (nI 1) dL_law_438 rfl (by decide) ?_
  refine w_iadd (nx := 440) C (nI (6 * j + 1)) dL_law_439 rfl (nI_add _ _) ?_
  refine w_sld (nx := 441) C hX hbl hbA (6 * j + 1) dL_law_440 rfl rfl (by omega) (by omega) ?_
  refine w_aload_n (nx := 442) C 3 dL_law_441 rfl rfl rfl ?_
  refine w_iload_n (nx := 443) C 0 dL_law_442 rfl rfl rfl ?_
  refine w_iconst (nx := 444) C (nI 2) dL_law_443 rfl (by decide) ?_
  refine w_iadd (nx := 445) C (nI (6 * j + 2)) dL_law_444 rfl (nI_add _ _) ?_
  refine w_sld (nx := 446) C hX hbl hbA (6 * j + 2) dL_law_445 rfl rfl (by omega) (by omega) ?_
  refine w_aload_n (nx := 447) C 3 dL_law_446 rfl rfl rfl ?_
  refine w_iload_n (nx := 448) C 0 dL_law_447 rfl rfl rfl ?_
  refine w_iconst (nx := 449) C (nI 3) dL_law_448 rfl (by decide) ?_
  refine w_iadd (nx := 450) C (nI (6 * j + 3)) dL_law_449 rfl (nI_add _ _) ?_
  refine w_sld (nx := 451) C hX hbl hbA (6 * j + 3) dL_law_450 rfl rfl (by omega) (by omega) ?_
  obtain ⟨f9, hv9⟩ := RMX_recv hM
  refine w_callV (nx := 454) (ci := 9) (wr := w3) (rest := [.int ((o_row X (xs (6 * j + 1)) (xs (6 * j + 2)) (xs (6 * j + 3))).1)]) C mi_X9_row (c_X9_row _ _ h2 w2 X (xs (6 * j + 1)) (xs (6 * j + 2)) (xs (6 * j + 3)) hM) 0 dL_law_451 rfl wl_L_45 rfl rfl hv9 List.perm_append_comm rfl rfl (Nat.le_of_ble_eq_true rfl) (Nat.le_of_ble_eq_true rfl) (Nat.le_of_ble_eq_true rfl) (rc_c (by omega)) (rc_s (by omega)) (fun v9 w4 R9 => ?_)
  obtain ⟨w9, rfl, rfl, hM4⟩ := R9
  refine ww_perm List.perm_append_comm ?_
  show WW κ (c) (n) (w3 ++ w4) 454 [(3, .int (nI (6 * j))), (2, .ref h2), (1, .ref h), (0, .ref b)] [.int ((o_row X (xs (6 * j + 1)) (xs (6 * j + 2)) (xs (6 * j + 3))).1), .int ((o_row X (xs (6 * j + 1)) (xs (6 * j + 2)) (xs (6 * j + 3))).1)]
  refine w_icmp_eq (tg := 838) (nx := 457) C dL_law_454 rfl rfl (fun _ => ?_) (fun q9 => absurd rfl q9)
  exact ww_wide (by omega) (by omega) (k _ _ _ hR3 hM4)
set_option maxHeartbeats 4000000 in
set_option maxRecDepth 100000 in
theorem lc_value {κ : KX} (C : CT κ cL_law RL 4 room_1) {b L : Nat} {xs : Nat → Int32} (hX : va_X b L xs (ks κ) (ks κ).heap) (hbl : b < (ks κ).heap.size) (hbA : ¬ kA κ b) (hL : L ≤ 3072) {j : Nat} (hj : 6 * j + 6 ≤ L) {h h2 : Nat} {X : SX} {w1 w2 : va_W} (hR : RX (kG κ) h w1 X) (hM : RMX (kG κ) h2 w2 X) {c n : Nat} (hc : c + 10 ≤ 600000) (hn : n + 813 ≤ 7302250) (k : ∀ w1 w2 X, RX (kG κ) h w1 X → RMX (kG κ) h2 w2 X → WW κ (c + 10) (n + 813) (w1 ++ w2) 838 [(3, .int (nI (6 * j))), (2, .ref h2), (1, .ref h), (0, .ref b)] []) : WW κ c n (w1 ++ w2) 459 [(3, .int (nI (6 * j))), (2, .ref h2), (1, .ref h), (0, .ref b)] [] := by
  refine w_aload_n (nx := 460) C 2 dL_law_459 rfl rfl rfl ?_
  refine w_aload_n (nx := 461) C 3 dL_law_460 rfl rfl rfl ?_
  refine w_iload_n (nx := 462) C 0 dL_law_461 rfl rfl rfl ?_
  refine w_iconst (nx := 463) C (nI 1) dL_law_462 rfl (by decide) ?_
  refine w_iadd (nx := 464) C (nI (6 * j + 1)) dL_law_463 rfl (nI_add _ _) ?_
  refine w_sld (nx := 465) C hX hbl hbA (6 * j + 1) dL_law_464 rfl rfl (by omega) (by omega) ?_
  refine w_aload_n (nx := 466) C 3 dL_law_465 rfl rfl rfl ?_
  refine w_iload_n (nx := 467) C 0 dL_law_466 rfl rfl rfl ?_
  refine w_iconst (nx := 468) C (nI 2) dL_law_467 rfl (by decide) ?_
  refine w_iadd (nx := 469) C (nI (6 * j + 2)) dL_law_468 rfl (nI_add _ _) ?_
  refine w_sld (nx := 470) C hX hbl hbA (6 * j + 2) dL_law_469 rfl rfl (by omega) (by omega) ?_
  obtain ⟨f8, hv8⟩ := RX_recv hR
  refine w_callV (nx := 473) (ci := 8) (wr := w2) (rest := []) C mi_X8_value (c_X8_value _ _ h w1 X (xs (6 * j + 1)) (xs (6 * j + 2)) hR) 0 dL_law_470 rfl wl_L_46 rfl rfl hv8 (List.Perm.refl _) rfl rfl (Nat.le_of_ble_eq_true rfl) (Nat.le_of_ble_eq_true rfl) (Nat.le_of_ble_eq_true rfl) (rc_c (by omega)) (rc_s (by omega)) (fun v9 w3 R9 => ?_)
  obtain ⟨w9, rfl, rfl, hR3⟩ := R9
  show WW κ (c) (n) (w3 ++ w2) 473 [(3, .int (nI (6 * j))), (2, .ref h2), (1, .ref h), (0, .ref b)] [.int ((o_value X (xs (6 * j + 1)) (xs (6 * j + 2))).1)]
  refine w_aload_n (nx := 474) C 1 dL_law_473 rfl rfl rfl ?_
  refine w_aload_n (nx := 475) C 3 dL_law_474 rfl rfl rfl ?_
  refine w_iload_n (nx := 476) C 0 dL_law_475 rfl rfl rfl ?_
  refine w_iconst (nx := 477) C (nI 1) dL_law_476 rfl (by decide) ?_
  refine w_iadd (nx := 478) C (nI (6 * j + 1)) dL_law_477 rfl (nI_add _ _) ?_
  refine w_sld (nx := 479) C hX hbl hbA (6 * j + 1) dL_law_478 rfl rfl (by omega) (by omega) ?_
  refine w_aload_n (nx := 480) C 3 dL_law_479 rfl rfl rfl ?_
  refine w_iload_n (nx := 481) C 0 dL_law_480 rfl rfl rfl ?_
  refine w_iconst (nx := 482) C (nI 2) dL_law_481 rfl (by decide) ?_
  refine w_iadd (nx := 483) C (nI (6 * j + 2)) dL_law_482 rfl (nI_add _ _) ?_
  refine w_sld (nx := 484) C hX hbl hbA (6 * j + 2) dL_law_483 rfl rfl (by omega) (by omega) ?_
  obtain ⟨f9, hv9⟩ := RMX_recv hM
  refine w_callV (nx := 487) (ci := 9) (wr := w3) (rest := [.int ((o_value X (xs (6 * j + 1)) (xs (6 * j + 2))).1)]) C mi_X9_value (c_X9_value _ _ h2 w2 X (xs (6 * j + 1)) (xs (6 * j + 2)) hM) 0 dL_law_484 rfl wl_L_49 rfl rfl hv9 List.perm_append_comm rfl rfl (Nat.le_of_ble_eq_true rfl) (Nat.le_of_ble_eq_true rfl) (Nat.le_of_ble_eq_true rfl) (rc_c (by omega)) (rc_s (by omega)) (fun v9 w4 R9 => ?_)
  obtain ⟨w9, rfl, rfl, hM4⟩ := R9
  refine ww_perm List.perm_append_comm ?_
  show WW κ (c) (n) (w3 ++ w4) 487 [(3, .int (nI (6 * j))), (2, .ref h2), (1, .ref h), (0, .ref b)] [.int ((o_value X (xs (6 * j + 1)) (xs (6 * j + 2))).1), .int ((o_value X (xs (6 * j + 1)) (xs (6 * j + 2))).1)]
  refine w_icmp_eq (tg := 838) (nx := 490) C dL_law_487 rfl rfl (fun _ => ?_) (fun q9 => absurd rfl q9)
  exact ww_wide (by omega) (by omega) (k _ _ _ hR3 hM4)
set_option maxHeartbeats 4000000 in
set_option maxRecDepth 100000 in
theorem lc_ofTrigger {κ : KX} (C : CT κ cL_law RL 4 room_1) {b L : Nat} {xs : Nat → Int32} (hX : va_X b L xs (ks κ) (ks κ).heap) (hbl : b < (ks κ).heap.size) (hbA : ¬ kA κ b) (hL : L ≤ 3072) {j : Nat} (hj : 6 * j + 6 ≤ L) {h h2 : Nat} {X : SX} {w1 w2 : va_W} (hR : RX (kG κ) h w1 X) (hM : RMX (kG κ) h2 w2 X) {c n : Nat} (hc : c + 10 ≤ 600000) (hn : n + 813 ≤ 7302250) (k : ∀ w1 w2 X, RX (kG κ) h w1 X → RMX (kG κ) h2 w2 X → WW κ (c + 10) (n + 813) (w1 ++ w2) 838 [(3, .int (nI (6 * j))), (2, .ref h2), (1, .ref h), (0, .ref b)] []) : WW κ c n (w1 ++ w2) 492 [(3, .int (nI (6 * j))), (2, .ref h2), (1, .ref h), (0, .ref b)] [] := by
  refine w_aload_n (nx := 493) C 2 dL_law_492 rfl rfl rfl ?_
  refine w_aload_n (nx := 494) C 3 dL_law_493 rfl rfl rfl ?_
  refine w_iload_n (nx := 495) C 0 dL_law_494 rfl rfl rfl ?_
  refine w_iconst (nx := 496) C (nI 1) dL_law_495 rfl (by decide) ?_
  refine w_iadd (nx := 497) C (nI (6 * j + 1)) dL_law_496 rfl (nI_add _ _) ?_
  refine w_sld (nx := 498) C hX hbl hbA (6 * j + 1) dL_law_497 rfl rfl (by omega) (by omega) ?_
  refine w_aload_n (nx := 499) C 3 dL_law_498 rfl rfl rfl ?_
  refine w_iload_n (nx := 500) C 0 dL_law_499 rfl rfl rfl ?_
  refine w_iconst (nx := 501) C (nI 2) dL_law_500 rfl (by decide) ?_
  refine w_iadd (nx := 502) C (nI (6 * j + 2)) dL_law_501 rfl (nI_add _ _) ?_
  refine w_sld (nx := 503) C hX hbl hbA (6 * j + 2) dL_law_502 rfl rfl (by omega) (by omega) ?_
  obtain ⟨f8, hv8⟩ := RX_recv hR
  refine w_callV (nx := 506) (ci := 8) (wr := w2) (rest := []) C mi_X8_ofTrigger (c_X8_ofTrigger _ _ h w1 X (xs (6 * j + 1)) (xs (6 * j + 2)) hR) 0 dL_law_503 rfl wl_L_50 rfl rfl hv8 (List.Perm.refl _) rfl rfl (Nat.le_of_ble_eq_true rfl) (Nat.le_of_ble_eq_true rfl) (Nat.le_of_ble_eq_true rfl) (rc_c (by omega)) (rc_s (by omega)) (fun v9 w3 R9 => ?_)
  obtain ⟨w9, rfl, rfl, hR3⟩ := R9
  show WW κ (c) (n) (w3 ++ w2) 506 [(3, .int (nI (6 * j))), (2, .ref h2), (1, .ref h), (0, .ref b)] [.int ((o_ofTrigger X (xs (6 * j + 1)) (xs (6 * j + 2))).1)]
  refine w_aload_n (nx := 507) C 1 dL_law_506 rfl rfl rfl ?_
  refine w_aload_n (nx := 508) C 3 dL_law_507 rfl rfl rfl ?_
  refine w_iload_n (nx := 509) C 0 dL_law_508 rfl rfl rfl ?_
  refine w_iconst (nx := 510) C (nI 1) dL_law_509 rfl (by decide) ?_
  refine w_iadd (nx := 511) C (nI (6 * j + 1)) dL_law_510 rfl (nI_add _ _) ?_
  refine w_sld (nx := 512) C hX hbl hbA (6 * j + 1) dL_law_511 rfl rfl (by omega) (by omega) ?_
  refine w_aload_n (nx := 513) C 3 dL_law_512 rfl rfl rfl ?_
  refine w_iload_n (nx := 514) C 0 dL_law_513 rfl rfl rfl ?_
  refine w_iconst (nx := 515) C (nI 2) dL_law_514 rfl (by decide) ?_
  refine w_iadd (nx := 516) C (nI (6 * j + 2)) dL_law_515 rfl (nI_add _ _) ?_
  refine w_sld (nx := 517) C hX hbl hbA (6 * j + 2) dL_law_516 rfl rfl (by omega) (by omega) ?_
  obtain ⟨f9, hv9⟩ := RMX_recv hM
  refine w_callV (nx := 520) (ci := 9) (wr := w3) (rest := [.int ((o_ofTrigger X (xs (6 * j + 1)) (xs (6 * j + 2))).1)]) C mi_X9_ofTrigger (c_X9_ofTrigger _ _ h2 w2 X (xs (6 * j + 1)) (xs (6 * j + 2)) hM) 0 dL_law_517 rfl wl_L_53 rfl rfl hv9 List.perm_append_comm rfl rfl (Nat.le_of_ble_eq_true rfl) (Nat.le_of_ble_eq_true rfl) (Nat.le_of_ble_eq_true rfl) (rc_c (by omega)) (rc_s (by omega)) (fun v9 w4 R9 => ?_)
  obtain ⟨w9, rfl, rfl, hM4⟩ := R9
  refine ww_perm List.perm_append_comm ?_
  show WW κ (c) (n) (w3 ++ w4) 520 [(3, .int (nI (6 * j))), (2, .ref h2), (1, .ref h), (0, .ref b)] [.int ((o_ofTrigger X (xs (6 * j + 1)) (xs (6 * j + 2))).1), .int ((o_ofTrigger X (xs (6 * j + 1)) (xs (6 * j + 2))).1)]
  refine w_icmp_eq (tg := 838) (nx := 523) C dL_law_520 rfl rfl (fun _ => ?_) (fun q9 => absurd rfl q9)
  exact ww_wide (by omega) (by omega) (k _ _ _ hR3 hM4)
set_option maxHeartbeats 4000000 in
set_option maxRecDepth 100000 in
theorem lc_journal {κ : KX} (C : CT κ cL_law RL 4 room_1) {b L : Nat} {xs : Nat → Int32} (hX : va_X b L xs (ks κ) (ks κ).heap) (hbl : b < (ks κ).heap.size) (hbA : ¬ kA κ b) (hL : L ≤ 3072) {j : Nat} (hj : 6 * j + 6 ≤ L) {h h2 : Nat} {X : SX} {w1 w2 : va_W} (hR : RX (kG κ) h w1 X) (hM : RMX (kG κ) h2 w2 X) {c n : Nat} (hc : c + 10 ≤ 600000) (hn : n + 813 ≤ 7302250) (k : ∀ w1 w2 X, RX (kG κ) h w1 X → RMX (kG κ) h2 w2 X → WW κ (c + 10) (n + 813) (w1 ++ w2) 838 [(3, .int (nI (6 * j))), (2, .ref h2), (1, .ref h), (0, .ref b)] []) : WW κ c n (w1 ++ w2) 525 [(3, .int (nI (6 * j))), (2, .ref h2), (1, .ref h), (0, .ref b)] [] := by
  refine w_aload_n (nx := 526) C 2 dL_law_525 rfl rfl rfl ?_
  refine w_aload_n (nx := 527) C 3 dL_law_526 rfl rfl rfl ?_
  refine w_iload_n (nx := 528) C 0 dL_law_527 rfl rfl rfl ?_
  refine w_iconst (nx := 529) C (nI 1) dL_law_528 rfl (by decide) ?_
  refine w_iadd (nx := 530) C (nI (6 * j + 1)) dL_law_529 rfl (nI_add _ _) ?_
  refine w_sld (nx := 531) C hX hbl hbA (6 * j + 1) dL_law_530 rfl rfl (by omega) (by omega) ?_
  refine w_aload_n (nx := 532) C 3 dL_law_531 rfl rfl rfl ?_
  refine w_iload_n (nx := 533) C 0 dL_law_532 rfl rfl rfl ?_
  refine w_iconst (nx := 534) C (nI 2) dL_law_533 rfl (by decide) ?_
  refine w_iadd (nx := 535) C (nI (6 * j + 2)) dL_law_534 rfl (nI_add _ _) ?_
  refine w_sld (nx := 536) C hX hbl hbA (6 * j + 2) dL_law_535 rfl rfl (by omega) (by omega) ?_
  obtain ⟨f8, hv8⟩ := RX_recv hR
  refine w_callV (nx := 539) (ci := 8) (wr := w2) (rest := []) C mi_X8_journal (c_X8_journal _ _ h w1 X (xs (6 * j + 1)) (xs (6 * j + 2)) hR) 0 dL_law_536 rfl wl_L_54 rfl rfl hv8 (List.Perm.refl _) rfl rfl (Nat.le_of_ble_eq_true rfl) (Nat.le_of_ble_eq_true rfl) (Nat.le_of_ble_eq_true rfl) (rc_c (by omega)) (rc_s (by omega)) (fun v9 w3 R9 => ?_)
  obtain ⟨w9, rfl, rfl, hR3⟩ := R9
  show WW κ (c) (n) (w3 ++ w2) 539 [(3, .int (nI (6 * j))), (2, .ref h2), (1, .ref h), (0, .ref b)] [.int ((o_journal X (xs (6 * j + 1)) (xs (6 * j + 2))).1)]
  refine w_aload_n (nx := 540) C 1 dL_law_539 rfl rfl rfl ?_
  refine w_aload_n (nx := 541) C 3 dL_law_540 rfl rfl rfl ?_
  refine w_iload_n (nx := 542) C 0 dL_law_541 rfl rfl rfl ?_
  refine w_iconst (nx := 543) C (nI 1) dL_law_542 rfl (by decide) ?_
  refine w_iadd (nx := 544) C (nI (6 * j + 1)) dL_law_543 rfl (nI_add _ _) ?_
  refine w_sld (nx := 545) C hX hbl hbA (6 * j + 1) dL_law_544 rfl rfl (by omega) (by omega) ?_
  refine w_aload_n (nx := 546) C 3 dL_law_545 rfl rfl rfl ?_
  refine w_iload_n (nx := 547) C 0 dL_law_546 rfl rfl rfl ?_
  refine w_iconst (nx := 548) C (nI 2) dL_law_547 rfl (by decide) ?_
  refine w_iadd (nx := 549) C (nI (6 * j + 2)) dL_law_548 rfl (nI_add _ _) ?_
  refine w_sld (nx := 550) C hX hbl hbA (6 * j + 2) dL_law_549 rfl rfl (by omega) (by omega) ?_
  obtain ⟨f9, hv9⟩ := RMX_recv hM
  refine w_callV (nx := 553) (ci := 9) (wr := w3) (rest := [.int ((o_journal X (xs (6 * j + 1)) (xs (6 * j + 2))).1)]) C mi_X9_journal (c_X9_journal _ _ h2 w2 X (xs (6 * j + 1)) (xs (6 * j + 2)) hM) 0 dL_law_550 rfl wl_L_57 rfl rfl hv9 List.perm_append_comm rfl rfl (Nat.le_of_ble_eq_true rfl) (Nat.le_of_ble_eq_true rfl) (Nat.le_of_ble_eq_true rfl) (rc_c (by omega)) (rc_s (by omega)) (fun v9 w4 R9 => ?_)
  obtain ⟨w9, rfl, rfl, hM4⟩ := R9
  refine ww_perm List.perm_append_comm ?_
  show WW κ (c) (n) (w3 ++ w4) 553 [(3, .int (nI (6 * j))), (2, .ref h2), (1, .ref h), (0, .ref b)] [.int ((o_journal X (xs (6 * j + 1)) (xs (6 * j + 2))).1), .int ((o_journal X (xs (6 * j + 1)) (xs (6 * j + 2))).1)]
  refine w_icmp_eq (tg := 838) (nx := 556) C dL_law_553 rfl rfl (fun _ => ?_) (fun q9 => absurd rfl q9)
  exact ww_wide (by omega) (by omega) (k _ _ _ hR3 hM4)
set_option maxHeartbeats 4000000 in
set_option maxRecDepth 100000 in
theorem lc_count {κ : KX} (C : CT κ cL_law RL 4 room_1) {b L : Nat} {xs : Nat → Int32} (hX : va_X b L xs (ks κ) (ks κ).heap) (hbl : b < (ks κ).heap.size) (hbA : ¬ kA κ b) (hL : L ≤ 3072) {j : Nat} (hj : 6 * j + 6 ≤ L) {h h2 : Nat} {X : SX} {w1 w2 : va_W} (hR : RX (kG κ) h w1 X) (hM : RMX (kG κ) h2 w2 X) {c n : Nat} (hc : c + 10 ≤ 600000) (hn : n + 813 ≤ 7302250) (k : ∀ w1 w2 X, RX (kG κ) h w1 X → RMX (kG κ) h2 w2 X → WW κ (c + 10) (n + 813) (w1 ++ w2) 838 [(3, .int (nI (6 * j))), (2, .ref h2), (1, .ref h), (0, .ref b)] []) : WW κ c n (w1 ++ w2) 558 [(3, .int (nI (6 * j))), (2, .ref h2), (1, .ref h), (0, .ref b)] [] := by
  refine w_aload_n (nx := 559) C 2 dL_law_558 rfl rfl rfl ?_
  refine w_aload_n (nx := 560) C 3 dL_law_559 rfl rfl rfl ?_
  refine w_iload_n (nx := 561) C 0 dL_law_560 rfl rfl rfl ?_
  refine w_iconst (nx := 562) C (nI 1) dL_law_561 rfl (by decide) ?_
  refine w_iadd (nx := 563) C (nI (6 * j + 1)) dL_law_562 rfl (nI_add _ _) ?_
  refine w_sld (nx := 564) C hX hbl hbA (6 * j + 1) dL_law_563 rfl rfl (by omega) (by omega) ?_
  obtain ⟨f8, hv8⟩ := RX_recv hR
  refine w_callV (nx := 567) (ci := 8) (wr := w2) (rest := []) C mi_X8_count (c_X8_count _ _ h w1 X (xs (6 * j + 1)) hR) 0 dL_law_564 rfl wl_L_58 rfl rfl hv8 (List.Perm.refl _) rfl rfl (Nat.le_of_ble_eq_true rfl) (Nat.le_of_ble_eq_true rfl) (Nat.le_of_ble_eq_true rfl) (rc_c (by omega)) (rc_s (by omega)) (fun v9 w3 R9 => ?_)
  obtain ⟨w9, rfl, rfl, hR3⟩ := R9
  show WW κ (c) (n) (w3 ++ w2) 567 [(3, .int (nI (6 * j))), (2, .ref h2), (1, .ref h), (0, .ref b)] [.int ((o_count X (xs (6 * j + 1))).1)]
  refine w_aload_n (nx := 568) C 1 dL_law_567 rfl rfl rfl ?_
  refine w_aload_n (nx := 569) C 3 dL_law_568 rfl rfl rfl ?_
  refine w_iload_n (nx := 570) C 0 dL_law_569 rfl rfl rfl ?_
  refine w_iconst (nx := 571) C (nI 1) dL_law_570 rfl (by decide) ?_
  refine w_iadd (nx := 572) C (nI (6 * j + 1)) dL_law_571 rfl (nI_add _ _) ?_
  refine w_sld (nx := 573) C hX hbl hbA (6 * j + 1) dL_law_572 rfl rfl (by omega) (by omega) ?_
  obtain ⟨f9, hv9⟩ := RMX_recv hM
  refine w_callV (nx := 576) (ci := 9) (wr := w3) (rest := [.int ((o_count X (xs (6 * j + 1))).1)]) C mi_X9_count (c_X9_count _ _ h2 w2 X (xs (6 * j + 1)) hM) 0 dL_law_573 rfl wl_L_61 rfl rfl hv9 List.perm_append_comm rfl rfl (Nat.le_of_ble_eq_true rfl) (Nat.le_of_ble_eq_true rfl) (Nat.le_of_ble_eq_true rfl) (rc_c (by omega)) (rc_s (by omega)) (fun v9 w4 R9 => ?_)
  obtain ⟨w9, rfl, rfl, hM4⟩ := R9
  refine ww_perm List.perm_append_comm ?_
  show WW κ (c) (n) (w3 ++ w4) 576 [(3, .int (nI (6 * j))), (2, .ref h2), (1, .ref h), (0, .ref b)] [.int ((o_count X (xs (6 * j + 1))).1), .int ((o_count X (xs (6 * j + 1))).1)]
  refine w_icmp_eq (tg := 838) (nx := 579) C dL_law_576 rfl rfl (fun _ => ?_) (fun q9 => absurd rfl q9)
  exact ww_wide (by omega) (by omega) (k _ _ _ hR3 hM4)
set_option maxHeartbeats 4000000 in
set_option maxRecDepth 100000 in
theorem lc_culprits {κ : KX} (C : CT κ cL_law RL 4 room_1) {b L : Nat} {xs : Nat → Int32} (hX : va_X b L xs (ks κ) (ks κ).heap) (hbl : b < (ks κ).heap.size) (hbA : ¬ kA κ b) (hL : L ≤ 3072) {j : Nat} (hj : 6 * j + 6 ≤ L) {h h2 : Nat} {X : SX} {w1 w2 : va_W} (hR : RX (kG κ) h w1 X) (hM : RMX (kG κ) h2 w2 X) {c n : Nat} (hc : c + 10 ≤ 600000) (hn : n + 813 ≤ 7302250) (k : ∀ w1 w2 X, RX (kG κ) h w1 X → RMX (kG κ) h2 w2 X → WW κ (c + 10) (n + 813) (w1 ++ w2) 838 [(3, .int (nI (6 * j))), (2, .ref h2), (1, .ref h), (0, .ref b)] []) : WW κ c n (w1 ++ w2) 581 [(3, .int (nI (6 * j))), (2, .ref h2), (1, .ref h), (0, .ref b)] [] := by
  refine w_aload_n (nx := 582) C 2 dL_law_581 rfl rfl rfl ?_
  refine w_aload_n (nx := 583) C 3 dL_law_582 rfl rfl rfl ?_
  refine w_iload_n (nx := 584) C 0 dL_law_583 rfl rfl rfl ?_
  refine w_iconst (nx := 585) C (nI 1) dL_law_584 rfl (by decide) ?_
  refine w_iadd (nx := 586) C (nI (6 * j + 1)) dL_law_585 rfl (nI_add _ _) ?_
  refine w_sld (nx := 587) C hX hbl hbA (6 * j + 1) dL_law_586 rfl rfl (by omega) (by omega) ?_
  refine w_aload_n (nx := 588) C 3 dL_law_587 rfl rfl rfl ?_
  refine w_iload_n (nx := 589) C 0 dL_law_588 rfl rfl rfl ?_
  refine w_iconst (nx := 590) C (nI 2) dL_law_589 rfl (by decide) ?_
  refine w_iadd (nx := 591) C (nI (6 * j + 2)) dL_law_590 rfl (nI_add _ _) ?_
  refine w_sld (nx := 592) C hX hbl hbA (6 * j + 2) dL_law_591 rfl rfl (by omega) (by omega) ?_
  refine w_aload_n (nx := 593) C 3 dL_law_592 rfl rfl rfl ?_
  refine w_iload_n (nx := 594) C 0 dL_law_593 rfl rfl rfl ?_
  refine w_iconst (nx := 595) C (nI 3) dL_law_594 rfl (by decide) ?_
  refine w_iadd (nx := 596) C (nI (6 * j + 3)) dL_law_595 rfl (nI_add _ _) ?_
  refine w_sld (nx := 597) C hX hbl hbA (6 * j + 3) dL_law_596 rfl rfl (by omega) (by omega) ?_
  refine w_aload_n (nx := 598) C 3 dL_law_597 rfl rfl rfl ?_
  refine w_iload_n (nx := 599) C 0 dL_law_598 rfl rfl rfl ?_
  refine w_iconst (nx := 600) C (nI 4) dL_law_599 rfl (by decide) ?_
  refine w_iadd (nx := 601) C (nI (6 * j + 4)) dL_law_600 rfl (nI_add _ _) ?_
  refine w_sld (nx := 602) C hX hbl hbA (6 * j + 4) dL_law_601 rfl rfl (by omega) (by omega) ?_
  obtain ⟨f8, hv8⟩ := RX_recv hR
  refine w_callV (nx := 605) (ci := 8) (wr := w2) (rest := []) C mi_X8_culprits (c_X8_culprits _ _ h w1 X (xs (6 * j + 1)) (xs (6 * j + 2)) (xs (6 * j + 3)) (xs (6 * j + 4)) hR) 0 dL_law_602 rfl wl_L_62 rfl rfl hv8 (List.Perm.refl _) rfl rfl (Nat.le_of_ble_eq_true rfl) (Nat.le_of_ble_eq_true rfl) (Nat.le_of_ble_eq_true rfl) (rc_c (by omega)) (rc_s (by omega)) (fun v9 w3 R9 => ?_)
  obtain ⟨w9, rfl, rfl, hR3⟩ := R9
  show WW κ (c) (n) (w3 ++ w2) 605 [(3, .int (nI (6 * j))), (2, .ref h2), (1, .ref h), (0, .ref b)] [.int ((o_culprits X (xs (6 * j + 1)) (xs (6 * j + 2)) (xs (6 * j + 3)) (xs (6 * j + 4))).1)]
  refine w_aload_n (nx := 606) C 1 dL_law_605 rfl rfl rfl ?_
  refine w_aload_n (nx := 607) C 3 dL_law_606 rfl rfl rfl ?_
  refine w_iload_n (nx := 608) C 0 dL_law_607 rfl rfl rfl ?_
  refine w_iconst (nx := 609) C (nI 1) dL_law_608 rfl (by decide) ?_
  refine w_iadd (nx := 610) C (nI (6 * j + 1)) dL_law_609 rfl (nI_add _ _) ?_
  refine w_sld (nx := 611) C hX hbl hbA (6 * j + 1) dL_law_610 rfl rfl (by omega) (by omega) ?_
  refine w_aload_n (nx := 612) C 3 dL_law_611 rfl rfl rfl ?_
  refine w_iload_n (nx := 613) C 0 dL_law_612 rfl rfl rfl ?_
  refine w_iconst (nx := 614) C (nI 2) dL_law_613 rfl (by decide) ?_
  refine w_iadd (nx := 615) C (nI (6 * j + 2)) dL_law_614 rfl (nI_add _ _) ?_
  refine w_sld (nx := 616) C hX hbl hbA (6 * j + 2) dL_law_615 rfl rfl (by omega) (by omega) ?_
  refine w_aload_n (nx := 617) C 3 dL_law_616 rfl rfl rfl ?_
  refine w_iload_n (nx := 618) C 0 dL_law_617 rfl rfl rfl ?_
  refine w_iconst (nx := 619) C (nI 3) dL_law_618 rfl (by decide) ?_
  refine w_iadd (nx := 620) C (nI (6 * j + 3)) dL_law_619 rfl (nI_add _ _) ?_
  refine w_sld (nx := 621) C hX hbl hbA (6 * j + 3) dL_law_620 rfl rfl (by omega) (by omega) ?_
  refine w_aload_n (nx := 622) C 3 dL_law_621 rfl rfl rfl ?_
  refine w_iload_n (nx := 623) C 0 dL_law_622 rfl rfl rfl ?_
  refine w_iconst (nx := 624) C (nI 4) dL_law_623 rfl (by decide) ?_
  refine w_iadd (nx := 625) C (nI (6 * j + 4)) dL_law_624 rfl (nI_add _ _) ?_
  refine w_sld (nx := 626) C hX hbl hbA (6 * j + 4) dL_law_625 rfl rfl (by omega) (by omega) ?_
  obtain ⟨f9, hv9⟩ := RMX_recv hM
  refine w_callV (nx := 629) (ci := 9) (wr := w3) (rest := [.int ((o_culprits X (xs (6 * j + 1)) (xs (6 * j + 2)) (xs (6 * j + 3)) (xs (6 * j + 4))).1)]) C mi_X9_culprits (c_X9_culprits _ _ h2 w2 X (xs (6 * j + 1)) (xs (6 * j + 2)) (xs (6 * j + 3)) (xs (6 * j + 4)) hM) 0 dL_law_626 rfl wl_L_65 rfl rfl hv9 List.perm_append_comm rfl rfl (Nat.le_of_ble_eq_true rfl) (Nat.le_of_ble_eq_true rfl) (Nat.le_of_ble_eq_true rfl) (rc_c (by omega)) (rc_s (by omega)) (fun v9 w4 R9 => ?_)
  obtain ⟨w9, rfl, rfl, hM4⟩ := R9
  refine ww_perm List.perm_append_comm ?_
  show WW κ (c) (n) (w3 ++ w4) 629 [(3, .int (nI (6 * j))), (2, .ref h2), (1, .ref h), (0, .ref b)] [.int ((o_culprits X (xs (6 * j + 1)) (xs (6 * j + 2)) (xs (6 * j + 3)) (xs (6 * j + 4))).1), .int ((o_culprits X (xs (6 * j + 1)) (xs (6 * j + 2)) (xs (6 * j + 3)) (xs (6 * j + 4))).1)]
  refine w_icmp_eq (tg := 838) (nx := 632) C dL_law_629 rfl rfl (fun _ => ?_) (fun q9 => absurd rfl q9)
  exact ww_wide (by omega) (by omega) (k _ _ _ hR3 hM4)
set_option maxHeartbeats 4000000 in
set_option maxRecDepth 100000 in
theorem lc_leastDepth {κ : KX} (C : CT κ cL_law RL 4 room_1) {b L : Nat} {xs : Nat → Int32} (hX : va_X b L xs (ks κ) (ks κ).heap) (hbl : b < (ks κ).heap.size) (hbA : ¬ kA κ b) (hL : L ≤ 3072) {j : Nat} (hj : 6 * j + 6 ≤ L) {h h2 : Nat} {X : SX} {w1 w2 : va_W} (hR : RX (kG κ) h w1 X) (hM : RMX (kG κ) h2 w2 X) {c n : Nat} (hc : c + 10 ≤ 600000) (hn : n + 813 ≤ 7302250) (k : ∀ w1 w2 X, RX (kG κ) h w1 X → RMX (kG κ) h2 w2 X → WW κ (c + 10) (n + 813) (w1 ++ w2) 838 [(3, .int (nI (6 * j))), (2, .ref h2), (1, .ref h), (0, .ref b)] []) : WW κ c n (w1 ++ w2) 634 [(3, .int (nI (6 * j))), (2, .ref h2), (1, .ref h), (0, .ref b)] [] := by
  refine w_aload_n (nx := 635) C 2 dL_law_634 rfl rfl rfl ?_
  refine w_aload_n (nx := 636) C 3 dL_law_635 rfl rfl rfl ?_
  refine w_iload_n (nx := 637) C 0 dL_law_636 rfl rfl rfl ?_
  refine w_iconst (nx := 638) C (nI 1) dL_law_637 rfl (by decide) ?_
  refine w_iadd (nx := 639) C (nI (6 * j + 1)) dL_law_638 rfl (nI_add _ _) ?_
  refine w_sld (nx := 640) C hX hbl hbA (6 * j + 1) dL_law_639 rfl rfl (by omega) (by omega) ?_
  refine w_aload_n (nx := 641) C 3 dL_law_640 rfl rfl rfl ?_
  refine w_iload_n (nx := 642) C 0 dL_law_641 rfl rfl rfl ?_
  refine w_iconst (nx := 643) C (nI 2) dL_law_642 rfl (by decide) ?_
  refine w_iadd (nx := 644) C (nI (6 * j + 2)) dL_law_643 rfl (nI_add _ _) ?_
  refine w_sld (nx := 645) C hX hbl hbA (6 * j + 2) dL_law_644 rfl rfl (by omega) (by omega) ?_
  refine w_aload_n (nx := 646) C 3 dL_law_645 rfl rfl rfl ?_
  refine w_iload_n (nx := 647) C 0 dL_law_646 rfl rfl rfl ?_
  refine w_iconst (nx := 648) C (nI 3) dL_law_647 rfl (by decide) ?_
  refine w_iadd (nx := 649) C (nI (6 * j + 3)) dL_law_648 rfl (nI_add _ _) ?_
  refine w_sld (nx := 650) C hX hbl hbA (6 * j + 3) dL_law_649 rfl rfl (by omega) (by omega) ?_
  refine w_aload_n (nx := 651) C 3 dL_law_650 rfl rfl rfl ?_
  refine w_iload_n (nx := 652) C 0 dL_law_651 rfl rfl rfl ?_
  refine w_iconst (nx := 653) C (nI 4) dL_law_652 rfl (by decide) ?_
  refine w_iadd (nx := 654) C (nI (6 * j + 4)) dL_law_653 rfl (nI_add _ _) ?_
  refine w_sld (nx := 655) C hX hbl hbA (6 * j + 4) dL_law_654 rfl rfl (by omega) (by omega) ?_
  obtain ⟨f8, hv8⟩ := RX_recv hR
  refine w_callV (nx := 658) (ci := 8) (wr := w2) (rest := []) C mi_X8_leastDepth (c_X8_leastDepth _ _ h w1 X (xs (6 * j + 1)) (xs (6 * j + 2)) (xs (6 * j + 3)) (xs (6 * j + 4)) hR) 0 dL_law_655 rfl wl_L_66 rfl rfl hv8 (List.Perm.refl _) rfl rfl (Nat.le_of_ble_eq_true rfl) (Nat.le_of_ble_eq_true rfl) (Nat.le_of_ble_eq_true rfl) (rc_c (by omega)) (rc_s (by omega)) (fun v9 w3 R9 => ?_)
  obtain ⟨w9, rfl, rfl, hR3⟩ := R9
  show WW κ (c) (n) (w3 ++ w2) 658 [(3, .int (nI (6 * j))), (2, .ref h2), (1, .ref h), (0, .ref b)] [.int ((o_leastDepth X (xs (6 * j + 1)) (xs (6 * j + 2)) (xs (6 * j + 3)) (xs (6 * j + 4))).1)]
  refine w_aload_n (nx := 659) C 1 dL_law_658 rfl rfl rfl ?_
  refine w_aload_n (nx := 660) C 3 dL_law_659 rfl rfl rfl ?_
  refine w_iload_n (nx := 661) C 0 dL_law_660 rfl rfl rfl ?_
  refine w_iconst (nx := 662) C (nI 1) dL_law_661 rfl (by decide) ?_
  refine w_iadd (nx := 663) C (nI (6 * j + 1)) dL_law_662 rfl (nI_add _ _) ?_
  refine w_sld (nx := 664) C hX hbl hbA (6 * j + 1) dL_law_663 rfl rfl (by omega) (by omega) ?_
  refine w_aload_n (nx := 665) C 3 dL_law_664 rfl rfl rfl ?_
  refine w_iload_n (nx := 666) C 0 dL_law_665 rfl rfl rfl ?_
  refine w_iconst (nx := 667) C (nI 2) dL_law_666 rfl (by decide) ?_
  refine w_iadd (nx := 668) C (nI (6 * j + 2)) dL_law_667 rfl (nI_add _ _) ?_
  refine w_sld (nx := 669) C hX hbl hbA (6 * j + 2) dL_law_668 rfl rfl (by omega) (by omega) ?_
  refine w_aload_n (nx := 670) C 3 dL_law_669 rfl rfl rfl ?_
  refine w_iload_n (nx := 671) C 0 dL_law_670 rfl rfl rfl ?_
  refine w_iconst (nx := 672) C (nI 3) dL_law_671 rfl (by decide) ?_
  refine w_iadd (nx := 673) C (nI (6 * j + 3)) dL_law_672 rfl (nI_add _ _) ?_
  refine w_sld (nx := 674) C hX hbl hbA (6 * j + 3) dL_law_673 rfl rfl (by omega) (by omega) ?_
  refine w_aload_n (nx := 675) C 3 dL_law_674 rfl rfl rfl ?_
  refine w_iload_n (nx := 676) C 0 dL_law_675 rfl rfl rfl ?_
  refine w_iconst (nx := 677) C (nI 4) dL_law_676 rfl (by decide) ?_
  refine w_iadd (nx := 678) C (nI (6 * j + 4)) dL_law_677 rfl (nI_add _ _) ?_
  refine w_sld (nx := 679) C hX hbl hbA (6 * j + 4) dL_law_678 rfl rfl (by omega) (by omega) ?_
  obtain ⟨f9, hv9⟩ := RMX_recv hM
  refine w_callV (nx := 682) (ci := 9) (wr := w3) (rest := [.int ((o_leastDepth X (xs (6 * j + 1)) (xs (6 * j + 2)) (xs (6 * j + 3)) (xs (6 * j + 4))).1)]) C mi_X9_leastDepth (c_X9_leastDepth _ _ h2 w2 X (xs (6 * j + 1)) (xs (6 * j + 2)) (xs (6 * j + 3)) (xs (6 * j + 4)) hM) 0 dL_law_679 rfl wl_L_69 rfl rfl hv9 List.perm_append_comm rfl rfl (Nat.le_of_ble_eq_true rfl) (Nat.le_of_ble_eq_true rfl) (Nat.le_of_ble_eq_true rfl) (rc_c (by omega)) (rc_s (by omega)) (fun v9 w4 R9 => ?_)
  obtain ⟨w9, rfl, rfl, hM4⟩ := R9
  refine ww_perm List.perm_append_comm ?_
  show WW κ (c) (n) (w3 ++ w4) 682 [(3, .int (nI (6 * j))), (2, .ref h2), (1, .ref h), (0, .ref b)] [.int ((o_leastDepth X (xs (6 * j + 1)) (xs (6 * j + 2)) (xs (6 * j + 3)) (xs (6 * j + 4))).1), .int ((o_leastDepth X (xs (6 * j + 1)) (xs (6 * j + 2)) (xs (6 * j + 3)) (xs (6 * j + 4))).1)]
  refine w_icmp_eq (tg := 838) (nx := 685) C dL_law_682 rfl rfl (fun _ => ?_) (fun q9 => absurd rfl q9)
  exact ww_wide (by omega) (by omega) (k _ _ _ hR3 hM4)
set_option maxHeartbeats 4000000 in
set_option maxRecDepth 100000 in
theorem lc_put {κ : KX} (C : CT κ cL_law RL 4 room_1) {b L : Nat} {xs : Nat → Int32} (hX : va_X b L xs (ks κ) (ks κ).heap) (hbl : b < (ks κ).heap.size) (hbA : ¬ kA κ b) (hL : L ≤ 3072) {j : Nat} (hj : 6 * j + 6 ≤ L) {h h2 : Nat} {X : SX} {w1 w2 : va_W} (hR : RX (kG κ) h w1 X) (hM : RMX (kG κ) h2 w2 X) {c n : Nat} (hc : c + 10 ≤ 600000) (hn : n + 813 ≤ 7302250) (k : ∀ w1 w2 X, RX (kG κ) h w1 X → RMX (kG κ) h2 w2 X → WW κ (c + 10) (n + 813) (w1 ++ w2) 838 [(3, .int (nI (6 * j))), (2, .ref h2), (1, .ref h), (0, .ref b)] []) : WW κ c n (w1 ++ w2) 687 [(3, .int (nI (6 * j))), (2, .ref h2), (1, .ref h), (0, .ref b)] [] := by
  refine w_aload_n (nx := 688) C 2 dL_law_687 rfl rfl rfl ?_
  refine w_aload_n (nx := 689) C 3 dL_law_688 rfl rfl rfl ?_
  refine w_iload_n (nx := 690) C 0 dL_law_689 rfl rfl rfl ?_
  refine w_iconst (nx := 691) C (nI 1) dL_law_690 rfl (by decide) ?_
  refine w_iadd (nx := 692) C (nI (6 * j + 1)) dL_law_691 rfl (nI_add _ _) ?_
  refine w_sld (nx := 693) C hX hbl hbA (6 * j + 1) dL_law_692 rfl rfl (by omega) (by omega) ?_
  refine w_i2l (nx := 694) C ((xs (6 * j + 1)).toInt64) dL_law_693 rfl rfl ?_
  refine w_bipush (nx := 696) C (nI 32) dL_law_694 rfl (by decide) ?_
  refine w_lshl (nx := 697) C (((xs (6 * j + 1)).toInt64) <<< ((nI 32).toInt64 &&& 63)) dL_law_696 rfl rfl ?_
  refine w_aload_n (nx := 698) C 3 dL_law_697 rfl rfl rfl ?_
  refine w_iload_n (nx := 699) C 0 dL_law_698 rfl rfl rfl ?_
  refine w_iconst (nx := 700) C (nI 2) dL_law_699 rfl (by decide) ?_
  refine w_iadd (nx := 701) C (nI (6 * j + 2)) dL_law_700 rfl (nI_add _ _) ?_
  refine w_sld (nx := 702) C hX hbl hbA (6 * j + 2) dL_law_701 rfl rfl (by omega) (by omega) ?_
  refine w_i2l (nx := 703) C ((xs (6 * j + 2)).toInt64) dL_law_702 rfl rfl ?_
  refine w_ldc2 (nx := 706) C 4294967295 dL_law_703 rfl wk_L_70 ?_
  refine w_land (nx := 707) C (((xs (6 * j + 2)).toInt64) &&& 4294967295) dL_law_706 rfl rfl ?_
  refine w_lor (nx := 708) C ((((xs (6 * j + 1)).toInt64) <<< ((nI 32).toInt64 &&& 63)) ||| (((xs (6 * j + 2)).toInt64) &&& 4294967295)) dL_law_707 rfl rfl ?_
  obtain ⟨f8, hv8⟩ := RX_recv hR
  refine w_callV (nx := 711) (ci := 8) (wr := w2) (rest := []) C mi_X8_put (c_X8_put _ _ h w1 X ((((xs (6 * j + 1)).toInt64) <<< ((nI 32).toInt64 &&& 63)) ||| (((xs (6 * j + 2)).toInt64) &&& 4294967295)) hR) 0 dL_law_708 rfl wl_L_72 rfl rfl hv8 (List.Perm.refl _) rfl rfl (Nat.le_of_ble_eq_true rfl) (Nat.le_of_ble_eq_true rfl) (Nat.le_of_ble_eq_true rfl) (rc_c (by omega)) (rc_s (by omega)) (fun v9 w3 R9 => ?_)
  obtain ⟨w9, rfl, rfl, hR3⟩ := R9
  show WW κ (c) (n) (w3 ++ w2) 711 [(3, .int (nI (6 * j))), (2, .ref h2), (1, .ref h), (0, .ref b)] [.int ((o_put X ((((xs (6 * j + 1)).toInt64) <<< ((nI 32).toInt64 &&& 63)) ||| (((xs (6 * j + 2)).toInt64) &&& 4294967295))).1)]
  refine w_aload_n (nx := 712) C 1 dL_law_711 rfl rfl rfl ?_
  refine w_aload_n (nx := 713) C 3 dL_law_712 rfl rfl rfl ?_
  refine w_iload_n (nx := 714) C 0 dL_law_713 rfl rfl rfl ?_
  refine w_iconst (nx := 715) C (nI 1) dL_law_714 rfl (by decide) ?_
  refine w_iadd (nx := 716) C (nI (6 * j + 1)) dL_law_715 rfl (nI_add _ _) ?_
  refine w_sld (nx := 717) C hX hbl hbA (6 * j + 1) dL_law_716 rfl rfl (by omega) (by omega) ?_
  refine w_i2l (nx := 718) C ((xs (6 * j + 1)).toInt64) dL_law_717 rfl rfl ?_
  refine w_bipush (nx := 720) C (nI 32) dL_law_718 rfl (by decide) ?_
  refine w_lshl (nx := 721) C (((xs (6 * j + 1)).toInt64) <<< ((nI 32).toInt64 &&& 63)) dL_law_720 rfl rfl ?_
  refine w_aload_n (nx := 722) C 3 dL_law_721 rfl rfl rfl ?_
  refine w_iload_n (nx := 723) C 0 dL_law_722 rfl rfl rfl ?_
  refine w_iconst (nx := 724) C (nI 2) dL_law_723 rfl (by decide) ?_
  refine w_iadd (nx := 725) C (nI (6 * j + 2)) dL_law_724 rfl (nI_add _ _) ?_
  refine w_sld (nx := 726) C hX hbl hbA (6 * j + 2) dL_law_725 rfl rfl (by omega) (by omega) ?_
  refine w_i2l (nx := 727) C ((xs (6 * j + 2)).toInt64) dL_law_726 rfl rfl ?_
  refine w_ldc2 (nx := 730) C 4294967295 dL_law_727 rfl wk_L_70 ?_
  refine w_land (nx := 731) C (((xs (6 * j + 2)).toInt64) &&& 4294967295) dL_law_730 rfl rfl ?_
  refine w_lor (nx := 732) C ((((xs (6 * j + 1)).toInt64) <<< ((nI 32).toInt64 &&& 63)) ||| (((xs (6 * j + 2)).toInt64) &&& 4294967295)) dL_law_731 rfl rfl ?_
  obtain ⟨f9, hv9⟩ := RMX_recv hM
  refine w_callV (nx := 735) (ci := 9) (wr := w3) (rest := [.int ((o_put X ((((xs (6 * j + 1)).toInt64) <<< ((nI 32).toInt64 &&& 63)) ||| (((xs (6 * j + 2)).toInt64) &&& 4294967295))).1)]) C mi_X9_put (c_X9_put _ _ h2 w2 X ((((xs (6 * j + 1)).toInt64) <<< ((nI 32).toInt64 &&& 63)) ||| (((xs (6 * j + 2)).toInt64) &&& 4294967295)) hM) 0 dL_law_732 rfl wl_L_76 rfl rfl hv9 List.perm_append_comm rfl rfl (Nat.le_of_ble_eq_true rfl) (Nat.le_of_ble_eq_true rfl) (Nat.le_of_ble_eq_true rfl) (rc_c (by omega)) (rc_s (by omega)) (fun v9 w4 R9 => ?_)
  obtain ⟨w9, rfl, rfl, hM4⟩ := R9
  refine ww_perm List.perm_append_comm ?_
  show WW κ (c) (n) (w3 ++ w4) 735 [(3, .int (nI (6 * j))), (2, .ref h2), (1, .ref h), (0, .ref b)] [.int ((o_put X ((((xs (6 * j + 1)).toInt64) <<< ((nI 32).toInt64 &&& 63)) ||| (((xs (6 * j + 2)).toInt64) &&& 4294967295))).1), .int ((o_put X ((((xs (6 * j + 1)).toInt64) <<< ((nI 32).toInt64 &&& 63)) ||| (((xs (6 * j + 2)).toInt64) &&& 4294967295))).1)]
  refine w_icmp_eq (tg := 838) (nx := 738) C dL_law_735 rfl rfl (fun _ => ?_) (fun q9 => absurd rfl q9)
  exact ww_wide (by omega) (by omega) (k _ _ _ hR3 hM4)
set_option maxHeartbeats 4000000 in
set_option maxRecDepth 100000 in
theorem lc_wipe {κ : KX} (C : CT κ cL_law RL 4 room_1) {b L : Nat} {xs : Nat → Int32} (hX : va_X b L xs (ks κ) (ks κ).heap) (hbl : b < (ks κ).heap.size) (hbA : ¬ kA κ b) (hL : L ≤ 3072) {j : Nat} (hj : 6 * j + 6 ≤ L) {h h2 : Nat} {X : SX} {w1 w2 : va_W} (hR : RX (kG κ) h w1 X) (hM : RMX (kG κ) h2 w2 X) {c n : Nat} (hc : c + 10 ≤ 600000) (hn : n + 813 ≤ 7302250) (k : ∀ w1 w2 X, RX (kG κ) h w1 X → RMX (kG κ) h2 w2 X → WW κ (c + 10) (n + 813) (w1 ++ w2) 838 [(3, .int (nI (6 * j))), (2, .ref h2), (1, .ref h), (0, .ref b)] []) : WW κ c n (w1 ++ w2) 740 [(3, .int (nI (6 * j))), (2, .ref h2), (1, .ref h), (0, .ref b)] [] := by
  refine w_aload_n (nx := 741) C 2 dL_law_740 rfl rfl rfl ?_
  obtain ⟨f8, hv8⟩ := RX_recv hR
  refine w_callV (nx := 744) (ci := 8) (wr := w2) (rest := []) C mi_X8_wipe (c_X8_wipe _ _ h w1 X hR) 0 dL_law_741 rfl wl_L_77 rfl rfl hv8 (List.Perm.refl _) rfl rfl (Nat.le_of_ble_eq_true rfl) (Nat.le_of_ble_eq_true rfl) (Nat.le_of_ble_eq_true rfl) (rc_c (by omega)) (rc_s (by omega)) (fun v9 w3 R9 => ?_)
  obtain ⟨w9, rfl, rfl, hR3⟩ := R9
  show WW κ (c) (n) (w3 ++ w2) 744 [(3, .int (nI (6 * j))), (2, .ref h2), (1, .ref h), (0, .ref b)] [.int ((o_wipe X).1)]
  refine w_aload_n (nx := 745) C 1 dL_law_744 rfl rfl rfl ?_
  obtain ⟨f9, hv9⟩ := RMX_recv hM
  refine w_callV (nx := 748) (ci := 9) (wr := w3) (rest := [.int ((o_wipe X).1)]) C mi_X9_wipe (c_X9_wipe _ _ h2 w2 X hM) 0 dL_law_745 rfl wl_L_81 rfl rfl hv9 List.perm_append_comm rfl rfl (Nat.le_of_ble_eq_true rfl) (Nat.le_of_ble_eq_true rfl) (Nat.le_of_ble_eq_true rfl) (rc_c (by omega)) (rc_s (by omega)) (fun v9 w4 R9 => ?_)
  obtain ⟨w9, rfl, rfl, hM4⟩ := R9
  refine ww_perm List.perm_append_comm ?_
  show WW κ (c) (n) (w3 ++ w4) 748 [(3, .int (nI (6 * j))), (2, .ref h2), (1, .ref h), (0, .ref b)] [.int ((o_wipe X).1), .int ((o_wipe X).1)]
  refine w_icmp_eq (tg := 838) (nx := 751) C dL_law_748 rfl rfl (fun _ => ?_) (fun q9 => absurd rfl q9)
  exact ww_wide (by omega) (by omega) (k _ _ _ hR3 hM4)
set_option maxHeartbeats 4000000 in
set_option maxRecDepth 100000 in
theorem lc_fault {κ : KX} (C : CT κ cL_law RL 4 room_1) {b L : Nat} {xs : Nat → Int32} (hX : va_X b L xs (ks κ) (ks κ).heap) (hbl : b < (ks κ).heap.size) (hbA : ¬ kA κ b) (hL : L ≤ 3072) {j : Nat} (hj : 6 * j + 6 ≤ L) {h h2 : Nat} {X : SX} {w1 w2 : va_W} (hR : RX (kG κ) h w1 X) (hM : RMX (kG κ) h2 w2 X) {c n : Nat} (hc : c + 10 ≤ 600000) (hn : n + 813 ≤ 7302250) (k : ∀ w1 w2 X, RX (kG κ) h w1 X → RMX (kG κ) h2 w2 X → WW κ (c + 10) (n + 813) (w1 ++ w2) 838 [(3, .int (nI (6 * j))), (2, .ref h2), (1, .ref h), (0, .ref b)] []) : WW κ c n (w1 ++ w2) 753 [(3, .int (nI (6 * j))), (2, .ref h2), (1, .ref h), (0, .ref b)] [] := by
  refine w_aload_n (nx := 754) C 2 dL_law_753 rfl rfl rfl ?_
  obtain ⟨f8, hv8⟩ := RX_recv hR
  refine w_callV (nx := 757) (ci := 8) (wr := w2) (rest := []) C mi_X8_fault (c_X8_fault _ _ h w1 X hR) 0 dL_law_754 rfl wl_L_82 rfl rfl hv8 (List.Perm.refl _) rfl rfl (Nat.le_of_ble_eq_true rfl) (Nat.le_of_ble_eq_true rfl) (Nat.le_of_ble_eq_true rfl) (rc_c (by omega)) (rc_s (by omega)) (fun v9 w3 R9 => ?_)
  obtain ⟨w9, rfl, rfl, hR3⟩ := R9
  show WW κ (c) (n) (w3 ++ w2) 757 [(3, .int (nI (6 * j))), (2, .ref h2), (1, .ref h), (0, .ref b)] [.int ((o_fault X).1)]
  refine w_aload_n (nx := 758) C 1 dL_law_757 rfl rfl rfl ?_
  obtain ⟨f9, hv9⟩ := RMX_recv hM
  refine w_callV (nx := 761) (ci := 9) (wr := w3) (rest := [.int ((o_fault X).1)]) C mi_X9_fault (c_X9_fault _ _ h2 w2 X hM) 0 dL_law_758 rfl wl_L_85 rfl rfl hv9 List.perm_append_comm rfl rfl (Nat.le_of_ble_eq_true rfl) (Nat.le_of_ble_eq_true rfl) (Nat.le_of_ble_eq_true rfl) (rc_c (by omega)) (rc_s (by omega)) (fun v9 w4 R9 => ?_)
  obtain ⟨w9, rfl, rfl, hM4⟩ := R9
  refine ww_perm List.perm_append_comm ?_
  show WW κ (c) (n) (w3 ++ w4) 761 [(3, .int (nI (6 * j))), (2, .ref h2), (1, .ref h), (0, .ref b)] [.int ((o_fault X).1), .int ((o_fault X).1)]
  refine w_icmp_eq (tg := 838) (nx := 764) C dL_law_761 rfl rfl (fun _ => ?_) (fun q9 => absurd rfl q9)
  exact ww_wide (by omega) (by omega) (k _ _ _ hR3 hM4)
set_option maxHeartbeats 4000000 in
set_option maxRecDepth 100000 in
theorem lc_carryOut {κ : KX} (C : CT κ cL_law RL 4 room_1) {b L : Nat} {xs : Nat → Int32} (hX : va_X b L xs (ks κ) (ks κ).heap) (hbl : b < (ks κ).heap.size) (hbA : ¬ kA κ b) (hL : L ≤ 3072) {j : Nat} (hj : 6 * j + 6 ≤ L) {h h2 : Nat} {X : SX} {w1 w2 : va_W} (hR : RX (kG κ) h w1 X) (hM : RMX (kG κ) h2 w2 X) {c n : Nat} (hc : c + 10 ≤ 600000) (hn : n + 813 ≤ 7302250) (k : ∀ w1 w2 X, RX (kG κ) h w1 X → RMX (kG κ) h2 w2 X → WW κ (c + 10) (n + 813) (w1 ++ w2) 838 [(3, .int (nI (6 * j))), (2, .ref h2), (1, .ref h), (0, .ref b)] []) : WW κ c n (w1 ++ w2) 766 [(3, .int (nI (6 * j))), (2, .ref h2), (1, .ref h), (0, .ref b)] [] := by
  refine w_aload_n (nx := 767) C 2 dL_law_766 rfl rfl rfl ?_
  obtain ⟨f8, hv8⟩ := RX_recv hR
  refine w_callV (nx := 770) (ci := 8) (wr := w2) (rest := []) C mi_X8_carryOut (c_X8_carryOut _ _ h w1 X hR) 0 dL_law_767 rfl wl_L_86 rfl rfl hv8 (List.Perm.refl _) rfl rfl (Nat.le_of_ble_eq_true rfl) (Nat.le_of_ble_eq_true rfl) (Nat.le_of_ble_eq_true rfl) (rc_c (by omega)) (rc_s (by omega)) (fun v9 w3 R9 => ?_)
  obtain ⟨w9, rfl, rfl, hR3⟩ := R9
  show WW κ (c + 10) (n + 813) (w3 ++ w2) 770 [(3, .int (nI (6 * j))), (2, .ref h2), (1, .ref h), (0, .ref b)] [.int ((o_carryOut X).1)]
  refine w_aload_n (nx := 771) C 1 dL_law_770 rfl rfl rfl ?_
  obtain ⟨f9, hv9⟩ := RMX_recv hM
  refine w_callV (nx := 774) (ci := 9) (wr := w3) (rest := [.int ((o_carryOut X).1)]) C mi_X9_carryOut (c_X9_carryOut _ _ h2 w2 X hM) 0 dL_law_771 rfl wl_L_89 rfl rfl hv9 List.perm_append_comm rfl rfl (Nat.le_of_ble_eq_true rfl) (Nat.le_of_ble_eq_true rfl) (Nat.le_of_ble_eq_true rfl) (rc_c (by omega)) (rc_s (by omega)) (fun v9 w4 R9 => ?_)
  obtain ⟨w9, rfl, rfl, hM4⟩ := R9
  refine ww_perm List.perm_append_comm ?_
  show WW κ (c + 10) (n + 813) (w3 ++ w4) 774 [(3, .int (nI (6 * j))), (2, .ref h2), (1, .ref h), (0, .ref b)] [.int ((o_carryOut X).1), .int ((o_carryOut X).1)]
  refine w_icmp_eq (tg := 838) (nx := 777) C dL_law_774 rfl rfl (fun _ => ?_) (fun q9 => absurd rfl q9)
  exact ww_wide (by omega) (by omega) (k _ _ _ hR3 hM4)
set_option maxHeartbeats 4000000 in
set_option maxRecDepth 100000 in
theorem lc_undo {κ : KX} (C : CT κ cL_law RL 4 room_1) {b L : Nat} {xs : Nat → Int32} (hX : va_X b L xs (ks κ) (ks κ).heap) (hbl : b < (ks κ).heap.size) (hbA : ¬ kA κ b) (hL : L ≤ 3072) {j : Nat} (hj : 6 * j + 6 ≤ L) {h h2 : Nat} {X : SX} {w1 w2 : va_W} (hR : RX (kG κ) h w1 X) (hM : RMX (kG κ) h2 w2 X) {c n : Nat} (hc : c + 10 ≤ 600000) (hn : n + 813 ≤ 7302250) (k : ∀ w1 w2 X, RX (kG κ) h w1 X → RMX (kG κ) h2 w2 X → WW κ (c + 10) (n + 813) (w1 ++ w2) 838 [(3, .int (nI (6 * j))), (2, .ref h2), (1, .ref h), (0, .ref b)] []) : WW κ c n (w1 ++ w2) 779 [(3, .int (nI (6 * j))), (2, .ref h2), (1, .ref h), (0, .ref b)] [] := by
  refine w_aload_n (nx := 780) C 2 dL_law_779 rfl rfl rfl ?_
  obtain ⟨f8, hv8⟩ := RX_recv hR
  refine w_callV (nx := 783) (ci := 8) (wr := w2) (rest := []) C mi_X8_undo (c_X8_undo _ _ h w1 X hR) 0 dL_law_780 rfl wl_L_90 rfl rfl hv8 (List.Perm.refl _) rfl rfl (Nat.le_of_ble_eq_true rfl) (Nat.le_of_ble_eq_true rfl) (Nat.le_of_ble_eq_true rfl) (rc_c (by omega)) (rc_s (by omega)) (fun v9 w3 R9 => ?_)
  obtain ⟨w9, rfl, rfl, hR3⟩ := R9
  show WW κ (c) (n) (w3 ++ w2) 783 [(3, .int (nI (6 * j))), (2, .ref h2), (1, .ref h), (0, .ref b)] [.int ((o_undo X).1)]
  refine w_aload_n (nx := 784) C 1 dL_law_783 rfl rfl rfl ?_
  obtain ⟨f9, hv9⟩ := RMX_recv hM
  refine w_callV (nx := 787) (ci := 9) (wr := w3) (rest := [.int ((o_undo X).1)]) C mi_X9_undo (c_X9_undo _ _ h2 w2 X hM) 0 dL_law_784 rfl wl_L_93 rfl rfl hv9 List.perm_append_comm rfl rfl (Nat.le_of_ble_eq_true rfl) (Nat.le_of_ble_eq_true rfl) (Nat.le_of_ble_eq_true rfl) (rc_c (by omega)) (rc_s (by omega)) (fun v9 w4 R9 => ?_)
  obtain ⟨w9, rfl, rfl, hM4⟩ := R9
  refine ww_perm List.perm_append_comm ?_
  show WW κ (c) (n) (w3 ++ w4) 787 [(3, .int (nI (6 * j))), (2, .ref h2), (1, .ref h), (0, .ref b)] [.int ((o_undo X).1), .int ((o_undo X).1)]
  refine w_icmp_eq (tg := 838) (nx := 790) C dL_law_787 rfl rfl (fun _ => ?_) (fun q9 => absurd rfl q9)
  exact ww_wide (by omega) (by omega) (k _ _ _ hR3 hM4)
set_option maxHeartbeats 4000000 in
set_option maxRecDepth 100000 in
theorem lc_save {κ : KX} (C : CT κ cL_law RL 4 room_1) {b L : Nat} {xs : Nat → Int32} (hX : va_X b L xs (ks κ) (ks κ).heap) (hbl : b < (ks κ).heap.size) (hbA : ¬ kA κ b) (hL : L ≤ 3072) {j : Nat} (hj : 6 * j + 6 ≤ L) {h h2 : Nat} {X : SX} {w1 w2 : va_W} (hR : RX (kG κ) h w1 X) (hM : RMX (kG κ) h2 w2 X) {c n : Nat} (hc : c + 10 ≤ 600000) (hn : n + 813 ≤ 7302250) (k : ∀ w1 w2 X, RX (kG κ) h w1 X → RMX (kG κ) h2 w2 X → WW κ (c + 10) (n + 813) (w1 ++ w2) 838 [(3, .int (nI (6 * j))), (2, .ref h2), (1, .ref h), (0, .ref b)] []) : WW κ c n (w1 ++ w2) 792 [(3, .int (nI (6 * j))), (2, .ref h2), (1, .ref h), (0, .ref b)] [] := by
  refine w_aload_n (nx := 793) C 2 dL_law_792 rfl rfl rfl ?_
  refine w_aload_n (nx := 794) C 3 dL_law_793 rfl rfl rfl ?_
  refine w_iload_n (nx := 795) C 0 dL_law_794 rfl rfl rfl ?_
  refine w_iconst (nx := 796) C (nI 1) dL_law_795 rfl (by decide) ?_
  refine w_iadd (nx := 797) C (nI (6 * j + 1)) dL_law_796 rfl (nI_add _ _) ?_
  refine w_sld (nx := 798) C hX hbl hbA (6 * j + 1) dL_law_797 rfl rfl (by omega) (by omega) ?_
  obtain ⟨f8, hv8⟩ := RX_recv hR
  refine w_callV (nx := 801) (ci := 8) (wr := w2) (rest := []) C mi_X8_save (c_X8_save _ _ h w1 X (xs (6 * j + 1)) hR) 0 dL_law_798 rfl wl_L_94 rfl rfl hv8 (List.Perm.refl _) rfl rfl (Nat.le_of_ble_eq_true rfl) (Nat.le_of_ble_eq_true rfl) (Nat.le_of_ble_eq_true rfl) (rc_c (by omega)) (rc_s (by omega)) (fun v9 w3 R9 => ?_)
  obtain ⟨w9, rfl, rfl, hR3⟩ := R9
  show WW κ (c + 10) (n + 813) (w3 ++ w2) 801 [(3, .int (nI (6 * j))), (2, .ref h2), (1, .ref h), (0, .ref b)] [.int ((o_save X (xs (6 * j + 1))).1)]
  refine w_aload_n (nx := 802) C 1 dL_law_801 rfl rfl rfl ?_
  refine w_aload_n (nx := 803) C 3 dL_law_802 rfl rfl rfl ?_
  refine w_iload_n (nx := 804) C 0 dL_law_803 rfl rfl rfl ?_
  refine w_iconst (nx := 805) C (nI 1) dL_law_804 rfl (by decide) ?_
  refine w_iadd (nx := 806) C (nI (6 * j + 1)) dL_law_805 rfl (nI_add _ _) ?_
  refine w_sld (nx := 807) C hX hbl hbA (6 * j + 1) dL_law_806 rfl rfl (by omega) (by omega) ?_
  obtain ⟨f9, hv9⟩ := RMX_recv hM
  refine w_callV (nx := 810) (ci := 9) (wr := w3) (rest := [.int ((o_save X (xs (6 * j + 1))).1)]) C mi_X9_save (c_X9_save _ _ h2 w2 X (xs (6 * j + 1)) hM) 0 dL_law_807 rfl wl_L_97 rfl rfl hv9 List.perm_append_comm rfl rfl (Nat.le_of_ble_eq_true rfl) (Nat.le_of_ble_eq_true rfl) (Nat.le_of_ble_eq_true rfl) (rc_c (by omega)) (rc_s (by omega)) (fun v9 w4 R9 => ?_)
  obtain ⟨w9, rfl, rfl, hM4⟩ := R9
  refine ww_perm List.perm_append_comm ?_
  show WW κ (c + 10) (n + 813) (w3 ++ w4) 810 [(3, .int (nI (6 * j))), (2, .ref h2), (1, .ref h), (0, .ref b)] [.int ((o_save X (xs (6 * j + 1))).1), .int ((o_save X (xs (6 * j + 1))).1)]
  refine w_icmp_eq (tg := 838) (nx := 813) C dL_law_810 rfl rfl (fun _ => ?_) (fun q9 => absurd rfl q9)
  exact ww_wide (by omega) (by omega) (k _ _ _ hR3 hM4)
set_option maxHeartbeats 4000000 in
set_option maxRecDepth 100000 in
theorem lc_restore {κ : KX} (C : CT κ cL_law RL 4 room_1) {b L : Nat} {xs : Nat → Int32} (hX : va_X b L xs (ks κ) (ks κ).heap) (hbl : b < (ks κ).heap.size) (hbA : ¬ kA κ b) (hL : L ≤ 3072) {j : Nat} (hj : 6 * j + 6 ≤ L) {h h2 : Nat} {X : SX} {w1 w2 : va_W} (hR : RX (kG κ) h w1 X) (hM : RMX (kG κ) h2 w2 X) {c n : Nat} (hc : c + 10 ≤ 600000) (hn : n + 813 ≤ 7302250) (k : ∀ w1 w2 X, RX (kG κ) h w1 X → RMX (kG κ) h2 w2 X → WW κ (c + 10) (n + 813) (w1 ++ w2) 838 [(3, .int (nI (6 * j))), (2, .ref h2), (1, .ref h), (0, .ref b)] []) : WW κ c n (w1 ++ w2) 815 [(3, .int (nI (6 * j))), (2, .ref h2), (1, .ref h), (0, .ref b)] [] := by
  refine w_aload_n (nx := 816) C 2 dL_law_815 rfl rfl rfl ?_
  refine w_aload_n (nx := 817) C 3 dL_law_816 rfl rfl rfl ?_
  refine w_iload_n (nx := 818) C 0 dL_law_817 rfl rfl rfl ?_
  refine w_iconst (nx := 819) C (nI 1) dL_law_818 rfl (by decide) ?_
  refine w_iadd (nx := 820) C (nI (6 * j + 1)) dL_law_819 rfl (nI_add _ _) ?_
  refine w_sld (nx := 821) C hX hbl hbA (6 * j + 1) dL_law_820 rfl rfl (by omega) (by omega) ?_
  obtain ⟨f8, hv8⟩ := RX_recv hR
  refine w_callV (nx := 824) (ci := 8) (wr := w2) (rest := []) C mi_X8_restore (c_X8_restore _ _ h w1 X (xs (6 * j + 1)) hR) 0 dL_law_821 rfl wl_L_98 rfl rfl hv8 (List.Perm.refl _) rfl rfl (Nat.le_of_ble_eq_true rfl) (Nat.le_of_ble_eq_true rfl) (Nat.le_of_ble_eq_true rfl) (rc_c (by omega)) (rc_s (by omega)) (fun v9 w3 R9 => ?_)
  obtain ⟨w9, rfl, rfl, hR3⟩ := R9
  show WW κ (c + 10) (n + 813) (w3 ++ w2) 824 [(3, .int (nI (6 * j))), (2, .ref h2), (1, .ref h), (0, .ref b)] [.int ((o_restore X (xs (6 * j + 1))).1)]
  refine w_aload_n (nx := 825) C 1 dL_law_824 rfl rfl rfl ?_
  refine w_aload_n (nx := 826) C 3 dL_law_825 rfl rfl rfl ?_
  refine w_iload_n (nx := 827) C 0 dL_law_826 rfl rfl rfl ?_
  refine w_iconst (nx := 828) C (nI 1) dL_law_827 rfl (by decide) ?_
  refine w_iadd (nx := 829) C (nI (6 * j + 1)) dL_law_828 rfl (nI_add _ _) ?_
  refine w_sld (nx := 830) C hX hbl hbA (6 * j + 1) dL_law_829 rfl rfl (by omega) (by omega) ?_
  obtain ⟨f9, hv9⟩ := RMX_recv hM
  refine w_callV (nx := 833) (ci := 9) (wr := w3) (rest := [.int ((o_restore X (xs (6 * j + 1))).1)]) C mi_X9_restore (c_X9_restore _ _ h2 w2 X (xs (6 * j + 1)) hM) 0 dL_law_830 rfl wl_L_101 rfl rfl hv9 List.perm_append_comm rfl rfl (Nat.le_of_ble_eq_true rfl) (Nat.le_of_ble_eq_true rfl) (Nat.le_of_ble_eq_true rfl) (rc_c (by omega)) (rc_s (by omega)) (fun v9 w4 R9 => ?_)
  obtain ⟨w9, rfl, rfl, hM4⟩ := R9
  refine ww_perm List.perm_append_comm ?_
  show WW κ (c + 10) (n + 813) (w3 ++ w4) 833 [(3, .int (nI (6 * j))), (2, .ref h2), (1, .ref h), (0, .ref b)] [.int ((o_restore X (xs (6 * j + 1))).1), .int ((o_restore X (xs (6 * j + 1))).1)]
  refine w_icmp_eq (tg := 838) (nx := 836) C dL_law_833 rfl rfl (fun _ => ?_) (fun q9 => absurd rfl q9)
  exact ww_wide (by omega) (by omega) (k _ _ _ hR3 hM4)
theorem law_end {κ : KX} (C : CT κ cL_law RL 4 room_1) {b L : Nat} {xs : Nat → Int32} (hX : va_X b L xs (ks κ) (ks κ).heap) (hbl : b < (ks κ).heap.size) (hbA : ¬ kA κ b) (hL : L ≤ 3072) {c n : Nat} {ws : va_W} {lo : List (Nat × Value)} (ha : ka κ = #[Value.ref b]) (hQ : kQ κ = lw_Z (kb κ) #[Value.ref b] (ks κ)) (hA : kA κ = fun q : Nat => (ks κ).heap.size ≤ q) (hRm : kR κ = room_1) (hr : (kh κ).sig.returnType = ret) (hlk : (kh κ).locks = false) (hc : c ≤ 600000) (hn : n ≤ 7302250) : WW κ c n ws 844 lo [] := by
  refine w_iconst (nx := 845) C (nI 1) dL_law_844 rfl (by decide) ?_
  intro H locs ls hP hD hS hl
  rw [hQ, ha, hRm]
  refine W.widen hc hn (va_forget (fun q hq => ?_) (lw_ret C.1 C.2.1 hr hlk dL_law_845))
  have h9 := hS.2.2 q hq
  rw [hA] at h9
  exact h9
set_option maxHeartbeats 4000000 in
theorem law_loop {κ : KX} (C : CT κ cL_law RL 4 room_1) {b L : Nat} {xs : Nat → Int32} (hX : va_X b L xs (ks κ) (ks κ).heap) (hbl : b < (ks κ).heap.size) (hbA : ¬ kA κ b) (hL : L ≤ 3072) {h h2 : Nat} (hend : ∀ (c n : Nat) (ws : va_W) (lo : List (Nat × Value)), c ≤ 600000 → n ≤ 7302250 → WW κ c n ws 844 lo []) : ∀ (N j : Nat) (X : SX) (w1 w2 : va_W), 6 * j ≤ L → L < 6 * (j + N) → RX (kG κ) h w1 X → RMX (kG κ) h2 w2 X → WW κ (100 + 10 * j) (40000 + 813 * j) (w1 ++ w2) 18 [(3, .int (nI (6 * j))), (2, .ref h2), (1, .ref h), (0, .ref b)] []
  | 0, j, X, w1, w2, h1, h3, hR, hM => absurd h3 (by omega)
  | N + 1, j, X, w1, w2, h1, h3, hR, hM => by
    refine w_iload_n (nx := 19) C 0 dL_law_18 rfl rfl rfl ?_
    refine w_aload_n (nx := 20) C 3 dL_law_19 rfl rfl rfl ?_
    refine w_slen (nx := 21) C hX hbl hbA dL_law_20 rfl ?_
    refine w_bipush (nx := 23) C (nI 6) dL_law_21 rfl (by decide) ?_
    refine w_isub (nx := 24) C (nI L - nI 6) dL_law_23 rfl rfl ?_
    refine w_icmp_gt (tg := 844) (nx := 27) C dL_law_24 rfl rfl (fun h4 => ?_) (fun h4 => ?_)
    · exact hend _ _ _ _ (by omega) (by omega)
    have hj : 6 * j + 6 ≤ L := by
      have h5 : ¬ L < 6 * j + 6 := fun z => h4 ((law_cmp hL (by omega)).mpr z)
      omega
    refine w_aload_n (nx := 28) C 3 dL_law_27 rfl rfl rfl ?_
    refine w_iload_n (nx := 29) C 0 dL_law_28 rfl rfl rfl ?_
    refine w_sld (nx := 30) C hX hbl hbA (6 * j) dL_law_29 rfl rfl (by omega) (by omega) ?_
    refine w_bipush (nx := 32) C (nI 31) dL_law_30 rfl (by decide) ?_
    refine w_iand (nx := 33) C (xs (6 * j) &&& nI 31) dL_law_32 rfl rfl ?_
    generalize xs (6 * j) &&& nI 31 = y
    have k838 : ∀ (w1 w2 : va_W) (X : SX), RX (kG κ) h w1 X → RMX (kG κ) h2 w2 X → WW κ (100 + 10 * j + 10) (40000 + 813 * j + 813) (w1 ++ w2) 838 [(3, .int (nI (6 * j))), (2, .ref h2), (1, .ref h), (0, .ref b)] [] := by
      intro w3 w4 X9 hR9 hM9
      refine w_iinc (nx := 841) (lo2 := [(3, .int (nI (6 * (j + 1)))), (2, .ref h2), (1, .ref h), (0, .ref b)]) C (nI (6 * (j + 1))) 0 dL_law_838 rfl rfl ((nI_add (6 * j) 6).trans (congrArg nI (by omega))) (by decide) rfl ?_
      refine w_goto (nx := 18) C dL_law_841 rfl ?_
      exact ww_wide (by omega) (by omega) (law_loop C hX hbl hbA hL hend N (j + 1) X9 w3 w4 (by omega) (by omega) hR9 hM9)
    rcases wi20 y with rfl | rfl | rfl | rfl | rfl | rfl | rfl | rfl | rfl | rfl | rfl | rfl | rfl | rfl | rfl | rfl | rfl | rfl | rfl | rfl | hno
    · refine w_tableIn (nx := 128) C dL_law_33 (by decide) (by decide) rfl rfl ?_
      exact lc_set C hX hbl hbA hL hj hR hM (by omega) (by omega) k838
    · refine w_tableIn (nx := 161) C dL_law_33 (by decide) (by decide) rfl rfl ?_
      exact lc_trigger C hX hbl hbA hL hj hR hM (by omega) (by omega) k838
    · refine w_tableIn (nx := 214) C dL_law_33 (by decide) (by decide) rfl rfl ?_
      exact lc_deed C hX hbl hbA hL hj hR hM (by omega) (by omega) k838
    · refine w_tableIn (nx := 277) C dL_law_33 (by decide) (by decide) rfl rfl ?_
      exact lc_dropTrigger C hX hbl hbA hL hj hR hM (by omega) (by omega) k838
    · refine w_tableIn (nx := 300) C dL_law_33 (by decide) (by decide) rfl rfl ?_
      exact lc_state C hX hbl hbA hL hj hR hM (by omega) (by omega) k838
    · refine w_tableIn (nx := 353) C dL_law_33 (by decide) (by decide) rfl rfl ?_
      exact lc_tried C hX hbl hbA hL hj hR hM (by omega) (by omega) k838
    · refine w_tableIn (nx := 416) C dL_law_33 (by decide) (by decide) rfl rfl ?_
      exact lc_row C hX hbl hbA hL hj hR hM (by omega) (by omega) k838
    · refine w_tableIn (nx := 459) C dL_law_33 (by decide) (by decide) rfl rfl ?_
      exact lc_value C hX hbl hbA hL hj hR hM (by omega) (by omega) k838
    · refine w_tableIn (nx := 492) C dL_law_33 (by decide) (by decide) rfl rfl ?_
      exact lc_ofTrigger C hX hbl hbA hL hj hR hM (by omega) (by omega) k838
    · refine w_tableIn (nx := 525) C dL_law_33 (by decide) (by decide) rfl rfl ?_
      exact lc_journal C hX hbl hbA hL hj hR hM (by omega) (by omega) k838
    · refine w_tableIn (nx := 558) C dL_law_33 (by decide) (by decide) rfl rfl ?_
      exact lc_count C hX hbl hbA hL hj hR hM (by omega) (by omega) k838
    · refine w_tableIn (nx := 581) C dL_law_33 (by decide) (by decide) rfl rfl ?_
      exact lc_culprits C hX hbl hbA hL hj hR hM (by omega) (by omega) k838
    · refine w_tableIn (nx := 634) C dL_law_33 (by decide) (by decide) rfl rfl ?_
      exact lc_leastDepth C hX hbl hbA hL hj hR hM (by omega) (by omega) k838
    · refine w_tableIn (nx := 687) C dL_law_33 (by decide) (by decide) rfl rfl ?_
      exact lc_put C hX hbl hbA hL hj hR hM (by omega) (by omega) k838
    · refine w_tableIn (nx := 740) C dL_law_33 (by decide) (by decide) rfl rfl ?_
      exact lc_wipe C hX hbl hbA hL hj hR hM (by omega) (by omega) k838
    · refine w_tableIn (nx := 753) C dL_law_33 (by decide) (by decide) rfl rfl ?_
      exact lc_fault C hX hbl hbA hL hj hR hM (by omega) (by omega) k838
    · refine w_tableIn (nx := 766) C dL_law_33 (by decide) (by decide) rfl rfl ?_
      exact lc_carryOut C hX hbl hbA hL hj hR hM (by omega) (by omega) k838
    · refine w_tableIn (nx := 779) C dL_law_33 (by decide) (by decide) rfl rfl ?_
      exact lc_undo C hX hbl hbA hL hj hR hM (by omega) (by omega) k838
    · refine w_tableIn (nx := 792) C dL_law_33 (by decide) (by decide) rfl rfl ?_
      exact lc_save C hX hbl hbA hL hj hR hM (by omega) (by omega) k838
    · refine w_tableIn (nx := 815) C dL_law_33 (by decide) (by decide) rfl rfl ?_
      exact lc_restore C hX hbl hbA hL hj hR hM (by omega) (by omega) k838
    · refine w_tableOut (nx := 838) C dL_law_33 (sw_out (by decide) (by decide) hno) rfl ?_
      exact ww_wide (by omega) (by omega) (k838 _ _ _ hR hM)
