/-! THE LAW: the arguments of its calls -/
set_option maxHeartbeats 4000000 in
set_option maxRecDepth 100000 in
theorem la_0 {p : Program} {l : Launch} {e : Env} {s : State} {m : MethodId} {below : List Frame} {meth : Method} {c : Code} {b L : Nat} {xs : Nat → Int32} (C0 : lw_At p s m meth c b L xs) (hL : L ≤ 3584) {i : Nat} (hi : i + 7 ≤ L) {x0 o k0 : Nat} {H : Heap} {locs : List Loc} {ls : Array Slot} {cells slots : Nat} {Q : State → Prop} (hS : va_S (fun q : Nat => s.heap.size ≤ q) s.heap H locs) (hl : lv_has ls 8 [(4, .int (nI i)), (3, .ref o), (2, .ref k0), (1, .ref x0), (0, .ref b)]) {v1 v2 : Int32} (e1 : xs (i + 1) = v1) (e2 : xs (i + 2) = v2) (kk : W p l e room_1 s m #[Value.ref b] below meth c H locs cells slots Q (F0 m 131 ls [.long (lg2 v1 v2), .ref x0])) : W p l e room_1 s m #[Value.ref b] below meth c H locs cells slots Q (F0 m 108 ls []) := by
  obtain ⟨hx, hb, hr, hml, hown, hts0, hX, hbl, hlocks, hgv⟩ := C0
  have hts : ∀ w ∈ wsL_law, w.before #[Value.ref b] s = true := fun w h => hts0 w (wsL_law_in w h)
  have hbA : ¬ (fun q : Nat => s.heap.size ≤ q) b := Nat.not_le.mpr hbl
  refine lv_aload_n hx hb dL_law_108 rfl (lv_at hl 3 rfl) ?_
  refine lv_aload_n hx hb dL_law_109 rfl (lv_at hl 4 rfl) ?_
  refine lv_iload hx hb dL_law_110 (lv_at hl 0 rfl) ?_
  refine lv_iconst (v := 1) hx hb dL_law_112 (by decide) ?_
  refine lv_iadd hx hb dL_law_113 ?_
  rw [show nI i + 1 = nI (i + 1) from nI_add i 1]
  refine va_sld hx hb hX hbl hbA hS (vp_in_nI (n := i + 1) (by omega) (by omega)) dL_law_114 ?_
  rw [nI_clamp (show i + 1 < 2 ^ 31 by omega), e1]
  refine lv_i2l (v := v1.toInt64) hx hb dL_law_115 rfl ?_
  refine lv_bipush (v := 32) hx hb dL_law_116 (by decide) ?_
  refine lv_lshl (v := (v1.toInt64 <<< ((32 : Int32).toInt64 &&& 63))) hx hb dL_law_118 rfl ?_
  refine lv_aload_n hx hb dL_law_119 rfl (lv_at hl 4 rfl) ?_
  refine lv_iload hx hb dL_law_120 (lv_at hl 0 rfl) ?_
  refine lv_iconst (v := 2) hx hb dL_law_122 (by decide) ?_
  refine lv_iadd hx hb dL_law_123 ?_
  rw [show nI i + 2 = nI (i + 2) from nI_add i 2]
  refine va_sld hx hb hX hbl hbA hS (vp_in_nI (n := i + 2) (by omega) (by omega)) dL_law_124 ?_
  rw [nI_clamp (show i + 2 < 2 ^ 31 by omega), e2]
  refine lv_i2l (v := v2.toInt64) hx hb dL_law_125 rfl ?_
  refine lv_ldc2 (v := 4294967295) hx hb hown (hts (.constantLong RL 19 4294967295) (by decide +kernel)) dL_law_126 ?_
  refine lv_land hx hb dL_law_129 ?_
  refine lv_lor hx hb dL_law_130 ?_
  exact kk

set_option maxHeartbeats 4000000 in
set_option maxRecDepth 100000 in
theorem lb_0 {p : Program} {l : Launch} {e : Env} {s : State} {m : MethodId} {below : List Frame} {meth : Method} {c : Code} {b L : Nat} {xs : Nat → Int32} (C0 : lw_At p s m meth c b L xs) (hL : L ≤ 3584) {i : Nat} (hi : i + 7 ≤ L) {x0 o k0 : Nat} {r0 : Value} {H : Heap} {locs : List Loc} {ls : Array Slot} {cells slots : Nat} {Q : State → Prop} (hS : va_S (fun q : Nat => s.heap.size ≤ q) s.heap H locs) (hl : lv_has ls 8 [(4, .int (nI i)), (3, .ref o), (2, .ref k0), (1, .ref x0), (0, .ref b)]) {v1 v2 : Int32} (e1 : xs (i + 1) = v1) (e2 : xs (i + 2) = v2) (kk : W p l e room_1 s m #[Value.ref b] below meth c H locs cells slots Q (F0 m 157 ls [.long (lg2 v1 v2), .ref k0, r0])) : W p l e room_1 s m #[Value.ref b] below meth c H locs cells slots Q (F0 m 134 ls [r0]) := by
  obtain ⟨hx, hb, hr, hml, hown, hts0, hX, hbl, hlocks, hgv⟩ := C0
  have hts : ∀ w ∈ wsL_law, w.before #[Value.ref b] s = true := fun w h => hts0 w (wsL_law_in w h)
  have hbA : ¬ (fun q : Nat => s.heap.size ≤ q) b := Nat.not_le.mpr hbl
  refine lv_aload_n hx hb dL_law_134 rfl (lv_at hl 2 rfl) ?_
  refine lv_aload_n hx hb dL_law_135 rfl (lv_at hl 4 rfl) ?_
  refine lv_iload hx hb dL_law_136 (lv_at hl 0 rfl) ?_
  refine lv_iconst (v := 1) hx hb dL_law_138 (by decide) ?_
  refine lv_iadd hx hb dL_law_139 ?_
  rw [show nI i + 1 = nI (i + 1) from nI_add i 1]
  refine va_sld hx hb hX hbl hbA hS (vp_in_nI (n := i + 1) (by omega) (by omega)) dL_law_140 ?_
  rw [nI_clamp (show i + 1 < 2 ^ 31 by omega), e1]
  refine lv_i2l (v := v1.toInt64) hx hb dL_law_141 rfl ?_
  refine lv_bipush (v := 32) hx hb dL_law_142 (by decide) ?_
  refine lv_lshl (v := (v1.toInt64 <<< ((32 : Int32).toInt64 &&& 63))) hx hb dL_law_144 rfl ?_
  refine lv_aload_n hx hb dL_law_145 rfl (lv_at hl 4 rfl) ?_
  refine lv_iload hx hb dL_law_146 (lv_at hl 0 rfl) ?_
  refine lv_iconst (v := 2) hx hb dL_law_148 (by decide) ?_
  refine lv_iadd hx hb dL_law_149 ?_
  rw [show nI i + 2 = nI (i + 2) from nI_add i 2]
  refine va_sld hx hb hX hbl hbA hS (vp_in_nI (n := i + 2) (by omega) (by omega)) dL_law_150 ?_
  rw [nI_clamp (show i + 2 < 2 ^ 31 by omega), e2]
  refine lv_i2l (v := v2.toInt64) hx hb dL_law_151 rfl ?_
  refine lv_ldc2 (v := 4294967295) hx hb hown (hts (.constantLong RL 19 4294967295) (by decide +kernel)) dL_law_152 ?_
  refine lv_land hx hb dL_law_155 ?_
  refine lv_lor hx hb dL_law_156 ?_
  exact kk

set_option maxHeartbeats 4000000 in
set_option maxRecDepth 100000 in
theorem la_1 {p : Program} {l : Launch} {e : Env} {s : State} {m : MethodId} {below : List Frame} {meth : Method} {c : Code} {b L : Nat} {xs : Nat → Int32} (C0 : lw_At p s m meth c b L xs) (hL : L ≤ 3584) {i : Nat} (hi : i + 7 ≤ L) {x0 o k0 : Nat} {H : Heap} {locs : List Loc} {ls : Array Slot} {cells slots : Nat} {Q : State → Prop} (hS : va_S (fun q : Nat => s.heap.size ≤ q) s.heap H locs) (hl : lv_has ls 8 [(4, .int (nI i)), (3, .ref o), (2, .ref k0), (1, .ref x0), (0, .ref b)]) {v1 v2 v3 v4 v5 v6 : Int32} (e1 : xs (i + 1) = v1) (e2 : xs (i + 2) = v2) (e3 : xs (i + 3) = v3) (e4 : xs (i + 4) = v4) (e5 : xs (i + 5) = v5) (e6 : xs (i + 6) = v6) (kk : W p l e room_1 s m #[Value.ref b] below meth c H locs cells slots Q (F0 m 223 ls [.int v6, .long (lg2 v4 v5), .long (lg2 v2 v3), .int v1, .ref x0])) : W p l e room_1 s m #[Value.ref b] below meth c H locs cells slots Q (F0 m 165 ls []) := by
  obtain ⟨hx, hb, hr, hml, hown, hts0, hX, hbl, hlocks, hgv⟩ := C0
  have hts : ∀ w ∈ wsL_law, w.before #[Value.ref b] s = true := fun w h => hts0 w (wsL_law_in w h)
  have hbA : ¬ (fun q : Nat => s.heap.size ≤ q) b := Nat.not_le.mpr hbl
  refine lv_aload_n hx hb dL_law_165 rfl (lv_at hl 3 rfl) ?_
  refine lv_aload_n hx hb dL_law_166 rfl (lv_at hl 4 rfl) ?_
  refine lv_iload hx hb dL_law_167 (lv_at hl 0 rfl) ?_
  refine lv_iconst (v := 1) hx hb dL_law_169 (by decide) ?_
  refine lv_iadd hx hb dL_law_170 ?_
  rw [show nI i + 1 = nI (i + 1) from nI_add i 1]
  refine va_sld hx hb hX hbl hbA hS (vp_in_nI (n := i + 1) (by omega) (by omega)) dL_law_171 ?_
  rw [nI_clamp (show i + 1 < 2 ^ 31 by omega), e1]
  refine lv_aload_n hx hb dL_law_172 rfl (lv_at hl 4 rfl) ?_
  refine lv_iload hx hb dL_law_173 (lv_at hl 0 rfl) ?_
  refine lv_iconst (v := 2) hx hb dL_law_175 (by decide) ?_
  refine lv_iadd hx hb dL_law_176 ?_
  rw [show nI i + 2 = nI (i + 2) from nI_add i 2]
  refine va_sld hx hb hX hbl hbA hS (vp_in_nI (n := i + 2) (by omega) (by omega)) dL_law_177 ?_
  rw [nI_clamp (show i + 2 < 2 ^ 31 by omega), e2]
  refine lv_i2l (v := v2.toInt64) hx hb dL_law_178 rfl ?_
  refine lv_bipush (v := 32) hx hb dL_law_179 (by decide) ?_
  refine lv_lshl (v := (v2.toInt64 <<< ((32 : Int32).toInt64 &&& 63))) hx hb dL_law_181 rfl ?_
  refine lv_aload_n hx hb dL_law_182 rfl (lv_at hl 4 rfl) ?_
  refine lv_iload hx hb dL_law_183 (lv_at hl 0 rfl) ?_
  refine lv_iconst (v := 3) hx hb dL_law_185 (by decide) ?_
  refine lv_iadd hx hb dL_law_186 ?_
  rw [show nI i + 3 = nI (i + 3) from nI_add i 3]
  refine va_sld hx hb hX hbl hbA hS (vp_in_nI (n := i + 3) (by omega) (by omega)) dL_law_187 ?_
  rw [nI_clamp (show i + 3 < 2 ^ 31 by omega), e3]
  refine lv_i2l (v := v3.toInt64) hx hb dL_law_188 rfl ?_
  refine lv_ldc2 (v := 4294967295) hx hb hown (hts (.constantLong RL 19 4294967295) (by decide +kernel)) dL_law_189 ?_
  refine lv_land hx hb dL_law_192 ?_
  refine lv_lor hx hb dL_law_193 ?_
  refine lv_aload_n hx hb dL_law_194 rfl (lv_at hl 4 rfl) ?_
  refine lv_iload hx hb dL_law_195 (lv_at hl 0 rfl) ?_
  refine lv_iconst (v := 4) hx hb dL_law_197 (by decide) ?_
  refine lv_iadd hx hb dL_law_198 ?_
  rw [show nI i + 4 = nI (i + 4) from nI_add i 4]
  refine va_sld hx hb hX hbl hbA hS (vp_in_nI (n := i + 4) (by omega) (by omega)) dL_law_199 ?_
  rw [nI_clamp (show i + 4 < 2 ^ 31 by omega), e4]
  refine lv_i2l (v := v4.toInt64) hx hb dL_law_200 rfl ?_
  refine lv_bipush (v := 32) hx hb dL_law_201 (by decide) ?_
  refine lv_lshl (v := (v4.toInt64 <<< ((32 : Int32).toInt64 &&& 63))) hx hb dL_law_203 rfl ?_
  refine lv_aload_n hx hb dL_law_204 rfl (lv_at hl 4 rfl) ?_
  refine lv_iload hx hb dL_law_205 (lv_at hl 0 rfl) ?_
  refine lv_iconst (v := 5) hx hb dL_law_207 (by decide) ?_
  refine lv_iadd hx hb dL_law_208 ?_
  rw [show nI i + 5 = nI (i + 5) from nI_add i 5]
  refine va_sld hx hb hX hbl hbA hS (vp_in_nI (n := i + 5) (by omega) (by omega)) dL_law_209 ?_
  rw [nI_clamp (show i + 5 < 2 ^ 31 by omega), e5]
  refine lv_i2l (v := v5.toInt64) hx hb dL_law_210 rfl ?_
  refine lv_ldc2 (v := 4294967295) hx hb hown (hts (.constantLong RL 19 4294967295) (by decide +kernel)) dL_law_211 ?_
  refine lv_land hx hb dL_law_214 ?_
  refine lv_lor hx hb dL_law_215 ?_
  refine lv_aload_n hx hb dL_law_216 rfl (lv_at hl 4 rfl) ?_
  refine lv_iload hx hb dL_law_217 (lv_at hl 0 rfl) ?_
  refine lv_bipush (v := 6) hx hb dL_law_219 (by decide) ?_
  refine lv_iadd hx hb dL_law_221 ?_
  rw [show nI i + 6 = nI (i + 6) from nI_add i 6]
  refine va_sld hx hb hX hbl hbA hS (vp_in_nI (n := i + 6) (by omega) (by omega)) dL_law_222 ?_
  rw [nI_clamp (show i + 6 < 2 ^ 31 by omega), e6]
  exact kk

set_option maxHeartbeats 4000000 in
set_option maxRecDepth 100000 in
theorem lb_1 {p : Program} {l : Launch} {e : Env} {s : State} {m : MethodId} {below : List Frame} {meth : Method} {c : Code} {b L : Nat} {xs : Nat → Int32} (C0 : lw_At p s m meth c b L xs) (hL : L ≤ 3584) {i : Nat} (hi : i + 7 ≤ L) {x0 o k0 : Nat} {r0 : Value} {H : Heap} {locs : List Loc} {ls : Array Slot} {cells slots : Nat} {Q : State → Prop} (hS : va_S (fun q : Nat => s.heap.size ≤ q) s.heap H locs) (hl : lv_has ls 8 [(4, .int (nI i)), (3, .ref o), (2, .ref k0), (1, .ref x0), (0, .ref b)]) {v1 v2 v3 v4 v5 v6 : Int32} (e1 : xs (i + 1) = v1) (e2 : xs (i + 2) = v2) (e3 : xs (i + 3) = v3) (e4 : xs (i + 4) = v4) (e5 : xs (i + 5) = v5) (e6 : xs (i + 6) = v6) (kk : W p l e room_1 s m #[Value.ref b] below meth c H locs cells slots Q (F0 m 284 ls [.int v6, .long (lg2 v4 v5), .long (lg2 v2 v3), .int v1, .ref k0, r0])) : W p l e room_1 s m #[Value.ref b] below meth c H locs cells slots Q (F0 m 226 ls [r0]) := by
  obtain ⟨hx, hb, hr, hml, hown, hts0, hX, hbl, hlocks, hgv⟩ := C0
  have hts : ∀ w ∈ wsL_law, w.before #[Value.ref b] s = true := fun w h => hts0 w (wsL_law_in w h)
  have hbA : ¬ (fun q : Nat => s.heap.size ≤ q) b := Nat.not_le.mpr hbl
  refine lv_aload_n hx hb dL_law_226 rfl (lv_at hl 2 rfl) ?_
  refine lv_aload_n hx hb dL_law_227 rfl (lv_at hl 4 rfl) ?_
  refine lv_iload hx hb dL_law_228 (lv_at hl 0 rfl) ?_
  refine lv_iconst (v := 1) hx hb dL_law_230 (by decide) ?_
  refine lv_iadd hx hb dL_law_231 ?_
  rw [show nI i + 1 = nI (i + 1) from nI_add i 1]
  refine va_sld hx hb hX hbl hbA hS (vp_in_nI (n := i + 1) (by omega) (by omega)) dL_law_232 ?_
  rw [nI_clamp (show i + 1 < 2 ^ 31 by omega), e1]
  refine lv_aload_n hx hb dL_law_233 rfl (lv_at hl 4 rfl) ?_
  refine lv_iload hx hb dL_law_234 (lv_at hl 0 rfl) ?_
  refine lv_iconst (v := 2) hx hb dL_law_236 (by decide) ?_
  refine lv_iadd hx hb dL_law_237 ?_
  rw [show nI i + 2 = nI (i + 2) from nI_add i 2]
  refine va_sld hx hb hX hbl hbA hS (vp_in_nI (n := i + 2) (by omega) (by omega)) dL_law_238 ?_
  rw [nI_clamp (show i + 2 < 2 ^ 31 by omega), e2]
  refine lv_i2l (v := v2.toInt64) hx hb dL_law_239 rfl ?_
  refine lv_bipush (v := 32) hx hb dL_law_240 (by decide) ?_
  refine lv_lshl (v := (v2.toInt64 <<< ((32 : Int32).toInt64 &&& 63))) hx hb dL_law_242 rfl ?_
  refine lv_aload_n hx hb dL_law_243 rfl (lv_at hl 4 rfl) ?_
  refine lv_iload hx hb dL_law_244 (lv_at hl 0 rfl) ?_
  refine lv_iconst (v := 3) hx hb dL_law_246 (by decide) ?_
  refine lv_iadd hx hb dL_law_247 ?_
  rw [show nI i + 3 = nI (i + 3) from nI_add i 3]
  refine va_sld hx hb hX hbl hbA hS (vp_in_nI (n := i + 3) (by omega) (by omega)) dL_law_248 ?_
  rw [nI_clamp (show i + 3 < 2 ^ 31 by omega), e3]
  refine lv_i2l (v := v3.toInt64) hx hb dL_law_249 rfl ?_
  refine lv_ldc2 (v := 4294967295) hx hb hown (hts (.constantLong RL 19 4294967295) (by decide +kernel)) dL_law_250 ?_
  refine lv_land hx hb dL_law_253 ?_
  refine lv_lor hx hb dL_law_254 ?_
  refine lv_aload_n hx hb dL_law_255 rfl (lv_at hl 4 rfl) ?_
  refine lv_iload hx hb dL_law_256 (lv_at hl 0 rfl) ?_
  refine lv_iconst (v := 4) hx hb dL_law_258 (by decide) ?_
  refine lv_iadd hx hb dL_law_259 ?_
  rw [show nI i + 4 = nI (i + 4) from nI_add i 4]
  refine va_sld hx hb hX hbl hbA hS (vp_in_nI (n := i + 4) (by omega) (by omega)) dL_law_260 ?_
  rw [nI_clamp (show i + 4 < 2 ^ 31 by omega), e4]
  refine lv_i2l (v := v4.toInt64) hx hb dL_law_261 rfl ?_
  refine lv_bipush (v := 32) hx hb dL_law_262 (by decide) ?_
  refine lv_lshl (v := (v4.toInt64 <<< ((32 : Int32).toInt64 &&& 63))) hx hb dL_law_264 rfl ?_
  refine lv_aload_n hx hb dL_law_265 rfl (lv_at hl 4 rfl) ?_
  refine lv_iload hx hb dL_law_266 (lv_at hl 0 rfl) ?_
  refine lv_iconst (v := 5) hx hb dL_law_268 (by decide) ?_
  refine lv_iadd hx hb dL_law_269 ?_
  rw [show nI i + 5 = nI (i + 5) from nI_add i 5]
  refine va_sld hx hb hX hbl hbA hS (vp_in_nI (n := i + 5) (by omega) (by omega)) dL_law_270 ?_
  rw [nI_clamp (show i + 5 < 2 ^ 31 by omega), e5]
  refine lv_i2l (v := v5.toInt64) hx hb dL_law_271 rfl ?_
  refine lv_ldc2 (v := 4294967295) hx hb hown (hts (.constantLong RL 19 4294967295) (by decide +kernel)) dL_law_272 ?_
  refine lv_land hx hb dL_law_275 ?_
  refine lv_lor hx hb dL_law_276 ?_
  refine lv_aload_n hx hb dL_law_277 rfl (lv_at hl 4 rfl) ?_
  refine lv_iload hx hb dL_law_278 (lv_at hl 0 rfl) ?_
  refine lv_bipush (v := 6) hx hb dL_law_280 (by decide) ?_
  refine lv_iadd hx hb dL_law_282 ?_
  rw [show nI i + 6 = nI (i + 6) from nI_add i 6]
  refine va_sld hx hb hX hbl hbA hS (vp_in_nI (n := i + 6) (by omega) (by omega)) dL_law_283 ?_
  rw [nI_clamp (show i + 6 < 2 ^ 31 by omega), e6]
  exact kk

set_option maxHeartbeats 4000000 in
set_option maxRecDepth 100000 in
theorem la_2 {p : Program} {l : Launch} {e : Env} {s : State} {m : MethodId} {below : List Frame} {meth : Method} {c : Code} {b L : Nat} {xs : Nat → Int32} (C0 : lw_At p s m meth c b L xs) (hL : L ≤ 3584) {i : Nat} (hi : i + 7 ≤ L) {x0 o k0 : Nat} {H : Heap} {locs : List Loc} {ls : Array Slot} {cells slots : Nat} {Q : State → Prop} (hS : va_S (fun q : Nat => s.heap.size ≤ q) s.heap H locs) (hl : lv_has ls 8 [(4, .int (nI i)), (3, .ref o), (2, .ref k0), (1, .ref x0), (0, .ref b)]) {v1 v2 v3 v4 v5 v6 : Int32} (e1 : xs (i + 1) = v1) (e2 : xs (i + 2) = v2) (e3 : xs (i + 3) = v3) (e4 : xs (i + 4) = v4) (e5 : xs (i + 5) = v5) (e6 : xs (i + 6) = v6) (kk : W p l e room_1 s m #[Value.ref b] below meth c H locs cells slots Q (F0 m 350 ls [.long (lg2 v5 v6), .long (lg2 v3 v4), .int v2, .int v1, .ref x0])) : W p l e room_1 s m #[Value.ref b] below meth c H locs cells slots Q (F0 m 292 ls []) := by
  obtain ⟨hx, hb, hr, hml, hown, hts0, hX, hbl, hlocks, hgv⟩ := C0
  have hts : ∀ w ∈ wsL_law, w.before #[Value.ref b] s = true := fun w h => hts0 w (wsL_law_in w h)
  have hbA : ¬ (fun q : Nat => s.heap.size ≤ q) b := Nat.not_le.mpr hbl
  refine lv_aload_n hx hb dL_law_292 rfl (lv_at hl 3 rfl) ?_
  refine lv_aload_n hx hb dL_law_293 rfl (lv_at hl 4 rfl) ?_
  refine lv_iload hx hb dL_law_294 (lv_at hl 0 rfl) ?_
  refine lv_iconst (v := 1) hx hb dL_law_296 (by decide) ?_
  refine lv_iadd hx hb dL_law_297 ?_
  rw [show nI i + 1 = nI (i + 1) from nI_add i 1]
  refine va_sld hx hb hX hbl hbA hS (vp_in_nI (n := i + 1) (by omega) (by omega)) dL_law_298 ?_
  rw [nI_clamp (show i + 1 < 2 ^ 31 by omega), e1]
  refine lv_aload_n hx hb dL_law_299 rfl (lv_at hl 4 rfl) ?_
  refine lv_iload hx hb dL_law_300 (lv_at hl 0 rfl) ?_
  refine lv_iconst (v := 2) hx hb dL_law_302 (by decide) ?_
  refine lv_iadd hx hb dL_law_303 ?_
  rw [show nI i + 2 = nI (i + 2) from nI_add i 2]
  refine va_sld hx hb hX hbl hbA hS (vp_in_nI (n := i + 2) (by omega) (by omega)) dL_law_304 ?_
  rw [nI_clamp (show i + 2 < 2 ^ 31 by omega), e2]
  refine lv_aload_n hx hb dL_law_305 rfl (lv_at hl 4 rfl) ?_
  refine lv_iload hx hb dL_law_306 (lv_at hl 0 rfl) ?_
  refine lv_iconst (v := 3) hx hb dL_law_308 (by decide) ?_
  refine lv_iadd hx hb dL_law_309 ?_
  rw [show nI i + 3 = nI (i + 3) from nI_add i 3]
  refine va_sld hx hb hX hbl hbA hS (vp_in_nI (n := i + 3) (by omega) (by omega)) dL_law_310 ?_
  rw [nI_clamp (show i + 3 < 2 ^ 31 by omega), e3]
  refine lv_i2l (v := v3.toInt64) hx hb dL_law_311 rfl ?_
  refine lv_bipush (v := 32) hx hb dL_law_312 (by decide) ?_
  refine lv_lshl (v := (v3.toInt64 <<< ((32 : Int32).toInt64 &&& 63))) hx hb dL_law_314 rfl ?_
  refine lv_aload_n hx hb dL_law_315 rfl (lv_at hl 4 rfl) ?_
  refine lv_iload hx hb dL_law_316 (lv_at hl 0 rfl) ?_
  refine lv_iconst (v := 4) hx hb dL_law_318 (by decide) ?_
  refine lv_iadd hx hb dL_law_319 ?_
  rw [show nI i + 4 = nI (i + 4) from nI_add i 4]
  refine va_sld hx hb hX hbl hbA hS (vp_in_nI (n := i + 4) (by omega) (by omega)) dL_law_320 ?_
  rw [nI_clamp (show i + 4 < 2 ^ 31 by omega), e4]
  refine lv_i2l (v := v4.toInt64) hx hb dL_law_321 rfl ?_
  refine lv_ldc2 (v := 4294967295) hx hb hown (hts (.constantLong RL 19 4294967295) (by decide +kernel)) dL_law_322 ?_
  refine lv_land hx hb dL_law_325 ?_
  refine lv_lor hx hb dL_law_326 ?_
  refine lv_aload_n hx hb dL_law_327 rfl (lv_at hl 4 rfl) ?_
  refine lv_iload hx hb dL_law_328 (lv_at hl 0 rfl) ?_
  refine lv_iconst (v := 5) hx hb dL_law_330 (by decide) ?_
  refine lv_iadd hx hb dL_law_331 ?_
  rw [show nI i + 5 = nI (i + 5) from nI_add i 5]
  refine va_sld hx hb hX hbl hbA hS (vp_in_nI (n := i + 5) (by omega) (by omega)) dL_law_332 ?_
  rw [nI_clamp (show i + 5 < 2 ^ 31 by omega), e5]
  refine lv_i2l (v := v5.toInt64) hx hb dL_law_333 rfl ?_
  refine lv_bipush (v := 32) hx hb dL_law_334 (by decide) ?_
  refine lv_lshl (v := (v5.toInt64 <<< ((32 : Int32).toInt64 &&& 63))) hx hb dL_law_336 rfl ?_
  refine lv_aload_n hx hb dL_law_337 rfl (lv_at hl 4 rfl) ?_
  refine lv_iload hx hb dL_law_338 (lv_at hl 0 rfl) ?_
  refine lv_bipush (v := 6) hx hb dL_law_340 (by decide) ?_
  refine lv_iadd hx hb dL_law_342 ?_
  rw [show nI i + 6 = nI (i + 6) from nI_add i 6]
  refine va_sld hx hb hX hbl hbA hS (vp_in_nI (n := i + 6) (by omega) (by omega)) dL_law_343 ?_
  rw [nI_clamp (show i + 6 < 2 ^ 31 by omega), e6]
  refine lv_i2l (v := v6.toInt64) hx hb dL_law_344 rfl ?_
  refine lv_ldc2 (v := 4294967295) hx hb hown (hts (.constantLong RL 19 4294967295) (by decide +kernel)) dL_law_345 ?_
  refine lv_land hx hb dL_law_348 ?_
  refine lv_lor hx hb dL_law_349 ?_
  exact kk

set_option maxHeartbeats 4000000 in
set_option maxRecDepth 100000 in
theorem lb_2 {p : Program} {l : Launch} {e : Env} {s : State} {m : MethodId} {below : List Frame} {meth : Method} {c : Code} {b L : Nat} {xs : Nat → Int32} (C0 : lw_At p s m meth c b L xs) (hL : L ≤ 3584) {i : Nat} (hi : i + 7 ≤ L) {x0 o k0 : Nat} {r0 : Value} {H : Heap} {locs : List Loc} {ls : Array Slot} {cells slots : Nat} {Q : State → Prop} (hS : va_S (fun q : Nat => s.heap.size ≤ q) s.heap H locs) (hl : lv_has ls 8 [(4, .int (nI i)), (3, .ref o), (2, .ref k0), (1, .ref x0), (0, .ref b)]) {v1 v2 v3 v4 v5 v6 : Int32} (e1 : xs (i + 1) = v1) (e2 : xs (i + 2) = v2) (e3 : xs (i + 3) = v3) (e4 : xs (i + 4) = v4) (e5 : xs (i + 5) = v5) (e6 : xs (i + 6) = v6) (kk : W p l e room_1 s m #[Value.ref b] below meth c H locs cells slots Q (F0 m 411 ls [.long (lg2 v5 v6), .long (lg2 v3 v4), .int v2, .int v1, .ref k0, r0])) : W p l e room_1 s m #[Value.ref b] below meth c H locs cells slots Q (F0 m 353 ls [r0]) := by
  obtain ⟨hx, hb, hr, hml, hown, hts0, hX, hbl, hlocks, hgv⟩ := C0
  have hts : ∀ w ∈ wsL_law, w.before #[Value.ref b] s = true := fun w h => hts0 w (wsL_law_in w h)
  have hbA : ¬ (fun q : Nat => s.heap.size ≤ q) b := Nat.not_le.mpr hbl
  refine lv_aload_n hx hb dL_law_353 rfl (lv_at hl 2 rfl) ?_
  refine lv_aload_n hx hb dL_law_354 rfl (lv_at hl 4 rfl) ?_
  refine lv_iload hx hb dL_law_355 (lv_at hl 0 rfl) ?_
  refine lv_iconst (v := 1) hx hb dL_law_357 (by decide) ?_
  refine lv_iadd hx hb dL_law_358 ?_
  rw [show nI i + 1 = nI (i + 1) from nI_add i 1]
  refine va_sld hx hb hX hbl hbA hS (vp_in_nI (n := i + 1) (by omega) (by omega)) dL_law_359 ?_
  rw [nI_clamp (show i + 1 < 2 ^ 31 by omega), e1]
  refine lv_aload_n hx hb dL_law_360 rfl (lv_at hl 4 rfl) ?_
  refine lv_iload hx hb dL_law_361 (lv_at hl 0 rfl) ?_
  refine lv_iconst (v := 2) hx hb dL_law_363 (by decide) ?_
  refine lv_iadd hx hb dL_law_364 ?_
  rw [show nI i + 2 = nI (i + 2) from nI_add i 2]
  refine va_sld hx hb hX hbl hbA hS (vp_in_nI (n := i + 2) (by omega) (by omega)) dL_law_365 ?_
  rw [nI_clamp (show i + 2 < 2 ^ 31 by omega), e2]
  refine lv_aload_n hx hb dL_law_366 rfl (lv_at hl 4 rfl) ?_
  refine lv_iload hx hb dL_law_367 (lv_at hl 0 rfl) ?_
  refine lv_iconst (v := 3) hx hb dL_law_369 (by decide) ?_
  refine lv_iadd hx hb dL_law_370 ?_
  rw [show nI i + 3 = nI (i + 3) from nI_add i 3]
  refine va_sld hx hb hX hbl hbA hS (vp_in_nI (n := i + 3) (by omega) (by omega)) dL_law_371 ?_
  rw [nI_clamp (show i + 3 < 2 ^ 31 by omega), e3]
  refine lv_i2l (v := v3.toInt64) hx hb dL_law_372 rfl ?_
  refine lv_bipush (v := 32) hx hb dL_law_373 (by decide) ?_
  refine lv_lshl (v := (v3.toInt64 <<< ((32 : Int32).toInt64 &&& 63))) hx hb dL_law_375 rfl ?_
  refine lv_aload_n hx hb dL_law_376 rfl (lv_at hl 4 rfl) ?_
  refine lv_iload hx hb dL_law_377 (lv_at hl 0 rfl) ?_
  refine lv_iconst (v := 4) hx hb dL_law_379 (by decide) ?_
  refine lv_iadd hx hb dL_law_380 ?_
  rw [show nI i + 4 = nI (i + 4) from nI_add i 4]
  refine va_sld hx hb hX hbl hbA hS (vp_in_nI (n := i + 4) (by omega) (by omega)) dL_law_381 ?_
  rw [nI_clamp (show i + 4 < 2 ^ 31 by omega), e4]
  refine lv_i2l (v := v4.toInt64) hx hb dL_law_382 rfl ?_
  refine lv_ldc2 (v := 4294967295) hx hb hown (hts (.constantLong RL 19 4294967295) (by decide +kernel)) dL_law_383 ?_
  refine lv_land hx hb dL_law_386 ?_
  refine lv_lor hx hb dL_law_387 ?_
  refine lv_aload_n hx hb dL_law_388 rfl (lv_at hl 4 rfl) ?_
  refine lv_iload hx hb dL_law_389 (lv_at hl 0 rfl) ?_
  refine lv_iconst (v := 5) hx hb dL_law_391 (by decide) ?_
  refine lv_iadd hx hb dL_law_392 ?_
  rw [show nI i + 5 = nI (i + 5) from nI_add i 5]
  refine va_sld hx hb hX hbl hbA hS (vp_in_nI (n := i + 5) (by omega) (by omega)) dL_law_393 ?_
  rw [nI_clamp (show i + 5 < 2 ^ 31 by omega), e5]
  refine lv_i2l (v := v5.toInt64) hx hb dL_law_394 rfl ?_
  refine lv_bipush (v := 32) hx hb dL_law_395 (by decide) ?_
  refine lv_lshl (v := (v5.toInt64 <<< ((32 : Int32).toInt64 &&& 63))) hx hb dL_law_397 rfl ?_
  refine lv_aload_n hx hb dL_law_398 rfl (lv_at hl 4 rfl) ?_
  refine lv_iload hx hb dL_law_399 (lv_at hl 0 rfl) ?_
  refine lv_bipush (v := 6) hx hb dL_law_401 (by decide) ?_
  refine lv_iadd hx hb dL_law_403 ?_
  rw [show nI i + 6 = nI (i + 6) from nI_add i 6]
  refine va_sld hx hb hX hbl hbA hS (vp_in_nI (n := i + 6) (by omega) (by omega)) dL_law_404 ?_
  rw [nI_clamp (show i + 6 < 2 ^ 31 by omega), e6]
  refine lv_i2l (v := v6.toInt64) hx hb dL_law_405 rfl ?_
  refine lv_ldc2 (v := 4294967295) hx hb hown (hts (.constantLong RL 19 4294967295) (by decide +kernel)) dL_law_406 ?_
  refine lv_land hx hb dL_law_409 ?_
  refine lv_lor hx hb dL_law_410 ?_
  exact kk

set_option maxHeartbeats 4000000 in
set_option maxRecDepth 100000 in
theorem la_3 {p : Program} {l : Launch} {e : Env} {s : State} {m : MethodId} {below : List Frame} {meth : Method} {c : Code} {b L : Nat} {xs : Nat → Int32} (C0 : lw_At p s m meth c b L xs) (hL : L ≤ 3584) {i : Nat} (hi : i + 7 ≤ L) {x0 o k0 : Nat} {H : Heap} {locs : List Loc} {ls : Array Slot} {cells slots : Nat} {Q : State → Prop} (hS : va_S (fun q : Nat => s.heap.size ≤ q) s.heap H locs) (hl : lv_has ls 8 [(4, .int (nI i)), (3, .ref o), (2, .ref k0), (1, .ref x0), (0, .ref b)]) {v1 v2 v3 : Int32} (e1 : xs (i + 1) = v1) (e2 : xs (i + 2) = v2) (e3 : xs (i + 3) = v3) (kk : W p l e room_1 s m #[Value.ref b] below meth c H locs cells slots Q (F0 m 439 ls [.ref o, .int v3, .int v2, .int v1, .ref x0])) : W p l e room_1 s m #[Value.ref b] below meth c H locs cells slots Q (F0 m 419 ls []) := by
  obtain ⟨hx, hb, hr, hml, hown, hts0, hX, hbl, hlocks, hgv⟩ := C0
  have hts : ∀ w ∈ wsL_law, w.before #[Value.ref b] s = true := fun w h => hts0 w (wsL_law_in w h)
  have hbA : ¬ (fun q : Nat => s.heap.size ≤ q) b := Nat.not_le.mpr hbl
  refine lv_aload_n hx hb dL_law_419 rfl (lv_at hl 3 rfl) ?_
  refine lv_aload_n hx hb dL_law_420 rfl (lv_at hl 4 rfl) ?_
  refine lv_iload hx hb dL_law_421 (lv_at hl 0 rfl) ?_
  refine lv_iconst (v := 1) hx hb dL_law_423 (by decide) ?_
  refine lv_iadd hx hb dL_law_424 ?_
  rw [show nI i + 1 = nI (i + 1) from nI_add i 1]
  refine va_sld hx hb hX hbl hbA hS (vp_in_nI (n := i + 1) (by omega) (by omega)) dL_law_425 ?_
  rw [nI_clamp (show i + 1 < 2 ^ 31 by omega), e1]
  refine lv_aload_n hx hb dL_law_426 rfl (lv_at hl 4 rfl) ?_
  refine lv_iload hx hb dL_law_427 (lv_at hl 0 rfl) ?_
  refine lv_iconst (v := 2) hx hb dL_law_429 (by decide) ?_
  refine lv_iadd hx hb dL_law_430 ?_
  rw [show nI i + 2 = nI (i + 2) from nI_add i 2]
  refine va_sld hx hb hX hbl hbA hS (vp_in_nI (n := i + 2) (by omega) (by omega)) dL_law_431 ?_
  rw [nI_clamp (show i + 2 < 2 ^ 31 by omega), e2]
  refine lv_aload_n hx hb dL_law_432 rfl (lv_at hl 4 rfl) ?_
  refine lv_iload hx hb dL_law_433 (lv_at hl 0 rfl) ?_
  refine lv_iconst (v := 3) hx hb dL_law_435 (by decide) ?_
  refine lv_iadd hx hb dL_law_436 ?_
  rw [show nI i + 3 = nI (i + 3) from nI_add i 3]
  refine va_sld hx hb hX hbl hbA hS (vp_in_nI (n := i + 3) (by omega) (by omega)) dL_law_437 ?_
  rw [nI_clamp (show i + 3 < 2 ^ 31 by omega), e3]
  refine lv_aload_n hx hb dL_law_438 rfl (lv_at hl 1 rfl) ?_
  exact kk

set_option maxHeartbeats 4000000 in
set_option maxRecDepth 100000 in
theorem lb_3 {p : Program} {l : Launch} {e : Env} {s : State} {m : MethodId} {below : List Frame} {meth : Method} {c : Code} {b L : Nat} {xs : Nat → Int32} (C0 : lw_At p s m meth c b L xs) (hL : L ≤ 3584) {i : Nat} (hi : i + 7 ≤ L) {x0 o k0 : Nat} {r5 : Int32} {H : Heap} {locs : List Loc} {ls : Array Slot} {cells slots : Nat} {Q : State → Prop} (hS : va_S (fun q : Nat => s.heap.size ≤ q) s.heap H locs) (hl : lv_has ls 8 [(5, .int r5), (4, .int (nI i)), (3, .ref o), (2, .ref k0), (1, .ref x0), (0, .ref b)]) {v1 v2 v3 : Int32} (e1 : xs (i + 1) = v1) (e2 : xs (i + 2) = v2) (e3 : xs (i + 3) = v3) (kk : W p l e room_1 s m #[Value.ref b] below meth c H locs cells slots Q (F0 m 463 ls [.int v3, .int v2, .int v1, .ref k0])) : W p l e room_1 s m #[Value.ref b] below meth c H locs cells slots Q (F0 m 444 ls []) := by
  obtain ⟨hx, hb, hr, hml, hown, hts0, hX, hbl, hlocks, hgv⟩ := C0
  have hts : ∀ w ∈ wsL_law, w.before #[Value.ref b] s = true := fun w h => hts0 w (wsL_law_in w h)
  have hbA : ¬ (fun q : Nat => s.heap.size ≤ q) b := Nat.not_le.mpr hbl
  refine lv_aload_n hx hb dL_law_444 rfl (lv_at hl 3 rfl) ?_
  refine lv_aload_n hx hb dL_law_445 rfl (lv_at hl 5 rfl) ?_
  refine lv_iload hx hb dL_law_446 (lv_at hl 1 rfl) ?_
  refine lv_iconst (v := 1) hx hb dL_law_448 (by decide) ?_
  refine lv_iadd hx hb dL_law_449 ?_
  rw [show nI i + 1 = nI (i + 1) from nI_add i 1]
  refine va_sld hx hb hX hbl hbA hS (vp_in_nI (n := i + 1) (by omega) (by omega)) dL_law_450 ?_
  rw [nI_clamp (show i + 1 < 2 ^ 31 by omega), e1]
  refine lv_aload_n hx hb dL_law_451 rfl (lv_at hl 5 rfl) ?_
  refine lv_iload hx hb dL_law_452 (lv_at hl 1 rfl) ?_
  refine lv_iconst (v := 2) hx hb dL_law_454 (by decide) ?_
  refine lv_iadd hx hb dL_law_455 ?_
  rw [show nI i + 2 = nI (i + 2) from nI_add i 2]
  refine va_sld hx hb hX hbl hbA hS (vp_in_nI (n := i + 2) (by omega) (by omega)) dL_law_456 ?_
  rw [nI_clamp (show i + 2 < 2 ^ 31 by omega), e2]
  refine lv_aload_n hx hb dL_law_457 rfl (lv_at hl 5 rfl) ?_
  refine lv_iload hx hb dL_law_458 (lv_at hl 1 rfl) ?_
  refine lv_iconst (v := 3) hx hb dL_law_460 (by decide) ?_
  refine lv_iadd hx hb dL_law_461 ?_
  rw [show nI i + 3 = nI (i + 3) from nI_add i 3]
  refine va_sld hx hb hX hbl hbA hS (vp_in_nI (n := i + 3) (by omega) (by omega)) dL_law_462 ?_
  rw [nI_clamp (show i + 3 < 2 ^ 31 by omega), e3]
  exact kk

set_option maxHeartbeats 4000000 in
set_option maxRecDepth 100000 in
theorem la_4 {p : Program} {l : Launch} {e : Env} {s : State} {m : MethodId} {below : List Frame} {meth : Method} {c : Code} {b L : Nat} {xs : Nat → Int32} (C0 : lw_At p s m meth c b L xs) (hL : L ≤ 3584) {i : Nat} (hi : i + 7 ≤ L) {x0 o k0 : Nat} {H : Heap} {locs : List Loc} {ls : Array Slot} {cells slots : Nat} {Q : State → Prop} (hS : va_S (fun q : Nat => s.heap.size ≤ q) s.heap H locs) (hl : lv_has ls 8 [(4, .int (nI i)), (3, .ref o), (2, .ref k0), (1, .ref x0), (0, .ref b)]) {v1 : Int32} (e1 : xs (i + 1) = v1) (kk : W p l e room_1 s m #[Value.ref b] below meth c H locs cells slots Q (F0 m 505 ls [.int v1, .ref x0])) : W p l e room_1 s m #[Value.ref b] below meth c H locs cells slots Q (F0 m 498 ls []) := by
  obtain ⟨hx, hb, hr, hml, hown, hts0, hX, hbl, hlocks, hgv⟩ := C0
  have hts : ∀ w ∈ wsL_law, w.before #[Value.ref b] s = true := fun w h => hts0 w (wsL_law_in w h)
  have hbA : ¬ (fun q : Nat => s.heap.size ≤ q) b := Nat.not_le.mpr hbl
  refine lv_aload_n hx hb dL_law_498 rfl (lv_at hl 3 rfl) ?_
  refine lv_aload_n hx hb dL_law_499 rfl (lv_at hl 4 rfl) ?_
  refine lv_iload hx hb dL_law_500 (lv_at hl 0 rfl) ?_
  refine lv_iconst (v := 1) hx hb dL_law_502 (by decide) ?_
  refine lv_iadd hx hb dL_law_503 ?_
  rw [show nI i + 1 = nI (i + 1) from nI_add i 1]
  refine va_sld hx hb hX hbl hbA hS (vp_in_nI (n := i + 1) (by omega) (by omega)) dL_law_504 ?_
  rw [nI_clamp (show i + 1 < 2 ^ 31 by omega), e1]
  exact kk

set_option maxHeartbeats 4000000 in
set_option maxRecDepth 100000 in
theorem lb_4 {p : Program} {l : Launch} {e : Env} {s : State} {m : MethodId} {below : List Frame} {meth : Method} {c : Code} {b L : Nat} {xs : Nat → Int32} (C0 : lw_At p s m meth c b L xs) (hL : L ≤ 3584) {i : Nat} (hi : i + 7 ≤ L) {x0 o k0 : Nat} {r0 : Value} {H : Heap} {locs : List Loc} {ls : Array Slot} {cells slots : Nat} {Q : State → Prop} (hS : va_S (fun q : Nat => s.heap.size ≤ q) s.heap H locs) (hl : lv_has ls 8 [(4, .int (nI i)), (3, .ref o), (2, .ref k0), (1, .ref x0), (0, .ref b)]) {v1 : Int32} (e1 : xs (i + 1) = v1) (kk : W p l e room_1 s m #[Value.ref b] below meth c H locs cells slots Q (F0 m 515 ls [.int v1, .ref k0, r0])) : W p l e room_1 s m #[Value.ref b] below meth c H locs cells slots Q (F0 m 508 ls [r0]) := by
  obtain ⟨hx, hb, hr, hml, hown, hts0, hX, hbl, hlocks, hgv⟩ := C0
  have hts : ∀ w ∈ wsL_law, w.before #[Value.ref b] s = true := fun w h => hts0 w (wsL_law_in w h)
  have hbA : ¬ (fun q : Nat => s.heap.size ≤ q) b := Nat.not_le.mpr hbl
  refine lv_aload_n hx hb dL_law_508 rfl (lv_at hl 2 rfl) ?_
  refine lv_aload_n hx hb dL_law_509 rfl (lv_at hl 4 rfl) ?_
  refine lv_iload hx hb dL_law_510 (lv_at hl 0 rfl) ?_
  refine lv_iconst (v := 1) hx hb dL_law_512 (by decide) ?_
  refine lv_iadd hx hb dL_law_513 ?_
  rw [show nI i + 1 = nI (i + 1) from nI_add i 1]
  refine va_sld hx hb hX hbl hbA hS (vp_in_nI (n := i + 1) (by omega) (by omega)) dL_law_514 ?_
  rw [nI_clamp (show i + 1 < 2 ^ 31 by omega), e1]
  exact kk

set_option maxHeartbeats 4000000 in
set_option maxRecDepth 100000 in
theorem la_5 {p : Program} {l : Launch} {e : Env} {s : State} {m : MethodId} {below : List Frame} {meth : Method} {c : Code} {b L : Nat} {xs : Nat → Int32} (C0 : lw_At p s m meth c b L xs) (hL : L ≤ 3584) {i : Nat} (hi : i + 7 ≤ L) {x0 o k0 : Nat} {H : Heap} {locs : List Loc} {ls : Array Slot} {cells slots : Nat} {Q : State → Prop} (hS : va_S (fun q : Nat => s.heap.size ≤ q) s.heap H locs) (hl : lv_has ls 8 [(4, .int (nI i)), (3, .ref o), (2, .ref k0), (1, .ref x0), (0, .ref b)]) {v1 v2 : Int32} (e1 : xs (i + 1) = v1) (e2 : xs (i + 2) = v2) (kk : W p l e room_1 s m #[Value.ref b] below meth c H locs cells slots Q (F0 m 536 ls [.int v2, .int v1, .ref x0])) : W p l e room_1 s m #[Value.ref b] below meth c H locs cells slots Q (F0 m 523 ls []) := by
  obtain ⟨hx, hb, hr, hml, hown, hts0, hX, hbl, hlocks, hgv⟩ := C0
  have hts : ∀ w ∈ wsL_law, w.before #[Value.ref b] s = true := fun w h => hts0 w (wsL_law_in w h)
  have hbA : ¬ (fun q : Nat => s.heap.size ≤ q) b := Nat.not_le.mpr hbl
  refine lv_aload_n hx hb dL_law_523 rfl (lv_at hl 3 rfl) ?_
  refine lv_aload_n hx hb dL_law_524 rfl (lv_at hl 4 rfl) ?_
  refine lv_iload hx hb dL_law_525 (lv_at hl 0 rfl) ?_
  refine lv_iconst (v := 1) hx hb dL_law_527 (by decide) ?_
  refine lv_iadd hx hb dL_law_528 ?_
  rw [show nI i + 1 = nI (i + 1) from nI_add i 1]
  refine va_sld hx hb hX hbl hbA hS (vp_in_nI (n := i + 1) (by omega) (by omega)) dL_law_529 ?_
  rw [nI_clamp (show i + 1 < 2 ^ 31 by omega), e1]
  refine lv_aload_n hx hb dL_law_530 rfl (lv_at hl 4 rfl) ?_
  refine lv_iload hx hb dL_law_531 (lv_at hl 0 rfl) ?_
  refine lv_iconst (v := 2) hx hb dL_law_533 (by decide) ?_
  refine lv_iadd hx hb dL_law_534 ?_
  rw [show nI i + 2 = nI (i + 2) from nI_add i 2]
  refine va_sld hx hb hX hbl hbA hS (vp_in_nI (n := i + 2) (by omega) (by omega)) dL_law_535 ?_
  rw [nI_clamp (show i + 2 < 2 ^ 31 by omega), e2]
  exact kk

set_option maxHeartbeats 4000000 in
set_option maxRecDepth 100000 in
theorem lb_5 {p : Program} {l : Launch} {e : Env} {s : State} {m : MethodId} {below : List Frame} {meth : Method} {c : Code} {b L : Nat} {xs : Nat → Int32} (C0 : lw_At p s m meth c b L xs) (hL : L ≤ 3584) {i : Nat} (hi : i + 7 ≤ L) {x0 o k0 : Nat} {r0 : Value} {H : Heap} {locs : List Loc} {ls : Array Slot} {cells slots : Nat} {Q : State → Prop} (hS : va_S (fun q : Nat => s.heap.size ≤ q) s.heap H locs) (hl : lv_has ls 8 [(4, .int (nI i)), (3, .ref o), (2, .ref k0), (1, .ref x0), (0, .ref b)]) {v1 v2 : Int32} (e1 : xs (i + 1) = v1) (e2 : xs (i + 2) = v2) (kk : W p l e room_1 s m #[Value.ref b] below meth c H locs cells slots Q (F0 m 552 ls [.int v2, .int v1, .ref k0, r0])) : W p l e room_1 s m #[Value.ref b] below meth c H locs cells slots Q (F0 m 539 ls [r0]) := by
  obtain ⟨hx, hb, hr, hml, hown, hts0, hX, hbl, hlocks, hgv⟩ := C0
  have hts : ∀ w ∈ wsL_law, w.before #[Value.ref b] s = true := fun w h => hts0 w (wsL_law_in w h)
  have hbA : ¬ (fun q : Nat => s.heap.size ≤ q) b := Nat.not_le.mpr hbl
  refine lv_aload_n hx hb dL_law_539 rfl (lv_at hl 2 rfl) ?_
  refine lv_aload_n hx hb dL_law_540 rfl (lv_at hl 4 rfl) ?_
  refine lv_iload hx hb dL_law_541 (lv_at hl 0 rfl) ?_
  refine lv_iconst (v := 1) hx hb dL_law_543 (by decide) ?_
  refine lv_iadd hx hb dL_law_544 ?_
  rw [show nI i + 1 = nI (i + 1) from nI_add i 1]
  refine va_sld hx hb hX hbl hbA hS (vp_in_nI (n := i + 1) (by omega) (by omega)) dL_law_545 ?_
  rw [nI_clamp (show i + 1 < 2 ^ 31 by omega), e1]
  refine lv_aload_n hx hb dL_law_546 rfl (lv_at hl 4 rfl) ?_
  refine lv_iload hx hb dL_law_547 (lv_at hl 0 rfl) ?_
  refine lv_iconst (v := 2) hx hb dL_law_549 (by decide) ?_
  refine lv_iadd hx hb dL_law_550 ?_
  rw [show nI i + 2 = nI (i + 2) from nI_add i 2]
  refine va_sld hx hb hX hbl hbA hS (vp_in_nI (n := i + 2) (by omega) (by omega)) dL_law_551 ?_
  rw [nI_clamp (show i + 2 < 2 ^ 31 by omega), e2]
  exact kk

set_option maxHeartbeats 4000000 in
set_option maxRecDepth 100000 in
theorem la_6 {p : Program} {l : Launch} {e : Env} {s : State} {m : MethodId} {below : List Frame} {meth : Method} {c : Code} {b L : Nat} {xs : Nat → Int32} (C0 : lw_At p s m meth c b L xs) (hL : L ≤ 3584) {i : Nat} (hi : i + 7 ≤ L) {x0 o k0 : Nat} {H : Heap} {locs : List Loc} {ls : Array Slot} {cells slots : Nat} {Q : State → Prop} (hS : va_S (fun q : Nat => s.heap.size ≤ q) s.heap H locs) (hl : lv_has ls 8 [(4, .int (nI i)), (3, .ref o), (2, .ref k0), (1, .ref x0), (0, .ref b)]) {v1 v2 v3 v4 : Int32} (e1 : xs (i + 1) = v1) (e2 : xs (i + 2) = v2) (e3 : xs (i + 3) = v3) (e4 : xs (i + 4) = v4) (kk : W p l e room_1 s m #[Value.ref b] below meth c H locs cells slots Q (F0 m 595 ls [.long (lg2 v3 v4), .int v2, .int v1, .ref x0])) : W p l e room_1 s m #[Value.ref b] below meth c H locs cells slots Q (F0 m 560 ls []) := by
  obtain ⟨hx, hb, hr, hml, hown, hts0, hX, hbl, hlocks, hgv⟩ := C0
  have hts : ∀ w ∈ wsL_law, w.before #[Value.ref b] s = true := fun w h => hts0 w (wsL_law_in w h)
  have hbA : ¬ (fun q : Nat => s.heap.size ≤ q) b := Nat.not_le.mpr hbl
  refine lv_aload_n hx hb dL_law_560 rfl (lv_at hl 3 rfl) ?_
  refine lv_aload_n hx hb dL_law_561 rfl (lv_at hl 4 rfl) ?_
  refine lv_iload hx hb dL_law_562 (lv_at hl 0 rfl) ?_
  refine lv_iconst (v := 1) hx hb dL_law_564 (by decide) ?_
  refine lv_iadd hx hb dL_law_565 ?_
  rw [show nI i + 1 = nI (i + 1) from nI_add i 1]
  refine va_sld hx hb hX hbl hbA hS (vp_in_nI (n := i + 1) (by omega) (by omega)) dL_law_566 ?_
  rw [nI_clamp (show i + 1 < 2 ^ 31 by omega), e1]
  refine lv_aload_n hx hb dL_law_567 rfl (lv_at hl 4 rfl) ?_
  refine lv_iload hx hb dL_law_568 (lv_at hl 0 rfl) ?_
  refine lv_iconst (v := 2) hx hb dL_law_570 (by decide) ?_
  refine lv_iadd hx hb dL_law_571 ?_
  rw [show nI i + 2 = nI (i + 2) from nI_add i 2]
  refine va_sld hx hb hX hbl hbA hS (vp_in_nI (n := i + 2) (by omega) (by omega)) dL_law_572 ?_
  rw [nI_clamp (show i + 2 < 2 ^ 31 by omega), e2]
  refine lv_aload_n hx hb dL_law_573 rfl (lv_at hl 4 rfl) ?_
  refine lv_iload hx hb dL_law_574 (lv_at hl 0 rfl) ?_
  refine lv_iconst (v := 3) hx hb dL_law_576 (by decide) ?_
  refine lv_iadd hx hb dL_law_577 ?_
  rw [show nI i + 3 = nI (i + 3) from nI_add i 3]
  refine va_sld hx hb hX hbl hbA hS (vp_in_nI (n := i + 3) (by omega) (by omega)) dL_law_578 ?_
  rw [nI_clamp (show i + 3 < 2 ^ 31 by omega), e3]
  refine lv_i2l (v := v3.toInt64) hx hb dL_law_579 rfl ?_
  refine lv_bipush (v := 32) hx hb dL_law_580 (by decide) ?_
  refine lv_lshl (v := (v3.toInt64 <<< ((32 : Int32).toInt64 &&& 63))) hx hb dL_law_582 rfl ?_
  refine lv_aload_n hx hb dL_law_583 rfl (lv_at hl 4 rfl) ?_
  refine lv_iload hx hb dL_law_584 (lv_at hl 0 rfl) ?_
  refine lv_iconst (v := 4) hx hb dL_law_586 (by decide) ?_
  refine lv_iadd hx hb dL_law_587 ?_
  rw [show nI i + 4 = nI (i + 4) from nI_add i 4]
  refine va_sld hx hb hX hbl hbA hS (vp_in_nI (n := i + 4) (by omega) (by omega)) dL_law_588 ?_
  rw [nI_clamp (show i + 4 < 2 ^ 31 by omega), e4]
  refine lv_i2l (v := v4.toInt64) hx hb dL_law_589 rfl ?_
  refine lv_ldc2 (v := 4294967295) hx hb hown (hts (.constantLong RL 19 4294967295) (by decide +kernel)) dL_law_590 ?_
  refine lv_land hx hb dL_law_593 ?_
  refine lv_lor hx hb dL_law_594 ?_
  exact kk

set_option maxHeartbeats 4000000 in
set_option maxRecDepth 100000 in
theorem lb_6 {p : Program} {l : Launch} {e : Env} {s : State} {m : MethodId} {below : List Frame} {meth : Method} {c : Code} {b L : Nat} {xs : Nat → Int32} (C0 : lw_At p s m meth c b L xs) (hL : L ≤ 3584) {i : Nat} (hi : i + 7 ≤ L) {x0 o k0 : Nat} {r0 : Value} {H : Heap} {locs : List Loc} {ls : Array Slot} {cells slots : Nat} {Q : State → Prop} (hS : va_S (fun q : Nat => s.heap.size ≤ q) s.heap H locs) (hl : lv_has ls 8 [(4, .int (nI i)), (3, .ref o), (2, .ref k0), (1, .ref x0), (0, .ref b)]) {v1 v2 v3 v4 : Int32} (e1 : xs (i + 1) = v1) (e2 : xs (i + 2) = v2) (e3 : xs (i + 3) = v3) (e4 : xs (i + 4) = v4) (kk : W p l e room_1 s m #[Value.ref b] below meth c H locs cells slots Q (F0 m 633 ls [.long (lg2 v3 v4), .int v2, .int v1, .ref k0, r0])) : W p l e room_1 s m #[Value.ref b] below meth c H locs cells slots Q (F0 m 598 ls [r0]) := by
  obtain ⟨hx, hb, hr, hml, hown, hts0, hX, hbl, hlocks, hgv⟩ := C0
  have hts : ∀ w ∈ wsL_law, w.before #[Value.ref b] s = true := fun w h => hts0 w (wsL_law_in w h)
  have hbA : ¬ (fun q : Nat => s.heap.size ≤ q) b := Nat.not_le.mpr hbl
  refine lv_aload_n hx hb dL_law_598 rfl (lv_at hl 2 rfl) ?_
  refine lv_aload_n hx hb dL_law_599 rfl (lv_at hl 4 rfl) ?_
  refine lv_iload hx hb dL_law_600 (lv_at hl 0 rfl) ?_
  refine lv_iconst (v := 1) hx hb dL_law_602 (by decide) ?_
  refine lv_iadd hx hb dL_law_603 ?_
  rw [show nI i + 1 = nI (i + 1) from nI_add i 1]
  refine va_sld hx hb hX hbl hbA hS (vp_in_nI (n := i + 1) (by omega) (by omega)) dL_law_604 ?_
  rw [nI_clamp (show i + 1 < 2 ^ 31 by omega), e1]
  refine lv_aload_n hx hb dL_law_605 rfl (lv_at hl 4 rfl) ?_
  refine lv_iload hx hb dL_law_606 (lv_at hl 0 rfl) ?_
  refine lv_iconst (v := 2) hx hb dL_law_608 (by decide) ?_
  refine lv_iadd hx hb dL_law_609 ?_
  rw [show nI i + 2 = nI (i + 2) from nI_add i 2]
  refine va_sld hx hb hX hbl hbA hS (vp_in_nI (n := i + 2) (by omega) (by omega)) dL_law_610 ?_
  rw [nI_clamp (show i + 2 < 2 ^ 31 by omega), e2]
  refine lv_aload_n hx hb dL_law_611 rfl (lv_at hl 4 rfl) ?_
  refine lv_iload hx hb dL_law_612 (lv_at hl 0 rfl) ?_
  refine lv_iconst (v := 3) hx hb dL_law_614 (by decide) ?_
  refine lv_iadd hx hb dL_law_615 ?_
  rw [show nI i + 3 = nI (i + 3) from nI_add i 3]
  refine va_sld hx hb hX hbl hbA hS (vp_in_nI (n := i + 3) (by omega) (by omega)) dL_law_616 ?_
  rw [nI_clamp (show i + 3 < 2 ^ 31 by omega), e3]
  refine lv_i2l (v := v3.toInt64) hx hb dL_law_617 rfl ?_
  refine lv_bipush (v := 32) hx hb dL_law_618 (by decide) ?_
  refine lv_lshl (v := (v3.toInt64 <<< ((32 : Int32).toInt64 &&& 63))) hx hb dL_law_620 rfl ?_
  refine lv_aload_n hx hb dL_law_621 rfl (lv_at hl 4 rfl) ?_
  refine lv_iload hx hb dL_law_622 (lv_at hl 0 rfl) ?_
  refine lv_iconst (v := 4) hx hb dL_law_624 (by decide) ?_
  refine lv_iadd hx hb dL_law_625 ?_
  rw [show nI i + 4 = nI (i + 4) from nI_add i 4]
  refine va_sld hx hb hX hbl hbA hS (vp_in_nI (n := i + 4) (by omega) (by omega)) dL_law_626 ?_
  rw [nI_clamp (show i + 4 < 2 ^ 31 by omega), e4]
  refine lv_i2l (v := v4.toInt64) hx hb dL_law_627 rfl ?_
  refine lv_ldc2 (v := 4294967295) hx hb hown (hts (.constantLong RL 19 4294967295) (by decide +kernel)) dL_law_628 ?_
  refine lv_land hx hb dL_law_631 ?_
  refine lv_lor hx hb dL_law_632 ?_
  exact kk

set_option maxHeartbeats 4000000 in
set_option maxRecDepth 100000 in
theorem la_7 {p : Program} {l : Launch} {e : Env} {s : State} {m : MethodId} {below : List Frame} {meth : Method} {c : Code} {b L : Nat} {xs : Nat → Int32} (C0 : lw_At p s m meth c b L xs) (hL : L ≤ 3584) {i : Nat} (hi : i + 7 ≤ L) {x0 o k0 : Nat} {H : Heap} {locs : List Loc} {ls : Array Slot} {cells slots : Nat} {Q : State → Prop} (hS : va_S (fun q : Nat => s.heap.size ≤ q) s.heap H locs) (hl : lv_has ls 8 [(4, .int (nI i)), (3, .ref o), (2, .ref k0), (1, .ref x0), (0, .ref b)]) {v1 v2 v3 : Int32} (e1 : xs (i + 1) = v1) (e2 : xs (i + 2) = v2) (e3 : xs (i + 3) = v3) (kk : W p l e room_1 s m #[Value.ref b] below meth c H locs cells slots Q (F0 m 668 ls [.int (if v3 = 0 then 0 else 1), .int v2, .int v1, .ref x0])) : W p l e room_1 s m #[Value.ref b] below meth c H locs cells slots Q (F0 m 641 ls []) := by
  obtain ⟨hx, hb, hr, hml, hown, hts0, hX, hbl, hlocks, hgv⟩ := C0
  have hts : ∀ w ∈ wsL_law, w.before #[Value.ref b] s = true := fun w h => hts0 w (wsL_law_in w h)
  have hbA : ¬ (fun q : Nat => s.heap.size ≤ q) b := Nat.not_le.mpr hbl
  refine lv_aload_n hx hb dL_law_641 rfl (lv_at hl 3 rfl) ?_
  refine lv_aload_n hx hb dL_law_642 rfl (lv_at hl 4 rfl) ?_
  refine lv_iload hx hb dL_law_643 (lv_at hl 0 rfl) ?_
  refine lv_iconst (v := 1) hx hb dL_law_645 (by decide) ?_
  refine lv_iadd hx hb dL_law_646 ?_
  rw [show nI i + 1 = nI (i + 1) from nI_add i 1]
  refine va_sld hx hb hX hbl hbA hS (vp_in_nI (n := i + 1) (by omega) (by omega)) dL_law_647 ?_
  rw [nI_clamp (show i + 1 < 2 ^ 31 by omega), e1]
  refine lv_aload_n hx hb dL_law_648 rfl (lv_at hl 4 rfl) ?_
  refine lv_iload hx hb dL_law_649 (lv_at hl 0 rfl) ?_
  refine lv_iconst (v := 2) hx hb dL_law_651 (by decide) ?_
  refine lv_iadd hx hb dL_law_652 ?_
  rw [show nI i + 2 = nI (i + 2) from nI_add i 2]
  refine va_sld hx hb hX hbl hbA hS (vp_in_nI (n := i + 2) (by omega) (by omega)) dL_law_653 ?_
  rw [nI_clamp (show i + 2 < 2 ^ 31 by omega), e2]
  refine lv_aload_n hx hb dL_law_654 rfl (lv_at hl 4 rfl) ?_
  refine lv_iload hx hb dL_law_655 (lv_at hl 0 rfl) ?_
  refine lv_iconst (v := 3) hx hb dL_law_657 (by decide) ?_
  refine lv_iadd hx hb dL_law_658 ?_
  rw [show nI i + 3 = nI (i + 3) from nI_add i 3]
  refine va_sld hx hb hX hbl hbA hS (vp_in_nI (n := i + 3) (by omega) (by omega)) dL_law_659 ?_
  rw [nI_clamp (show i + 3 < 2 ^ 31 by omega), e3]
  refine lv_if_eq (tgt := 667) hx hb dL_law_660 (by decide) (fun c0 => ?_) (fun c0 => ?_)
  · refine lv_iconst (v := 0) hx hb dL_law_667 (by decide) ?_
    rw [if_pos c0] at kk
    exact kk
  · refine lv_iconst (v := 1) hx hb dL_law_663 (by decide) ?_
    refine lv_goto (tgt := 668) hx hb dL_law_664 (by decide) ?_
    rw [if_neg c0] at kk
    exact kk

set_option maxHeartbeats 4000000 in
set_option maxRecDepth 100000 in
theorem lb_7 {p : Program} {l : Launch} {e : Env} {s : State} {m : MethodId} {below : List Frame} {meth : Method} {c : Code} {b L : Nat} {xs : Nat → Int32} (C0 : lw_At p s m meth c b L xs) (hL : L ≤ 3584) {i : Nat} (hi : i + 7 ≤ L) {x0 o k0 : Nat} {r0 : Value} {H : Heap} {locs : List Loc} {ls : Array Slot} {cells slots : Nat} {Q : State → Prop} (hS : va_S (fun q : Nat => s.heap.size ≤ q) s.heap H locs) (hl : lv_has ls 8 [(4, .int (nI i)), (3, .ref o), (2, .ref k0), (1, .ref x0), (0, .ref b)]) {v1 v2 v3 : Int32} (e1 : xs (i + 1) = v1) (e2 : xs (i + 2) = v2) (e3 : xs (i + 3) = v3) (kk : W p l e room_1 s m #[Value.ref b] below meth c H locs cells slots Q (F0 m 698 ls [.int (if v3 = 0 then 0 else 1), .int v2, .int v1, .ref k0, r0])) : W p l e room_1 s m #[Value.ref b] below meth c H locs cells slots Q (F0 m 671 ls [r0]) := by
  obtain ⟨hx, hb, hr, hml, hown, hts0, hX, hbl, hlocks, hgv⟩ := C0
  have hts : ∀ w ∈ wsL_law, w.before #[Value.ref b] s = true := fun w h => hts0 w (wsL_law_in w h)
  have hbA : ¬ (fun q : Nat => s.heap.size ≤ q) b := Nat.not_le.mpr hbl
  refine lv_aload_n hx hb dL_law_671 rfl (lv_at hl 2 rfl) ?_
  refine lv_aload_n hx hb dL_law_672 rfl (lv_at hl 4 rfl) ?_
  refine lv_iload hx hb dL_law_673 (lv_at hl 0 rfl) ?_
  refine lv_iconst (v := 1) hx hb dL_law_675 (by decide) ?_
  refine lv_iadd hx hb dL_law_676 ?_
  rw [show nI i + 1 = nI (i + 1) from nI_add i 1]
  refine va_sld hx hb hX hbl hbA hS (vp_in_nI (n := i + 1) (by omega) (by omega)) dL_law_677 ?_
  rw [nI_clamp (show i + 1 < 2 ^ 31 by omega), e1]
  refine lv_aload_n hx hb dL_law_678 rfl (lv_at hl 4 rfl) ?_
  refine lv_iload hx hb dL_law_679 (lv_at hl 0 rfl) ?_
  refine lv_iconst (v := 2) hx hb dL_law_681 (by decide) ?_
  refine lv_iadd hx hb dL_law_682 ?_
  rw [show nI i + 2 = nI (i + 2) from nI_add i 2]
  refine va_sld hx hb hX hbl hbA hS (vp_in_nI (n := i + 2) (by omega) (by omega)) dL_law_683 ?_
  rw [nI_clamp (show i + 2 < 2 ^ 31 by omega), e2]
  refine lv_aload_n hx hb dL_law_684 rfl (lv_at hl 4 rfl) ?_
  refine lv_iload hx hb dL_law_685 (lv_at hl 0 rfl) ?_
  refine lv_iconst (v := 3) hx hb dL_law_687 (by decide) ?_
  refine lv_iadd hx hb dL_law_688 ?_
  rw [show nI i + 3 = nI (i + 3) from nI_add i 3]
  refine va_sld hx hb hX hbl hbA hS (vp_in_nI (n := i + 3) (by omega) (by omega)) dL_law_689 ?_
  rw [nI_clamp (show i + 3 < 2 ^ 31 by omega), e3]
  refine lv_if_eq (tgt := 697) hx hb dL_law_690 (by decide) (fun c0 => ?_) (fun c0 => ?_)
  · refine lv_iconst (v := 0) hx hb dL_law_697 (by decide) ?_
    rw [if_pos c0] at kk
    exact kk
  · refine lv_iconst (v := 1) hx hb dL_law_693 (by decide) ?_
    refine lv_goto (tgt := 698) hx hb dL_law_694 (by decide) ?_
    rw [if_neg c0] at kk
    exact kk

set_option maxHeartbeats 4000000 in
set_option maxRecDepth 100000 in
theorem la_8 {p : Program} {l : Launch} {e : Env} {s : State} {m : MethodId} {below : List Frame} {meth : Method} {c : Code} {b L : Nat} {xs : Nat → Int32} (C0 : lw_At p s m meth c b L xs) (hL : L ≤ 3584) {i : Nat} (hi : i + 7 ≤ L) {x0 o k0 : Nat} {H : Heap} {locs : List Loc} {ls : Array Slot} {cells slots : Nat} {Q : State → Prop} (hS : va_S (fun q : Nat => s.heap.size ≤ q) s.heap H locs) (hl : lv_has ls 8 [(4, .int (nI i)), (3, .ref o), (2, .ref k0), (1, .ref x0), (0, .ref b)]) {v1 v2 : Int32} (e1 : xs (i + 1) = v1) (e2 : xs (i + 2) = v2) (kk : W p l e room_1 s m #[Value.ref b] below meth c H locs cells slots Q (F0 m 719 ls [.int v2, .int v1, .ref x0])) : W p l e room_1 s m #[Value.ref b] below meth c H locs cells slots Q (F0 m 706 ls []) := by
  obtain ⟨hx, hb, hr, hml, hown, hts0, hX, hbl, hlocks, hgv⟩ := C0
  have hts : ∀ w ∈ wsL_law, w.before #[Value.ref b] s = true := fun w h => hts0 w (wsL_law_in w h)
  have hbA : ¬ (fun q : Nat => s.heap.size ≤ q) b := Nat.not_le.mpr hbl
  refine lv_aload_n hx hb dL_law_706 rfl (lv_at hl 3 rfl) ?_
  refine lv_aload_n hx hb dL_law_707 rfl (lv_at hl 4 rfl) ?_
  refine lv_iload hx hb dL_law_708 (lv_at hl 0 rfl) ?_
  refine lv_iconst (v := 1) hx hb dL_law_710 (by decide) ?_
  refine lv_iadd hx hb dL_law_711 ?_
  rw [show nI i + 1 = nI (i + 1) from nI_add i 1]
  refine va_sld hx hb hX hbl hbA hS (vp_in_nI (n := i + 1) (by omega) (by omega)) dL_law_712 ?_
  rw [nI_clamp (show i + 1 < 2 ^ 31 by omega), e1]
  refine lv_aload_n hx hb dL_law_713 rfl (lv_at hl 4 rfl) ?_
  refine lv_iload hx hb dL_law_714 (lv_at hl 0 rfl) ?_
  refine lv_iconst (v := 2) hx hb dL_law_716 (by decide) ?_
  refine lv_iadd hx hb dL_law_717 ?_
  rw [show nI i + 2 = nI (i + 2) from nI_add i 2]
  refine va_sld hx hb hX hbl hbA hS (vp_in_nI (n := i + 2) (by omega) (by omega)) dL_law_718 ?_
  rw [nI_clamp (show i + 2 < 2 ^ 31 by omega), e2]
  exact kk

set_option maxHeartbeats 4000000 in
set_option maxRecDepth 100000 in
theorem lb_8 {p : Program} {l : Launch} {e : Env} {s : State} {m : MethodId} {below : List Frame} {meth : Method} {c : Code} {b L : Nat} {xs : Nat → Int32} (C0 : lw_At p s m meth c b L xs) (hL : L ≤ 3584) {i : Nat} (hi : i + 7 ≤ L) {x0 o k0 : Nat} {r0 : Value} {H : Heap} {locs : List Loc} {ls : Array Slot} {cells slots : Nat} {Q : State → Prop} (hS : va_S (fun q : Nat => s.heap.size ≤ q) s.heap H locs) (hl : lv_has ls 8 [(4, .int (nI i)), (3, .ref o), (2, .ref k0), (1, .ref x0), (0, .ref b)]) {v1 v2 : Int32} (e1 : xs (i + 1) = v1) (e2 : xs (i + 2) = v2) (kk : W p l e room_1 s m #[Value.ref b] below meth c H locs cells slots Q (F0 m 735 ls [.int v2, .int v1, .ref k0, r0])) : W p l e room_1 s m #[Value.ref b] below meth c H locs cells slots Q (F0 m 722 ls [r0]) := by
  obtain ⟨hx, hb, hr, hml, hown, hts0, hX, hbl, hlocks, hgv⟩ := C0
  have hts : ∀ w ∈ wsL_law, w.before #[Value.ref b] s = true := fun w h => hts0 w (wsL_law_in w h)
  have hbA : ¬ (fun q : Nat => s.heap.size ≤ q) b := Nat.not_le.mpr hbl
  refine lv_aload_n hx hb dL_law_722 rfl (lv_at hl 2 rfl) ?_
  refine lv_aload_n hx hb dL_law_723 rfl (lv_at hl 4 rfl) ?_
  refine lv_iload hx hb dL_law_724 (lv_at hl 0 rfl) ?_
  refine lv_iconst (v := 1) hx hb dL_law_726 (by decide) ?_
  refine lv_iadd hx hb dL_law_727 ?_
  rw [show nI i + 1 = nI (i + 1) from nI_add i 1]
  refine va_sld hx hb hX hbl hbA hS (vp_in_nI (n := i + 1) (by omega) (by omega)) dL_law_728 ?_
  rw [nI_clamp (show i + 1 < 2 ^ 31 by omega), e1]
  refine lv_aload_n hx hb dL_law_729 rfl (lv_at hl 4 rfl) ?_
  refine lv_iload hx hb dL_law_730 (lv_at hl 0 rfl) ?_
  refine lv_iconst (v := 2) hx hb dL_law_732 (by decide) ?_
  refine lv_iadd hx hb dL_law_733 ?_
  rw [show nI i + 2 = nI (i + 2) from nI_add i 2]
  refine va_sld hx hb hX hbl hbA hS (vp_in_nI (n := i + 2) (by omega) (by omega)) dL_law_734 ?_
  rw [nI_clamp (show i + 2 < 2 ^ 31 by omega), e2]
  exact kk

set_option maxHeartbeats 4000000 in
set_option maxRecDepth 100000 in
theorem la_9 {p : Program} {l : Launch} {e : Env} {s : State} {m : MethodId} {below : List Frame} {meth : Method} {c : Code} {b L : Nat} {xs : Nat → Int32} (C0 : lw_At p s m meth c b L xs) (hL : L ≤ 3584) {i : Nat} (hi : i + 7 ≤ L) {x0 o k0 : Nat} {H : Heap} {locs : List Loc} {ls : Array Slot} {cells slots : Nat} {Q : State → Prop} (hS : va_S (fun q : Nat => s.heap.size ≤ q) s.heap H locs) (hl : lv_has ls 8 [(4, .int (nI i)), (3, .ref o), (2, .ref k0), (1, .ref x0), (0, .ref b)]) {v1 v2 v3 : Int32} (e1 : xs (i + 1) = v1) (e2 : xs (i + 2) = v2) (e3 : xs (i + 3) = v3) (kk : W p l e room_1 s m #[Value.ref b] below meth c H locs cells slots Q (F0 m 762 ls [.int v3, .int v2, .int v1, .ref x0])) : W p l e room_1 s m #[Value.ref b] below meth c H locs cells slots Q (F0 m 743 ls []) := by
  obtain ⟨hx, hb, hr, hml, hown, hts0, hX, hbl, hlocks, hgv⟩ := C0
  have hts : ∀ w ∈ wsL_law, w.before #[Value.ref b] s = true := fun w h => hts0 w (wsL_law_in w h)
  have hbA : ¬ (fun q : Nat => s.heap.size ≤ q) b := Nat.not_le.mpr hbl
  refine lv_aload_n hx hb dL_law_743 rfl (lv_at hl 3 rfl) ?_
  refine lv_aload_n hx hb dL_law_744 rfl (lv_at hl 4 rfl) ?_
  refine lv_iload hx hb dL_law_745 (lv_at hl 0 rfl) ?_
  refine lv_iconst (v := 1) hx hb dL_law_747 (by decide) ?_
  refine lv_iadd hx hb dL_law_748 ?_
  rw [show nI i + 1 = nI (i + 1) from nI_add i 1]
  refine va_sld hx hb hX hbl hbA hS (vp_in_nI (n := i + 1) (by omega) (by omega)) dL_law_749 ?_
  rw [nI_clamp (show i + 1 < 2 ^ 31 by omega), e1]
  refine lv_aload_n hx hb dL_law_750 rfl (lv_at hl 4 rfl) ?_
  refine lv_iload hx hb dL_law_751 (lv_at hl 0 rfl) ?_
  refine lv_iconst (v := 2) hx hb dL_law_753 (by decide) ?_
  refine lv_iadd hx hb dL_law_754 ?_
  rw [show nI i + 2 = nI (i + 2) from nI_add i 2]
  refine va_sld hx hb hX hbl hbA hS (vp_in_nI (n := i + 2) (by omega) (by omega)) dL_law_755 ?_
  rw [nI_clamp (show i + 2 < 2 ^ 31 by omega), e2]
  refine lv_aload_n hx hb dL_law_756 rfl (lv_at hl 4 rfl) ?_
  refine lv_iload hx hb dL_law_757 (lv_at hl 0 rfl) ?_
  refine lv_iconst (v := 3) hx hb dL_law_759 (by decide) ?_
  refine lv_iadd hx hb dL_law_760 ?_
  rw [show nI i + 3 = nI (i + 3) from nI_add i 3]
  refine va_sld hx hb hX hbl hbA hS (vp_in_nI (n := i + 3) (by omega) (by omega)) dL_law_761 ?_
  rw [nI_clamp (show i + 3 < 2 ^ 31 by omega), e3]
  exact kk

set_option maxHeartbeats 4000000 in
set_option maxRecDepth 100000 in
theorem lb_9 {p : Program} {l : Launch} {e : Env} {s : State} {m : MethodId} {below : List Frame} {meth : Method} {c : Code} {b L : Nat} {xs : Nat → Int32} (C0 : lw_At p s m meth c b L xs) (hL : L ≤ 3584) {i : Nat} (hi : i + 7 ≤ L) {x0 o k0 : Nat} {r0 : Value} {H : Heap} {locs : List Loc} {ls : Array Slot} {cells slots : Nat} {Q : State → Prop} (hS : va_S (fun q : Nat => s.heap.size ≤ q) s.heap H locs) (hl : lv_has ls 8 [(4, .int (nI i)), (3, .ref o), (2, .ref k0), (1, .ref x0), (0, .ref b)]) {v1 v2 v3 : Int32} (e1 : xs (i + 1) = v1) (e2 : xs (i + 2) = v2) (e3 : xs (i + 3) = v3) (kk : W p l e room_1 s m #[Value.ref b] below meth c H locs cells slots Q (F0 m 784 ls [.int v3, .int v2, .int v1, .ref k0, r0])) : W p l e room_1 s m #[Value.ref b] below meth c H locs cells slots Q (F0 m 765 ls [r0]) := by
  obtain ⟨hx, hb, hr, hml, hown, hts0, hX, hbl, hlocks, hgv⟩ := C0
  have hts : ∀ w ∈ wsL_law, w.before #[Value.ref b] s = true := fun w h => hts0 w (wsL_law_in w h)
  have hbA : ¬ (fun q : Nat => s.heap.size ≤ q) b := Nat.not_le.mpr hbl
  refine lv_aload_n hx hb dL_law_765 rfl (lv_at hl 2 rfl) ?_
  refine lv_aload_n hx hb dL_law_766 rfl (lv_at hl 4 rfl) ?_
  refine lv_iload hx hb dL_law_767 (lv_at hl 0 rfl) ?_
  refine lv_iconst (v := 1) hx hb dL_law_769 (by decide) ?_
  refine lv_iadd hx hb dL_law_770 ?_
  rw [show nI i + 1 = nI (i + 1) from nI_add i 1]
  refine va_sld hx hb hX hbl hbA hS (vp_in_nI (n := i + 1) (by omega) (by omega)) dL_law_771 ?_
  rw [nI_clamp (show i + 1 < 2 ^ 31 by omega), e1]
  refine lv_aload_n hx hb dL_law_772 rfl (lv_at hl 4 rfl) ?_
  refine lv_iload hx hb dL_law_773 (lv_at hl 0 rfl) ?_
  refine lv_iconst (v := 2) hx hb dL_law_775 (by decide) ?_
  refine lv_iadd hx hb dL_law_776 ?_
  rw [show nI i + 2 = nI (i + 2) from nI_add i 2]
  refine va_sld hx hb hX hbl hbA hS (vp_in_nI (n := i + 2) (by omega) (by omega)) dL_law_777 ?_
  rw [nI_clamp (show i + 2 < 2 ^ 31 by omega), e2]
  refine lv_aload_n hx hb dL_law_778 rfl (lv_at hl 4 rfl) ?_
  refine lv_iload hx hb dL_law_779 (lv_at hl 0 rfl) ?_
  refine lv_iconst (v := 3) hx hb dL_law_781 (by decide) ?_
  refine lv_iadd hx hb dL_law_782 ?_
  rw [show nI i + 3 = nI (i + 3) from nI_add i 3]
  refine va_sld hx hb hX hbl hbA hS (vp_in_nI (n := i + 3) (by omega) (by omega)) dL_law_783 ?_
  rw [nI_clamp (show i + 3 < 2 ^ 31 by omega), e3]
  exact kk

set_option maxHeartbeats 4000000 in
set_option maxRecDepth 100000 in
theorem la_10 {p : Program} {l : Launch} {e : Env} {s : State} {m : MethodId} {below : List Frame} {meth : Method} {c : Code} {b L : Nat} {xs : Nat → Int32} (C0 : lw_At p s m meth c b L xs) (hL : L ≤ 3584) {i : Nat} (hi : i + 7 ≤ L) {x0 o k0 : Nat} {H : Heap} {locs : List Loc} {ls : Array Slot} {cells slots : Nat} {Q : State → Prop} (hS : va_S (fun q : Nat => s.heap.size ≤ q) s.heap H locs) (hl : lv_has ls 8 [(4, .int (nI i)), (3, .ref o), (2, .ref k0), (1, .ref x0), (0, .ref b)]) {v1 v2 v3 : Int32} (e1 : xs (i + 1) = v1) (e2 : xs (i + 2) = v2) (e3 : xs (i + 3) = v3) (kk : W p l e room_1 s m #[Value.ref b] below meth c H locs cells slots Q (F0 m 821 ls [.long (lg2 v2 v3), .int v1, .ref x0])) : W p l e room_1 s m #[Value.ref b] below meth c H locs cells slots Q (F0 m 792 ls []) := by
  obtain ⟨hx, hb, hr, hml, hown, hts0, hX, hbl, hlocks, hgv⟩ := C0
  have hts : ∀ w ∈ wsL_law, w.before #[Value.ref b] s = true := fun w h => hts0 w (wsL_law_in w h)
  have hbA : ¬ (fun q : Nat => s.heap.size ≤ q) b := Nat.not_le.mpr hbl
  refine lv_aload_n hx hb dL_law_792 rfl (lv_at hl 3 rfl) ?_
  refine lv_aload_n hx hb dL_law_793 rfl (lv_at hl 4 rfl) ?_
  refine lv_iload hx hb dL_law_794 (lv_at hl 0 rfl) ?_
  refine lv_iconst (v := 1) hx hb dL_law_796 (by decide) ?_
  refine lv_iadd hx hb dL_law_797 ?_
  rw [show nI i + 1 = nI (i + 1) from nI_add i 1]
  refine va_sld hx hb hX hbl hbA hS (vp_in_nI (n := i + 1) (by omega) (by omega)) dL_law_798 ?_
  rw [nI_clamp (show i + 1 < 2 ^ 31 by omega), e1]
  refine lv_aload_n hx hb dL_law_799 rfl (lv_at hl 4 rfl) ?_
  refine lv_iload hx hb dL_law_800 (lv_at hl 0 rfl) ?_
  refine lv_iconst (v := 2) hx hb dL_law_802 (by decide) ?_
  refine lv_iadd hx hb dL_law_803 ?_
  rw [show nI i + 2 = nI (i + 2) from nI_add i 2]
  refine va_sld hx hb hX hbl hbA hS (vp_in_nI (n := i + 2) (by omega) (by omega)) dL_law_804 ?_
  rw [nI_clamp (show i + 2 < 2 ^ 31 by omega), e2]
  refine lv_i2l (v := v2.toInt64) hx hb dL_law_805 rfl ?_
  refine lv_bipush (v := 32) hx hb dL_law_806 (by decide) ?_
  refine lv_lshl (v := (v2.toInt64 <<< ((32 : Int32).toInt64 &&& 63))) hx hb dL_law_808 rfl ?_
  refine lv_aload_n hx hb dL_law_809 rfl (lv_at hl 4 rfl) ?_
  refine lv_iload hx hb dL_law_810 (lv_at hl 0 rfl) ?_
  refine lv_iconst (v := 3) hx hb dL_law_812 (by decide) ?_
  refine lv_iadd hx hb dL_law_813 ?_
  rw [show nI i + 3 = nI (i + 3) from nI_add i 3]
  refine va_sld hx hb hX hbl hbA hS (vp_in_nI (n := i + 3) (by omega) (by omega)) dL_law_814 ?_
  rw [nI_clamp (show i + 3 < 2 ^ 31 by omega), e3]
  refine lv_i2l (v := v3.toInt64) hx hb dL_law_815 rfl ?_
  refine lv_ldc2 (v := 4294967295) hx hb hown (hts (.constantLong RL 19 4294967295) (by decide +kernel)) dL_law_816 ?_
  refine lv_land hx hb dL_law_819 ?_
  refine lv_lor hx hb dL_law_820 ?_
  exact kk

set_option maxHeartbeats 4000000 in
set_option maxRecDepth 100000 in
theorem lb_10 {p : Program} {l : Launch} {e : Env} {s : State} {m : MethodId} {below : List Frame} {meth : Method} {c : Code} {b L : Nat} {xs : Nat → Int32} (C0 : lw_At p s m meth c b L xs) (hL : L ≤ 3584) {i : Nat} (hi : i + 7 ≤ L) {x0 o k0 : Nat} {r0 : Value} {H : Heap} {locs : List Loc} {ls : Array Slot} {cells slots : Nat} {Q : State → Prop} (hS : va_S (fun q : Nat => s.heap.size ≤ q) s.heap H locs) (hl : lv_has ls 8 [(4, .int (nI i)), (3, .ref o), (2, .ref k0), (1, .ref x0), (0, .ref b)]) {v1 v2 v3 : Int32} (e1 : xs (i + 1) = v1) (e2 : xs (i + 2) = v2) (e3 : xs (i + 3) = v3) (kk : W p l e room_1 s m #[Value.ref b] below meth c H locs cells slots Q (F0 m 853 ls [.long (lg2 v2 v3), .int v1, .ref k0, r0])) : W p l e room_1 s m #[Value.ref b] below meth c H locs cells slots Q (F0 m 824 ls [r0]) := by
  obtain ⟨hx, hb, hr, hml, hown, hts0, hX, hbl, hlocks, hgv⟩ := C0
  have hts : ∀ w ∈ wsL_law, w.before #[Value.ref b] s = true := fun w h => hts0 w (wsL_law_in w h)
  have hbA : ¬ (fun q : Nat => s.heap.size ≤ q) b := Nat.not_le.mpr hbl
  refine lv_aload_n hx hb dL_law_824 rfl (lv_at hl 2 rfl) ?_
  refine lv_aload_n hx hb dL_law_825 rfl (lv_at hl 4 rfl) ?_
  refine lv_iload hx hb dL_law_826 (lv_at hl 0 rfl) ?_
  refine lv_iconst (v := 1) hx hb dL_law_828 (by decide) ?_
  refine lv_iadd hx hb dL_law_829 ?_
  rw [show nI i + 1 = nI (i + 1) from nI_add i 1]
  refine va_sld hx hb hX hbl hbA hS (vp_in_nI (n := i + 1) (by omega) (by omega)) dL_law_830 ?_
  rw [nI_clamp (show i + 1 < 2 ^ 31 by omega), e1]
  refine lv_aload_n hx hb dL_law_831 rfl (lv_at hl 4 rfl) ?_
  refine lv_iload hx hb dL_law_832 (lv_at hl 0 rfl) ?_
  refine lv_iconst (v := 2) hx hb dL_law_834 (by decide) ?_
  refine lv_iadd hx hb dL_law_835 ?_
  rw [show nI i + 2 = nI (i + 2) from nI_add i 2]
  refine va_sld hx hb hX hbl hbA hS (vp_in_nI (n := i + 2) (by omega) (by omega)) dL_law_836 ?_
  rw [nI_clamp (show i + 2 < 2 ^ 31 by omega), e2]
  refine lv_i2l (v := v2.toInt64) hx hb dL_law_837 rfl ?_
  refine lv_bipush (v := 32) hx hb dL_law_838 (by decide) ?_
  refine lv_lshl (v := (v2.toInt64 <<< ((32 : Int32).toInt64 &&& 63))) hx hb dL_law_840 rfl ?_
  refine lv_aload_n hx hb dL_law_841 rfl (lv_at hl 4 rfl) ?_
  refine lv_iload hx hb dL_law_842 (lv_at hl 0 rfl) ?_
  refine lv_iconst (v := 3) hx hb dL_law_844 (by decide) ?_
  refine lv_iadd hx hb dL_law_845 ?_
  rw [show nI i + 3 = nI (i + 3) from nI_add i 3]
  refine va_sld hx hb hX hbl hbA hS (vp_in_nI (n := i + 3) (by omega) (by omega)) dL_law_846 ?_
  rw [nI_clamp (show i + 3 < 2 ^ 31 by omega), e3]
  refine lv_i2l (v := v3.toInt64) hx hb dL_law_847 rfl ?_
  refine lv_ldc2 (v := 4294967295) hx hb hown (hts (.constantLong RL 19 4294967295) (by decide +kernel)) dL_law_848 ?_
  refine lv_land hx hb dL_law_851 ?_
  refine lv_lor hx hb dL_law_852 ?_
  exact kk

set_option maxHeartbeats 4000000 in
set_option maxRecDepth 100000 in
theorem la_11 {p : Program} {l : Launch} {e : Env} {s : State} {m : MethodId} {below : List Frame} {meth : Method} {c : Code} {b L : Nat} {xs : Nat → Int32} (C0 : lw_At p s m meth c b L xs) (hL : L ≤ 3584) {i : Nat} (hi : i + 7 ≤ L) {x0 o k0 : Nat} {H : Heap} {locs : List Loc} {ls : Array Slot} {cells slots : Nat} {Q : State → Prop} (hS : va_S (fun q : Nat => s.heap.size ≤ q) s.heap H locs) (hl : lv_has ls 8 [(4, .int (nI i)), (3, .ref o), (2, .ref k0), (1, .ref x0), (0, .ref b)]) {v1 v2 v3 : Int32} (e1 : xs (i + 1) = v1) (e2 : xs (i + 2) = v2) (e3 : xs (i + 3) = v3) (kk : W p l e room_1 s m #[Value.ref b] below meth c H locs cells slots Q (F0 m 891 ls [.long (lg2 v2 v3), .int v1, .ref x0])) : W p l e room_1 s m #[Value.ref b] below meth c H locs cells slots Q (F0 m 862 ls []) := by
  obtain ⟨hx, hb, hr, hml, hown, hts0, hX, hbl, hlocks, hgv⟩ := C0
  have hts : ∀ w ∈ wsL_law, w.before #[Value.ref b] s = true := fun w h => hts0 w (wsL_law_in w h)
  have hbA : ¬ (fun q : Nat => s.heap.size ≤ q) b := Nat.not_le.mpr hbl
  refine lv_aload_n hx hb dL_law_862 rfl (lv_at hl 3 rfl) ?_
  refine lv_aload_n hx hb dL_law_863 rfl (lv_at hl 4 rfl) ?_
  refine lv_iload hx hb dL_law_864 (lv_at hl 0 rfl) ?_
  refine lv_iconst (v := 1) hx hb dL_law_866 (by decide) ?_
  refine lv_iadd hx hb dL_law_867 ?_
  rw [show nI i + 1 = nI (i + 1) from nI_add i 1]
  refine va_sld hx hb hX hbl hbA hS (vp_in_nI (n := i + 1) (by omega) (by omega)) dL_law_868 ?_
  rw [nI_clamp (show i + 1 < 2 ^ 31 by omega), e1]
  refine lv_aload_n hx hb dL_law_869 rfl (lv_at hl 4 rfl) ?_
  refine lv_iload hx hb dL_law_870 (lv_at hl 0 rfl) ?_
  refine lv_iconst (v := 2) hx hb dL_law_872 (by decide) ?_
  refine lv_iadd hx hb dL_law_873 ?_
  rw [show nI i + 2 = nI (i + 2) from nI_add i 2]
  refine va_sld hx hb hX hbl hbA hS (vp_in_nI (n := i + 2) (by omega) (by omega)) dL_law_874 ?_
  rw [nI_clamp (show i + 2 < 2 ^ 31 by omega), e2]
  refine lv_i2l (v := v2.toInt64) hx hb dL_law_875 rfl ?_
  refine lv_bipush (v := 32) hx hb dL_law_876 (by decide) ?_
  refine lv_lshl (v := (v2.toInt64 <<< ((32 : Int32).toInt64 &&& 63))) hx hb dL_law_878 rfl ?_
  refine lv_aload_n hx hb dL_law_879 rfl (lv_at hl 4 rfl) ?_
  refine lv_iload hx hb dL_law_880 (lv_at hl 0 rfl) ?_
  refine lv_iconst (v := 3) hx hb dL_law_882 (by decide) ?_
  refine lv_iadd hx hb dL_law_883 ?_
  rw [show nI i + 3 = nI (i + 3) from nI_add i 3]
  refine va_sld hx hb hX hbl hbA hS (vp_in_nI (n := i + 3) (by omega) (by omega)) dL_law_884 ?_
  rw [nI_clamp (show i + 3 < 2 ^ 31 by omega), e3]
  refine lv_i2l (v := v3.toInt64) hx hb dL_law_885 rfl ?_
  refine lv_ldc2 (v := 4294967295) hx hb hown (hts (.constantLong RL 19 4294967295) (by decide +kernel)) dL_law_886 ?_
  refine lv_land hx hb dL_law_889 ?_
  refine lv_lor hx hb dL_law_890 ?_
  exact kk

set_option maxHeartbeats 4000000 in
set_option maxRecDepth 100000 in
theorem lb_11 {p : Program} {l : Launch} {e : Env} {s : State} {m : MethodId} {below : List Frame} {meth : Method} {c : Code} {b L : Nat} {xs : Nat → Int32} (C0 : lw_At p s m meth c b L xs) (hL : L ≤ 3584) {i : Nat} (hi : i + 7 ≤ L) {x0 o k0 : Nat} {r0 : Value} {H : Heap} {locs : List Loc} {ls : Array Slot} {cells slots : Nat} {Q : State → Prop} (hS : va_S (fun q : Nat => s.heap.size ≤ q) s.heap H locs) (hl : lv_has ls 8 [(4, .int (nI i)), (3, .ref o), (2, .ref k0), (1, .ref x0), (0, .ref b)]) {v1 v2 v3 : Int32} (e1 : xs (i + 1) = v1) (e2 : xs (i + 2) = v2) (e3 : xs (i + 3) = v3) (kk : W p l e room_1 s m #[Value.ref b] below meth c H locs cells slots Q (F0 m 923 ls [.long (lg2 v2 v3), .int v1, .ref k0, r0])) : W p l e room_1 s m #[Value.ref b] below meth c H locs cells slots Q (F0 m 894 ls [r0]) := by
  obtain ⟨hx, hb, hr, hml, hown, hts0, hX, hbl, hlocks, hgv⟩ := C0
  have hts : ∀ w ∈ wsL_law, w.before #[Value.ref b] s = true := fun w h => hts0 w (wsL_law_in w h)
  have hbA : ¬ (fun q : Nat => s.heap.size ≤ q) b := Nat.not_le.mpr hbl
  refine lv_aload_n hx hb dL_law_894 rfl (lv_at hl 2 rfl) ?_
  refine lv_aload_n hx hb dL_law_895 rfl (lv_at hl 4 rfl) ?_
  refine lv_iload hx hb dL_law_896 (lv_at hl 0 rfl) ?_
  refine lv_iconst (v := 1) hx hb dL_law_898 (by decide) ?_
  refine lv_iadd hx hb dL_law_899 ?_
  rw [show nI i + 1 = nI (i + 1) from nI_add i 1]
  refine va_sld hx hb hX hbl hbA hS (vp_in_nI (n := i + 1) (by omega) (by omega)) dL_law_900 ?_
  rw [nI_clamp (show i + 1 < 2 ^ 31 by omega), e1]
  refine lv_aload_n hx hb dL_law_901 rfl (lv_at hl 4 rfl) ?_
  refine lv_iload hx hb dL_law_902 (lv_at hl 0 rfl) ?_
  refine lv_iconst (v := 2) hx hb dL_law_904 (by decide) ?_
  refine lv_iadd hx hb dL_law_905 ?_
  rw [show nI i + 2 = nI (i + 2) from nI_add i 2]
  refine va_sld hx hb hX hbl hbA hS (vp_in_nI (n := i + 2) (by omega) (by omega)) dL_law_906 ?_
  rw [nI_clamp (show i + 2 < 2 ^ 31 by omega), e2]
  refine lv_i2l (v := v2.toInt64) hx hb dL_law_907 rfl ?_
  refine lv_bipush (v := 32) hx hb dL_law_908 (by decide) ?_
  refine lv_lshl (v := (v2.toInt64 <<< ((32 : Int32).toInt64 &&& 63))) hx hb dL_law_910 rfl ?_
  refine lv_aload_n hx hb dL_law_911 rfl (lv_at hl 4 rfl) ?_
  refine lv_iload hx hb dL_law_912 (lv_at hl 0 rfl) ?_
  refine lv_iconst (v := 3) hx hb dL_law_914 (by decide) ?_
  refine lv_iadd hx hb dL_law_915 ?_
  rw [show nI i + 3 = nI (i + 3) from nI_add i 3]
  refine va_sld hx hb hX hbl hbA hS (vp_in_nI (n := i + 3) (by omega) (by omega)) dL_law_916 ?_
  rw [nI_clamp (show i + 3 < 2 ^ 31 by omega), e3]
  refine lv_i2l (v := v3.toInt64) hx hb dL_law_917 rfl ?_
  refine lv_ldc2 (v := 4294967295) hx hb hown (hts (.constantLong RL 19 4294967295) (by decide +kernel)) dL_law_918 ?_
  refine lv_land hx hb dL_law_921 ?_
  refine lv_lor hx hb dL_law_922 ?_
  exact kk

set_option maxHeartbeats 4000000 in
set_option maxRecDepth 100000 in
theorem la_12 {p : Program} {l : Launch} {e : Env} {s : State} {m : MethodId} {below : List Frame} {meth : Method} {c : Code} {b L : Nat} {xs : Nat → Int32} (C0 : lw_At p s m meth c b L xs) (hL : L ≤ 3584) {i : Nat} (hi : i + 7 ≤ L) {x0 o k0 : Nat} {H : Heap} {locs : List Loc} {ls : Array Slot} {cells slots : Nat} {Q : State → Prop} (hS : va_S (fun q : Nat => s.heap.size ≤ q) s.heap H locs) (hl : lv_has ls 8 [(4, .int (nI i)), (3, .ref o), (2, .ref k0), (1, .ref x0), (0, .ref b)]) {v1 v2 : Int32} (e1 : xs (i + 1) = v1) (e2 : xs (i + 2) = v2) (kk : W p l e room_1 s m #[Value.ref b] below meth c H locs cells slots Q (F0 m 944 ls [.int v2, .int v1, .ref x0])) : W p l e room_1 s m #[Value.ref b] below meth c H locs cells slots Q (F0 m 931 ls []) := by
  obtain ⟨hx, hb, hr, hml, hown, hts0, hX, hbl, hlocks, hgv⟩ := C0
  have hts : ∀ w ∈ wsL_law, w.before #[Value.ref b] s = true := fun w h => hts0 w (wsL_law_in w h)
  have hbA : ¬ (fun q : Nat => s.heap.size ≤ q) b := Nat.not_le.mpr hbl
  refine lv_aload_n hx hb dL_law_931 rfl (lv_at hl 3 rfl) ?_
  refine lv_aload_n hx hb dL_law_932 rfl (lv_at hl 4 rfl) ?_
  refine lv_iload hx hb dL_law_933 (lv_at hl 0 rfl) ?_
  refine lv_iconst (v := 1) hx hb dL_law_935 (by decide) ?_
  refine lv_iadd hx hb dL_law_936 ?_
  rw [show nI i + 1 = nI (i + 1) from nI_add i 1]
  refine va_sld hx hb hX hbl hbA hS (vp_in_nI (n := i + 1) (by omega) (by omega)) dL_law_937 ?_
  rw [nI_clamp (show i + 1 < 2 ^ 31 by omega), e1]
  refine lv_aload_n hx hb dL_law_938 rfl (lv_at hl 4 rfl) ?_
  refine lv_iload hx hb dL_law_939 (lv_at hl 0 rfl) ?_
  refine lv_iconst (v := 2) hx hb dL_law_941 (by decide) ?_
  refine lv_iadd hx hb dL_law_942 ?_
  rw [show nI i + 2 = nI (i + 2) from nI_add i 2]
  refine va_sld hx hb hX hbl hbA hS (vp_in_nI (n := i + 2) (by omega) (by omega)) dL_law_943 ?_
  rw [nI_clamp (show i + 2 < 2 ^ 31 by omega), e2]
  exact kk

set_option maxHeartbeats 4000000 in
set_option maxRecDepth 100000 in
theorem lb_12 {p : Program} {l : Launch} {e : Env} {s : State} {m : MethodId} {below : List Frame} {meth : Method} {c : Code} {b L : Nat} {xs : Nat → Int32} (C0 : lw_At p s m meth c b L xs) (hL : L ≤ 3584) {i : Nat} (hi : i + 7 ≤ L) {x0 o k0 : Nat} {r0 : Value} {H : Heap} {locs : List Loc} {ls : Array Slot} {cells slots : Nat} {Q : State → Prop} (hS : va_S (fun q : Nat => s.heap.size ≤ q) s.heap H locs) (hl : lv_has ls 8 [(4, .int (nI i)), (3, .ref o), (2, .ref k0), (1, .ref x0), (0, .ref b)]) {v1 v2 : Int32} (e1 : xs (i + 1) = v1) (e2 : xs (i + 2) = v2) (kk : W p l e room_1 s m #[Value.ref b] below meth c H locs cells slots Q (F0 m 960 ls [.int v2, .int v1, .ref k0, r0])) : W p l e room_1 s m #[Value.ref b] below meth c H locs cells slots Q (F0 m 947 ls [r0]) := by
  obtain ⟨hx, hb, hr, hml, hown, hts0, hX, hbl, hlocks, hgv⟩ := C0
  have hts : ∀ w ∈ wsL_law, w.before #[Value.ref b] s = true := fun w h => hts0 w (wsL_law_in w h)
  have hbA : ¬ (fun q : Nat => s.heap.size ≤ q) b := Nat.not_le.mpr hbl
  refine lv_aload_n hx hb dL_law_947 rfl (lv_at hl 2 rfl) ?_
  refine lv_aload_n hx hb dL_law_948 rfl (lv_at hl 4 rfl) ?_
  refine lv_iload hx hb dL_law_949 (lv_at hl 0 rfl) ?_
  refine lv_iconst (v := 1) hx hb dL_law_951 (by decide) ?_
  refine lv_iadd hx hb dL_law_952 ?_
  rw [show nI i + 1 = nI (i + 1) from nI_add i 1]
  refine va_sld hx hb hX hbl hbA hS (vp_in_nI (n := i + 1) (by omega) (by omega)) dL_law_953 ?_
  rw [nI_clamp (show i + 1 < 2 ^ 31 by omega), e1]
  refine lv_aload_n hx hb dL_law_954 rfl (lv_at hl 4 rfl) ?_
  refine lv_iload hx hb dL_law_955 (lv_at hl 0 rfl) ?_
  refine lv_iconst (v := 2) hx hb dL_law_957 (by decide) ?_
  refine lv_iadd hx hb dL_law_958 ?_
  rw [show nI i + 2 = nI (i + 2) from nI_add i 2]
  refine va_sld hx hb hX hbl hbA hS (vp_in_nI (n := i + 2) (by omega) (by omega)) dL_law_959 ?_
  rw [nI_clamp (show i + 2 < 2 ^ 31 by omega), e2]
  exact kk
