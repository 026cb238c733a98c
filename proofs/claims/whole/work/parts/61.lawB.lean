/-! ===== the law: its cases ===== -/
set_option maxHeartbeats 4000000 in
set_option maxRecDepth 100000 in
theorem lc_of {E : EV} {X : CX} (hX : Cx E X RL code 4 ret wsL_law room_1) {ad : AD} {b L i : Nat} {xs : Nat → Int32} (hL : L ≤ 3072) (hXs : va_X b L xs X.2.2.2.2.1 X.2.2.2.2.1.heap) (hbl : b < X.2.2.2.2.1.heap.size) (hbA : ¬ X.2.2.2.2.2.2.2.2.2.2.2 b) (hi : i + 6 ≤ L) {w3 w4 : va_W} (hI : INV E ad w3 w4) (kont : ∀ u3 u4, INV E ad u3 u4 → GN 600000 7302250 E X 4 1221 [(3, .int (nI i)), (2, .ref (ad 6 0)), (1, .ref (ad 0 0)), (0, .ref b)] [] (u3 ++ u4)) : GN 600000 7302250 E X 4 192 [(3, .int (nI i)), (2, .ref (ad 6 0)), (1, .ref (ad 0 0)), (0, .ref b)] [] (w3 ++ w4) := by
  obtain ⟨r, u3, u4, h3, h4, hJ⟩ := t_of (l := X.2.1) hI (xs (i + 1)) (xs (i + 2))
  obtain ⟨f3, e3⟩ := hI.h3
  obtain ⟨f4, e4⟩ := hI.h4
  refine GN.aload_n hX 2 rfl dL_law_192 ?_
  refine GN.aload_n hX 3 rfl dL_law_193 ?_
  refine GN.iload_n hX 0 rfl dL_law_194 ?_
  refine GN.iconst hX (v := 1) (by decide) dL_law_195 ?_
  refine GN.iadd hX dL_law_196 ?_
  refine GN.ie (y := nI (i + 1)) (nI_add i 1) ?_
  refine GN.sld hX (j := i + 1) hXs hbl hbA (by omega) (by omega) dL_law_197 ?_
  refine GN.aload_n hX 3 rfl dL_law_198 ?_
  refine GN.iload_n hX 0 rfl dL_law_199 ?_
  refine GN.iconst hX (v := 2) (by decide) dL_law_200 ?_
  refine GN.iadd hX dL_law_201 ?_
  refine GN.ie (y := nI (i + 2)) (nI_add i 2) ?_
  refine GN.sld hX (j := i + 2) hXs hbl hbA (by omega) (by omega) dL_law_202 ?_
  refine GN.vi hX (As := [.int (xs (i + 1)), .int (xs (i + 2))]) (st := []) (wr := w4) (wf := w4 ++ u3) (q0 := 0) (ci := 3) rfl e3 h3 gL_law_X3_of cp_X3_of ⟨by decide, by decide⟩ (by decide) _ _ _ (cut_app w3 w4 u3) rfl rfl (Nat.le_of_ble_eq_true rfl) dL_law_203 ?_
  refine GN.aload_n hX 1 rfl dL_law_206 ?_
  refine GN.aload_n hX 3 rfl dL_law_207 ?_
  refine GN.iload_n hX 0 rfl dL_law_208 ?_
  refine GN.iconst hX (v := 1) (by decide) dL_law_209 ?_
  refine GN.iadd hX dL_law_210 ?_
  refine GN.ie (y := nI (i + 1)) (nI_add i 1) ?_
  refine GN.sld hX (j := i + 1) hXs hbl hbA (by omega) (by omega) dL_law_211 ?_
  refine GN.aload_n hX 3 rfl dL_law_212 ?_
  refine GN.iload_n hX 0 rfl dL_law_213 ?_
  refine GN.iconst hX (v := 2) (by decide) dL_law_214 ?_
  refine GN.iadd hX dL_law_215 ?_
  refine GN.ie (y := nI (i + 2)) (nI_add i 2) ?_
  refine GN.sld hX (j := i + 2) hXs hbl hbA (by omega) (by omega) dL_law_216 ?_
  refine GN.vi hX (As := [.int (xs (i + 1)), .int (xs (i + 2))]) (st := [.int r]) (wr := u3) (wf := u3 ++ u4) (q0 := 0) (ci := 4) rfl e4 h4 gL_law_X4_of cp_X4_of ⟨by decide, by decide⟩ (by decide) _ _ _ (cut_app w4 u3 u4) rfl rfl (Nat.le_of_ble_eq_true rfl) dL_law_217 ?_
  exact GN.icmp_eq hX (tgt := 1221) (by decide) dL_law_220 (fun _ => kont u3 u4 hJ) (fun c => absurd rfl c)
set_option maxHeartbeats 4000000 in
set_option maxRecDepth 100000 in
theorem lc_since {E : EV} {X : CX} (hX : Cx E X RL code 4 ret wsL_law room_1) {ad : AD} {b L i : Nat} {xs : Nat → Int32} (hL : L ≤ 3072) (hXs : va_X b L xs X.2.2.2.2.1 X.2.2.2.2.1.heap) (hbl : b < X.2.2.2.2.1.heap.size) (hbA : ¬ X.2.2.2.2.2.2.2.2.2.2.2 b) (hi : i + 6 ≤ L) {w3 w4 : va_W} (hI : INV E ad w3 w4) (kont : ∀ u3 u4, INV E ad u3 u4 → GN 600000 7302250 E X 4 1221 [(3, .int (nI i)), (2, .ref (ad 6 0)), (1, .ref (ad 0 0)), (0, .ref b)] [] (u3 ++ u4)) : GN 600000 7302250 E X 4 225 [(3, .int (nI i)), (2, .ref (ad 6 0)), (1, .ref (ad 0 0)), (0, .ref b)] [] (w3 ++ w4) := by
  obtain ⟨r, u3, u4, h3, h4, hJ⟩ := t_since (l := X.2.1) hI (xs (i + 1)) (xs (i + 2))
  obtain ⟨f3, e3⟩ := hI.h3
  obtain ⟨f4, e4⟩ := hI.h4
  refine GN.aload_n hX 2 rfl dL_law_225 ?_
  refine GN.aload_n hX 3 rfl dL_law_226 ?_
  refine GN.iload_n hX 0 rfl dL_law_227 ?_
  refine GN.iconst hX (v := 1) (by decide) dL_law_228 ?_
  refine GN.iadd hX dL_law_229 ?_
  refine GN.ie (y := nI (i + 1)) (nI_add i 1) ?_
  refine GN.sld hX (j := i + 1) hXs hbl hbA (by omega) (by omega) dL_law_230 ?_
  refine GN.aload_n hX 3 rfl dL_law_231 ?_
  refine GN.iload_n hX 0 rfl dL_law_232 ?_
  refine GN.iconst hX (v := 2) (by decide) dL_law_233 ?_
  refine GN.iadd hX dL_law_234 ?_
  refine GN.ie (y := nI (i + 2)) (nI_add i 2) ?_
  refine GN.sld hX (j := i + 2) hXs hbl hbA (by omega) (by omega) dL_law_235 ?_
  refine GN.vi hX (As := [.int (xs (i + 1)), .int (xs (i + 2))]) (st := []) (wr := w4) (wf := w4 ++ u3) (q0 := 0) (ci := 3) rfl e3 h3 gL_law_X3_since cp_X3_since ⟨by decide, by decide⟩ (by decide) _ _ _ (cut_app w3 w4 u3) rfl rfl (Nat.le_of_ble_eq_true rfl) dL_law_236 ?_
  refine GN.aload_n hX 1 rfl dL_law_239 ?_
  refine GN.aload_n hX 3 rfl dL_law_240 ?_
  refine GN.iload_n hX 0 rfl dL_law_241 ?_
  refine GN.iconst hX (v := 1) (by decide) dL_law_242 ?_
  refine GN.iadd hX dL_law_243 ?_
  refine GN.ie (y := nI (i + 1)) (nI_add i 1) ?_
  refine GN.sld hX (j := i + 1) hXs hbl hbA (by omega) (by omega) dL_law_244 ?_
  refine GN.aload_n hX 3 rfl dL_law_245 ?_
  refine GN.iload_n hX 0 rfl dL_law_246 ?_
  refine GN.iconst hX (v := 2) (by decide) dL_law_247 ?_
  refine GN.iadd hX dL_law_248 ?_
  refine GN.ie (y := nI (i + 2)) (nI_add i 2) ?_
  refine GN.sld hX (j := i + 2) hXs hbl hbA (by omega) (by omega) dL_law_249 ?_
  refine GN.vi hX (As := [.int (xs (i + 1)), .int (xs (i + 2))]) (st := [.int r]) (wr := u3) (wf := u3 ++ u4) (q0 := 0) (ci := 4) rfl e4 h4 gL_law_X4_since cp_X4_since ⟨by decide, by decide⟩ (by decide) _ _ _ (cut_app w4 u3 u4) rfl rfl (Nat.le_of_ble_eq_true rfl) dL_law_250 ?_
  exact GN.icmp_eq hX (tgt := 1221) (by decide) dL_law_253 (fun _ => kont u3 u4 hJ) (fun c => absurd rfl c)
set_option maxHeartbeats 4000000 in
set_option maxRecDepth 100000 in
theorem lc_plant {E : EV} {X : CX} (hX : Cx E X RL code 4 ret wsL_law room_1) {ad : AD} {b L i : Nat} {xs : Nat → Int32} (hL : L ≤ 3072) (hXs : va_X b L xs X.2.2.2.2.1 X.2.2.2.2.1.heap) (hbl : b < X.2.2.2.2.1.heap.size) (hbA : ¬ X.2.2.2.2.2.2.2.2.2.2.2 b) (hi : i + 6 ≤ L) {w3 w4 : va_W} (hI : INV E ad w3 w4) (kont : ∀ u3 u4, INV E ad u3 u4 → GN 600000 7302250 E X 4 1221 [(3, .int (nI i)), (2, .ref (ad 6 0)), (1, .ref (ad 0 0)), (0, .ref b)] [] (u3 ++ u4)) : GN 600000 7302250 E X 4 258 [(3, .int (nI i)), (2, .ref (ad 6 0)), (1, .ref (ad 0 0)), (0, .ref b)] [] (w3 ++ w4) := by
  obtain ⟨r, u3, u4, h3, h4, hJ⟩ := t_plant (l := X.2.1) hI (xs (i + 1)) (xs (i + 2))
  obtain ⟨f3, e3⟩ := hI.h3
  obtain ⟨f4, e4⟩ := hI.h4
  refine GN.aload_n hX 2 rfl dL_law_258 ?_
  refine GN.aload_n hX 3 rfl dL_law_259 ?_
  refine GN.iload_n hX 0 rfl dL_law_260 ?_
  refine GN.iconst hX (v := 1) (by decide) dL_law_261 ?_
  refine GN.iadd hX dL_law_262 ?_
  refine GN.ie (y := nI (i + 1)) (nI_add i 1) ?_
  refine GN.sld hX (j := i + 1) hXs hbl hbA (by omega) (by omega) dL_law_263 ?_
  refine GN.aload_n hX 3 rfl dL_law_264 ?_
  refine GN.iload_n hX 0 rfl dL_law_265 ?_
  refine GN.iconst hX (v := 2) (by decide) dL_law_266 ?_
  refine GN.iadd hX dL_law_267 ?_
  refine GN.ie (y := nI (i + 2)) (nI_add i 2) ?_
  refine GN.sld hX (j := i + 2) hXs hbl hbA (by omega) (by omega) dL_law_268 ?_
  refine GN.vi hX (As := [.int (xs (i + 1)), .int (xs (i + 2))]) (st := []) (wr := w4) (wf := w4 ++ u3) (q0 := 0) (ci := 3) rfl e3 h3 gL_law_X3_plant cp_X3_plant ⟨by decide, by decide⟩ (by decide) _ _ _ (cut_app w3 w4 u3) rfl rfl (Nat.le_of_ble_eq_true rfl) dL_law_269 ?_
  refine GN.aload_n hX 1 rfl dL_law_272 ?_
  refine GN.aload_n hX 3 rfl dL_law_273 ?_
  refine GN.iload_n hX 0 rfl dL_law_274 ?_
  refine GN.iconst hX (v := 1) (by decide) dL_law_275 ?_
  refine GN.iadd hX dL_law_276 ?_
  refine GN.ie (y := nI (i + 1)) (nI_add i 1) ?_
  refine GN.sld hX (j := i + 1) hXs hbl hbA (by omega) (by omega) dL_law_277 ?_
  refine GN.aload_n hX 3 rfl dL_law_278 ?_
  refine GN.iload_n hX 0 rfl dL_law_279 ?_
  refine GN.iconst hX (v := 2) (by decide) dL_law_280 ?_
  refine GN.iadd hX dL_law_281 ?_
  refine GN.ie (y := nI (i + 2)) (nI_add i 2) ?_
  refine GN.sld hX (j := i + 2) hXs hbl hbA (by omega) (by omega) dL_law_282 ?_
  refine GN.vi hX (As := [.int (xs (i + 1)), .int (xs (i + 2))]) (st := [.int r]) (wr := u3) (wf := u3 ++ u4) (q0 := 0) (ci := 4) rfl e4 h4 gL_law_X4_plant cp_X4_plant ⟨by decide, by decide⟩ (by decide) _ _ _ (cut_app w4 u3 u4) rfl rfl (Nat.le_of_ble_eq_true rfl) dL_law_283 ?_
  exact GN.icmp_eq hX (tgt := 1221) (by decide) dL_law_286 (fun _ => kont u3 u4 hJ) (fun c => absurd rfl c)
set_option maxHeartbeats 4000000 in
set_option maxRecDepth 100000 in
theorem lc_turn {E : EV} {X : CX} (hX : Cx E X RL code 4 ret wsL_law room_1) {ad : AD} {b L i : Nat} {xs : Nat → Int32} (hL : L ≤ 3072) (hXs : va_X b L xs X.2.2.2.2.1 X.2.2.2.2.1.heap) (hbl : b < X.2.2.2.2.1.heap.size) (hbA : ¬ X.2.2.2.2.2.2.2.2.2.2.2 b) (hi : i + 6 ≤ L) {w3 w4 : va_W} (hI : INV E ad w3 w4) (kont : ∀ u3 u4, INV E ad u3 u4 → GN 600000 7302250 E X 4 1221 [(3, .int (nI i)), (2, .ref (ad 6 0)), (1, .ref (ad 0 0)), (0, .ref b)] [] (u3 ++ u4)) : GN 600000 7302250 E X 4 291 [(3, .int (nI i)), (2, .ref (ad 6 0)), (1, .ref (ad 0 0)), (0, .ref b)] [] (w3 ++ w4) := by
  obtain ⟨r, u3, u4, h3, h4, hJ⟩ := t_turn (l := X.2.1) hI (xs (i + 1)) (xs (i + 2))
  obtain ⟨f3, e3⟩ := hI.h3
  obtain ⟨f4, e4⟩ := hI.h4
  refine GN.aload_n hX 2 rfl dL_law_291 ?_
  refine GN.aload_n hX 3 rfl dL_law_292 ?_
  refine GN.iload_n hX 0 rfl dL_law_293 ?_
  refine GN.iconst hX (v := 1) (by decide) dL_law_294 ?_
  refine GN.iadd hX dL_law_295 ?_
  refine GN.ie (y := nI (i + 1)) (nI_add i 1) ?_
  refine GN.sld hX (j := i + 1) hXs hbl hbA (by omega) (by omega) dL_law_296 ?_
  refine GN.aload_n hX 3 rfl dL_law_297 ?_
  refine GN.iload_n hX 0 rfl dL_law_298 ?_
  refine GN.iconst hX (v := 2) (by decide) dL_law_299 ?_
  refine GN.iadd hX dL_law_300 ?_
  refine GN.ie (y := nI (i + 2)) (nI_add i 2) ?_
  refine GN.sld hX (j := i + 2) hXs hbl hbA (by omega) (by omega) dL_law_301 ?_
  refine GN.vi hX (As := [.int (xs (i + 1)), .int (xs (i + 2))]) (st := []) (wr := w4) (wf := w4 ++ u3) (q0 := 0) (ci := 3) rfl e3 h3 gL_law_X3_turn cp_X3_turn ⟨by decide, by decide⟩ (by decide) _ _ _ (cut_app w3 w4 u3) rfl rfl (Nat.le_of_ble_eq_true rfl) dL_law_302 ?_
  refine GN.aload_n hX 1 rfl dL_law_305 ?_
  refine GN.aload_n hX 3 rfl dL_law_306 ?_
  refine GN.iload_n hX 0 rfl dL_law_307 ?_
  refine GN.iconst hX (v := 1) (by decide) dL_law_308 ?_
  refine GN.iadd hX dL_law_309 ?_
  refine GN.ie (y := nI (i + 1)) (nI_add i 1) ?_
  refine GN.sld hX (j := i + 1) hXs hbl hbA (by omega) (by omega) dL_law_310 ?_
  refine GN.aload_n hX 3 rfl dL_law_311 ?_
  refine GN.iload_n hX 0 rfl dL_law_312 ?_
  refine GN.iconst hX (v := 2) (by decide) dL_law_313 ?_
  refine GN.iadd hX dL_law_314 ?_
  refine GN.ie (y := nI (i + 2)) (nI_add i 2) ?_
  refine GN.sld hX (j := i + 2) hXs hbl hbA (by omega) (by omega) dL_law_315 ?_
  refine GN.vi hX (As := [.int (xs (i + 1)), .int (xs (i + 2))]) (st := [.int r]) (wr := u3) (wf := u3 ++ u4) (q0 := 0) (ci := 4) rfl e4 h4 gL_law_X4_turn cp_X4_turn ⟨by decide, by decide⟩ (by decide) _ _ _ (cut_app w4 u3 u4) rfl rfl (Nat.le_of_ble_eq_true rfl) dL_law_316 ?_
  exact GN.icmp_eq hX (tgt := 1221) (by decide) dL_law_319 (fun _ => kont u3 u4 hJ) (fun c => absurd rfl c)
set_option maxHeartbeats 4000000 in
set_option maxRecDepth 100000 in
theorem lc_age {E : EV} {X : CX} (hX : Cx E X RL code 4 ret wsL_law room_1) {ad : AD} {b L i : Nat} {xs : Nat → Int32} (hL : L ≤ 3072) (hXs : va_X b L xs X.2.2.2.2.1 X.2.2.2.2.1.heap) (hbl : b < X.2.2.2.2.1.heap.size) (hbA : ¬ X.2.2.2.2.2.2.2.2.2.2.2 b) (hi : i + 6 ≤ L) {w3 w4 : va_W} (hI : INV E ad w3 w4) (kont : ∀ u3 u4, INV E ad u3 u4 → GN 600000 7302250 E X 4 1221 [(3, .int (nI i)), (2, .ref (ad 6 0)), (1, .ref (ad 0 0)), (0, .ref b)] [] (u3 ++ u4)) : GN 600000 7302250 E X 4 324 [(3, .int (nI i)), (2, .ref (ad 6 0)), (1, .ref (ad 0 0)), (0, .ref b)] [] (w3 ++ w4) := by
  obtain ⟨r, u3, u4, h3, h4, hJ⟩ := t_age (l := X.2.1) hI (xs (i + 1)) (xs (i + 2))
  obtain ⟨f3, e3⟩ := hI.h3
  obtain ⟨f4, e4⟩ := hI.h4
  refine GN.aload_n hX 2 rfl dL_law_324 ?_
  refine GN.aload_n hX 3 rfl dL_law_325 ?_
  refine GN.iload_n hX 0 rfl dL_law_326 ?_
  refine GN.iconst hX (v := 1) (by decide) dL_law_327 ?_
  refine GN.iadd hX dL_law_328 ?_
  refine GN.ie (y := nI (i + 1)) (nI_add i 1) ?_
  refine GN.sld hX (j := i + 1) hXs hbl hbA (by omega) (by omega) dL_law_329 ?_
  refine GN.aload_n hX 3 rfl dL_law_330 ?_
  refine GN.iload_n hX 0 rfl dL_law_331 ?_
  refine GN.iconst hX (v := 2) (by decide) dL_law_332 ?_
  refine GN.iadd hX dL_law_333 ?_
  refine GN.ie (y := nI (i + 2)) (nI_add i 2) ?_
  refine GN.sld hX (j := i + 2) hXs hbl hbA (by omega) (by omega) dL_law_334 ?_
  refine GN.vi hX (As := [.int (xs (i + 1)), .int (xs (i + 2))]) (st := []) (wr := w4) (wf := w4 ++ u3) (q0 := 0) (ci := 3) rfl e3 h3 gL_law_X3_age cp_X3_age ⟨by decide, by decide⟩ (by decide) _ _ _ (cut_app w3 w4 u3) rfl rfl (Nat.le_of_ble_eq_true rfl) dL_law_335 ?_
  refine GN.aload_n hX 1 rfl dL_law_338 ?_
  refine GN.aload_n hX 3 rfl dL_law_339 ?_
  refine GN.iload_n hX 0 rfl dL_law_340 ?_
  refine GN.iconst hX (v := 1) (by decide) dL_law_341 ?_
  refine GN.iadd hX dL_law_342 ?_
  refine GN.ie (y := nI (i + 1)) (nI_add i 1) ?_
  refine GN.sld hX (j := i + 1) hXs hbl hbA (by omega) (by omega) dL_law_343 ?_
  refine GN.aload_n hX 3 rfl dL_law_344 ?_
  refine GN.iload_n hX 0 rfl dL_law_345 ?_
  refine GN.iconst hX (v := 2) (by decide) dL_law_346 ?_
  refine GN.iadd hX dL_law_347 ?_
  refine GN.ie (y := nI (i + 2)) (nI_add i 2) ?_
  refine GN.sld hX (j := i + 2) hXs hbl hbA (by omega) (by omega) dL_law_348 ?_
  refine GN.vi hX (As := [.int (xs (i + 1)), .int (xs (i + 2))]) (st := [.int r]) (wr := u3) (wf := u3 ++ u4) (q0 := 0) (ci := 4) rfl e4 h4 gL_law_X4_age cp_X4_age ⟨by decide, by decide⟩ (by decide) _ _ _ (cut_app w4 u3 u4) rfl rfl (Nat.le_of_ble_eq_true rfl) dL_law_349 ?_
  exact GN.icmp_eq hX (tgt := 1221) (by decide) dL_law_352 (fun _ => kont u3 u4 hJ) (fun c => absurd rfl c)
set_option maxHeartbeats 4000000 in
set_option maxRecDepth 100000 in
theorem lc_as {E : EV} {X : CX} (hX : Cx E X RL code 4 ret wsL_law room_1) {ad : AD} {b L i : Nat} {xs : Nat → Int32} (hL : L ≤ 3072) (hXs : va_X b L xs X.2.2.2.2.1 X.2.2.2.2.1.heap) (hbl : b < X.2.2.2.2.1.heap.size) (hbA : ¬ X.2.2.2.2.2.2.2.2.2.2.2 b) (hi : i + 6 ≤ L) {w3 w4 : va_W} (hI : INV E ad w3 w4) (kont : ∀ u3 u4, INV E ad u3 u4 → GN 600000 7302250 E X 4 1221 [(3, .int (nI i)), (2, .ref (ad 6 0)), (1, .ref (ad 0 0)), (0, .ref b)] [] (u3 ++ u4)) : GN 600000 7302250 E X 4 357 [(3, .int (nI i)), (2, .ref (ad 6 0)), (1, .ref (ad 0 0)), (0, .ref b)] [] (w3 ++ w4) := by
  obtain ⟨r, u3, u4, h3, h4, hJ⟩ := t_as (l := X.2.1) hI (xs (i + 1)) (xs (i + 2))
  obtain ⟨f3, e3⟩ := hI.h3
  obtain ⟨f4, e4⟩ := hI.h4
  refine GN.aload_n hX 2 rfl dL_law_357 ?_
  refine GN.aload_n hX 3 rfl dL_law_358 ?_
  refine GN.iload_n hX 0 rfl dL_law_359 ?_
  refine GN.iconst hX (v := 1) (by decide) dL_law_360 ?_
  refine GN.iadd hX dL_law_361 ?_
  refine GN.ie (y := nI (i + 1)) (nI_add i 1) ?_
  refine GN.sld hX (j := i + 1) hXs hbl hbA (by omega) (by omega) dL_law_362 ?_
  refine GN.aload_n hX 3 rfl dL_law_363 ?_
  refine GN.iload_n hX 0 rfl dL_law_364 ?_
  refine GN.iconst hX (v := 2) (by decide) dL_law_365 ?_
  refine GN.iadd hX dL_law_366 ?_
  refine GN.ie (y := nI (i + 2)) (nI_add i 2) ?_
  refine GN.sld hX (j := i + 2) hXs hbl hbA (by omega) (by omega) dL_law_367 ?_
  refine GN.vi hX (As := [.int (xs (i + 1)), .int (xs (i + 2))]) (st := []) (wr := w4) (wf := w4 ++ u3) (q0 := 0) (ci := 3) rfl e3 h3 gL_law_X3_as cp_X3_as ⟨by decide, by decide⟩ (by decide) _ _ _ (cut_app w3 w4 u3) rfl rfl (Nat.le_of_ble_eq_true rfl) dL_law_368 ?_
  refine GN.aload_n hX 1 rfl dL_law_371 ?_
  refine GN.aload_n hX 3 rfl dL_law_372 ?_
  refine GN.iload_n hX 0 rfl dL_law_373 ?_
  refine GN.iconst hX (v := 1) (by decide) dL_law_374 ?_
  refine GN.iadd hX dL_law_375 ?_
  refine GN.ie (y := nI (i + 1)) (nI_add i 1) ?_
  refine GN.sld hX (j := i + 1) hXs hbl hbA (by omega) (by omega) dL_law_376 ?_
  refine GN.aload_n hX 3 rfl dL_law_377 ?_
  refine GN.iload_n hX 0 rfl dL_law_378 ?_
  refine GN.iconst hX (v := 2) (by decide) dL_law_379 ?_
  refine GN.iadd hX dL_law_380 ?_
  refine GN.ie (y := nI (i + 2)) (nI_add i 2) ?_
  refine GN.sld hX (j := i + 2) hXs hbl hbA (by omega) (by omega) dL_law_381 ?_
  refine GN.vi hX (As := [.int (xs (i + 1)), .int (xs (i + 2))]) (st := [.int r]) (wr := u3) (wf := u3 ++ u4) (q0 := 0) (ci := 4) rfl e4 h4 gL_law_X4_as cp_X4_as ⟨by decide, by decide⟩ (by decide) _ _ _ (cut_app w4 u3 u4) rfl rfl (Nat.le_of_ble_eq_true rfl) dL_law_382 ?_
  exact GN.icmp_eq hX (tgt := 1221) (by decide) dL_law_385 (fun _ => kont u3 u4 hJ) (fun c => absurd rfl c)
set_option maxHeartbeats 4000000 in
set_option maxRecDepth 100000 in
theorem lc_meet {E : EV} {X : CX} (hX : Cx E X RL code 4 ret wsL_law room_1) {ad : AD} {b L i : Nat} {xs : Nat → Int32} (hL : L ≤ 3072) (hXs : va_X b L xs X.2.2.2.2.1 X.2.2.2.2.1.heap) (hbl : b < X.2.2.2.2.1.heap.size) (hbA : ¬ X.2.2.2.2.2.2.2.2.2.2.2 b) (hi : i + 6 ≤ L) {w3 w4 : va_W} (hI : INV E ad w3 w4) (kont : ∀ u3 u4, INV E ad u3 u4 → GN 600000 7302250 E X 4 1221 [(3, .int (nI i)), (2, .ref (ad 6 0)), (1, .ref (ad 0 0)), (0, .ref b)] [] (u3 ++ u4)) : GN 600000 7302250 E X 4 390 [(3, .int (nI i)), (2, .ref (ad 6 0)), (1, .ref (ad 0 0)), (0, .ref b)] [] (w3 ++ w4) := by
  obtain ⟨r, u3, u4, h3, h4, hJ⟩ := t_meet (l := X.2.1) hI (xs (i + 1)) (xs (i + 2))
  obtain ⟨f3, e3⟩ := hI.h3
  obtain ⟨f4, e4⟩ := hI.h4
  refine GN.aload_n hX 2 rfl dL_law_390 ?_
  refine GN.aload_n hX 3 rfl dL_law_391 ?_
  refine GN.iload_n hX 0 rfl dL_law_392 ?_
  refine GN.iconst hX (v := 1) (by decide) dL_law_393 ?_
  refine GN.iadd hX dL_law_394 ?_
  refine GN.ie (y := nI (i + 1)) (nI_add i 1) ?_
  refine GN.sld hX (j := i + 1) hXs hbl hbA (by omega) (by omega) dL_law_395 ?_
  refine GN.aload_n hX 3 rfl dL_law_396 ?_
  refine GN.iload_n hX 0 rfl dL_law_397 ?_
  refine GN.iconst hX (v := 2) (by decide) dL_law_398 ?_
  refine GN.iadd hX dL_law_399 ?_
  refine GN.ie (y := nI (i + 2)) (nI_add i 2) ?_
  refine GN.sld hX (j := i + 2) hXs hbl hbA (by omega) (by omega) dL_law_400 ?_
  refine GN.vi hX (As := [.int (xs (i + 1)), .int (xs (i + 2))]) (st := []) (wr := w4) (wf := w4 ++ u3) (q0 := 0) (ci := 3) rfl e3 h3 gL_law_X3_meet cp_X3_meet ⟨by decide, by decide⟩ (by decide) _ _ _ (cut_app w3 w4 u3) rfl rfl (Nat.le_of_ble_eq_true rfl) dL_law_401 ?_
  refine GN.aload_n hX 1 rfl dL_law_404 ?_
  refine GN.aload_n hX 3 rfl dL_law_405 ?_
  refine GN.iload_n hX 0 rfl dL_law_406 ?_
  refine GN.iconst hX (v := 1) (by decide) dL_law_407 ?_
  refine GN.iadd hX dL_law_408 ?_
  refine GN.ie (y := nI (i + 1)) (nI_add i 1) ?_
  refine GN.sld hX (j := i + 1) hXs hbl hbA (by omega) (by omega) dL_law_409 ?_
  refine GN.aload_n hX 3 rfl dL_law_410 ?_
  refine GN.iload_n hX 0 rfl dL_law_411 ?_
  refine GN.iconst hX (v := 2) (by decide) dL_law_412 ?_
  refine GN.iadd hX dL_law_413 ?_
  refine GN.ie (y := nI (i + 2)) (nI_add i 2) ?_
  refine GN.sld hX (j := i + 2) hXs hbl hbA (by omega) (by omega) dL_law_414 ?_
  refine GN.vi hX (As := [.int (xs (i + 1)), .int (xs (i + 2))]) (st := [.int r]) (wr := u3) (wf := u3 ++ u4) (q0 := 0) (ci := 4) rfl e4 h4 gL_law_X4_meet cp_X4_meet ⟨by decide, by decide⟩ (by decide) _ _ _ (cut_app w4 u3 u4) rfl rfl (Nat.le_of_ble_eq_true rfl) dL_law_415 ?_
  exact GN.icmp_eq hX (tgt := 1221) (by decide) dL_law_418 (fun _ => kont u3 u4 hJ) (fun c => absurd rfl c)
set_option maxHeartbeats 4000000 in
set_option maxRecDepth 100000 in
theorem lc_tell {E : EV} {X : CX} (hX : Cx E X RL code 4 ret wsL_law room_1) {ad : AD} {b L i : Nat} {xs : Nat → Int32} (hL : L ≤ 3072) (hXs : va_X b L xs X.2.2.2.2.1 X.2.2.2.2.1.heap) (hbl : b < X.2.2.2.2.1.heap.size) (hbA : ¬ X.2.2.2.2.2.2.2.2.2.2.2 b) (hi : i + 6 ≤ L) {w3 w4 : va_W} (hI : INV E ad w3 w4) (kont : ∀ u3 u4, INV E ad u3 u4 → GN 600000 7302250 E X 4 1221 [(3, .int (nI i)), (2, .ref (ad 6 0)), (1, .ref (ad 0 0)), (0, .ref b)] [] (u3 ++ u4)) : GN 600000 7302250 E X 4 423 [(3, .int (nI i)), (2, .ref (ad 6 0)), (1, .ref (ad 0 0)), (0, .ref b)] [] (w3 ++ w4) := by
  obtain ⟨r, u3, u4, h3, h4, hJ⟩ := t_tell (l := X.2.1) hI (xs (i + 1)) (xs (i + 2))
  obtain ⟨f3, e3⟩ := hI.h3
  obtain ⟨f4, e4⟩ := hI.h4
  refine GN.aload_n hX 2 rfl dL_law_423 ?_
  refine GN.aload_n hX 3 rfl dL_law_424 ?_
  refine GN.iload_n hX 0 rfl dL_law_425 ?_
  refine GN.iconst hX (v := 1) (by decide) dL_law_426 ?_
  refine GN.iadd hX dL_law_427 ?_
  refine GN.ie (y := nI (i + 1)) (nI_add i 1) ?_
  refine GN.sld hX (j := i + 1) hXs hbl hbA (by omega) (by omega) dL_law_428 ?_
  refine GN.aload_n hX 3 rfl dL_law_429 ?_
  refine GN.iload_n hX 0 rfl dL_law_430 ?_
  refine GN.iconst hX (v := 2) (by decide) dL_law_431 ?_
  refine GN.iadd hX dL_law_432 ?_
  refine GN.ie (y := nI (i + 2)) (nI_add i 2) ?_
  refine GN.sld hX (j := i + 2) hXs hbl hbA (by omega) (by omega) dL_law_433 ?_
  refine GN.vi hX (As := [.int (xs (i + 1)), .int (xs (i + 2))]) (st := []) (wr := w4) (wf := w4 ++ u3) (q0 := 0) (ci := 3) rfl e3 h3 gL_law_X3_tell cp_X3_tell ⟨by decide, by decide⟩ (by decide) _ _ _ (cut_app w3 w4 u3) rfl rfl (Nat.le_of_ble_eq_true rfl) dL_law_434 ?_
  refine GN.aload_n hX 1 rfl dL_law_437 ?_
  refine GN.aload_n hX 3 rfl dL_law_438 ?_
  refine GN.iload_n hX 0 rfl dL_law_439 ?_
  refine GN.iconst hX (v := 1) (by decide) dL_law_440 ?_
  refine GN.iadd hX dL_law_441 ?_
  refine GN.ie (y := nI (i + 1)) (nI_add i 1) ?_
  refine GN.sld hX (j := i + 1) hXs hbl hbA (by omega) (by omega) dL_law_442 ?_
  refine GN.aload_n hX 3 rfl dL_law_443 ?_
  refine GN.iload_n hX 0 rfl dL_law_444 ?_
  refine GN.iconst hX (v := 2) (by decide) dL_law_445 ?_
  refine GN.iadd hX dL_law_446 ?_
  refine GN.ie (y := nI (i + 2)) (nI_add i 2) ?_
  refine GN.sld hX (j := i + 2) hXs hbl hbA (by omega) (by omega) dL_law_447 ?_
  refine GN.vi hX (As := [.int (xs (i + 1)), .int (xs (i + 2))]) (st := [.int r]) (wr := u3) (wf := u3 ++ u4) (q0 := 0) (ci := 4) rfl e4 h4 gL_law_X4_tell cp_X4_tell ⟨by decide, by decide⟩ (by decide) _ _ _ (cut_app w4 u3 u4) rfl rfl (Nat.le_of_ble_eq_true rfl) dL_law_448 ?_
  exact GN.icmp_eq hX (tgt := 1221) (by decide) dL_law_451 (fun _ => kont u3 u4 hJ) (fun c => absurd rfl c)
set_option maxHeartbeats 4000000 in
set_option maxRecDepth 100000 in
theorem lc_forget {E : EV} {X : CX} (hX : Cx E X RL code 4 ret wsL_law room_1) {ad : AD} {b L i : Nat} {xs : Nat → Int32} (hL : L ≤ 3072) (hXs : va_X b L xs X.2.2.2.2.1 X.2.2.2.2.1.heap) (hbl : b < X.2.2.2.2.1.heap.size) (hbA : ¬ X.2.2.2.2.2.2.2.2.2.2.2 b) (hi : i + 6 ≤ L) {w3 w4 : va_W} (hI : INV E ad w3 w4) (kont : ∀ u3 u4, INV E ad u3 u4 → GN 600000 7302250 E X 4 1221 [(3, .int (nI i)), (2, .ref (ad 6 0)), (1, .ref (ad 0 0)), (0, .ref b)] [] (u3 ++ u4)) : GN 600000 7302250 E X 4 456 [(3, .int (nI i)), (2, .ref (ad 6 0)), (1, .ref (ad 0 0)), (0, .ref b)] [] (w3 ++ w4) := by
  obtain ⟨r, u3, u4, h3, h4, hJ⟩ := t_forget (l := X.2.1) hI (xs (i + 1))
  obtain ⟨f3, e3⟩ := hI.h3
  obtain ⟨f4, e4⟩ := hI.h4
  refine GN.aload_n hX 2 rfl dL_law_456 ?_
  refine GN.aload_n hX 3 rfl dL_law_457 ?_
  refine GN.iload_n hX 0 rfl dL_law_458 ?_
  refine GN.iconst hX (v := 1) (by decide) dL_law_459 ?_
  refine GN.iadd hX dL_law_460 ?_
  refine GN.ie (y := nI (i + 1)) (nI_add i 1) ?_
  refine GN.sld hX (j := i + 1) hXs hbl hbA (by omega) (by omega) dL_law_461 ?_
  refine GN.vi hX (As := [.int (xs (i + 1))]) (st := []) (wr := w4) (wf := w4 ++ u3) (q0 := 0) (ci := 3) rfl e3 h3 gL_law_X3_forget cp_X3_forget ⟨by decide, by decide⟩ (by decide) _ _ _ (cut_app w3 w4 u3) rfl rfl (Nat.le_of_ble_eq_true rfl) dL_law_462 ?_
  refine GN.aload_n hX 1 rfl dL_law_465 ?_
  refine GN.aload_n hX 3 rfl dL_law_466 ?_
  refine GN.iload_n hX 0 rfl dL_law_467 ?_
  refine GN.iconst hX (v := 1) (by decide) dL_law_468 ?_
  refine GN.iadd hX dL_law_469 ?_
  refine GN.ie (y := nI (i + 1)) (nI_add i 1) ?_
  refine GN.sld hX (j := i + 1) hXs hbl hbA (by omega) (by omega) dL_law_470 ?_
  refine GN.vi hX (As := [.int (xs (i + 1))]) (st := [.int r]) (wr := u3) (wf := u3 ++ u4) (q0 := 0) (ci := 4) rfl e4 h4 gL_law_X4_forget cp_X4_forget ⟨by decide, by decide⟩ (by decide) _ _ _ (cut_app w4 u3 u4) rfl rfl (Nat.le_of_ble_eq_true rfl) dL_law_471 ?_
  exact GN.icmp_eq hX (tgt := 1221) (by decide) dL_law_474 (fun _ => kont u3 u4 hJ) (fun c => absurd rfl c)
set_option maxHeartbeats 4000000 in
set_option maxRecDepth 100000 in
theorem lc_years {E : EV} {X : CX} (hX : Cx E X RL code 4 ret wsL_law room_1) {ad : AD} {b L i : Nat} {xs : Nat → Int32} (hL : L ≤ 3072) (hXs : va_X b L xs X.2.2.2.2.1 X.2.2.2.2.1.heap) (hbl : b < X.2.2.2.2.1.heap.size) (hbA : ¬ X.2.2.2.2.2.2.2.2.2.2.2 b) (hi : i + 6 ≤ L) {w3 w4 : va_W} (hI : INV E ad w3 w4) (kont : ∀ u3 u4, INV E ad u3 u4 → GN 600000 7302250 E X 4 1221 [(3, .int (nI i)), (2, .ref (ad 6 0)), (1, .ref (ad 0 0)), (0, .ref b)] [] (u3 ++ u4)) : GN 600000 7302250 E X 4 479 [(3, .int (nI i)), (2, .ref (ad 6 0)), (1, .ref (ad 0 0)), (0, .ref b)] [] (w3 ++ w4) := by
  obtain ⟨r, u3, u4, h3, h4, hJ⟩ := t_years (l := X.2.1) hI (xs (i + 1))
  obtain ⟨f3, e3⟩ := hI.h3
  obtain ⟨f4, e4⟩ := hI.h4
  refine GN.aload_n hX 2 rfl dL_law_479 ?_
  refine GN.aload_n hX 3 rfl dL_law_480 ?_
  refine GN.iload_n hX 0 rfl dL_law_481 ?_
  refine GN.iconst hX (v := 1) (by decide) dL_law_482 ?_
  refine GN.iadd hX dL_law_483 ?_
  refine GN.ie (y := nI (i + 1)) (nI_add i 1) ?_
  refine GN.sld hX (j := i + 1) hXs hbl hbA (by omega) (by omega) dL_law_484 ?_
  refine GN.vi hX (As := [.int (xs (i + 1))]) (st := []) (wr := w4) (wf := w4 ++ u3) (q0 := 0) (ci := 3) rfl e3 h3 gL_law_X3_years cp_X3_years ⟨by decide, by decide⟩ (by decide) _ _ _ (cut_app w3 w4 u3) rfl rfl (Nat.le_of_ble_eq_true rfl) dL_law_485 ?_
  refine GN.aload_n hX 1 rfl dL_law_488 ?_
  refine GN.aload_n hX 3 rfl dL_law_489 ?_
  refine GN.iload_n hX 0 rfl dL_law_490 ?_
  refine GN.iconst hX (v := 1) (by decide) dL_law_491 ?_
  refine GN.iadd hX dL_law_492 ?_
  refine GN.ie (y := nI (i + 1)) (nI_add i 1) ?_
  refine GN.sld hX (j := i + 1) hXs hbl hbA (by omega) (by omega) dL_law_493 ?_
  refine GN.vi hX (As := [.int (xs (i + 1))]) (st := [.int r]) (wr := u3) (wf := u3 ++ u4) (q0 := 0) (ci := 4) rfl e4 h4 gL_law_X4_years cp_X4_years ⟨by decide, by decide⟩ (by decide) _ _ _ (cut_app w4 u3 u4) rfl rfl (Nat.le_of_ble_eq_true rfl) dL_law_494 ?_
  exact GN.icmp_eq hX (tgt := 1221) (by decide) dL_law_497 (fun _ => kont u3 u4 hJ) (fun c => absurd rfl c)
set_option maxHeartbeats 4000000 in
set_option maxRecDepth 100000 in
theorem lc_gale {E : EV} {X : CX} (hX : Cx E X RL code 4 ret wsL_law room_1) {ad : AD} {b L i : Nat} {xs : Nat → Int32} (hL : L ≤ 3072) (hXs : va_X b L xs X.2.2.2.2.1 X.2.2.2.2.1.heap) (hbl : b < X.2.2.2.2.1.heap.size) (hbA : ¬ X.2.2.2.2.2.2.2.2.2.2.2 b) (hi : i + 6 ≤ L) {w3 w4 : va_W} (hI : INV E ad w3 w4) (kont : ∀ u3 u4, INV E ad u3 u4 → GN 600000 7302250 E X 4 1221 [(3, .int (nI i)), (2, .ref (ad 6 0)), (1, .ref (ad 0 0)), (0, .ref b)] [] (u3 ++ u4)) : GN 600000 7302250 E X 4 502 [(3, .int (nI i)), (2, .ref (ad 6 0)), (1, .ref (ad 0 0)), (0, .ref b)] [] (w3 ++ w4) := by
  obtain ⟨r, u3, u4, h3, h4, hJ⟩ := t_gale (l := X.2.1) hI
  obtain ⟨f3, e3⟩ := hI.h3
  obtain ⟨f4, e4⟩ := hI.h4
  refine GN.aload_n hX 2 rfl dL_law_502 ?_
  refine GN.vi hX (As := []) (st := []) (wr := w4) (wf := w4 ++ u3) (q0 := 0) (ci := 3) rfl e3 h3 gL_law_X3_gale cp_X3_gale ⟨by decide, by decide⟩ (by decide) _ _ _ (cut_app w3 w4 u3) rfl rfl (Nat.le_of_ble_eq_true rfl) dL_law_503 ?_
  refine GN.aload_n hX 1 rfl dL_law_506 ?_
  refine GN.vi hX (As := []) (st := [.int r]) (wr := u3) (wf := u3 ++ u4) (q0 := 0) (ci := 4) rfl e4 h4 gL_law_X4_gale cp_X4_gale ⟨by decide, by decide⟩ (by decide) _ _ _ (cut_app w4 u3 u4) rfl rfl (Nat.le_of_ble_eq_true rfl) dL_law_507 ?_
  exact GN.icmp_eq hX (tgt := 1221) (by decide) dL_law_510 (fun _ => kont u3 u4 hJ) (fun c => absurd rfl c)
set_option maxHeartbeats 4000000 in
set_option maxRecDepth 100000 in
theorem lc_now {E : EV} {X : CX} (hX : Cx E X RL code 4 ret wsL_law room_1) {ad : AD} {b L i : Nat} {xs : Nat → Int32} (hL : L ≤ 3072) (hXs : va_X b L xs X.2.2.2.2.1 X.2.2.2.2.1.heap) (hbl : b < X.2.2.2.2.1.heap.size) (hbA : ¬ X.2.2.2.2.2.2.2.2.2.2.2 b) (hi : i + 6 ≤ L) {w3 w4 : va_W} (hI : INV E ad w3 w4) (kont : ∀ u3 u4, INV E ad u3 u4 → GN 600000 7302250 E X 4 1221 [(3, .int (nI i)), (2, .ref (ad 6 0)), (1, .ref (ad 0 0)), (0, .ref b)] [] (u3 ++ u4)) : GN 600000 7302250 E X 4 515 [(3, .int (nI i)), (2, .ref (ad 6 0)), (1, .ref (ad 0 0)), (0, .ref b)] [] (w3 ++ w4) := by
  obtain ⟨r, u3, u4, h3, h4, hJ⟩ := t_now (l := X.2.1) hI (xs (i + 1))
  obtain ⟨f3, e3⟩ := hI.h3
  obtain ⟨f4, e4⟩ := hI.h4
  refine GN.aload_n hX 2 rfl dL_law_515 ?_
  refine GN.aload_n hX 3 rfl dL_law_516 ?_
  refine GN.iload_n hX 0 rfl dL_law_517 ?_
  refine GN.iconst hX (v := 1) (by decide) dL_law_518 ?_
  refine GN.iadd hX dL_law_519 ?_
  refine GN.ie (y := nI (i + 1)) (nI_add i 1) ?_
  refine GN.sld hX (j := i + 1) hXs hbl hbA (by omega) (by omega) dL_law_520 ?_
  refine GN.vi hX (As := [.int (xs (i + 1))]) (st := []) (wr := w4) (wf := w4 ++ u3) (q0 := 0) (ci := 3) rfl e3 h3 gL_law_X3_now cp_X3_now ⟨by decide, by decide⟩ (by decide) _ _ _ (cut_app w3 w4 u3) rfl rfl (Nat.le_of_ble_eq_true rfl) dL_law_521 ?_
  refine GN.aload_n hX 1 rfl dL_law_524 ?_
  refine GN.aload_n hX 3 rfl dL_law_525 ?_
  refine GN.iload_n hX 0 rfl dL_law_526 ?_
  refine GN.iconst hX (v := 1) (by decide) dL_law_527 ?_
  refine GN.iadd hX dL_law_528 ?_
  refine GN.ie (y := nI (i + 1)) (nI_add i 1) ?_
  refine GN.sld hX (j := i + 1) hXs hbl hbA (by omega) (by omega) dL_law_529 ?_
  refine GN.vi hX (As := [.int (xs (i + 1))]) (st := [.int r]) (wr := u3) (wf := u3 ++ u4) (q0 := 0) (ci := 4) rfl e4 h4 gL_law_X4_now cp_X4_now ⟨by decide, by decide⟩ (by decide) _ _ _ (cut_app w4 u3 u4) rfl rfl (Nat.le_of_ble_eq_true rfl) dL_law_530 ?_
  exact GN.icmp_eq hX (tgt := 1221) (by decide) dL_law_533 (fun _ => kont u3 u4 hJ) (fun c => absurd rfl c)
set_option maxHeartbeats 4000000 in
set_option maxRecDepth 100000 in
theorem lc_on {E : EV} {X : CX} (hX : Cx E X RL code 4 ret wsL_law room_1) {ad : AD} {b L i : Nat} {xs : Nat → Int32} (hL : L ≤ 3072) (hXs : va_X b L xs X.2.2.2.2.1 X.2.2.2.2.1.heap) (hbl : b < X.2.2.2.2.1.heap.size) (hbA : ¬ X.2.2.2.2.2.2.2.2.2.2.2 b) (hi : i + 6 ≤ L) {w3 w4 : va_W} (hI : INV E ad w3 w4) (kont : ∀ u3 u4, INV E ad u3 u4 → GN 600000 7302250 E X 4 1221 [(3, .int (nI i)), (2, .ref (ad 6 0)), (1, .ref (ad 0 0)), (0, .ref b)] [] (u3 ++ u4)) : GN 600000 7302250 E X 4 538 [(3, .int (nI i)), (2, .ref (ad 6 0)), (1, .ref (ad 0 0)), (0, .ref b)] [] (w3 ++ w4) := by
  obtain ⟨r, u3, u4, h3, h4, hJ⟩ := t_on (l := X.2.1) hI (xs (i + 1)) (xs (i + 2))
  obtain ⟨f3, e3⟩ := hI.h3
  obtain ⟨f4, e4⟩ := hI.h4
  refine GN.aload_n hX 2 rfl dL_law_538 ?_
  refine GN.aload_n hX 3 rfl dL_law_539 ?_
  refine GN.iload_n hX 0 rfl dL_law_540 ?_
  refine GN.iconst hX (v := 1) (by decide) dL_law_541 ?_
  refine GN.iadd hX dL_law_542 ?_
  refine GN.ie (y := nI (i + 1)) (nI_add i 1) ?_
  refine GN.sld hX (j := i + 1) hXs hbl hbA (by omega) (by omega) dL_law_543 ?_
  refine GN.aload_n hX 3 rfl dL_law_544 ?_
  refine GN.iload_n hX 0 rfl dL_law_545 ?_
  refine GN.iconst hX (v := 2) (by decide) dL_law_546 ?_
  refine GN.iadd hX dL_law_547 ?_
  refine GN.ie (y := nI (i + 2)) (nI_add i 2) ?_
  refine GN.sld hX (j := i + 2) hXs hbl hbA (by omega) (by omega) dL_law_548 ?_
  refine GN.vi hX (As := [.int (xs (i + 1)), .int (xs (i + 2))]) (st := []) (wr := w4) (wf := w4 ++ u3) (q0 := 0) (ci := 3) rfl e3 h3 gL_law_X3_on cp_X3_on ⟨by decide, by decide⟩ (by decide) _ _ _ (cut_app w3 w4 u3) rfl rfl (Nat.le_of_ble_eq_true rfl) dL_law_549 ?_
  refine GN.aload_n hX 1 rfl dL_law_552 ?_
  refine GN.aload_n hX 3 rfl dL_law_553 ?_
  refine GN.iload_n hX 0 rfl dL_law_554 ?_
  refine GN.iconst hX (v := 1) (by decide) dL_law_555 ?_
  refine GN.iadd hX dL_law_556 ?_
  refine GN.ie (y := nI (i + 1)) (nI_add i 1) ?_
  refine GN.sld hX (j := i + 1) hXs hbl hbA (by omega) (by omega) dL_law_557 ?_
  refine GN.aload_n hX 3 rfl dL_law_558 ?_
  refine GN.iload_n hX 0 rfl dL_law_559 ?_
  refine GN.iconst hX (v := 2) (by decide) dL_law_560 ?_
  refine GN.iadd hX dL_law_561 ?_
  refine GN.ie (y := nI (i + 2)) (nI_add i 2) ?_
  refine GN.sld hX (j := i + 2) hXs hbl hbA (by omega) (by omega) dL_law_562 ?_
  refine GN.vi hX (As := [.int (xs (i + 1)), .int (xs (i + 2))]) (st := [.int r]) (wr := u3) (wf := u3 ++ u4) (q0 := 0) (ci := 4) rfl e4 h4 gL_law_X4_on cp_X4_on ⟨by decide, by decide⟩ (by decide) _ _ _ (cut_app w4 u3 u4) rfl rfl (Nat.le_of_ble_eq_true rfl) dL_law_563 ?_
  exact GN.icmp_eq hX (tgt := 1221) (by decide) dL_law_566 (fun _ => kont u3 u4 hJ) (fun c => absurd rfl c)
set_option maxHeartbeats 4000000 in
set_option maxRecDepth 100000 in
theorem lc_when {E : EV} {X : CX} (hX : Cx E X RL code 4 ret wsL_law room_1) {ad : AD} {b L i : Nat} {xs : Nat → Int32} (hL : L ≤ 3072) (hXs : va_X b L xs X.2.2.2.2.1 X.2.2.2.2.1.heap) (hbl : b < X.2.2.2.2.1.heap.size) (hbA : ¬ X.2.2.2.2.2.2.2.2.2.2.2 b) (hi : i + 6 ≤ L) {w3 w4 : va_W} (hI : INV E ad w3 w4) (kont : ∀ u3 u4, INV E ad u3 u4 → GN 600000 7302250 E X 4 1221 [(3, .int (nI i)), (2, .ref (ad 6 0)), (1, .ref (ad 0 0)), (0, .ref b)] [] (u3 ++ u4)) : GN 600000 7302250 E X 4 571 [(3, .int (nI i)), (2, .ref (ad 6 0)), (1, .ref (ad 0 0)), (0, .ref b)] [] (w3 ++ w4) := by
  obtain ⟨r, u3, u4, h3, h4, hJ⟩ := t_when (l := X.2.1) hI (xs (i + 1)) (xs (i + 2))
  obtain ⟨f3, e3⟩ := hI.h3
  obtain ⟨f4, e4⟩ := hI.h4
  refine GN.aload_n hX 2 rfl dL_law_571 ?_
  refine GN.aload_n hX 3 rfl dL_law_572 ?_
  refine GN.iload_n hX 0 rfl dL_law_573 ?_
  refine GN.iconst hX (v := 1) (by decide) dL_law_574 ?_
  refine GN.iadd hX dL_law_575 ?_
  refine GN.ie (y := nI (i + 1)) (nI_add i 1) ?_
  refine GN.sld hX (j := i + 1) hXs hbl hbA (by omega) (by omega) dL_law_576 ?_
  refine GN.aload_n hX 3 rfl dL_law_577 ?_
  refine GN.iload_n hX 0 rfl dL_law_578 ?_
  refine GN.iconst hX (v := 2) (by decide) dL_law_579 ?_
  refine GN.iadd hX dL_law_580 ?_
  refine GN.ie (y := nI (i + 2)) (nI_add i 2) ?_
  refine GN.sld hX (j := i + 2) hXs hbl hbA (by omega) (by omega) dL_law_581 ?_
  refine GN.vi hX (As := [.int (xs (i + 1)), .int (xs (i + 2))]) (st := []) (wr := w4) (wf := w4 ++ u3) (q0 := 0) (ci := 3) rfl e3 h3 gL_law_X3_when cp_X3_when ⟨by decide, by decide⟩ (by decide) _ _ _ (cut_app w3 w4 u3) rfl rfl (Nat.le_of_ble_eq_true rfl) dL_law_582 ?_
  refine GN.aload_n hX 1 rfl dL_law_585 ?_
  refine GN.aload_n hX 3 rfl dL_law_586 ?_
  refine GN.iload_n hX 0 rfl dL_law_587 ?_
  refine GN.iconst hX (v := 1) (by decide) dL_law_588 ?_
  refine GN.iadd hX dL_law_589 ?_
  refine GN.ie (y := nI (i + 1)) (nI_add i 1) ?_
  refine GN.sld hX (j := i + 1) hXs hbl hbA (by omega) (by omega) dL_law_590 ?_
  refine GN.aload_n hX 3 rfl dL_law_591 ?_
  refine GN.iload_n hX 0 rfl dL_law_592 ?_
  refine GN.iconst hX (v := 2) (by decide) dL_law_593 ?_
  refine GN.iadd hX dL_law_594 ?_
  refine GN.ie (y := nI (i + 2)) (nI_add i 2) ?_
  refine GN.sld hX (j := i + 2) hXs hbl hbA (by omega) (by omega) dL_law_595 ?_
  refine GN.vi hX (As := [.int (xs (i + 1)), .int (xs (i + 2))]) (st := [.int r]) (wr := u3) (wf := u3 ++ u4) (q0 := 0) (ci := 4) rfl e4 h4 gL_law_X4_when cp_X4_when ⟨by decide, by decide⟩ (by decide) _ _ _ (cut_app w4 u3 u4) rfl rfl (Nat.le_of_ble_eq_true rfl) dL_law_596 ?_
  exact GN.icmp_eq hX (tgt := 1221) (by decide) dL_law_599 (fun _ => kont u3 u4 hJ) (fun c => absurd rfl c)
set_option maxHeartbeats 4000000 in
set_option maxRecDepth 100000 in
theorem lc_home {E : EV} {X : CX} (hX : Cx E X RL code 4 ret wsL_law room_1) {ad : AD} {b L i : Nat} {xs : Nat → Int32} (hL : L ≤ 3072) (hXs : va_X b L xs X.2.2.2.2.1 X.2.2.2.2.1.heap) (hbl : b < X.2.2.2.2.1.heap.size) (hbA : ¬ X.2.2.2.2.2.2.2.2.2.2.2 b) (hi : i + 6 ≤ L) {w3 w4 : va_W} (hI : INV E ad w3 w4) (kont : ∀ u3 u4, INV E ad u3 u4 → GN 600000 7302250 E X 4 1221 [(3, .int (nI i)), (2, .ref (ad 6 0)), (1, .ref (ad 0 0)), (0, .ref b)] [] (u3 ++ u4)) : GN 600000 7302250 E X 4 604 [(3, .int (nI i)), (2, .ref (ad 6 0)), (1, .ref (ad 0 0)), (0, .ref b)] [] (w3 ++ w4) := by
  obtain ⟨r, u3, u4, h3, h4, hJ⟩ := t_home (l := X.2.1) hI (xs (i + 1))
  obtain ⟨f3, e3⟩ := hI.h3
  obtain ⟨f4, e4⟩ := hI.h4
  refine GN.aload_n hX 2 rfl dL_law_604 ?_
  refine GN.aload_n hX 3 rfl dL_law_605 ?_
  refine GN.iload_n hX 0 rfl dL_law_606 ?_
  refine GN.iconst hX (v := 1) (by decide) dL_law_607 ?_
  refine GN.iadd hX dL_law_608 ?_
  refine GN.ie (y := nI (i + 1)) (nI_add i 1) ?_
  refine GN.sld hX (j := i + 1) hXs hbl hbA (by omega) (by omega) dL_law_609 ?_
  refine GN.vi hX (As := [.int (xs (i + 1))]) (st := []) (wr := w4) (wf := w4 ++ u3) (q0 := 0) (ci := 3) rfl e3 h3 gL_law_X3_home cp_X3_home ⟨by decide, by decide⟩ (by decide) _ _ _ (cut_app w3 w4 u3) rfl rfl (Nat.le_of_ble_eq_true rfl) dL_law_610 ?_
  refine GN.aload_n hX 1 rfl dL_law_613 ?_
  refine GN.aload_n hX 3 rfl dL_law_614 ?_
  refine GN.iload_n hX 0 rfl dL_law_615 ?_
  refine GN.iconst hX (v := 1) (by decide) dL_law_616 ?_
  refine GN.iadd hX dL_law_617 ?_
  refine GN.ie (y := nI (i + 1)) (nI_add i 1) ?_
  refine GN.sld hX (j := i + 1) hXs hbl hbA (by omega) (by omega) dL_law_618 ?_
  refine GN.vi hX (As := [.int (xs (i + 1))]) (st := [.int r]) (wr := u3) (wf := u3 ++ u4) (q0 := 0) (ci := 4) rfl e4 h4 gL_law_X4_home cp_X4_home ⟨by decide, by decide⟩ (by decide) _ _ _ (cut_app w4 u3 u4) rfl rfl (Nat.le_of_ble_eq_true rfl) dL_law_619 ?_
  exact GN.icmp_eq hX (tgt := 1221) (by decide) dL_law_622 (fun _ => kont u3 u4 hJ) (fun c => absurd rfl c)
set_option maxHeartbeats 4000000 in
set_option maxRecDepth 100000 in
theorem lc_last {E : EV} {X : CX} (hX : Cx E X RL code 4 ret wsL_law room_1) {ad : AD} {b L i : Nat} {xs : Nat → Int32} (hL : L ≤ 3072) (hXs : va_X b L xs X.2.2.2.2.1 X.2.2.2.2.1.heap) (hbl : b < X.2.2.2.2.1.heap.size) (hbA : ¬ X.2.2.2.2.2.2.2.2.2.2.2 b) (hi : i + 6 ≤ L) {w3 w4 : va_W} (hI : INV E ad w3 w4) (kont : ∀ u3 u4, INV E ad u3 u4 → GN 600000 7302250 E X 4 1221 [(3, .int (nI i)), (2, .ref (ad 6 0)), (1, .ref (ad 0 0)), (0, .ref b)] [] (u3 ++ u4)) : GN 600000 7302250 E X 4 627 [(3, .int (nI i)), (2, .ref (ad 6 0)), (1, .ref (ad 0 0)), (0, .ref b)] [] (w3 ++ w4) := by
  obtain ⟨r, u3, u4, h3, h4, hJ⟩ := t_last (l := X.2.1) hI (xs (i + 1))
  obtain ⟨f3, e3⟩ := hI.h3
  obtain ⟨f4, e4⟩ := hI.h4
  refine GN.aload_n hX 2 rfl dL_law_627 ?_
  refine GN.aload_n hX 3 rfl dL_law_628 ?_
  refine GN.iload_n hX 0 rfl dL_law_629 ?_
  refine GN.iconst hX (v := 1) (by decide) dL_law_630 ?_
  refine GN.iadd hX dL_law_631 ?_
  refine GN.ie (y := nI (i + 1)) (nI_add i 1) ?_
  refine GN.sld hX (j := i + 1) hXs hbl hbA (by omega) (by omega) dL_law_632 ?_
  refine GN.vi hX (As := [.int (xs (i + 1))]) (st := []) (wr := w4) (wf := w4 ++ u3) (q0 := 0) (ci := 3) rfl e3 h3 gL_law_X3_last cp_X3_last ⟨by decide, by decide⟩ (by decide) _ _ _ (cut_app w3 w4 u3) rfl rfl (Nat.le_of_ble_eq_true rfl) dL_law_633 ?_
  refine GN.aload_n hX 1 rfl dL_law_636 ?_
  refine GN.aload_n hX 3 rfl dL_law_637 ?_
  refine GN.iload_n hX 0 rfl dL_law_638 ?_
  refine GN.iconst hX (v := 1) (by decide) dL_law_639 ?_
  refine GN.iadd hX dL_law_640 ?_
  refine GN.ie (y := nI (i + 1)) (nI_add i 1) ?_
  refine GN.sld hX (j := i + 1) hXs hbl hbA (by omega) (by omega) dL_law_641 ?_
  refine GN.vi hX (As := [.int (xs (i + 1))]) (st := [.int r]) (wr := u3) (wf := u3 ++ u4) (q0 := 0) (ci := 4) rfl e4 h4 gL_law_X4_last cp_X4_last ⟨by decide, by decide⟩ (by decide) _ _ _ (cut_app w4 u3 u4) rfl rfl (Nat.le_of_ble_eq_true rfl) dL_law_642 ?_
  exact GN.icmp_eq hX (tgt := 1221) (by decide) dL_law_645 (fun _ => kont u3 u4 hJ) (fun c => absurd rfl c)
set_option maxHeartbeats 4000000 in
set_option maxRecDepth 100000 in
theorem lc_introduce {E : EV} {X : CX} (hX : Cx E X RL code 4 ret wsL_law room_1) {ad : AD} {b L i : Nat} {xs : Nat → Int32} (hL : L ≤ 3072) (hXs : va_X b L xs X.2.2.2.2.1 X.2.2.2.2.1.heap) (hbl : b < X.2.2.2.2.1.heap.size) (hbA : ¬ X.2.2.2.2.2.2.2.2.2.2.2 b) (hi : i + 6 ≤ L) {w3 w4 : va_W} (hI : INV E ad w3 w4) (kont : ∀ u3 u4, INV E ad u3 u4 → GN 600000 7302250 E X 4 1221 [(3, .int (nI i)), (2, .ref (ad 6 0)), (1, .ref (ad 0 0)), (0, .ref b)] [] (u3 ++ u4)) : GN 600000 7302250 E X 4 650 [(3, .int (nI i)), (2, .ref (ad 6 0)), (1, .ref (ad 0 0)), (0, .ref b)] [] (w3 ++ w4) := by
  obtain ⟨r, u3, u4, h3, h4, hJ⟩ := t_introduce (l := X.2.1) hI (xs (i + 1))
  obtain ⟨f3, e3⟩ := hI.h3
  obtain ⟨f4, e4⟩ := hI.h4
  refine GN.aload_n hX 2 rfl dL_law_650 ?_
  refine GN.aload_n hX 3 rfl dL_law_651 ?_
  refine GN.iload_n hX 0 rfl dL_law_652 ?_
  refine GN.iconst hX (v := 1) (by decide) dL_law_653 ?_
  refine GN.iadd hX dL_law_654 ?_
  refine GN.ie (y := nI (i + 1)) (nI_add i 1) ?_
  refine GN.sld hX (j := i + 1) hXs hbl hbA (by omega) (by omega) dL_law_655 ?_
  refine GN.vi hX (As := [.int (xs (i + 1))]) (st := []) (wr := w4) (wf := w4 ++ u3) (q0 := 0) (ci := 3) rfl e3 h3 gL_law_X3_introduce cp_X3_introduce ⟨by decide, by decide⟩ (by decide) _ _ _ (cut_app w3 w4 u3) rfl rfl (Nat.le_of_ble_eq_true rfl) dL_law_656 ?_
  refine GN.aload_n hX 1 rfl dL_law_659 ?_
  refine GN.aload_n hX 3 rfl dL_law_660 ?_
  refine GN.iload_n hX 0 rfl dL_law_661 ?_
  refine GN.iconst hX (v := 1) (by decide) dL_law_662 ?_
  refine GN.iadd hX dL_law_663 ?_
  refine GN.ie (y := nI (i + 1)) (nI_add i 1) ?_
  refine GN.sld hX (j := i + 1) hXs hbl hbA (by omega) (by omega) dL_law_664 ?_
  refine GN.vi hX (As := [.int (xs (i + 1))]) (st := [.int r]) (wr := u3) (wf := u3 ++ u4) (q0 := 0) (ci := 4) rfl e4 h4 gL_law_X4_introduce cp_X4_introduce ⟨by decide, by decide⟩ (by decide) _ _ _ (cut_app w4 u3 u4) rfl rfl (Nat.le_of_ble_eq_true rfl) dL_law_665 ?_
  exact GN.icmp_eq hX (tgt := 1221) (by decide) dL_law_668 (fun _ => kont u3 u4 hJ) (fun c => absurd rfl c)
set_option maxHeartbeats 4000000 in
set_option maxRecDepth 100000 in
theorem lc_lime {E : EV} {X : CX} (hX : Cx E X RL code 4 ret wsL_law room_1) {ad : AD} {b L i : Nat} {xs : Nat → Int32} (hL : L ≤ 3072) (hXs : va_X b L xs X.2.2.2.2.1 X.2.2.2.2.1.heap) (hbl : b < X.2.2.2.2.1.heap.size) (hbA : ¬ X.2.2.2.2.2.2.2.2.2.2.2 b) (hi : i + 6 ≤ L) {w3 w4 : va_W} (hI : INV E ad w3 w4) (kont : ∀ u3 u4, INV E ad u3 u4 → GN 600000 7302250 E X 4 1221 [(3, .int (nI i)), (2, .ref (ad 6 0)), (1, .ref (ad 0 0)), (0, .ref b)] [] (u3 ++ u4)) : GN 600000 7302250 E X 4 673 [(3, .int (nI i)), (2, .ref (ad 6 0)), (1, .ref (ad 0 0)), (0, .ref b)] [] (w3 ++ w4) := by
  obtain ⟨r, u3, u4, h3, h4, hJ⟩ := t_lime (l := X.2.1) hI (xs (i + 1))
  obtain ⟨f3, e3⟩ := hI.h3
  obtain ⟨f4, e4⟩ := hI.h4
  refine GN.aload_n hX 2 rfl dL_law_673 ?_
  refine GN.aload_n hX 3 rfl dL_law_674 ?_
  refine GN.iload_n hX 0 rfl dL_law_675 ?_
  refine GN.iconst hX (v := 1) (by decide) dL_law_676 ?_
  refine GN.iadd hX dL_law_677 ?_
  refine GN.ie (y := nI (i + 1)) (nI_add i 1) ?_
  refine GN.sld hX (j := i + 1) hXs hbl hbA (by omega) (by omega) dL_law_678 ?_
  refine GN.vi hX (As := [.int (xs (i + 1))]) (st := []) (wr := w4) (wf := w4 ++ u3) (q0 := 0) (ci := 3) rfl e3 h3 gL_law_X3_lime cp_X3_lime ⟨by decide, by decide⟩ (by decide) _ _ _ (cut_app w3 w4 u3) rfl rfl (Nat.le_of_ble_eq_true rfl) dL_law_679 ?_
  refine GN.aload_n hX 1 rfl dL_law_682 ?_
  refine GN.aload_n hX 3 rfl dL_law_683 ?_
  refine GN.iload_n hX 0 rfl dL_law_684 ?_
  refine GN.iconst hX (v := 1) (by decide) dL_law_685 ?_
  refine GN.iadd hX dL_law_686 ?_
  refine GN.ie (y := nI (i + 1)) (nI_add i 1) ?_
  refine GN.sld hX (j := i + 1) hXs hbl hbA (by omega) (by omega) dL_law_687 ?_
  refine GN.vi hX (As := [.int (xs (i + 1))]) (st := [.int r]) (wr := u3) (wf := u3 ++ u4) (q0 := 0) (ci := 4) rfl e4 h4 gL_law_X4_lime cp_X4_lime ⟨by decide, by decide⟩ (by decide) _ _ _ (cut_app w4 u3 u4) rfl rfl (Nat.le_of_ble_eq_true rfl) dL_law_688 ?_
  exact GN.icmp_eq hX (tgt := 1221) (by decide) dL_law_691 (fun _ => kont u3 u4 hJ) (fun c => absurd rfl c)
set_option maxHeartbeats 4000000 in
set_option maxRecDepth 100000 in
theorem lc_kind {E : EV} {X : CX} (hX : Cx E X RL code 4 ret wsL_law room_1) {ad : AD} {b L i : Nat} {xs : Nat → Int32} (hL : L ≤ 3072) (hXs : va_X b L xs X.2.2.2.2.1 X.2.2.2.2.1.heap) (hbl : b < X.2.2.2.2.1.heap.size) (hbA : ¬ X.2.2.2.2.2.2.2.2.2.2.2 b) (hi : i + 6 ≤ L) {w3 w4 : va_W} (hI : INV E ad w3 w4) (kont : ∀ u3 u4, INV E ad u3 u4 → GN 600000 7302250 E X 4 1221 [(3, .int (nI i)), (2, .ref (ad 6 0)), (1, .ref (ad 0 0)), (0, .ref b)] [] (u3 ++ u4)) : GN 600000 7302250 E X 4 696 [(3, .int (nI i)), (2, .ref (ad 6 0)), (1, .ref (ad 0 0)), (0, .ref b)] [] (w3 ++ w4) := by
  obtain ⟨r, u3, u4, h3, h4, hJ⟩ := t_kind (l := X.2.1) hI (xs (i + 1)) (xs (i + 2))
  obtain ⟨f3, e3⟩ := hI.h3
  obtain ⟨f4, e4⟩ := hI.h4
  refine GN.aload_n hX 2 rfl dL_law_696 ?_
  refine GN.aload_n hX 3 rfl dL_law_697 ?_
  refine GN.iload_n hX 0 rfl dL_law_698 ?_
  refine GN.iconst hX (v := 1) (by decide) dL_law_699 ?_
  refine GN.iadd hX dL_law_700 ?_
  refine GN.ie (y := nI (i + 1)) (nI_add i 1) ?_
  refine GN.sld hX (j := i + 1) hXs hbl hbA (by omega) (by omega) dL_law_701 ?_
  refine GN.aload_n hX 3 rfl dL_law_702 ?_
  refine GN.iload_n hX 0 rfl dL_law_703 ?_
  refine GN.iconst hX (v := 2) (by decide) dL_law_704 ?_
  refine GN.iadd hX dL_law_705 ?_
  refine GN.ie (y := nI (i + 2)) (nI_add i 2) ?_
  refine GN.sld hX (j := i + 2) hXs hbl hbA (by omega) (by omega) dL_law_706 ?_
  refine GN.vi hX (As := [.int (xs (i + 1)), .int (xs (i + 2))]) (st := []) (wr := w4) (wf := w4 ++ u3) (q0 := 0) (ci := 3) rfl e3 h3 gL_law_X3_kind cp_X3_kind ⟨by decide, by decide⟩ (by decide) _ _ _ (cut_app w3 w4 u3) rfl rfl (Nat.le_of_ble_eq_true rfl) dL_law_707 ?_
  refine GN.aload_n hX 1 rfl dL_law_710 ?_
  refine GN.aload_n hX 3 rfl dL_law_711 ?_
  refine GN.iload_n hX 0 rfl dL_law_712 ?_
  refine GN.iconst hX (v := 1) (by decide) dL_law_713 ?_
  refine GN.iadd hX dL_law_714 ?_
  refine GN.ie (y := nI (i + 1)) (nI_add i 1) ?_
  refine GN.sld hX (j := i + 1) hXs hbl hbA (by omega) (by omega) dL_law_715 ?_
  refine GN.aload_n hX 3 rfl dL_law_716 ?_
  refine GN.iload_n hX 0 rfl dL_law_717 ?_
  refine GN.iconst hX (v := 2) (by decide) dL_law_718 ?_
  refine GN.iadd hX dL_law_719 ?_
  refine GN.ie (y := nI (i + 2)) (nI_add i 2) ?_
  refine GN.sld hX (j := i + 2) hXs hbl hbA (by omega) (by omega) dL_law_720 ?_
  refine GN.vi hX (As := [.int (xs (i + 1)), .int (xs (i + 2))]) (st := [.int r]) (wr := u3) (wf := u3 ++ u4) (q0 := 0) (ci := 4) rfl e4 h4 gL_law_X4_kind cp_X4_kind ⟨by decide, by decide⟩ (by decide) _ _ _ (cut_app w4 u3 u4) rfl rfl (Nat.le_of_ble_eq_true rfl) dL_law_721 ?_
  exact GN.icmp_eq hX (tgt := 1221) (by decide) dL_law_724 (fun _ => kont u3 u4 hJ) (fun c => absurd rfl c)
set_option maxHeartbeats 4000000 in
set_option maxRecDepth 100000 in
theorem lc_delay {E : EV} {X : CX} (hX : Cx E X RL code 4 ret wsL_law room_1) {ad : AD} {b L i : Nat} {xs : Nat → Int32} (hL : L ≤ 3072) (hXs : va_X b L xs X.2.2.2.2.1 X.2.2.2.2.1.heap) (hbl : b < X.2.2.2.2.1.heap.size) (hbA : ¬ X.2.2.2.2.2.2.2.2.2.2.2 b) (hi : i + 6 ≤ L) {w3 w4 : va_W} (hI : INV E ad w3 w4) (kont : ∀ u3 u4, INV E ad u3 u4 → GN 600000 7302250 E X 4 1221 [(3, .int (nI i)), (2, .ref (ad 6 0)), (1, .ref (ad 0 0)), (0, .ref b)] [] (u3 ++ u4)) : GN 600000 7302250 E X 4 729 [(3, .int (nI i)), (2, .ref (ad 6 0)), (1, .ref (ad 0 0)), (0, .ref b)] [] (w3 ++ w4) := by
  obtain ⟨r, u3, u4, h3, h4, hJ⟩ := t_delay (l := X.2.1) hI (xs (i + 1))
  obtain ⟨f3, e3⟩ := hI.h3
  obtain ⟨f4, e4⟩ := hI.h4
  refine GN.aload_n hX 2 rfl dL_law_729 ?_
  refine GN.aload_n hX 3 rfl dL_law_730 ?_
  refine GN.iload_n hX 0 rfl dL_law_731 ?_
  refine GN.iconst hX (v := 1) (by decide) dL_law_732 ?_
  refine GN.iadd hX dL_law_733 ?_
  refine GN.ie (y := nI (i + 1)) (nI_add i 1) ?_
  refine GN.sld hX (j := i + 1) hXs hbl hbA (by omega) (by omega) dL_law_734 ?_
  refine GN.vi hX (As := [.int (xs (i + 1))]) (st := []) (wr := w4) (wf := w4 ++ u3) (q0 := 0) (ci := 3) rfl e3 h3 gL_law_X3_delay cp_X3_delay ⟨by decide, by decide⟩ (by decide) _ _ _ (cut_app w3 w4 u3) rfl rfl (Nat.le_of_ble_eq_true rfl) dL_law_735 ?_
  refine GN.aload_n hX 1 rfl dL_law_738 ?_
  refine GN.aload_n hX 3 rfl dL_law_739 ?_
  refine GN.iload_n hX 0 rfl dL_law_740 ?_
  refine GN.iconst hX (v := 1) (by decide) dL_law_741 ?_
  refine GN.iadd hX dL_law_742 ?_
  refine GN.ie (y := nI (i + 1)) (nI_add i 1) ?_
  refine GN.sld hX (j := i + 1) hXs hbl hbA (by omega) (by omega) dL_law_743 ?_
  refine GN.vi hX (As := [.int (xs (i + 1))]) (st := [.int r]) (wr := u3) (wf := u3 ++ u4) (q0 := 0) (ci := 4) rfl e4 h4 gL_law_X4_delay cp_X4_delay ⟨by decide, by decide⟩ (by decide) _ _ _ (cut_app w4 u3 u4) rfl rfl (Nat.le_of_ble_eq_true rfl) dL_law_744 ?_
  exact GN.icmp_eq hX (tgt := 1221) (by decide) dL_law_747 (fun _ => kont u3 u4 hJ) (fun c => absurd rfl c)
set_option maxHeartbeats 4000000 in
set_option maxRecDepth 100000 in
theorem lc_side {E : EV} {X : CX} (hX : Cx E X RL code 4 ret wsL_law room_1) {ad : AD} {b L i : Nat} {xs : Nat → Int32} (hL : L ≤ 3072) (hXs : va_X b L xs X.2.2.2.2.1 X.2.2.2.2.1.heap) (hbl : b < X.2.2.2.2.1.heap.size) (hbA : ¬ X.2.2.2.2.2.2.2.2.2.2.2 b) (hi : i + 6 ≤ L) {w3 w4 : va_W} (hI : INV E ad w3 w4) (kont : ∀ u3 u4, INV E ad u3 u4 → GN 600000 7302250 E X 4 1221 [(3, .int (nI i)), (2, .ref (ad 6 0)), (1, .ref (ad 0 0)), (0, .ref b)] [] (u3 ++ u4)) : GN 600000 7302250 E X 4 752 [(3, .int (nI i)), (2, .ref (ad 6 0)), (1, .ref (ad 0 0)), (0, .ref b)] [] (w3 ++ w4) := by
  obtain ⟨r, u3, u4, h3, h4, hJ⟩ := t_side (l := X.2.1) hI (xs (i + 1))
  obtain ⟨f3, e3⟩ := hI.h3
  obtain ⟨f4, e4⟩ := hI.h4
  refine GN.aload_n hX 2 rfl dL_law_752 ?_
  refine GN.aload_n hX 3 rfl dL_law_753 ?_
  refine GN.iload_n hX 0 rfl dL_law_754 ?_
  refine GN.iconst hX (v := 1) (by decide) dL_law_755 ?_
  refine GN.iadd hX dL_law_756 ?_
  refine GN.ie (y := nI (i + 1)) (nI_add i 1) ?_
  refine GN.sld hX (j := i + 1) hXs hbl hbA (by omega) (by omega) dL_law_757 ?_
  refine GN.vi hX (As := [.int (xs (i + 1))]) (st := []) (wr := w4) (wf := w4 ++ u3) (q0 := 0) (ci := 3) rfl e3 h3 gL_law_X3_side cp_X3_side ⟨by decide, by decide⟩ (by decide) _ _ _ (cut_app w3 w4 u3) rfl rfl (Nat.le_of_ble_eq_true rfl) dL_law_758 ?_
  refine GN.aload_n hX 1 rfl dL_law_761 ?_
  refine GN.aload_n hX 3 rfl dL_law_762 ?_
  refine GN.iload_n hX 0 rfl dL_law_763 ?_
  refine GN.iconst hX (v := 1) (by decide) dL_law_764 ?_
  refine GN.iadd hX dL_law_765 ?_
  refine GN.ie (y := nI (i + 1)) (nI_add i 1) ?_
  refine GN.sld hX (j := i + 1) hXs hbl hbA (by omega) (by omega) dL_law_766 ?_
  refine GN.vi hX (As := [.int (xs (i + 1))]) (st := [.int r]) (wr := u3) (wf := u3 ++ u4) (q0 := 0) (ci := 4) rfl e4 h4 gL_law_X4_side cp_X4_side ⟨by decide, by decide⟩ (by decide) _ _ _ (cut_app w4 u3 u4) rfl rfl (Nat.le_of_ble_eq_true rfl) dL_law_767 ?_
  exact GN.icmp_eq hX (tgt := 1221) (by decide) dL_law_770 (fun _ => kont u3 u4 hJ) (fun c => absurd rfl c)
set_option maxHeartbeats 4000000 in
set_option maxRecDepth 100000 in
theorem lc_needed {E : EV} {X : CX} (hX : Cx E X RL code 4 ret wsL_law room_1) {ad : AD} {b L i : Nat} {xs : Nat → Int32} (hL : L ≤ 3072) (hXs : va_X b L xs X.2.2.2.2.1 X.2.2.2.2.1.heap) (hbl : b < X.2.2.2.2.1.heap.size) (hbA : ¬ X.2.2.2.2.2.2.2.2.2.2.2 b) (hi : i + 6 ≤ L) {w3 w4 : va_W} (hI : INV E ad w3 w4) (kont : ∀ u3 u4, INV E ad u3 u4 → GN 600000 7302250 E X 4 1221 [(3, .int (nI i)), (2, .ref (ad 6 0)), (1, .ref (ad 0 0)), (0, .ref b)] [] (u3 ++ u4)) : GN 600000 7302250 E X 4 775 [(3, .int (nI i)), (2, .ref (ad 6 0)), (1, .ref (ad 0 0)), (0, .ref b)] [] (w3 ++ w4) := by
  obtain ⟨r, u3, u4, h3, h4, hJ⟩ := t_needed (l := X.2.1) hI (xs (i + 1))
  obtain ⟨f3, e3⟩ := hI.h3
  obtain ⟨f4, e4⟩ := hI.h4
  refine GN.aload_n hX 2 rfl dL_law_775 ?_
  refine GN.aload_n hX 3 rfl dL_law_776 ?_
  refine GN.iload_n hX 0 rfl dL_law_777 ?_
  refine GN.iconst hX (v := 1) (by decide) dL_law_778 ?_
  refine GN.iadd hX dL_law_779 ?_
  refine GN.ie (y := nI (i + 1)) (nI_add i 1) ?_
  refine GN.sld hX (j := i + 1) hXs hbl hbA (by omega) (by omega) dL_law_780 ?_
  refine GN.vi hX (As := [.int (xs (i + 1))]) (st := []) (wr := w4) (wf := w4 ++ u3) (q0 := 0) (ci := 3) rfl e3 h3 gL_law_X3_needed cp_X3_needed ⟨by decide, by decide⟩ (by decide) _ _ _ (cut_app w3 w4 u3) rfl rfl (Nat.le_of_ble_eq_true rfl) dL_law_781 ?_
  refine GN.aload_n hX 1 rfl dL_law_784 ?_
  refine GN.aload_n hX 3 rfl dL_law_785 ?_
  refine GN.iload_n hX 0 rfl dL_law_786 ?_
  refine GN.iconst hX (v := 1) (by decide) dL_law_787 ?_
  refine GN.iadd hX dL_law_788 ?_
  refine GN.ie (y := nI (i + 1)) (nI_add i 1) ?_
  refine GN.sld hX (j := i + 1) hXs hbl hbA (by omega) (by omega) dL_law_789 ?_
  refine GN.vi hX (As := [.int (xs (i + 1))]) (st := [.int r]) (wr := u3) (wf := u3 ++ u4) (q0 := 0) (ci := 4) rfl e4 h4 gL_law_X4_needed cp_X4_needed ⟨by decide, by decide⟩ (by decide) _ _ _ (cut_app w4 u3 u4) rfl rfl (Nat.le_of_ble_eq_true rfl) dL_law_790 ?_
  exact GN.icmp_eq hX (tgt := 1221) (by decide) dL_law_793 (fun _ => kont u3 u4 hJ) (fun c => absurd rfl c)
set_option maxHeartbeats 4000000 in
set_option maxRecDepth 100000 in
theorem lc_feed {E : EV} {X : CX} (hX : Cx E X RL code 4 ret wsL_law room_1) {ad : AD} {b L i : Nat} {xs : Nat → Int32} (hL : L ≤ 3072) (hXs : va_X b L xs X.2.2.2.2.1 X.2.2.2.2.1.heap) (hbl : b < X.2.2.2.2.1.heap.size) (hbA : ¬ X.2.2.2.2.2.2.2.2.2.2.2 b) (hi : i + 6 ≤ L) {w3 w4 : va_W} (hI : INV E ad w3 w4) (kont : ∀ u3 u4, INV E ad u3 u4 → GN 600000 7302250 E X 4 1221 [(3, .int (nI i)), (2, .ref (ad 6 0)), (1, .ref (ad 0 0)), (0, .ref b)] [] (u3 ++ u4)) : GN 600000 7302250 E X 4 798 [(3, .int (nI i)), (2, .ref (ad 6 0)), (1, .ref (ad 0 0)), (0, .ref b)] [] (w3 ++ w4) := by
  obtain ⟨r, u3, u4, h3, h4, hJ⟩ := t_feed (l := X.2.1) hI (xs (i + 1)) (xs (i + 2))
  obtain ⟨f3, e3⟩ := hI.h3
  obtain ⟨f4, e4⟩ := hI.h4
  refine GN.aload_n hX 2 rfl dL_law_798 ?_
  refine GN.aload_n hX 3 rfl dL_law_799 ?_
  refine GN.iload_n hX 0 rfl dL_law_800 ?_
  refine GN.iconst hX (v := 1) (by decide) dL_law_801 ?_
  refine GN.iadd hX dL_law_802 ?_
  refine GN.ie (y := nI (i + 1)) (nI_add i 1) ?_
  refine GN.sld hX (j := i + 1) hXs hbl hbA (by omega) (by omega) dL_law_803 ?_
  refine GN.aload_n hX 3 rfl dL_law_804 ?_
  refine GN.iload_n hX 0 rfl dL_law_805 ?_
  refine GN.iconst hX (v := 2) (by decide) dL_law_806 ?_
  refine GN.iadd hX dL_law_807 ?_
  refine GN.ie (y := nI (i + 2)) (nI_add i 2) ?_
  refine GN.sld hX (j := i + 2) hXs hbl hbA (by omega) (by omega) dL_law_808 ?_
  refine GN.vi hX (As := [.int (xs (i + 1)), .int (xs (i + 2))]) (st := []) (wr := w4) (wf := w4 ++ u3) (q0 := 0) (ci := 3) rfl e3 h3 gL_law_X3_feed cp_X3_feed ⟨by decide, by decide⟩ (by decide) _ _ _ (cut_app w3 w4 u3) rfl rfl (Nat.le_of_ble_eq_true rfl) dL_law_809 ?_
  refine GN.aload_n hX 1 rfl dL_law_812 ?_
  refine GN.aload_n hX 3 rfl dL_law_813 ?_
  refine GN.iload_n hX 0 rfl dL_law_814 ?_
  refine GN.iconst hX (v := 1) (by decide) dL_law_815 ?_
  refine GN.iadd hX dL_law_816 ?_
  refine GN.ie (y := nI (i + 1)) (nI_add i 1) ?_
  refine GN.sld hX (j := i + 1) hXs hbl hbA (by omega) (by omega) dL_law_817 ?_
  refine GN.aload_n hX 3 rfl dL_law_818 ?_
  refine GN.iload_n hX 0 rfl dL_law_819 ?_
  refine GN.iconst hX (v := 2) (by decide) dL_law_820 ?_
  refine GN.iadd hX dL_law_821 ?_
  refine GN.ie (y := nI (i + 2)) (nI_add i 2) ?_
  refine GN.sld hX (j := i + 2) hXs hbl hbA (by omega) (by omega) dL_law_822 ?_
  refine GN.vi hX (As := [.int (xs (i + 1)), .int (xs (i + 2))]) (st := [.int r]) (wr := u3) (wf := u3 ++ u4) (q0 := 0) (ci := 4) rfl e4 h4 gL_law_X4_feed cp_X4_feed ⟨by decide, by decide⟩ (by decide) _ _ _ (cut_app w4 u3 u4) rfl rfl (Nat.le_of_ble_eq_true rfl) dL_law_823 ?_
  exact GN.icmp_eq hX (tgt := 1221) (by decide) dL_law_826 (fun _ => kont u3 u4 hJ) (fun c => absurd rfl c)
set_option maxHeartbeats 4000000 in
set_option maxRecDepth 100000 in
theorem lc_wipe {E : EV} {X : CX} (hX : Cx E X RL code 4 ret wsL_law room_1) {ad : AD} {b L i : Nat} {xs : Nat → Int32} (hL : L ≤ 3072) (hXs : va_X b L xs X.2.2.2.2.1 X.2.2.2.2.1.heap) (hbl : b < X.2.2.2.2.1.heap.size) (hbA : ¬ X.2.2.2.2.2.2.2.2.2.2.2 b) (hi : i + 6 ≤ L) {w3 w4 : va_W} (hI : INV E ad w3 w4) (kont : ∀ u3 u4, INV E ad u3 u4 → GN 600000 7302250 E X 4 1221 [(3, .int (nI i)), (2, .ref (ad 6 0)), (1, .ref (ad 0 0)), (0, .ref b)] [] (u3 ++ u4)) : GN 600000 7302250 E X 4 831 [(3, .int (nI i)), (2, .ref (ad 6 0)), (1, .ref (ad 0 0)), (0, .ref b)] [] (w3 ++ w4) := by
  obtain ⟨r, u3, u4, h3, h4, hJ⟩ := t_wipe (l := X.2.1) hI
  obtain ⟨f3, e3⟩ := hI.h3
  obtain ⟨f4, e4⟩ := hI.h4
  refine GN.aload_n hX 2 rfl dL_law_831 ?_
  refine GN.vi hX (As := []) (st := []) (wr := w4) (wf := w4 ++ u3) (q0 := 0) (ci := 3) rfl e3 h3 gL_law_X3_wipe cp_X3_wipe ⟨by decide, by decide⟩ (by decide) _ _ _ (cut_app w3 w4 u3) rfl rfl (Nat.le_of_ble_eq_true rfl) dL_law_832 ?_
  refine GN.aload_n hX 1 rfl dL_law_835 ?_
  refine GN.vi hX (As := []) (st := [.int r]) (wr := u3) (wf := u3 ++ u4) (q0 := 0) (ci := 4) rfl e4 h4 gL_law_X4_wipe cp_X4_wipe ⟨by decide, by decide⟩ (by decide) _ _ _ (cut_app w4 u3 u4) rfl rfl (Nat.le_of_ble_eq_true rfl) dL_law_836 ?_
  exact GN.icmp_eq hX (tgt := 1221) (by decide) dL_law_839 (fun _ => kont u3 u4 hJ) (fun c => absurd rfl c)
set_option maxHeartbeats 4000000 in
set_option maxRecDepth 100000 in
theorem lc_avenue {E : EV} {X : CX} (hX : Cx E X RL code 4 ret wsL_law room_1) {ad : AD} {b L i : Nat} {xs : Nat → Int32} (hL : L ≤ 3072) (hXs : va_X b L xs X.2.2.2.2.1 X.2.2.2.2.1.heap) (hbl : b < X.2.2.2.2.1.heap.size) (hbA : ¬ X.2.2.2.2.2.2.2.2.2.2.2 b) (hi : i + 6 ≤ L) {w3 w4 : va_W} (hI : INV E ad w3 w4) (kont : ∀ u3 u4, INV E ad u3 u4 → GN 600000 7302250 E X 4 1221 [(3, .int (nI i)), (2, .ref (ad 6 0)), (1, .ref (ad 0 0)), (0, .ref b)] [] (u3 ++ u4)) : GN 600000 7302250 E X 4 844 [(3, .int (nI i)), (2, .ref (ad 6 0)), (1, .ref (ad 0 0)), (0, .ref b)] [] (w3 ++ w4) := by
  obtain ⟨r, u3, u4, h3, h4, hJ⟩ := t_avenue (l := X.2.1) hI
  obtain ⟨f3, e3⟩ := hI.h3
  obtain ⟨f4, e4⟩ := hI.h4
  refine GN.aload_n hX 2 rfl dL_law_844 ?_
  refine GN.vi hX (As := []) (st := []) (wr := w4) (wf := w4 ++ u3) (q0 := 0) (ci := 3) rfl e3 h3 gL_law_X3_avenue cp_X3_avenue ⟨by decide, by decide⟩ (by decide) _ _ _ (cut_app w3 w4 u3) rfl rfl (Nat.le_of_ble_eq_true rfl) dL_law_845 ?_
  refine GN.aload_n hX 1 rfl dL_law_848 ?_
  refine GN.vi hX (As := []) (st := [.int r]) (wr := u3) (wf := u3 ++ u4) (q0 := 0) (ci := 4) rfl e4 h4 gL_law_X4_avenue cp_X4_avenue ⟨by decide, by decide⟩ (by decide) _ _ _ (cut_app w4 u3 u4) rfl rfl (Nat.le_of_ble_eq_true rfl) dL_law_849 ?_
  exact GN.icmp_eq hX (tgt := 1221) (by decide) dL_law_852 (fun _ => kont u3 u4 hJ) (fun c => absurd rfl c)
set_option maxHeartbeats 4000000 in
set_option maxRecDepth 100000 in
theorem lc_sheet {E : EV} {X : CX} (hX : Cx E X RL code 4 ret wsL_law room_1) {ad : AD} {b L i : Nat} {xs : Nat → Int32} (hL : L ≤ 3072) (hXs : va_X b L xs X.2.2.2.2.1 X.2.2.2.2.1.heap) (hbl : b < X.2.2.2.2.1.heap.size) (hbA : ¬ X.2.2.2.2.2.2.2.2.2.2.2 b) (hi : i + 6 ≤ L) {w3 w4 : va_W} (hI : INV E ad w3 w4) (kont : ∀ u3 u4, INV E ad u3 u4 → GN 600000 7302250 E X 4 1221 [(3, .int (nI i)), (2, .ref (ad 6 0)), (1, .ref (ad 0 0)), (0, .ref b)] [] (u3 ++ u4)) : GN 600000 7302250 E X 4 857 [(3, .int (nI i)), (2, .ref (ad 6 0)), (1, .ref (ad 0 0)), (0, .ref b)] [] (w3 ++ w4) := by
  obtain ⟨r, u3, u4, h3, h4, hJ⟩ := t_sheet (l := X.2.1) hI (xs (i + 1)) (xs (i + 2)) (xs (i + 3))
  obtain ⟨f3, e3⟩ := hI.h3
  obtain ⟨f4, e4⟩ := hI.h4
  refine GN.aload_n hX 2 rfl dL_law_857 ?_
  refine GN.aload_n hX 3 rfl dL_law_858 ?_
  refine GN.iload_n hX 0 rfl dL_law_859 ?_
  refine GN.iconst hX (v := 1) (by decide) dL_law_860 ?_
  refine GN.iadd hX dL_law_861 ?_
  refine GN.ie (y := nI (i + 1)) (nI_add i 1) ?_
  refine GN.sld hX (j := i + 1) hXs hbl hbA (by omega) (by omega) dL_law_862 ?_
  refine GN.aload_n hX 3 rfl dL_law_863 ?_
  refine GN.iload_n hX 0 rfl dL_law_864 ?_
  refine GN.iconst hX (v := 2) (by decide) dL_law_865 ?_
  refine GN.iadd hX dL_law_866 ?_
  refine GN.ie (y := nI (i + 2)) (nI_add i 2) ?_
  refine GN.sld hX (j := i + 2) hXs hbl hbA (by omega) (by omega) dL_law_867 ?_
  refine GN.aload_n hX 3 rfl dL_law_868 ?_
  refine GN.iload_n hX 0 rfl dL_law_869 ?_
  refine GN.iconst hX (v := 3) (by decide) dL_law_870 ?_
  refine GN.iadd hX dL_law_871 ?_
  refine GN.ie (y := nI (i + 3)) (nI_add i 3) ?_
  refine GN.sld hX (j := i + 3) hXs hbl hbA (by omega) (by omega) dL_law_872 ?_
  refine GN.vi hX (As := [.int (xs (i + 1)), .int (xs (i + 2)), .int (xs (i + 3))]) (st := []) (wr := w4) (wf := w4 ++ u3) (q0 := 0) (ci := 3) rfl e3 h3 gL_law_X3_sheet cp_X3_sheet ⟨by decide, by decide⟩ (by decide) _ _ _ (cut_app w3 w4 u3) rfl rfl (Nat.le_of_ble_eq_true rfl) dL_law_873 ?_
  refine GN.aload_n hX 1 rfl dL_law_876 ?_
  refine GN.aload_n hX 3 rfl dL_law_877 ?_
  refine GN.iload_n hX 0 rfl dL_law_878 ?_
  refine GN.iconst hX (v := 1) (by decide) dL_law_879 ?_
  refine GN.iadd hX dL_law_880 ?_
  refine GN.ie (y := nI (i + 1)) (nI_add i 1) ?_
  refine GN.sld hX (j := i + 1) hXs hbl hbA (by omega) (by omega) dL_law_881 ?_
  refine GN.aload_n hX 3 rfl dL_law_882 ?_
  refine GN.iload_n hX 0 rfl dL_law_883 ?_
  refine GN.iconst hX (v := 2) (by decide) dL_law_884 ?_
  refine GN.iadd hX dL_law_885 ?_
  refine GN.ie (y := nI (i + 2)) (nI_add i 2) ?_
  refine GN.sld hX (j := i + 2) hXs hbl hbA (by omega) (by omega) dL_law_886 ?_
  refine GN.aload_n hX 3 rfl dL_law_887 ?_
  refine GN.iload_n hX 0 rfl dL_law_888 ?_
  refine GN.iconst hX (v := 3) (by decide) dL_law_889 ?_
  refine GN.iadd hX dL_law_890 ?_
  refine GN.ie (y := nI (i + 3)) (nI_add i 3) ?_
  refine GN.sld hX (j := i + 3) hXs hbl hbA (by omega) (by omega) dL_law_891 ?_
  refine GN.vi hX (As := [.int (xs (i + 1)), .int (xs (i + 2)), .int (xs (i + 3))]) (st := [.int r]) (wr := u3) (wf := u3 ++ u4) (q0 := 0) (ci := 4) rfl e4 h4 gL_law_X4_sheet cp_X4_sheet ⟨by decide, by decide⟩ (by decide) _ _ _ (cut_app w4 u3 u4) rfl rfl (Nat.le_of_ble_eq_true rfl) dL_law_892 ?_
  exact GN.icmp_eq hX (tgt := 1221) (by decide) dL_law_895 (fun _ => kont u3 u4 hJ) (fun c => absurd rfl c)
set_option maxHeartbeats 4000000 in
set_option maxRecDepth 100000 in
theorem lc_write {E : EV} {X : CX} (hX : Cx E X RL code 4 ret wsL_law room_1) {ad : AD} {b L i : Nat} {xs : Nat → Int32} (hL : L ≤ 3072) (hXs : va_X b L xs X.2.2.2.2.1 X.2.2.2.2.1.heap) (hbl : b < X.2.2.2.2.1.heap.size) (hbA : ¬ X.2.2.2.2.2.2.2.2.2.2.2 b) (hi : i + 6 ≤ L) {w3 w4 : va_W} (hI : INV E ad w3 w4) (kont : ∀ u3 u4, INV E ad u3 u4 → GN 600000 7302250 E X 4 1221 [(3, .int (nI i)), (2, .ref (ad 6 0)), (1, .ref (ad 0 0)), (0, .ref b)] [] (u3 ++ u4)) : GN 600000 7302250 E X 4 900 [(3, .int (nI i)), (2, .ref (ad 6 0)), (1, .ref (ad 0 0)), (0, .ref b)] [] (w3 ++ w4) := by
  obtain ⟨r, u3, u4, h3, h4, hJ⟩ := t_write (l := X.2.1) hI (xs (i + 1)) (xs (i + 2)) ((xs (i + 3)).toInt64 <<< ((32 : Int32).toInt64 &&& 63) ||| (xs (i + 4)).toInt64 &&& 4294967295)
  obtain ⟨f3, e3⟩ := hI.h3
  obtain ⟨f4, e4⟩ := hI.h4
  refine GN.aload_n hX 2 rfl dL_law_900 ?_
  refine GN.aload_n hX 3 rfl dL_law_901 ?_
  refine GN.iload_n hX 0 rfl dL_law_902 ?_
  refine GN.iconst hX (v := 1) (by decide) dL_law_903 ?_
  refine GN.iadd hX dL_law_904 ?_
  refine GN.ie (y := nI (i + 1)) (nI_add i 1) ?_
  refine GN.sld hX (j := i + 1) hXs hbl hbA (by omega) (by omega) dL_law_905 ?_
  refine GN.aload_n hX 3 rfl dL_law_906 ?_
  refine GN.iload_n hX 0 rfl dL_law_907 ?_
  refine GN.iconst hX (v := 2) (by decide) dL_law_908 ?_
  refine GN.iadd hX dL_law_909 ?_
  refine GN.ie (y := nI (i + 2)) (nI_add i 2) ?_
  refine GN.sld hX (j := i + 2) hXs hbl hbA (by omega) (by omega) dL_law_910 ?_
  refine GN.aload_n hX 3 rfl dL_law_911 ?_
  refine GN.iload_n hX 0 rfl dL_law_912 ?_
  refine GN.iconst hX (v := 3) (by decide) dL_law_913 ?_
  refine GN.iadd hX dL_law_914 ?_
  refine GN.ie (y := nI (i + 3)) (nI_add i 3) ?_
  refine GN.sld hX (j := i + 3) hXs hbl hbA (by omega) (by omega) dL_law_915 ?_
  refine GN.i2l hX dL_law_916 ?_
  refine GN.bipush hX (v := 32) (by decide) dL_law_917 ?_
  refine GN.lshl hX dL_law_919 ?_
  refine GN.aload_n hX 3 rfl dL_law_920 ?_
  refine GN.iload_n hX 0 rfl dL_law_921 ?_
  refine GN.iconst hX (v := 4) (by decide) dL_law_922 ?_
  refine GN.iadd hX dL_law_923 ?_
  refine GN.ie (y := nI (i + 4)) (nI_add i 4) ?_
  refine GN.sld hX (j := i + 4) hXs hbl hbA (by omega) (by omega) dL_law_924 ?_
  refine GN.i2l hX dL_law_925 ?_
  refine GN.ldc2 hX (v := 4294967295) (by decide +kernel) dL_law_926 ?_
  refine GN.land hX dL_law_929 ?_
  refine GN.lor hX dL_law_930 ?_
  refine GN.vl hX (As := [.int (xs (i + 1)), .int (xs (i + 2)), .long ((xs (i + 3)).toInt64 <<< ((32 : Int32).toInt64 &&& 63) ||| (xs (i + 4)).toInt64 &&& 4294967295)]) (st := []) (wr := w4) (wf := w4 ++ u3) (q0 := 0) (ci := 3) rfl e3 h3 gL_law_X3_write cp_X3_write ⟨by decide, by decide⟩ (by decide) _ _ _ (cut_app w3 w4 u3) rfl rfl (Nat.le_of_ble_eq_true rfl) dL_law_931 ?_
  refine GN.aload_n hX 1 rfl dL_law_934 ?_
  refine GN.aload_n hX 3 rfl dL_law_935 ?_
  refine GN.iload_n hX 0 rfl dL_law_936 ?_
  refine GN.iconst hX (v := 1) (by decide) dL_law_937 ?_
  refine GN.iadd hX dL_law_938 ?_
  refine GN.ie (y := nI (i + 1)) (nI_add i 1) ?_
  refine GN.sld hX (j := i + 1) hXs hbl hbA (by omega) (by omega) dL_law_939 ?_
  refine GN.aload_n hX 3 rfl dL_law_940 ?_
  refine GN.iload_n hX 0 rfl dL_law_941 ?_
  refine GN.iconst hX (v := 2) (by decide) dL_law_942 ?_
  refine GN.iadd hX dL_law_943 ?_
  refine GN.ie (y := nI (i + 2)) (nI_add i 2) ?_
  refine GN.sld hX (j := i + 2) hXs hbl hbA (by omega) (by omega) dL_law_944 ?_
  refine GN.aload_n hX 3 rfl dL_law_945 ?_
  refine GN.iload_n hX 0 rfl dL_law_946 ?_
  refine GN.iconst hX (v := 3) (by decide) dL_law_947 ?_
  refine GN.iadd hX dL_law_948 ?_
  refine GN.ie (y := nI (i + 3)) (nI_add i 3) ?_
  refine GN.sld hX (j := i + 3) hXs hbl hbA (by omega) (by omega) dL_law_949 ?_
  refine GN.i2l hX dL_law_950 ?_
  refine GN.bipush hX (v := 32) (by decide) dL_law_951 ?_
  refine GN.lshl hX dL_law_953 ?_
  refine GN.aload_n hX 3 rfl dL_law_954 ?_
  refine GN.iload_n hX 0 rfl dL_law_955 ?_
  refine GN.iconst hX (v := 4) (by decide) dL_law_956 ?_
  refine GN.iadd hX dL_law_957 ?_
  refine GN.ie (y := nI (i + 4)) (nI_add i 4) ?_
  refine GN.sld hX (j := i + 4) hXs hbl hbA (by omega) (by omega) dL_law_958 ?_
  refine GN.i2l hX dL_law_959 ?_
  refine GN.ldc2 hX (v := 4294967295) (by decide +kernel) dL_law_960 ?_
  refine GN.land hX dL_law_963 ?_
  refine GN.lor hX dL_law_964 ?_
  refine GN.vl hX (As := [.int (xs (i + 1)), .int (xs (i + 2)), .long ((xs (i + 3)).toInt64 <<< ((32 : Int32).toInt64 &&& 63) ||| (xs (i + 4)).toInt64 &&& 4294967295)]) (st := [.long r]) (wr := u3) (wf := u3 ++ u4) (q0 := 0) (ci := 4) rfl e4 h4 gL_law_X4_write cp_X4_write ⟨by decide, by decide⟩ (by decide) _ _ _ (cut_app w4 u3 u4) rfl rfl (Nat.le_of_ble_eq_true rfl) dL_law_965 ?_
  refine GN.lcmp hX dL_law_968 ?_
  exact GN.if_eq hX (tgt := 1221) (by decide) dL_law_969 (fun _ => kont u3 u4 hJ) (fun c => absurd (lc_eq.mpr rfl) c)
set_option maxHeartbeats 4000000 in
set_option maxRecDepth 100000 in
theorem lc_copy {E : EV} {X : CX} (hX : Cx E X RL code 4 ret wsL_law room_1) {ad : AD} {b L i : Nat} {xs : Nat → Int32} (hL : L ≤ 3072) (hXs : va_X b L xs X.2.2.2.2.1 X.2.2.2.2.1.heap) (hbl : b < X.2.2.2.2.1.heap.size) (hbA : ¬ X.2.2.2.2.2.2.2.2.2.2.2 b) (hi : i + 6 ≤ L) {w3 w4 : va_W} (hI : INV E ad w3 w4) (kont : ∀ u3 u4, INV E ad u3 u4 → GN 600000 7302250 E X 4 1221 [(3, .int (nI i)), (2, .ref (ad 6 0)), (1, .ref (ad 0 0)), (0, .ref b)] [] (u3 ++ u4)) : GN 600000 7302250 E X 4 974 [(3, .int (nI i)), (2, .ref (ad 6 0)), (1, .ref (ad 0 0)), (0, .ref b)] [] (w3 ++ w4) := by
  obtain ⟨r, u3, u4, h3, h4, hJ⟩ := t_copy (l := X.2.1) hI (xs (i + 1)) (xs (i + 2)) (xs (i + 3)) (xs (i + 4)) (xs (i + 5))
  obtain ⟨f3, e3⟩ := hI.h3
  obtain ⟨f4, e4⟩ := hI.h4
  refine GN.aload_n hX 2 rfl dL_law_974 ?_
  refine GN.aload_n hX 3 rfl dL_law_975 ?_
  refine GN.iload_n hX 0 rfl dL_law_976 ?_
  refine GN.iconst hX (v := 1) (by decide) dL_law_977 ?_
  refine GN.iadd hX dL_law_978 ?_
  refine GN.ie (y := nI (i + 1)) (nI_add i 1) ?_
  refine GN.sld hX (j := i + 1) hXs hbl hbA (by omega) (by omega) dL_law_979 ?_
  refine GN.aload_n hX 3 rfl dL_law_980 ?_
  refine GN.iload_n hX 0 rfl dL_law_981 ?_
  refine GN.iconst hX (v := 2) (by decide) dL_law_982 ?_
  refine GN.iadd hX dL_law_983 ?_
  refine GN.ie (y := nI (i + 2)) (nI_add i 2) ?_
  refine GN.sld hX (j := i + 2) hXs hbl hbA (by omega) (by omega) dL_law_984 ?_
  refine GN.aload_n hX 3 rfl dL_law_985 ?_
  refine GN.iload_n hX 0 rfl dL_law_986 ?_
  refine GN.iconst hX (v := 3) (by decide) dL_law_987 ?_
  refine GN.iadd hX dL_law_988 ?_
  refine GN.ie (y := nI (i + 3)) (nI_add i 3) ?_
  refine GN.sld hX (j := i + 3) hXs hbl hbA (by omega) (by omega) dL_law_989 ?_
  refine GN.aload_n hX 3 rfl dL_law_990 ?_
  refine GN.iload_n hX 0 rfl dL_law_991 ?_
  refine GN.iconst hX (v := 4) (by decide) dL_law_992 ?_
  refine GN.iadd hX dL_law_993 ?_
  refine GN.ie (y := nI (i + 4)) (nI_add i 4) ?_
  refine GN.sld hX (j := i + 4) hXs hbl hbA (by omega) (by omega) dL_law_994 ?_
  refine GN.aload_n hX 3 rfl dL_law_995 ?_
  refine GN.iload_n hX 0 rfl dL_law_996 ?_
  refine GN.iconst hX (v := 5) (by decide) dL_law_997 ?_
  refine GN.iadd hX dL_law_998 ?_
  refine GN.ie (y := nI (i + 5)) (nI_add i 5) ?_
  refine GN.sld hX (j := i + 5) hXs hbl hbA (by omega) (by omega) dL_law_999 ?_
  refine GN.vi hX (As := [.int (xs (i + 1)), .int (xs (i + 2)), .int (xs (i + 3)), .int (xs (i + 4)), .int (xs (i + 5))]) (st := []) (wr := w4) (wf := w4 ++ u3) (q0 := 0) (ci := 3) rfl e3 h3 gL_law_X3_copy cp_X3_copy ⟨by decide, by decide⟩ (by decide) _ _ _ (cut_app w3 w4 u3) rfl rfl (Nat.le_of_ble_eq_true rfl) dL_law_1000 ?_
  refine GN.aload_n hX 1 rfl dL_law_1003 ?_
  refine GN.aload_n hX 3 rfl dL_law_1004 ?_
  refine GN.iload_n hX 0 rfl dL_law_1005 ?_
  refine GN.iconst hX (v := 1) (by decide) dL_law_1006 ?_
  refine GN.iadd hX dL_law_1007 ?_
  refine GN.ie (y := nI (i + 1)) (nI_add i 1) ?_
  refine GN.sld hX (j := i + 1) hXs hbl hbA (by omega) (by omega) dL_law_1008 ?_
  refine GN.aload_n hX 3 rfl dL_law_1009 ?_
  refine GN.iload_n hX 0 rfl dL_law_1010 ?_
  refine GN.iconst hX (v := 2) (by decide) dL_law_1011 ?_
  refine GN.iadd hX dL_law_1012 ?_
  refine GN.ie (y := nI (i + 2)) (nI_add i 2) ?_
  refine GN.sld hX (j := i + 2) hXs hbl hbA (by omega) (by omega) dL_law_1013 ?_
  refine GN.aload_n hX 3 rfl dL_law_1014 ?_
  refine GN.iload_n hX 0 rfl dL_law_1015 ?_
  refine GN.iconst hX (v := 3) (by decide) dL_law_1016 ?_
  refine GN.iadd hX dL_law_1017 ?_
  refine GN.ie (y := nI (i + 3)) (nI_add i 3) ?_
  refine GN.sld hX (j := i + 3) hXs hbl hbA (by omega) (by omega) dL_law_1018 ?_
  refine GN.aload_n hX 3 rfl dL_law_1019 ?_
  refine GN.iload_n hX 0 rfl dL_law_1020 ?_
  refine GN.iconst hX (v := 4) (by decide) dL_law_1021 ?_
  refine GN.iadd hX dL_law_1022 ?_
  refine GN.ie (y := nI (i + 4)) (nI_add i 4) ?_
  refine GN.sld hX (j := i + 4) hXs hbl hbA (by omega) (by omega) dL_law_1023 ?_
  refine GN.aload_n hX 3 rfl dL_law_1024 ?_
  refine GN.iload_n hX 0 rfl dL_law_1025 ?_
  refine GN.iconst hX (v := 5) (by decide) dL_law_1026 ?_
  refine GN.iadd hX dL_law_1027 ?_
  refine GN.ie (y := nI (i + 5)) (nI_add i 5) ?_
  refine GN.sld hX (j := i + 5) hXs hbl hbA (by omega) (by omega) dL_law_1028 ?_
  refine GN.vi hX (As := [.int (xs (i + 1)), .int (xs (i + 2)), .int (xs (i + 3)), .int (xs (i + 4)), .int (xs (i + 5))]) (st := [.int r]) (wr := u3) (wf := u3 ++ u4) (q0 := 0) (ci := 4) rfl e4 h4 gL_law_X4_copy cp_X4_copy ⟨by decide, by decide⟩ (by decide) _ _ _ (cut_app w4 u3 u4) rfl rfl (Nat.le_of_ble_eq_true rfl) dL_law_1029 ?_
  exact GN.icmp_eq hX (tgt := 1221) (by decide) dL_law_1032 (fun _ => kont u3 u4 hJ) (fun c => absurd rfl c)
set_option maxHeartbeats 4000000 in
set_option maxRecDepth 100000 in
theorem lc_lays {E : EV} {X : CX} (hX : Cx E X RL code 4 ret wsL_law room_1) {ad : AD} {b L i : Nat} {xs : Nat → Int32} (hL : L ≤ 3072) (hXs : va_X b L xs X.2.2.2.2.1 X.2.2.2.2.1.heap) (hbl : b < X.2.2.2.2.1.heap.size) (hbA : ¬ X.2.2.2.2.2.2.2.2.2.2.2 b) (hi : i + 6 ≤ L) {w3 w4 : va_W} (hI : INV E ad w3 w4) (kont : ∀ u3 u4, INV E ad u3 u4 → GN 600000 7302250 E X 4 1221 [(3, .int (nI i)), (2, .ref (ad 6 0)), (1, .ref (ad 0 0)), (0, .ref b)] [] (u3 ++ u4)) : GN 600000 7302250 E X 4 1037 [(3, .int (nI i)), (2, .ref (ad 6 0)), (1, .ref (ad 0 0)), (0, .ref b)] [] (w3 ++ w4) := by
  obtain ⟨r, u3, u4, h3, h4, hJ⟩ := tt_lays (l := X.2.1) hI (xs (i + 1))
  obtain ⟨f3, e3⟩ := hI.h3
  obtain ⟨f4, e4⟩ := hI.h4
  refine GN.aload_n hX 2 rfl dL_law_1037 ?_
  refine GN.aload_n hX 3 rfl dL_law_1038 ?_
  refine GN.iload_n hX 0 rfl dL_law_1039 ?_
  refine GN.iconst hX (v := 1) (by decide) dL_law_1040 ?_
  refine GN.iadd hX dL_law_1041 ?_
  refine GN.ie (y := nI (i + 1)) (nI_add i 1) ?_
  refine GN.sld hX (j := i + 1) hXs hbl hbA (by omega) (by omega) dL_law_1042 ?_
  refine GN.vi hX (As := [.int (xs (i + 1))]) (st := []) (wr := w4) (wf := w4 ++ u3) (q0 := 0) (ci := 3) rfl e3 h3 gL_law_X3_lays cp_X3_lays ⟨by decide, by decide⟩ (by decide) _ _ _ (cut_app w3 w4 u3) rfl rfl (Nat.le_of_ble_eq_true rfl) dL_law_1043 ?_
  refine GN.aload_n hX 1 rfl dL_law_1046 ?_
  refine GN.aload_n hX 3 rfl dL_law_1047 ?_
  refine GN.iload_n hX 0 rfl dL_law_1048 ?_
  refine GN.iconst hX (v := 1) (by decide) dL_law_1049 ?_
  refine GN.iadd hX dL_law_1050 ?_
  refine GN.ie (y := nI (i + 1)) (nI_add i 1) ?_
  refine GN.sld hX (j := i + 1) hXs hbl hbA (by omega) (by omega) dL_law_1051 ?_
  refine GN.vi hX (As := [.int (xs (i + 1))]) (st := [.int r]) (wr := u3) (wf := u3 ++ u4) (q0 := 0) (ci := 4) rfl e4 h4 gL_law_X4_lays cp_X4_lays ⟨by decide, by decide⟩ (by decide) _ _ _ (cut_app w4 u3 u4) rfl rfl (Nat.le_of_ble_eq_true rfl) dL_law_1052 ?_
  exact GN.icmp_eq hX (tgt := 1221) (by decide) dL_law_1055 (fun _ => kont u3 u4 hJ) (fun c => absurd rfl c)
set_option maxHeartbeats 4000000 in
set_option maxRecDepth 100000 in
theorem lc_book {E : EV} {X : CX} (hX : Cx E X RL code 4 ret wsL_law room_1) {ad : AD} {b L i : Nat} {xs : Nat → Int32} (hL : L ≤ 3072) (hXs : va_X b L xs X.2.2.2.2.1 X.2.2.2.2.1.heap) (hbl : b < X.2.2.2.2.1.heap.size) (hbA : ¬ X.2.2.2.2.2.2.2.2.2.2.2 b) (hi : i + 6 ≤ L) {w3 w4 : va_W} (hI : INV E ad w3 w4) (kont : ∀ u3 u4, INV E ad u3 u4 → GN 600000 7302250 E X 4 1221 [(3, .int (nI i)), (2, .ref (ad 6 0)), (1, .ref (ad 0 0)), (0, .ref b)] [] (u3 ++ u4)) : GN 600000 7302250 E X 4 1060 [(3, .int (nI i)), (2, .ref (ad 6 0)), (1, .ref (ad 0 0)), (0, .ref b)] [] (w3 ++ w4) := by
  obtain ⟨r, u3, u4, h3, h4, hJ⟩ := t_book (l := X.2.1) hI (xs (i + 1)) (xs (i + 2))
  obtain ⟨f3, e3⟩ := hI.h3
  obtain ⟨f4, e4⟩ := hI.h4
  refine GN.aload_n hX 2 rfl dL_law_1060 ?_
  refine GN.aload_n hX 3 rfl dL_law_1061 ?_
  refine GN.iload_n hX 0 rfl dL_law_1062 ?_
  refine GN.iconst hX (v := 1) (by decide) dL_law_1063 ?_
  refine GN.iadd hX dL_law_1064 ?_
  refine GN.ie (y := nI (i + 1)) (nI_add i 1) ?_
  refine GN.sld hX (j := i + 1) hXs hbl hbA (by omega) (by omega) dL_law_1065 ?_
  refine GN.aload_n hX 3 rfl dL_law_1066 ?_
  refine GN.iload_n hX 0 rfl dL_law_1067 ?_
  refine GN.iconst hX (v := 2) (by decide) dL_law_1068 ?_
  refine GN.iadd hX dL_law_1069 ?_
  refine GN.ie (y := nI (i + 2)) (nI_add i 2) ?_
  refine GN.sld hX (j := i + 2) hXs hbl hbA (by omega) (by omega) dL_law_1070 ?_
  refine GN.vi hX (As := [.int (xs (i + 1)), .int (xs (i + 2))]) (st := []) (wr := w4) (wf := w4 ++ u3) (q0 := 0) (ci := 3) rfl e3 h3 gL_law_X3_book cp_X3_book ⟨by decide, by decide⟩ (by decide) _ _ _ (cut_app w3 w4 u3) rfl rfl (Nat.le_of_ble_eq_true rfl) dL_law_1071 ?_
  refine GN.aload_n hX 1 rfl dL_law_1074 ?_
  refine GN.aload_n hX 3 rfl dL_law_1075 ?_
  refine GN.iload_n hX 0 rfl dL_law_1076 ?_
  refine GN.iconst hX (v := 1) (by decide) dL_law_1077 ?_
  refine GN.iadd hX dL_law_1078 ?_
  refine GN.ie (y := nI (i + 1)) (nI_add i 1) ?_
  refine GN.sld hX (j := i + 1) hXs hbl hbA (by omega) (by omega) dL_law_1079 ?_
  refine GN.aload_n hX 3 rfl dL_law_1080 ?_
  refine GN.iload_n hX 0 rfl dL_law_1081 ?_
  refine GN.iconst hX (v := 2) (by decide) dL_law_1082 ?_
  refine GN.iadd hX dL_law_1083 ?_
  refine GN.ie (y := nI (i + 2)) (nI_add i 2) ?_
  refine GN.sld hX (j := i + 2) hXs hbl hbA (by omega) (by omega) dL_law_1084 ?_
  refine GN.vi hX (As := [.int (xs (i + 1)), .int (xs (i + 2))]) (st := [.int r]) (wr := u3) (wf := u3 ++ u4) (q0 := 0) (ci := 4) rfl e4 h4 gL_law_X4_book cp_X4_book ⟨by decide, by decide⟩ (by decide) _ _ _ (cut_app w4 u3 u4) rfl rfl (Nat.le_of_ble_eq_true rfl) dL_law_1085 ?_
  exact GN.icmp_eq hX (tgt := 1221) (by decide) dL_law_1088 (fun _ => kont u3 u4 hJ) (fun c => absurd rfl c)
set_option maxHeartbeats 4000000 in
set_option maxRecDepth 100000 in
theorem lc_read {E : EV} {X : CX} (hX : Cx E X RL code 4 ret wsL_law room_1) {ad : AD} {b L i : Nat} {xs : Nat → Int32} (hL : L ≤ 3072) (hXs : va_X b L xs X.2.2.2.2.1 X.2.2.2.2.1.heap) (hbl : b < X.2.2.2.2.1.heap.size) (hbA : ¬ X.2.2.2.2.2.2.2.2.2.2.2 b) (hi : i + 6 ≤ L) {w3 w4 : va_W} (hI : INV E ad w3 w4) (kont : ∀ u3 u4, INV E ad u3 u4 → GN 600000 7302250 E X 4 1221 [(3, .int (nI i)), (2, .ref (ad 6 0)), (1, .ref (ad 0 0)), (0, .ref b)] [] (u3 ++ u4)) : GN 600000 7302250 E X 4 1093 [(3, .int (nI i)), (2, .ref (ad 6 0)), (1, .ref (ad 0 0)), (0, .ref b)] [] (w3 ++ w4) := by
  obtain ⟨r, u3, u4, h3, h4, hJ⟩ := t_read (l := X.2.1) hI (xs (i + 1)) (xs (i + 2)) (xs (i + 3))
  obtain ⟨f3, e3⟩ := hI.h3
  obtain ⟨f4, e4⟩ := hI.h4
  refine GN.aload_n hX 2 rfl dL_law_1093 ?_
  refine GN.aload_n hX 3 rfl dL_law_1094 ?_
  refine GN.iload_n hX 0 rfl dL_law_1095 ?_
  refine GN.iconst hX (v := 1) (by decide) dL_law_1096 ?_
  refine GN.iadd hX dL_law_1097 ?_
  refine GN.ie (y := nI (i + 1)) (nI_add i 1) ?_
  refine GN.sld hX (j := i + 1) hXs hbl hbA (by omega) (by omega) dL_law_1098 ?_
  refine GN.aload_n hX 3 rfl dL_law_1099 ?_
  refine GN.iload_n hX 0 rfl dL_law_1100 ?_
  refine GN.iconst hX (v := 2) (by decide) dL_law_1101 ?_
  refine GN.iadd hX dL_law_1102 ?_
  refine GN.ie (y := nI (i + 2)) (nI_add i 2) ?_
  refine GN.sld hX (j := i + 2) hXs hbl hbA (by omega) (by omega) dL_law_1103 ?_
  refine GN.aload_n hX 3 rfl dL_law_1104 ?_
  refine GN.iload_n hX 0 rfl dL_law_1105 ?_
  refine GN.iconst hX (v := 3) (by decide) dL_law_1106 ?_
  refine GN.iadd hX dL_law_1107 ?_
  refine GN.ie (y := nI (i + 3)) (nI_add i 3) ?_
  refine GN.sld hX (j := i + 3) hXs hbl hbA (by omega) (by omega) dL_law_1108 ?_
  refine GN.vi hX (As := [.int (xs (i + 1)), .int (xs (i + 2)), .int (xs (i + 3))]) (st := []) (wr := w4) (wf := w4 ++ u3) (q0 := 0) (ci := 3) rfl e3 h3 gL_law_X3_read cp_X3_read ⟨by decide, by decide⟩ (by decide) _ _ _ (cut_app w3 w4 u3) rfl rfl (Nat.le_of_ble_eq_true rfl) dL_law_1109 ?_
  refine GN.aload_n hX 1 rfl dL_law_1112 ?_
  refine GN.aload_n hX 3 rfl dL_law_1113 ?_
  refine GN.iload_n hX 0 rfl dL_law_1114 ?_
  refine GN.iconst hX (v := 1) (by decide) dL_law_1115 ?_
  refine GN.iadd hX dL_law_1116 ?_
  refine GN.ie (y := nI (i + 1)) (nI_add i 1) ?_
  refine GN.sld hX (j := i + 1) hXs hbl hbA (by omega) (by omega) dL_law_1117 ?_
  refine GN.aload_n hX 3 rfl dL_law_1118 ?_
  refine GN.iload_n hX 0 rfl dL_law_1119 ?_
  refine GN.iconst hX (v := 2) (by decide) dL_law_1120 ?_
  refine GN.iadd hX dL_law_1121 ?_
  refine GN.ie (y := nI (i + 2)) (nI_add i 2) ?_
  refine GN.sld hX (j := i + 2) hXs hbl hbA (by omega) (by omega) dL_law_1122 ?_
  refine GN.aload_n hX 3 rfl dL_law_1123 ?_
  refine GN.iload_n hX 0 rfl dL_law_1124 ?_
  refine GN.iconst hX (v := 3) (by decide) dL_law_1125 ?_
  refine GN.iadd hX dL_law_1126 ?_
  refine GN.ie (y := nI (i + 3)) (nI_add i 3) ?_
  refine GN.sld hX (j := i + 3) hXs hbl hbA (by omega) (by omega) dL_law_1127 ?_
  refine GN.vi hX (As := [.int (xs (i + 1)), .int (xs (i + 2)), .int (xs (i + 3))]) (st := [.int r]) (wr := u3) (wf := u3 ++ u4) (q0 := 0) (ci := 4) rfl e4 h4 gL_law_X4_read cp_X4_read ⟨by decide, by decide⟩ (by decide) _ _ _ (cut_app w4 u3 u4) rfl rfl (Nat.le_of_ble_eq_true rfl) dL_law_1128 ?_
  exact GN.icmp_eq hX (tgt := 1221) (by decide) dL_law_1131 (fun _ => kont u3 u4 hJ) (fun c => absurd rfl c)
set_option maxHeartbeats 4000000 in
set_option maxRecDepth 100000 in
theorem lc_image {E : EV} {X : CX} (hX : Cx E X RL code 4 ret wsL_law room_1) {ad : AD} {b L i : Nat} {xs : Nat → Int32} (hL : L ≤ 3072) (hXs : va_X b L xs X.2.2.2.2.1 X.2.2.2.2.1.heap) (hbl : b < X.2.2.2.2.1.heap.size) (hbA : ¬ X.2.2.2.2.2.2.2.2.2.2.2 b) (hi : i + 6 ≤ L) {w3 w4 : va_W} (hI : INV E ad w3 w4) (kont : ∀ u3 u4, INV E ad u3 u4 → GN 600000 7302250 E X 4 1221 [(3, .int (nI i)), (2, .ref (ad 6 0)), (1, .ref (ad 0 0)), (0, .ref b)] [] (u3 ++ u4)) : GN 600000 7302250 E X 4 1136 [(3, .int (nI i)), (2, .ref (ad 6 0)), (1, .ref (ad 0 0)), (0, .ref b)] [] (w3 ++ w4) := by
  obtain ⟨r, u3, u4, h3, h4, hJ⟩ := t_image (l := X.2.1) hI
  obtain ⟨f3, e3⟩ := hI.h3
  obtain ⟨f4, e4⟩ := hI.h4
  refine GN.aload_n hX 2 rfl dL_law_1136 ?_
  refine GN.vi hX (As := []) (st := []) (wr := w4) (wf := w4 ++ u3) (q0 := 0) (ci := 3) rfl e3 h3 gL_law_X3_image cp_X3_image ⟨by decide, by decide⟩ (by decide) _ _ _ (cut_app w3 w4 u3) rfl rfl (Nat.le_of_ble_eq_true rfl) dL_law_1137 ?_
  refine GN.aload_n hX 1 rfl dL_law_1140 ?_
  refine GN.vi hX (As := []) (st := [.int r]) (wr := u3) (wf := u3 ++ u4) (q0 := 0) (ci := 4) rfl e4 h4 gL_law_X4_image cp_X4_image ⟨by decide, by decide⟩ (by decide) _ _ _ (cut_app w4 u3 u4) rfl rfl (Nat.le_of_ble_eq_true rfl) dL_law_1141 ?_
  exact GN.icmp_eq hX (tgt := 1221) (by decide) dL_law_1144 (fun _ => kont u3 u4 hJ) (fun c => absurd rfl c)
set_option maxHeartbeats 4000000 in
set_option maxRecDepth 100000 in
theorem lc_undo {E : EV} {X : CX} (hX : Cx E X RL code 4 ret wsL_law room_1) {ad : AD} {b L i : Nat} {xs : Nat → Int32} (hL : L ≤ 3072) (hXs : va_X b L xs X.2.2.2.2.1 X.2.2.2.2.1.heap) (hbl : b < X.2.2.2.2.1.heap.size) (hbA : ¬ X.2.2.2.2.2.2.2.2.2.2.2 b) (hi : i + 6 ≤ L) {w3 w4 : va_W} (hI : INV E ad w3 w4) (kont : ∀ u3 u4, INV E ad u3 u4 → GN 600000 7302250 E X 4 1221 [(3, .int (nI i)), (2, .ref (ad 6 0)), (1, .ref (ad 0 0)), (0, .ref b)] [] (u3 ++ u4)) : GN 600000 7302250 E X 4 1149 [(3, .int (nI i)), (2, .ref (ad 6 0)), (1, .ref (ad 0 0)), (0, .ref b)] [] (w3 ++ w4) := by
  obtain ⟨r, u3, u4, h3, h4, hJ⟩ := t_undo (l := X.2.1) hI
  obtain ⟨f3, e3⟩ := hI.h3
  obtain ⟨f4, e4⟩ := hI.h4
  refine GN.aload_n hX 2 rfl dL_law_1149 ?_
  refine GN.vi hX (As := []) (st := []) (wr := w4) (wf := w4 ++ u3) (q0 := 0) (ci := 3) rfl e3 h3 gL_law_X3_undo cp_X3_undo ⟨by decide, by decide⟩ (by decide) _ _ _ (cut_app w3 w4 u3) rfl rfl (Nat.le_of_ble_eq_true rfl) dL_law_1150 ?_
  refine GN.aload_n hX 1 rfl dL_law_1153 ?_
  refine GN.vi hX (As := []) (st := [.int r]) (wr := u3) (wf := u3 ++ u4) (q0 := 0) (ci := 4) rfl e4 h4 gL_law_X4_undo cp_X4_undo ⟨by decide, by decide⟩ (by decide) _ _ _ (cut_app w4 u3 u4) rfl rfl (Nat.le_of_ble_eq_true rfl) dL_law_1154 ?_
  exact GN.icmp_eq hX (tgt := 1221) (by decide) dL_law_1157 (fun _ => kont u3 u4 hJ) (fun c => absurd rfl c)
set_option maxHeartbeats 4000000 in
set_option maxRecDepth 100000 in
theorem lc_tear {E : EV} {X : CX} (hX : Cx E X RL code 4 ret wsL_law room_1) {ad : AD} {b L i : Nat} {xs : Nat → Int32} (hL : L ≤ 3072) (hXs : va_X b L xs X.2.2.2.2.1 X.2.2.2.2.1.heap) (hbl : b < X.2.2.2.2.1.heap.size) (hbA : ¬ X.2.2.2.2.2.2.2.2.2.2.2 b) (hi : i + 6 ≤ L) {w3 w4 : va_W} (hI : INV E ad w3 w4) (kont : ∀ u3 u4, INV E ad u3 u4 → GN 600000 7302250 E X 4 1221 [(3, .int (nI i)), (2, .ref (ad 6 0)), (1, .ref (ad 0 0)), (0, .ref b)] [] (u3 ++ u4)) : GN 600000 7302250 E X 4 1162 [(3, .int (nI i)), (2, .ref (ad 6 0)), (1, .ref (ad 0 0)), (0, .ref b)] [] (w3 ++ w4) := by
  obtain ⟨r, u3, u4, h3, h4, hJ⟩ := t_tear (l := X.2.1) hI
  obtain ⟨f3, e3⟩ := hI.h3
  obtain ⟨f4, e4⟩ := hI.h4
  refine GN.aload_n hX 2 rfl dL_law_1162 ?_
  refine GN.vi hX (As := []) (st := []) (wr := w4) (wf := w4 ++ u3) (q0 := 0) (ci := 3) rfl e3 h3 gL_law_X3_tear cp_X3_tear ⟨by decide, by decide⟩ (by decide) _ _ _ (cut_app w3 w4 u3) rfl rfl (Nat.le_of_ble_eq_true rfl) dL_law_1163 ?_
  refine GN.aload_n hX 1 rfl dL_law_1166 ?_
  refine GN.vi hX (As := []) (st := [.int r]) (wr := u3) (wf := u3 ++ u4) (q0 := 0) (ci := 4) rfl e4 h4 gL_law_X4_tear cp_X4_tear ⟨by decide, by decide⟩ (by decide) _ _ _ (cut_app w4 u3 u4) rfl rfl (Nat.le_of_ble_eq_true rfl) dL_law_1167 ?_
  exact GN.icmp_eq hX (tgt := 1221) (by decide) dL_law_1170 (fun _ => kont u3 u4 hJ) (fun c => absurd rfl c)
set_option maxHeartbeats 4000000 in
set_option maxRecDepth 100000 in
theorem lc_count {E : EV} {X : CX} (hX : Cx E X RL code 4 ret wsL_law room_1) {ad : AD} {b L i : Nat} {xs : Nat → Int32} (hL : L ≤ 3072) (hXs : va_X b L xs X.2.2.2.2.1 X.2.2.2.2.1.heap) (hbl : b < X.2.2.2.2.1.heap.size) (hbA : ¬ X.2.2.2.2.2.2.2.2.2.2.2 b) (hi : i + 6 ≤ L) {w3 w4 : va_W} (hI : INV E ad w3 w4) (kont : ∀ u3 u4, INV E ad u3 u4 → GN 600000 7302250 E X 4 1221 [(3, .int (nI i)), (2, .ref (ad 6 0)), (1, .ref (ad 0 0)), (0, .ref b)] [] (u3 ++ u4)) : GN 600000 7302250 E X 4 1175 [(3, .int (nI i)), (2, .ref (ad 6 0)), (1, .ref (ad 0 0)), (0, .ref b)] [] (w3 ++ w4) := by
  obtain ⟨r, u3, u4, h3, h4, hJ⟩ := t_count (l := X.2.1) hI (xs (i + 1))
  obtain ⟨f3, e3⟩ := hI.h3
  obtain ⟨f4, e4⟩ := hI.h4
  refine GN.aload_n hX 2 rfl dL_law_1175 ?_
  refine GN.aload_n hX 3 rfl dL_law_1176 ?_
  refine GN.iload_n hX 0 rfl dL_law_1177 ?_
  refine GN.iconst hX (v := 1) (by decide) dL_law_1178 ?_
  refine GN.iadd hX dL_law_1179 ?_
  refine GN.ie (y := nI (i + 1)) (nI_add i 1) ?_
  refine GN.sld hX (j := i + 1) hXs hbl hbA (by omega) (by omega) dL_law_1180 ?_
  refine GN.vi hX (As := [.int (xs (i + 1))]) (st := []) (wr := w4) (wf := w4 ++ u3) (q0 := 0) (ci := 3) rfl e3 h3 gL_law_X3_count cp_X3_count ⟨by decide, by decide⟩ (by decide) _ _ _ (cut_app w3 w4 u3) rfl rfl (Nat.le_of_ble_eq_true rfl) dL_law_1181 ?_
  refine GN.aload_n hX 1 rfl dL_law_1184 ?_
  refine GN.aload_n hX 3 rfl dL_law_1185 ?_
  refine GN.iload_n hX 0 rfl dL_law_1186 ?_
  refine GN.iconst hX (v := 1) (by decide) dL_law_1187 ?_
  refine GN.iadd hX dL_law_1188 ?_
  refine GN.ie (y := nI (i + 1)) (nI_add i 1) ?_
  refine GN.sld hX (j := i + 1) hXs hbl hbA (by omega) (by omega) dL_law_1189 ?_
  refine GN.vi hX (As := [.int (xs (i + 1))]) (st := [.int r]) (wr := u3) (wf := u3 ++ u4) (q0 := 0) (ci := 4) rfl e4 h4 gL_law_X4_count cp_X4_count ⟨by decide, by decide⟩ (by decide) _ _ _ (cut_app w4 u3 u4) rfl rfl (Nat.le_of_ble_eq_true rfl) dL_law_1190 ?_
  exact GN.icmp_eq hX (tgt := 1221) (by decide) dL_law_1193 (fun _ => kont u3 u4 hJ) (fun c => absurd rfl c)
set_option maxHeartbeats 4000000 in
set_option maxRecDepth 100000 in
theorem lc_status {E : EV} {X : CX} (hX : Cx E X RL code 4 ret wsL_law room_1) {ad : AD} {b L i : Nat} {xs : Nat → Int32} (hL : L ≤ 3072) (hXs : va_X b L xs X.2.2.2.2.1 X.2.2.2.2.1.heap) (hbl : b < X.2.2.2.2.1.heap.size) (hbA : ¬ X.2.2.2.2.2.2.2.2.2.2.2 b) (hi : i + 6 ≤ L) {w3 w4 : va_W} (hI : INV E ad w3 w4) (kont : ∀ u3 u4, INV E ad u3 u4 → GN 600000 7302250 E X 4 1221 [(3, .int (nI i)), (2, .ref (ad 6 0)), (1, .ref (ad 0 0)), (0, .ref b)] [] (u3 ++ u4)) : GN 600000 7302250 E X 4 1198 [(3, .int (nI i)), (2, .ref (ad 6 0)), (1, .ref (ad 0 0)), (0, .ref b)] [] (w3 ++ w4) := by
  obtain ⟨r, u3, u4, h3, h4, hJ⟩ := t_status (l := X.2.1) hI (xs (i + 1))
  obtain ⟨f3, e3⟩ := hI.h3
  obtain ⟨f4, e4⟩ := hI.h4
  refine GN.aload_n hX 2 rfl dL_law_1198 ?_
  refine GN.aload_n hX 3 rfl dL_law_1199 ?_
  refine GN.iload_n hX 0 rfl dL_law_1200 ?_
  refine GN.iconst hX (v := 1) (by decide) dL_law_1201 ?_
  refine GN.iadd hX dL_law_1202 ?_
  refine GN.ie (y := nI (i + 1)) (nI_add i 1) ?_
  refine GN.sld hX (j := i + 1) hXs hbl hbA (by omega) (by omega) dL_law_1203 ?_
  refine GN.vi hX (As := [.int (xs (i + 1))]) (st := []) (wr := w4) (wf := w4 ++ u3) (q0 := 0) (ci := 3) rfl e3 h3 gL_law_X3_status cp_X3_status ⟨by decide, by decide⟩ (by decide) _ _ _ (cut_app w3 w4 u3) rfl rfl (Nat.le_of_ble_eq_true rfl) dL_law_1204 ?_
  refine GN.aload_n hX 1 rfl dL_law_1207 ?_
  refine GN.aload_n hX 3 rfl dL_law_1208 ?_
  refine GN.iload_n hX 0 rfl dL_law_1209 ?_
  refine GN.iconst hX (v := 1) (by decide) dL_law_1210 ?_
  refine GN.iadd hX dL_law_1211 ?_
  refine GN.ie (y := nI (i + 1)) (nI_add i 1) ?_
  refine GN.sld hX (j := i + 1) hXs hbl hbA (by omega) (by omega) dL_law_1212 ?_
  refine GN.vi hX (As := [.int (xs (i + 1))]) (st := [.int r]) (wr := u3) (wf := u3 ++ u4) (q0 := 0) (ci := 4) rfl e4 h4 gL_law_X4_status cp_X4_status ⟨by decide, by decide⟩ (by decide) _ _ _ (cut_app w4 u3 u4) rfl rfl (Nat.le_of_ble_eq_true rfl) dL_law_1213 ?_
  exact GN.icmp_eq hX (tgt := 1221) (by decide) dL_law_1216 (fun _ => kont u3 u4 hJ) (fun c => absurd rfl c)
