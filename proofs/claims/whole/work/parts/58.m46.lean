/-! the law: its cases -/
theorem L_case0 {x : zX} {w : zWd} {b N i : Nat} {xs : Nat → Int32} {m : zMem} {lv : Int64} (hO : zOK x w zyL_law 14) (hNN : zN x 126 126) (hX : zSc x w b N xs) (hv : ∀ k : Nat, k < 6 → vp_in (nI i + nI k) N) (hc : ∀ k : Nat, k < 6 → xs (Int32.toNatClampNeg (nI i + nI k)) = xs (i + k)) (hJ : JS x.2.1 w 4 zyX11_sheet (vR 0 0 :: [vI (xs (i + 1)), vI (xs (i + 2)), vI (xs (i + 3))]) 4 zyX12_sheet (vR 43 0 :: [vI (xs (i + 1)), vI (xs (i + 2)), vI (xs (i + 3))]) m lv) (kk : ∀ im2 lv2, INV im2 → zLr x w 126 zRF 1151 [(0, .ref b), (1, .ref (w.1 + zad 0 0)), (2, .ref (w.1 + zad 43 0)), (3, .int (nI i))] [] im2 lv2) : zLr x w 126 zRF 164 [(0, .ref b), (1, .ref (w.1 + zad 0 0)), (2, .ref (w.1 + zad 43 0)), (3, .int (nI i))] [] m lv := by
  obtain ⟨P1, h1, j1⟩ := hJ
  refine zl_aload_n hO dL_law_164 1 rfl ?_
  refine zl_aload_n hO dL_law_165 0 rfl ?_
  refine zl_iload_n hO dL_law_166 3 rfl ?_
  refine zl_iconst (v := nI 1) hO dL_law_167 (by decide) ?_
  refine zl_iadd hO dL_law_168 ?_
  refine zl_sld hO hX dL_law_169 (hv 1 (by decide)) ?_
  rw [hc 1 (by decide)]
  refine zl_aload_n hO dL_law_170 0 rfl ?_
  refine zl_iload_n hO dL_law_171 3 rfl ?_
  refine zl_iconst (v := nI 2) hO dL_law_172 (by decide) ?_
  refine zl_iadd hO dL_law_173 ?_
  refine zl_sld hO hX dL_law_174 (hv 2 (by decide)) ?_
  rw [hc 2 (by decide)]
  refine zl_aload_n hO dL_law_175 0 rfl ?_
  refine zl_iload_n hO dL_law_176 3 rfl ?_
  refine zl_iconst (v := nI 3) hO dL_law_177 (by decide) ?_
  refine zl_iadd hO dL_law_178 ?_
  refine zl_sld hO hX dL_law_179 (hv 3 (by decide)) ?_
  rw [hc 3 (by decide)]
  refine zl_callI (r := 0) (i := 0) (as := [vI (xs (i + 1)), vI (xs (i + 2)), vI (xs (i + 3))]) hO hNN dL_law_180 kL_13 (by decide) rfl (zI (by decide)) rfl rfl (Nat.le_of_ble_eq_true rfl) rfl rfl h1 (fun v1 im1 lv1 p1 => ?_)
  obtain ⟨P2, h2, j2⟩ := j1 v1 im1 lv1 p1
  refine zl_aload_n hO dL_law_183 2 rfl ?_
  refine zl_aload_n hO dL_law_184 0 rfl ?_
  refine zl_iload_n hO dL_law_185 3 rfl ?_
  refine zl_iconst (v := nI 1) hO dL_law_186 (by decide) ?_
  refine zl_iadd hO dL_law_187 ?_
  refine zl_sld hO hX dL_law_188 (hv 1 (by decide)) ?_
  rw [hc 1 (by decide)]
  refine zl_aload_n hO dL_law_189 0 rfl ?_
  refine zl_iload_n hO dL_law_190 3 rfl ?_
  refine zl_iconst (v := nI 2) hO dL_law_191 (by decide) ?_
  refine zl_iadd hO dL_law_192 ?_
  refine zl_sld hO hX dL_law_193 (hv 2 (by decide)) ?_
  rw [hc 2 (by decide)]
  refine zl_aload_n hO dL_law_194 0 rfl ?_
  refine zl_iload_n hO dL_law_195 3 rfl ?_
  refine zl_iconst (v := nI 3) hO dL_law_196 (by decide) ?_
  refine zl_iadd hO dL_law_197 ?_
  refine zl_sld hO hX dL_law_198 (hv 3 (by decide)) ?_
  rw [hc 3 (by decide)]
  refine zl_callI (r := 43) (i := 0) (as := [vI (xs (i + 1)), vI (xs (i + 2)), vI (xs (i + 3))]) hO hNN dL_law_199 kL_17 (by decide) rfl (zI (by decide)) rfl rfl (Nat.le_of_ble_eq_true rfl) rfl rfl h2 (fun v2 im2 lv2 p2 => ?_)
  obtain ⟨e, hI⟩ := j2 v2 im2 lv2 p2
  exact zl_icmp_eq (tgt := 1151) hO dL_law_202 (by decide) (fun _ => kk im2 lv2 hI) (fun q => absurd e q)
theorem L_case1 {x : zX} {w : zWd} {b N i : Nat} {xs : Nat → Int32} {m : zMem} {lv : Int64} (hO : zOK x w zyL_law 14) (hNN : zN x 126 126) (hX : zSc x w b N xs) (hv : ∀ k : Nat, k < 6 → vp_in (nI i + nI k) N) (hc : ∀ k : Nat, k < 6 → xs (Int32.toNatClampNeg (nI i + nI k)) = xs (i + k)) (hJ : JS x.2.1 w 4 zyX11_set (vR 0 0 :: [vI (xs (i + 1)), vI (xs (i + 2)), vI (xs (i + 3))]) 4 zyX12_set (vR 43 0 :: [vI (xs (i + 1)), vI (xs (i + 2)), vI (xs (i + 3))]) m lv) (kk : ∀ im2 lv2, INV im2 → zLr x w 126 zRF 1151 [(0, .ref b), (1, .ref (w.1 + zad 0 0)), (2, .ref (w.1 + zad 43 0)), (3, .int (nI i))] [] im2 lv2) : zLr x w 126 zRF 207 [(0, .ref b), (1, .ref (w.1 + zad 0 0)), (2, .ref (w.1 + zad 43 0)), (3, .int (nI i))] [] m lv := by
  obtain ⟨P1, h1, j1⟩ := hJ
  refine zl_aload_n hO dL_law_207 1 rfl ?_
  refine zl_aload_n hO dL_law_208 0 rfl ?_
  refine zl_iload_n hO dL_law_209 3 rfl ?_
  refine zl_iconst (v := nI 1) hO dL_law_210 (by decide) ?_
  refine zl_iadd hO dL_law_211 ?_
  refine zl_sld hO hX dL_law_212 (hv 1 (by decide)) ?_
  rw [hc 1 (by decide)]
  refine zl_aload_n hO dL_law_213 0 rfl ?_
  refine zl_iload_n hO dL_law_214 3 rfl ?_
  refine zl_iconst (v := nI 2) hO dL_law_215 (by decide) ?_
  refine zl_iadd hO dL_law_216 ?_
  refine zl_sld hO hX dL_law_217 (hv 2 (by decide)) ?_
  rw [hc 2 (by decide)]
  refine zl_aload_n hO dL_law_218 0 rfl ?_
  refine zl_iload_n hO dL_law_219 3 rfl ?_
  refine zl_iconst (v := nI 3) hO dL_law_220 (by decide) ?_
  refine zl_iadd hO dL_law_221 ?_
  refine zl_sld hO hX dL_law_222 (hv 3 (by decide)) ?_
  rw [hc 3 (by decide)]
  refine zl_callI (r := 0) (i := 0) (as := [vI (xs (i + 1)), vI (xs (i + 2)), vI (xs (i + 3))]) hO hNN dL_law_223 kL_18 (by decide) rfl (zI (by decide)) rfl rfl (Nat.le_of_ble_eq_true rfl) rfl rfl h1 (fun v1 im1 lv1 p1 => ?_)
  obtain ⟨P2, h2, j2⟩ := j1 v1 im1 lv1 p1
  refine zl_aload_n hO dL_law_226 2 rfl ?_
  refine zl_aload_n hO dL_law_227 0 rfl ?_
  refine zl_iload_n hO dL_law_228 3 rfl ?_
  refine zl_iconst (v := nI 1) hO dL_law_229 (by decide) ?_
  refine zl_iadd hO dL_law_230 ?_
  refine zl_sld hO hX dL_law_231 (hv 1 (by decide)) ?_
  rw [hc 1 (by decide)]
  refine zl_aload_n hO dL_law_232 0 rfl ?_
  refine zl_iload_n hO dL_law_233 3 rfl ?_
  refine zl_iconst (v := nI 2) hO dL_law_234 (by decide) ?_
  refine zl_iadd hO dL_law_235 ?_
  refine zl_sld hO hX dL_law_236 (hv 2 (by decide)) ?_
  rw [hc 2 (by decide)]
  refine zl_aload_n hO dL_law_237 0 rfl ?_
  refine zl_iload_n hO dL_law_238 3 rfl ?_
  refine zl_iconst (v := nI 3) hO dL_law_239 (by decide) ?_
  refine zl_iadd hO dL_law_240 ?_
  refine zl_sld hO hX dL_law_241 (hv 3 (by decide)) ?_
  rw [hc 3 (by decide)]
  refine zl_callI (r := 43) (i := 0) (as := [vI (xs (i + 1)), vI (xs (i + 2)), vI (xs (i + 3))]) hO hNN dL_law_242 kL_21 (by decide) rfl (zI (by decide)) rfl rfl (Nat.le_of_ble_eq_true rfl) rfl rfl h2 (fun v2 im2 lv2 p2 => ?_)
  obtain ⟨e, hI⟩ := j2 v2 im2 lv2 p2
  exact zl_icmp_eq (tgt := 1151) hO dL_law_245 (by decide) (fun _ => kk im2 lv2 hI) (fun q => absurd e q)
theorem L_case2 {x : zX} {w : zWd} {b N i : Nat} {xs : Nat → Int32} {m : zMem} {lv : Int64} (hO : zOK x w zyL_law 14) (hNN : zN x 126 126) (hX : zSc x w b N xs) (hv : ∀ k : Nat, k < 6 → vp_in (nI i + nI k) N) (hc : ∀ k : Nat, k < 6 → xs (Int32.toNatClampNeg (nI i + nI k)) = xs (i + k)) (hJ : JS x.2.1 w 3 zyX11_copy (vR 0 0 :: [vI (xs (i + 1)), vI (xs (i + 2)), vI (xs (i + 3)), vI (xs (i + 4)), vI (xs (i + 5))]) 4 zyX12_copy (vR 43 0 :: [vI (xs (i + 1)), vI (xs (i + 2)), vI (xs (i + 3)), vI (xs (i + 4)), vI (xs (i + 5))]) m lv) (kk : ∀ im2 lv2, INV im2 → zLr x w 126 zRF 1151 [(0, .ref b), (1, .ref (w.1 + zad 0 0)), (2, .ref (w.1 + zad 43 0)), (3, .int (nI i))] [] im2 lv2) : zLr x w 126 zRF 250 [(0, .ref b), (1, .ref (w.1 + zad 0 0)), (2, .ref (w.1 + zad 43 0)), (3, .int (nI i))] [] m lv := by
  obtain ⟨P1, h1, j1⟩ := hJ
  refine zl_aload_n hO dL_law_250 1 rfl ?_
  refine zl_aload_n hO dL_law_251 0 rfl ?_
  refine zl_iload_n hO dL_law_252 3 rfl ?_
  refine zl_iconst (v := nI 1) hO dL_law_253 (by decide) ?_
  refine zl_iadd hO dL_law_254 ?_
  refine zl_sld hO hX dL_law_255 (hv 1 (by decide)) ?_
  rw [hc 1 (by decide)]
  refine zl_aload_n hO dL_law_256 0 rfl ?_
  refine zl_iload_n hO dL_law_257 3 rfl ?_
  refine zl_iconst (v := nI 2) hO dL_law_258 (by decide) ?_
  refine zl_iadd hO dL_law_259 ?_
  refine zl_sld hO hX dL_law_260 (hv 2 (by decide)) ?_
  rw [hc 2 (by decide)]
  refine zl_aload_n hO dL_law_261 0 rfl ?_
  refine zl_iload_n hO dL_law_262 3 rfl ?_
  refine zl_iconst (v := nI 3) hO dL_law_263 (by decide) ?_
  refine zl_iadd hO dL_law_264 ?_
  refine zl_sld hO hX dL_law_265 (hv 3 (by decide)) ?_
  rw [hc 3 (by decide)]
  refine zl_aload_n hO dL_law_266 0 rfl ?_
  refine zl_iload_n hO dL_law_267 3 rfl ?_
  refine zl_iconst (v := nI 4) hO dL_law_268 (by decide) ?_
  refine zl_iadd hO dL_law_269 ?_
  refine zl_sld hO hX dL_law_270 (hv 4 (by decide)) ?_
  rw [hc 4 (by decide)]
  refine zl_aload_n hO dL_law_271 0 rfl ?_
  refine zl_iload_n hO dL_law_272 3 rfl ?_
  refine zl_iconst (v := nI 5) hO dL_law_273 (by decide) ?_
  refine zl_iadd hO dL_law_274 ?_
  refine zl_sld hO hX dL_law_275 (hv 5 (by decide)) ?_
  rw [hc 5 (by decide)]
  refine zl_callI (r := 0) (i := 0) (as := [vI (xs (i + 1)), vI (xs (i + 2)), vI (xs (i + 3)), vI (xs (i + 4)), vI (xs (i + 5))]) hO hNN dL_law_276 kL_22 (by decide) rfl (zI (by decide)) rfl rfl (Nat.le_of_ble_eq_true rfl) rfl rfl h1 (fun v1 im1 lv1 p1 => ?_)
  obtain ⟨P2, h2, j2⟩ := j1 v1 im1 lv1 p1
  refine zl_aload_n hO dL_law_279 2 rfl ?_
  refine zl_aload_n hO dL_law_280 0 rfl ?_
  refine zl_iload_n hO dL_law_281 3 rfl ?_
  refine zl_iconst (v := nI 1) hO dL_law_282 (by decide) ?_
  refine zl_iadd hO dL_law_283 ?_
  refine zl_sld hO hX dL_law_284 (hv 1 (by decide)) ?_
  rw [hc 1 (by decide)]
  refine zl_aload_n hO dL_law_285 0 rfl ?_
  refine zl_iload_n hO dL_law_286 3 rfl ?_
  refine zl_iconst (v := nI 2) hO dL_law_287 (by decide) ?_
  refine zl_iadd hO dL_law_288 ?_
  refine zl_sld hO hX dL_law_289 (hv 2 (by decide)) ?_
  rw [hc 2 (by decide)]
  refine zl_aload_n hO dL_law_290 0 rfl ?_
  refine zl_iload_n hO dL_law_291 3 rfl ?_
  refine zl_iconst (v := nI 3) hO dL_law_292 (by decide) ?_
  refine zl_iadd hO dL_law_293 ?_
  refine zl_sld hO hX dL_law_294 (hv 3 (by decide)) ?_
  rw [hc 3 (by decide)]
  refine zl_aload_n hO dL_law_295 0 rfl ?_
  refine zl_iload_n hO dL_law_296 3 rfl ?_
  refine zl_iconst (v := nI 4) hO dL_law_297 (by decide) ?_
  refine zl_iadd hO dL_law_298 ?_
  refine zl_sld hO hX dL_law_299 (hv 4 (by decide)) ?_
  rw [hc 4 (by decide)]
  refine zl_aload_n hO dL_law_300 0 rfl ?_
  refine zl_iload_n hO dL_law_301 3 rfl ?_
  refine zl_iconst (v := nI 5) hO dL_law_302 (by decide) ?_
  refine zl_iadd hO dL_law_303 ?_
  refine zl_sld hO hX dL_law_304 (hv 5 (by decide)) ?_
  rw [hc 5 (by decide)]
  refine zl_callI (r := 43) (i := 0) (as := [vI (xs (i + 1)), vI (xs (i + 2)), vI (xs (i + 3)), vI (xs (i + 4)), vI (xs (i + 5))]) hO hNN dL_law_305 kL_26 (by decide) rfl (zI (by decide)) rfl rfl (Nat.le_of_ble_eq_true rfl) rfl rfl h2 (fun v2 im2 lv2 p2 => ?_)
  obtain ⟨e, hI⟩ := j2 v2 im2 lv2 p2
  exact zl_icmp_eq (tgt := 1151) hO dL_law_308 (by decide) (fun _ => kk im2 lv2 hI) (fun q => absurd e q)
theorem L_case3 {x : zX} {w : zWd} {b N i : Nat} {xs : Nat → Int32} {m : zMem} {lv : Int64} (hO : zOK x w zyL_law 14) (hNN : zN x 126 126) (hX : zSc x w b N xs) (hv : ∀ k : Nat, k < 6 → vp_in (nI i + nI k) N) (hc : ∀ k : Nat, k < 6 → xs (Int32.toNatClampNeg (nI i + nI k)) = xs (i + k)) (hJ : JS x.2.1 w 3 zyX11_drop (vR 0 0 :: [vI (xs (i + 1))]) 4 zyX12_drop (vR 43 0 :: [vI (xs (i + 1))]) m lv) (kk : ∀ im2 lv2, INV im2 → zLr x w 126 zRF 1151 [(0, .ref b), (1, .ref (w.1 + zad 0 0)), (2, .ref (w.1 + zad 43 0)), (3, .int (nI i))] [] im2 lv2) : zLr x w 126 zRF 313 [(0, .ref b), (1, .ref (w.1 + zad 0 0)), (2, .ref (w.1 + zad 43 0)), (3, .int (nI i))] [] m lv := by
  obtain ⟨P1, h1, j1⟩ := hJ
  refine zl_aload_n hO dL_law_313 1 rfl ?_
  refine zl_aload_n hO dL_law_314 0 rfl ?_
  refine zl_iload_n hO dL_law_315 3 rfl ?_
  refine zl_iconst (v := nI 1) hO dL_law_316 (by decide) ?_
  refine zl_iadd hO dL_law_317 ?_
  refine zl_sld hO hX dL_law_318 (hv 1 (by decide)) ?_
  rw [hc 1 (by decide)]
  refine zl_callI (r := 0) (i := 0) (as := [vI (xs (i + 1))]) hO hNN dL_law_319 kL_27 (by decide) rfl (zI (by decide)) rfl rfl (Nat.le_of_ble_eq_true rfl) rfl rfl h1 (fun v1 im1 lv1 p1 => ?_)
  obtain ⟨P2, h2, j2⟩ := j1 v1 im1 lv1 p1
  refine zl_aload_n hO dL_law_322 2 rfl ?_
  refine zl_aload_n hO dL_law_323 0 rfl ?_
  refine zl_iload_n hO dL_law_324 3 rfl ?_
  refine zl_iconst (v := nI 1) hO dL_law_325 (by decide) ?_
  refine zl_iadd hO dL_law_326 ?_
  refine zl_sld hO hX dL_law_327 (hv 1 (by decide)) ?_
  rw [hc 1 (by decide)]
  refine zl_callI (r := 43) (i := 0) (as := [vI (xs (i + 1))]) hO hNN dL_law_328 kL_31 (by decide) rfl (zI (by decide)) rfl rfl (Nat.le_of_ble_eq_true rfl) rfl rfl h2 (fun v2 im2 lv2 p2 => ?_)
  obtain ⟨e, hI⟩ := j2 v2 im2 lv2 p2
  exact zl_icmp_eq (tgt := 1151) hO dL_law_331 (by decide) (fun _ => kk im2 lv2 hI) (fun q => absurd e q)
theorem L_case4 {x : zX} {w : zWd} {b N i : Nat} {xs : Nat → Int32} {m : zMem} {lv : Int64} (hO : zOK x w zyL_law 14) (hNN : zN x 126 126) (hX : zSc x w b N xs) (hv : ∀ k : Nat, k < 6 → vp_in (nI i + nI k) N) (hc : ∀ k : Nat, k < 6 → xs (Int32.toNatClampNeg (nI i + nI k)) = xs (i + k)) (hJ : JS x.2.1 w 5 zyX11_bears (vR 0 0 :: [vI (xs (i + 1)), vI (xs (i + 2)), vI (xs (i + 3)), vI (xs (i + 4)), vI (xs (i + 5))]) 4 zyX12_bears (vR 43 0 :: [vI (xs (i + 1)), vI (xs (i + 2)), vI (xs (i + 3)), vI (xs (i + 4)), vI (xs (i + 5))]) m lv) (kk : ∀ im2 lv2, INV im2 → zLr x w 126 zRF 1151 [(0, .ref b), (1, .ref (w.1 + zad 0 0)), (2, .ref (w.1 + zad 43 0)), (3, .int (nI i))] [] im2 lv2) : zLr x w 126 zRF 336 [(0, .ref b), (1, .ref (w.1 + zad 0 0)), (2, .ref (w.1 + zad 43 0)), (3, .int (nI i))] [] m lv := by
  obtain ⟨P1, h1, j1⟩ := hJ
  refine zl_aload_n hO dL_law_336 1 rfl ?_
  refine zl_aload_n hO dL_law_337 0 rfl ?_
  refine zl_iload_n hO dL_law_338 3 rfl ?_
  refine zl_iconst (v := nI 1) hO dL_law_339 (by decide) ?_
  refine zl_iadd hO dL_law_340 ?_
  refine zl_sld hO hX dL_law_341 (hv 1 (by decide)) ?_
  rw [hc 1 (by decide)]
  refine zl_aload_n hO dL_law_342 0 rfl ?_
  refine zl_iload_n hO dL_law_343 3 rfl ?_
  refine zl_iconst (v := nI 2) hO dL_law_344 (by decide) ?_
  refine zl_iadd hO dL_law_345 ?_
  refine zl_sld hO hX dL_law_346 (hv 2 (by decide)) ?_
  rw [hc 2 (by decide)]
  refine zl_aload_n hO dL_law_347 0 rfl ?_
  refine zl_iload_n hO dL_law_348 3 rfl ?_
  refine zl_iconst (v := nI 3) hO dL_law_349 (by decide) ?_
  refine zl_iadd hO dL_law_350 ?_
  refine zl_sld hO hX dL_law_351 (hv 3 (by decide)) ?_
  rw [hc 3 (by decide)]
  refine zl_aload_n hO dL_law_352 0 rfl ?_
  refine zl_iload_n hO dL_law_353 3 rfl ?_
  refine zl_iconst (v := nI 4) hO dL_law_354 (by decide) ?_
  refine zl_iadd hO dL_law_355 ?_
  refine zl_sld hO hX dL_law_356 (hv 4 (by decide)) ?_
  rw [hc 4 (by decide)]
  refine zl_aload_n hO dL_law_357 0 rfl ?_
  refine zl_iload_n hO dL_law_358 3 rfl ?_
  refine zl_iconst (v := nI 5) hO dL_law_359 (by decide) ?_
  refine zl_iadd hO dL_law_360 ?_
  refine zl_sld hO hX dL_law_361 (hv 5 (by decide)) ?_
  rw [hc 5 (by decide)]
  refine zl_callI (r := 0) (i := 0) (as := [vI (xs (i + 1)), vI (xs (i + 2)), vI (xs (i + 3)), vI (xs (i + 4)), vI (xs (i + 5))]) hO hNN dL_law_362 kL_32 (by decide) rfl (zI (by decide)) rfl rfl (Nat.le_of_ble_eq_true rfl) rfl rfl h1 (fun v1 im1 lv1 p1 => ?_)
  obtain ⟨P2, h2, j2⟩ := j1 v1 im1 lv1 p1
  refine zl_aload_n hO dL_law_365 2 rfl ?_
  refine zl_aload_n hO dL_law_366 0 rfl ?_
  refine zl_iload_n hO dL_law_367 3 rfl ?_
  refine zl_iconst (v := nI 1) hO dL_law_368 (by decide) ?_
  refine zl_iadd hO dL_law_369 ?_
  refine zl_sld hO hX dL_law_370 (hv 1 (by decide)) ?_
  rw [hc 1 (by decide)]
  refine zl_aload_n hO dL_law_371 0 rfl ?_
  refine zl_iload_n hO dL_law_372 3 rfl ?_
  refine zl_iconst (v := nI 2) hO dL_law_373 (by decide) ?_
  refine zl_iadd hO dL_law_374 ?_
  refine zl_sld hO hX dL_law_375 (hv 2 (by decide)) ?_
  rw [hc 2 (by decide)]
  refine zl_aload_n hO dL_law_376 0 rfl ?_
  refine zl_iload_n hO dL_law_377 3 rfl ?_
  refine zl_iconst (v := nI 3) hO dL_law_378 (by decide) ?_
  refine zl_iadd hO dL_law_379 ?_
  refine zl_sld hO hX dL_law_380 (hv 3 (by decide)) ?_
  rw [hc 3 (by decide)]
  refine zl_aload_n hO dL_law_381 0 rfl ?_
  refine zl_iload_n hO dL_law_382 3 rfl ?_
  refine zl_iconst (v := nI 4) hO dL_law_383 (by decide) ?_
  refine zl_iadd hO dL_law_384 ?_
  refine zl_sld hO hX dL_law_385 (hv 4 (by decide)) ?_
  rw [hc 4 (by decide)]
  refine zl_aload_n hO dL_law_386 0 rfl ?_
  refine zl_iload_n hO dL_law_387 3 rfl ?_
  refine zl_iconst (v := nI 5) hO dL_law_388 (by decide) ?_
  refine zl_iadd hO dL_law_389 ?_
  refine zl_sld hO hX dL_law_390 (hv 5 (by decide)) ?_
  rw [hc 5 (by decide)]
  refine zl_callI (r := 43) (i := 0) (as := [vI (xs (i + 1)), vI (xs (i + 2)), vI (xs (i + 3)), vI (xs (i + 4)), vI (xs (i + 5))]) hO hNN dL_law_391 kL_35 (by decide) rfl (zI (by decide)) rfl rfl (Nat.le_of_ble_eq_true rfl) rfl rfl h2 (fun v2 im2 lv2 p2 => ?_)
  obtain ⟨e, hI⟩ := j2 v2 im2 lv2 p2
  exact zl_icmp_eq (tgt := 1151) hO dL_law_394 (by decide) (fun _ => kk im2 lv2 hI) (fun q => absurd e q)
theorem L_case5 {x : zX} {w : zWd} {b N i : Nat} {xs : Nat → Int32} {m : zMem} {lv : Int64} (hO : zOK x w zyL_law 14) (hNN : zN x 126 126) (hX : zSc x w b N xs) (hv : ∀ k : Nat, k < 6 → vp_in (nI i + nI k) N) (hc : ∀ k : Nat, k < 6 → xs (Int32.toNatClampNeg (nI i + nI k)) = xs (i + k)) (hJ : JS x.2.1 w 5 zyX11_staff (vR 0 0 :: [vI (xs (i + 1)), vI (xs (i + 2)), vI (xs (i + 3)), vI (xs (i + 4))]) 4 zyX12_staff (vR 43 0 :: [vI (xs (i + 1)), vI (xs (i + 2)), vI (xs (i + 3)), vI (xs (i + 4))]) m lv) (kk : ∀ im2 lv2, INV im2 → zLr x w 126 zRF 1151 [(0, .ref b), (1, .ref (w.1 + zad 0 0)), (2, .ref (w.1 + zad 43 0)), (3, .int (nI i))] [] im2 lv2) : zLr x w 126 zRF 399 [(0, .ref b), (1, .ref (w.1 + zad 0 0)), (2, .ref (w.1 + zad 43 0)), (3, .int (nI i))] [] m lv := by
  obtain ⟨P1, h1, j1⟩ := hJ
  refine zl_aload_n hO dL_law_399 1 rfl ?_
  refine zl_aload_n hO dL_law_400 0 rfl ?_
  refine zl_iload_n hO dL_law_401 3 rfl ?_
  refine zl_iconst (v := nI 1) hO dL_law_402 (by decide) ?_
  refine zl_iadd hO dL_law_403 ?_
  refine zl_sld hO hX dL_law_404 (hv 1 (by decide)) ?_
  rw [hc 1 (by decide)]
  refine zl_aload_n hO dL_law_405 0 rfl ?_
  refine zl_iload_n hO dL_law_406 3 rfl ?_
  refine zl_iconst (v := nI 2) hO dL_law_407 (by decide) ?_
  refine zl_iadd hO dL_law_408 ?_
  refine zl_sld hO hX dL_law_409 (hv 2 (by decide)) ?_
  rw [hc 2 (by decide)]
  refine zl_aload_n hO dL_law_410 0 rfl ?_
  refine zl_iload_n hO dL_law_411 3 rfl ?_
  refine zl_iconst (v := nI 3) hO dL_law_412 (by decide) ?_
  refine zl_iadd hO dL_law_413 ?_
  refine zl_sld hO hX dL_law_414 (hv 3 (by decide)) ?_
  rw [hc 3 (by decide)]
  refine zl_aload_n hO dL_law_415 0 rfl ?_
  refine zl_iload_n hO dL_law_416 3 rfl ?_
  refine zl_iconst (v := nI 4) hO dL_law_417 (by decide) ?_
  refine zl_iadd hO dL_law_418 ?_
  refine zl_sld hO hX dL_law_419 (hv 4 (by decide)) ?_
  rw [hc 4 (by decide)]
  refine zl_callI (r := 0) (i := 0) (as := [vI (xs (i + 1)), vI (xs (i + 2)), vI (xs (i + 3)), vI (xs (i + 4))]) hO hNN dL_law_420 kL_36 (by decide) rfl (zI (by decide)) rfl rfl (Nat.le_of_ble_eq_true rfl) rfl rfl h1 (fun v1 im1 lv1 p1 => ?_)
  obtain ⟨P2, h2, j2⟩ := j1 v1 im1 lv1 p1
  refine zl_aload_n hO dL_law_423 2 rfl ?_
  refine zl_aload_n hO dL_law_424 0 rfl ?_
  refine zl_iload_n hO dL_law_425 3 rfl ?_
  refine zl_iconst (v := nI 1) hO dL_law_426 (by decide) ?_
  refine zl_iadd hO dL_law_427 ?_
  refine zl_sld hO hX dL_law_428 (hv 1 (by decide)) ?_
  rw [hc 1 (by decide)]
  refine zl_aload_n hO dL_law_429 0 rfl ?_
  refine zl_iload_n hO dL_law_430 3 rfl ?_
  refine zl_iconst (v := nI 2) hO dL_law_431 (by decide) ?_
  refine zl_iadd hO dL_law_432 ?_
  refine zl_sld hO hX dL_law_433 (hv 2 (by decide)) ?_
  rw [hc 2 (by decide)]
  refine zl_aload_n hO dL_law_434 0 rfl ?_
  refine zl_iload_n hO dL_law_435 3 rfl ?_
  refine zl_iconst (v := nI 3) hO dL_law_436 (by decide) ?_
  refine zl_iadd hO dL_law_437 ?_
  refine zl_sld hO hX dL_law_438 (hv 3 (by decide)) ?_
  rw [hc 3 (by decide)]
  refine zl_aload_n hO dL_law_439 0 rfl ?_
  refine zl_iload_n hO dL_law_440 3 rfl ?_
  refine zl_iconst (v := nI 4) hO dL_law_441 (by decide) ?_
  refine zl_iadd hO dL_law_442 ?_
  refine zl_sld hO hX dL_law_443 (hv 4 (by decide)) ?_
  rw [hc 4 (by decide)]
  refine zl_callI (r := 43) (i := 0) (as := [vI (xs (i + 1)), vI (xs (i + 2)), vI (xs (i + 3)), vI (xs (i + 4))]) hO hNN dL_law_444 kL_40 (by decide) rfl (zI (by decide)) rfl rfl (Nat.le_of_ble_eq_true rfl) rfl rfl h2 (fun v2 im2 lv2 p2 => ?_)
  obtain ⟨e, hI⟩ := j2 v2 im2 lv2 p2
  exact zl_icmp_eq (tgt := 1151) hO dL_law_447 (by decide) (fun _ => kk im2 lv2 hI) (fun q => absurd e q)
theorem L_case6 {x : zX} {w : zWd} {b N i : Nat} {xs : Nat → Int32} {m : zMem} {lv : Int64} (hO : zOK x w zyL_law 14) (hNN : zN x 126 126) (hX : zSc x w b N xs) (hv : ∀ k : Nat, k < 6 → vp_in (nI i + nI k) N) (hc : ∀ k : Nat, k < 6 → xs (Int32.toNatClampNeg (nI i + nI k)) = xs (i + k)) (hJ : JS x.2.1 w 2 zyX11_look (vR 0 0 :: [vI (xs (i + 1))]) 3 zyX12_look (vR 43 0 :: [vI (xs (i + 1))]) m lv) (kk : ∀ im2 lv2, INV im2 → zLr x w 126 zRF 1151 [(0, .ref b), (1, .ref (w.1 + zad 0 0)), (2, .ref (w.1 + zad 43 0)), (3, .int (nI i))] [] im2 lv2) : zLr x w 126 zRF 452 [(0, .ref b), (1, .ref (w.1 + zad 0 0)), (2, .ref (w.1 + zad 43 0)), (3, .int (nI i))] [] m lv := by
  obtain ⟨P1, h1, j1⟩ := hJ
  refine zl_aload_n hO dL_law_452 1 rfl ?_
  refine zl_aload_n hO dL_law_453 0 rfl ?_
  refine zl_iload_n hO dL_law_454 3 rfl ?_
  refine zl_iconst (v := nI 1) hO dL_law_455 (by decide) ?_
  refine zl_iadd hO dL_law_456 ?_
  refine zl_sld hO hX dL_law_457 (hv 1 (by decide)) ?_
  rw [hc 1 (by decide)]
  refine zl_callI (r := 0) (i := 0) (as := [vI (xs (i + 1))]) hO hNN dL_law_458 kL_41 (by decide) rfl (zI (by decide)) rfl rfl (Nat.le_of_ble_eq_true rfl) rfl rfl h1 (fun v1 im1 lv1 p1 => ?_)
  obtain ⟨P2, h2, j2⟩ := j1 v1 im1 lv1 p1
  refine zl_aload_n hO dL_law_461 2 rfl ?_
  refine zl_aload_n hO dL_law_462 0 rfl ?_
  refine zl_iload_n hO dL_law_463 3 rfl ?_
  refine zl_iconst (v := nI 1) hO dL_law_464 (by decide) ?_
  refine zl_iadd hO dL_law_465 ?_
  refine zl_sld hO hX dL_law_466 (hv 1 (by decide)) ?_
  rw [hc 1 (by decide)]
  refine zl_callI (r := 43) (i := 0) (as := [vI (xs (i + 1))]) hO hNN dL_law_467 kL_44 (by decide) rfl (zI (by decide)) rfl rfl (Nat.le_of_ble_eq_true rfl) rfl rfl h2 (fun v2 im2 lv2 p2 => ?_)
  obtain ⟨e, hI⟩ := j2 v2 im2 lv2 p2
  exact zl_icmp_eq (tgt := 1151) hO dL_law_470 (by decide) (fun _ => kk im2 lv2 hI) (fun q => absurd e q)
theorem L_case7 {x : zX} {w : zWd} {b N i : Nat} {xs : Nat → Int32} {m : zMem} {lv : Int64} (hO : zOK x w zyL_law 14) (hNN : zN x 126 126) (hX : zSc x w b N xs) (hv : ∀ k : Nat, k < 6 → vp_in (nI i + nI k) N) (hc : ∀ k : Nat, k < 6 → xs (Int32.toNatClampNeg (nI i + nI k)) = xs (i + k)) (hJ : JS x.2.1 w 4 zyX11_safe (vR 0 0 :: [vI (xs (i + 1)), vI (xs (i + 2)), vI (xs (i + 3))]) 4 zyX12_safe (vR 43 0 :: [vI (xs (i + 1)), vI (xs (i + 2)), vI (xs (i + 3))]) m lv) (kk : ∀ im2 lv2, INV im2 → zLr x w 126 zRF 1151 [(0, .ref b), (1, .ref (w.1 + zad 0 0)), (2, .ref (w.1 + zad 43 0)), (3, .int (nI i))] [] im2 lv2) : zLr x w 126 zRF 475 [(0, .ref b), (1, .ref (w.1 + zad 0 0)), (2, .ref (w.1 + zad 43 0)), (3, .int (nI i))] [] m lv := by
  obtain ⟨P1, h1, j1⟩ := hJ
  refine zl_aload_n hO dL_law_475 1 rfl ?_
  refine zl_aload_n hO dL_law_476 0 rfl ?_
  refine zl_iload_n hO dL_law_477 3 rfl ?_
  refine zl_iconst (v := nI 1) hO dL_law_478 (by decide) ?_
  refine zl_iadd hO dL_law_479 ?_
  refine zl_sld hO hX dL_law_480 (hv 1 (by decide)) ?_
  rw [hc 1 (by decide)]
  refine zl_aload_n hO dL_law_481 0 rfl ?_
  refine zl_iload_n hO dL_law_482 3 rfl ?_
  refine zl_iconst (v := nI 2) hO dL_law_483 (by decide) ?_
  refine zl_iadd hO dL_law_484 ?_
  refine zl_sld hO hX dL_law_485 (hv 2 (by decide)) ?_
  rw [hc 2 (by decide)]
  refine zl_aload_n hO dL_law_486 0 rfl ?_
  refine zl_iload_n hO dL_law_487 3 rfl ?_
  refine zl_iconst (v := nI 3) hO dL_law_488 (by decide) ?_
  refine zl_iadd hO dL_law_489 ?_
  refine zl_sld hO hX dL_law_490 (hv 3 (by decide)) ?_
  rw [hc 3 (by decide)]
  refine zl_callI (r := 0) (i := 0) (as := [vI (xs (i + 1)), vI (xs (i + 2)), vI (xs (i + 3))]) hO hNN dL_law_491 kL_45 (by decide) rfl (zI (by decide)) rfl rfl (Nat.le_of_ble_eq_true rfl) rfl rfl h1 (fun v1 im1 lv1 p1 => ?_)
  obtain ⟨P2, h2, j2⟩ := j1 v1 im1 lv1 p1
  refine zl_aload_n hO dL_law_494 2 rfl ?_
  refine zl_aload_n hO dL_law_495 0 rfl ?_
  refine zl_iload_n hO dL_law_496 3 rfl ?_
  refine zl_iconst (v := nI 1) hO dL_law_497 (by decide) ?_
  refine zl_iadd hO dL_law_498 ?_
  refine zl_sld hO hX dL_law_499 (hv 1 (by decide)) ?_
  rw [hc 1 (by decide)]
  refine zl_aload_n hO dL_law_500 0 rfl ?_
  refine zl_iload_n hO dL_law_501 3 rfl ?_
  refine zl_iconst (v := nI 2) hO dL_law_502 (by decide) ?_
  refine zl_iadd hO dL_law_503 ?_
  refine zl_sld hO hX dL_law_504 (hv 2 (by decide)) ?_
  rw [hc 2 (by decide)]
  refine zl_aload_n hO dL_law_505 0 rfl ?_
  refine zl_iload_n hO dL_law_506 3 rfl ?_
  refine zl_iconst (v := nI 3) hO dL_law_507 (by decide) ?_
  refine zl_iadd hO dL_law_508 ?_
  refine zl_sld hO hX dL_law_509 (hv 3 (by decide)) ?_
  rw [hc 3 (by decide)]
  refine zl_callI (r := 43) (i := 0) (as := [vI (xs (i + 1)), vI (xs (i + 2)), vI (xs (i + 3))]) hO hNN dL_law_510 kL_48 (by decide) rfl (zI (by decide)) rfl rfl (Nat.le_of_ble_eq_true rfl) rfl rfl h2 (fun v2 im2 lv2 p2 => ?_)
  obtain ⟨e, hI⟩ := j2 v2 im2 lv2 p2
  exact zl_icmp_eq (tgt := 1151) hO dL_law_513 (by decide) (fun _ => kk im2 lv2 hI) (fun q => absurd e q)
theorem L_case8 {x : zX} {w : zWd} {b N i : Nat} {xs : Nat → Int32} {m : zMem} {lv : Int64} (hO : zOK x w zyL_law 14) (hNN : zN x 126 126) (hX : zSc x w b N xs) (hv : ∀ k : Nat, k < 6 → vp_in (nI i + nI k) N) (hc : ∀ k : Nat, k < 6 → xs (Int32.toNatClampNeg (nI i + nI k)) = xs (i + k)) (hJ : JS x.2.1 w 3 zyX11_feed (vR 0 0 :: [vL (((Int32.toInt64 (xs (i + 1))) <<< (Int32.toInt64 32 &&& 63)) ||| ((Int32.toInt64 (xs (i + 2))) &&& (4294967295 : Int64))), vI (xs (i + 3))]) 3 zyX12_feed (vR 43 0 :: [vL (((Int32.toInt64 (xs (i + 1))) <<< (Int32.toInt64 32 &&& 63)) ||| ((Int32.toInt64 (xs (i + 2))) &&& (4294967295 : Int64))), vI (xs (i + 3))]) m lv) (kk : ∀ im2 lv2, INV im2 → zLr x w 126 zRF 1151 [(0, .ref b), (1, .ref (w.1 + zad 0 0)), (2, .ref (w.1 + zad 43 0)), (3, .int (nI i))] [] im2 lv2) : zLr x w 126 zRF 518 [(0, .ref b), (1, .ref (w.1 + zad 0 0)), (2, .ref (w.1 + zad 43 0)), (3, .int (nI i))] [] m lv := by
  obtain ⟨P1, h1, j1⟩ := hJ
  refine zl_aload_n hO dL_law_518 1 rfl ?_
  refine zl_aload_n hO dL_law_519 0 rfl ?_
  refine zl_iload_n hO dL_law_520 3 rfl ?_
  refine zl_iconst (v := nI 1) hO dL_law_521 (by decide) ?_
  refine zl_iadd hO dL_law_522 ?_
  refine zl_sld hO hX dL_law_523 (hv 1 (by decide)) ?_
  rw [hc 1 (by decide)]
  refine zl_i2l hO dL_law_524 ?_
  refine zl_bipush (v := 32) hO dL_law_525 (by decide) ?_
  refine zl_lshl hO dL_law_527 ?_
  refine zl_aload_n hO dL_law_528 0 rfl ?_
  refine zl_iload_n hO dL_law_529 3 rfl ?_
  refine zl_iconst (v := nI 2) hO dL_law_530 (by decide) ?_
  refine zl_iadd hO dL_law_531 ?_
  refine zl_sld hO hX dL_law_532 (hv 2 (by decide)) ?_
  rw [hc 2 (by decide)]
  refine zl_i2l hO dL_law_533 ?_
  refine zl_ldc2 (v := 4294967295) hO dL_law_534 nL_49 ?_
  refine zl_land hO dL_law_537 ?_
  refine zl_lor hO dL_law_538 ?_
  refine zl_aload_n hO dL_law_539 0 rfl ?_
  refine zl_iload_n hO dL_law_540 3 rfl ?_
  refine zl_iconst (v := nI 3) hO dL_law_541 (by decide) ?_
  refine zl_iadd hO dL_law_542 ?_
  refine zl_sld hO hX dL_law_543 (hv 3 (by decide)) ?_
  rw [hc 3 (by decide)]
  refine zl_callI (r := 0) (i := 0) (as := [vL (((Int32.toInt64 (xs (i + 1))) <<< (Int32.toInt64 32 &&& 63)) ||| ((Int32.toInt64 (xs (i + 2))) &&& (4294967295 : Int64))), vI (xs (i + 3))]) hO hNN dL_law_544 kL_51 (by decide) rfl (zI (by decide)) rfl rfl (Nat.le_of_ble_eq_true rfl) rfl rfl h1 (fun v1 im1 lv1 p1 => ?_)
  obtain ⟨P2, h2, j2⟩ := j1 v1 im1 lv1 p1
  refine zl_aload_n hO dL_law_547 2 rfl ?_
  refine zl_aload_n hO dL_law_548 0 rfl ?_
  refine zl_iload_n hO dL_law_549 3 rfl ?_
  refine zl_iconst (v := nI 1) hO dL_law_550 (by decide) ?_
  refine zl_iadd hO dL_law_551 ?_
  refine zl_sld hO hX dL_law_552 (hv 1 (by decide)) ?_
  rw [hc 1 (by decide)]
  refine zl_i2l hO dL_law_553 ?_
  refine zl_bipush (v := 32) hO dL_law_554 (by decide) ?_
  refine zl_lshl hO dL_law_556 ?_
  refine zl_aload_n hO dL_law_557 0 rfl ?_
  refine zl_iload_n hO dL_law_558 3 rfl ?_
  refine zl_iconst (v := nI 2) hO dL_law_559 (by decide) ?_
  refine zl_iadd hO dL_law_560 ?_
  refine zl_sld hO hX dL_law_561 (hv 2 (by decide)) ?_
  rw [hc 2 (by decide)]
  refine zl_i2l hO dL_law_562 ?_
  refine zl_ldc2 (v := 4294967295) hO dL_law_563 nL_49 ?_
  refine zl_land hO dL_law_566 ?_
  refine zl_lor hO dL_law_567 ?_
  refine zl_aload_n hO dL_law_568 0 rfl ?_
  refine zl_iload_n hO dL_law_569 3 rfl ?_
  refine zl_iconst (v := nI 3) hO dL_law_570 (by decide) ?_
  refine zl_iadd hO dL_law_571 ?_
  refine zl_sld hO hX dL_law_572 (hv 3 (by decide)) ?_
  rw [hc 3 (by decide)]
  refine zl_callI (r := 43) (i := 0) (as := [vL (((Int32.toInt64 (xs (i + 1))) <<< (Int32.toInt64 32 &&& 63)) ||| ((Int32.toInt64 (xs (i + 2))) &&& (4294967295 : Int64))), vI (xs (i + 3))]) hO hNN dL_law_573 kL_55 (by decide) rfl (zI (by decide)) rfl rfl (Nat.le_of_ble_eq_true rfl) rfl rfl h2 (fun v2 im2 lv2 p2 => ?_)
  obtain ⟨e, hI⟩ := j2 v2 im2 lv2 p2
  exact zl_icmp_eq (tgt := 1151) hO dL_law_576 (by decide) (fun _ => kk im2 lv2 hI) (fun q => absurd e q)
theorem L_case9 {x : zX} {w : zWd} {b N i : Nat} {xs : Nat → Int32} {m : zMem} {lv : Int64} (hO : zOK x w zyL_law 14) (hNN : zN x 126 126) (hX : zSc x w b N xs) (hv : ∀ k : Nat, k < 6 → vp_in (nI i + nI k) N) (hc : ∀ k : Nat, k < 6 → xs (Int32.toNatClampNeg (nI i + nI k)) = xs (i + k)) (hJ : JS x.2.1 w 9 zyX11_read (vR 0 0 :: []) 8 zyX12_read (vR 43 0 :: []) m lv) (kk : ∀ im2 lv2, INV im2 → zLr x w 126 zRF 1151 [(0, .ref b), (1, .ref (w.1 + zad 0 0)), (2, .ref (w.1 + zad 43 0)), (3, .int (nI i))] [] im2 lv2) : zLr x w 126 zRF 581 [(0, .ref b), (1, .ref (w.1 + zad 0 0)), (2, .ref (w.1 + zad 43 0)), (3, .int (nI i))] [] m lv := by
  obtain ⟨P1, h1, j1⟩ := hJ
  refine zl_aload_n hO dL_law_581 1 rfl ?_
  refine zl_callI (r := 0) (i := 0) (as := []) hO hNN dL_law_582 kL_56 (by decide) rfl (zI (by decide)) rfl rfl (Nat.le_of_ble_eq_true rfl) rfl rfl h1 (fun v1 im1 lv1 p1 => ?_)
  obtain ⟨P2, h2, j2⟩ := j1 v1 im1 lv1 p1
  refine zl_aload_n hO dL_law_585 2 rfl ?_
  refine zl_callI (r := 43) (i := 0) (as := []) hO hNN dL_law_586 kL_60 (by decide) rfl (zI (by decide)) rfl rfl (Nat.le_of_ble_eq_true rfl) rfl rfl h2 (fun v2 im2 lv2 p2 => ?_)
  obtain ⟨e, hI⟩ := j2 v2 im2 lv2 p2
  exact zl_icmp_eq (tgt := 1151) hO dL_law_589 (by decide) (fun _ => kk im2 lv2 hI) (fun q => absurd e q)
theorem L_case10 {x : zX} {w : zWd} {b N i : Nat} {xs : Nat → Int32} {m : zMem} {lv : Int64} (hO : zOK x w zyL_law 14) (hNN : zN x 126 126) (hX : zSc x w b N xs) (hv : ∀ k : Nat, k < 6 → vp_in (nI i + nI k) N) (hc : ∀ k : Nat, k < 6 → xs (Int32.toNatClampNeg (nI i + nI k)) = xs (i + k)) (hJ : JS x.2.1 w 2 zyX11_fault (vR 0 0 :: []) 2 zyX12_fault (vR 43 0 :: []) m lv) (kk : ∀ im2 lv2, INV im2 → zLr x w 126 zRF 1151 [(0, .ref b), (1, .ref (w.1 + zad 0 0)), (2, .ref (w.1 + zad 43 0)), (3, .int (nI i))] [] im2 lv2) : zLr x w 126 zRF 594 [(0, .ref b), (1, .ref (w.1 + zad 0 0)), (2, .ref (w.1 + zad 43 0)), (3, .int (nI i))] [] m lv := by
  obtain ⟨P1, h1, j1⟩ := hJ
  refine zl_aload_n hO dL_law_594 1 rfl ?_
  refine zl_callI (r := 0) (i := 0) (as := []) hO hNN dL_law_595 kL_61 (by decide) rfl (zI (by decide)) rfl rfl (Nat.le_of_ble_eq_true rfl) rfl rfl h1 (fun v1 im1 lv1 p1 => ?_)
  obtain ⟨P2, h2, j2⟩ := j1 v1 im1 lv1 p1
  refine zl_aload_n hO dL_law_598 2 rfl ?_
  refine zl_callI (r := 43) (i := 0) (as := []) hO hNN dL_law_599 kL_64 (by decide) rfl (zI (by decide)) rfl rfl (Nat.le_of_ble_eq_true rfl) rfl rfl h2 (fun v2 im2 lv2 p2 => ?_)
  obtain ⟨e, hI⟩ := j2 v2 im2 lv2 p2
  exact zl_icmp_eq (tgt := 1151) hO dL_law_602 (by decide) (fun _ => kk im2 lv2 hI) (fun q => absurd e q)
theorem L_case11 {x : zX} {w : zWd} {b N i : Nat} {xs : Nat → Int32} {m : zMem} {lv : Int64} (hO : zOK x w zyL_law 14) (hNN : zN x 126 126) (hX : zSc x w b N xs) (hv : ∀ k : Nat, k < 6 → vp_in (nI i + nI k) N) (hc : ∀ k : Nat, k < 6 → xs (Int32.toNatClampNeg (nI i + nI k)) = xs (i + k)) (hJ : JS x.2.1 w 4 zyX11_told (vR 0 0 :: [vI (xs (i + 1)), vI (xs (i + 2))]) 4 zyX12_told (vR 43 0 :: [vI (xs (i + 1)), vI (xs (i + 2))]) m lv) (kk : ∀ im2 lv2, INV im2 → zLr x w 126 zRF 1151 [(0, .ref b), (1, .ref (w.1 + zad 0 0)), (2, .ref (w.1 + zad 43 0)), (3, .int (nI i))] [] im2 lv2) : zLr x w 126 zRF 607 [(0, .ref b), (1, .ref (w.1 + zad 0 0)), (2, .ref (w.1 + zad 43 0)), (3, .int (nI i))] [] m lv := by
  obtain ⟨P1, h1, j1⟩ := hJ
  refine zl_aload_n hO dL_law_607 1 rfl ?_
  refine zl_aload_n hO dL_law_608 0 rfl ?_
  refine zl_iload_n hO dL_law_609 3 rfl ?_
  refine zl_iconst (v := nI 1) hO dL_law_610 (by decide) ?_
  refine zl_iadd hO dL_law_611 ?_
  refine zl_sld hO hX dL_law_612 (hv 1 (by decide)) ?_
  rw [hc 1 (by decide)]
  refine zl_aload_n hO dL_law_613 0 rfl ?_
  refine zl_iload_n hO dL_law_614 3 rfl ?_
  refine zl_iconst (v := nI 2) hO dL_law_615 (by decide) ?_
  refine zl_iadd hO dL_law_616 ?_
  refine zl_sld hO hX dL_law_617 (hv 2 (by decide)) ?_
  rw [hc 2 (by decide)]
  refine zl_callI (r := 0) (i := 0) (as := [vI (xs (i + 1)), vI (xs (i + 2))]) hO hNN dL_law_618 kL_65 (by decide) rfl (zI (by decide)) rfl rfl (Nat.le_of_ble_eq_true rfl) rfl rfl h1 (fun v1 im1 lv1 p1 => ?_)
  obtain ⟨P2, h2, j2⟩ := j1 v1 im1 lv1 p1
  refine zl_aload_n hO dL_law_621 2 rfl ?_
  refine zl_aload_n hO dL_law_622 0 rfl ?_
  refine zl_iload_n hO dL_law_623 3 rfl ?_
  refine zl_iconst (v := nI 1) hO dL_law_624 (by decide) ?_
  refine zl_iadd hO dL_law_625 ?_
  refine zl_sld hO hX dL_law_626 (hv 1 (by decide)) ?_
  rw [hc 1 (by decide)]
  refine zl_aload_n hO dL_law_627 0 rfl ?_
  refine zl_iload_n hO dL_law_628 3 rfl ?_
  refine zl_iconst (v := nI 2) hO dL_law_629 (by decide) ?_
  refine zl_iadd hO dL_law_630 ?_
  refine zl_sld hO hX dL_law_631 (hv 2 (by decide)) ?_
  rw [hc 2 (by decide)]
  refine zl_callI (r := 43) (i := 0) (as := [vI (xs (i + 1)), vI (xs (i + 2))]) hO hNN dL_law_632 kL_69 (by decide) rfl (zI (by decide)) rfl rfl (Nat.le_of_ble_eq_true rfl) rfl rfl h2 (fun v2 im2 lv2 p2 => ?_)
  obtain ⟨e, hI⟩ := j2 v2 im2 lv2 p2
  exact zl_icmp_eq (tgt := 1151) hO dL_law_635 (by decide) (fun _ => kk im2 lv2 hI) (fun q => absurd e q)
theorem L_case12 {x : zX} {w : zWd} {b N i : Nat} {xs : Nat → Int32} {m : zMem} {lv : Int64} (hO : zOK x w zyL_law 14) (hNN : zN x 126 126) (hX : zSc x w b N xs) (hv : ∀ k : Nat, k < 6 → vp_in (nI i + nI k) N) (hc : ∀ k : Nat, k < 6 → xs (Int32.toNatClampNeg (nI i + nI k)) = xs (i + k)) (hJ : JS x.2.1 w 3 zyX11_leg (vR 0 0 :: [vI (xs (i + 1)), vI (xs (i + 2)), vI (xs (i + 3)), vI (xs (i + 4))]) 4 zyX12_leg (vR 43 0 :: [vI (xs (i + 1)), vI (xs (i + 2)), vI (xs (i + 3)), vI (xs (i + 4))]) m lv) (kk : ∀ im2 lv2, INV im2 → zLr x w 126 zRF 1151 [(0, .ref b), (1, .ref (w.1 + zad 0 0)), (2, .ref (w.1 + zad 43 0)), (3, .int (nI i))] [] im2 lv2) : zLr x w 126 zRF 640 [(0, .ref b), (1, .ref (w.1 + zad 0 0)), (2, .ref (w.1 + zad 43 0)), (3, .int (nI i))] [] m lv := by
  obtain ⟨P1, h1, j1⟩ := hJ
  refine zl_aload_n hO dL_law_640 1 rfl ?_
  refine zl_aload_n hO dL_law_641 0 rfl ?_
  refine zl_iload_n hO dL_law_642 3 rfl ?_
  refine zl_iconst (v := nI 1) hO dL_law_643 (by decide) ?_
  refine zl_iadd hO dL_law_644 ?_
  refine zl_sld hO hX dL_law_645 (hv 1 (by decide)) ?_
  rw [hc 1 (by decide)]
  refine zl_aload_n hO dL_law_646 0 rfl ?_
  refine zl_iload_n hO dL_law_647 3 rfl ?_
  refine zl_iconst (v := nI 2) hO dL_law_648 (by decide) ?_
  refine zl_iadd hO dL_law_649 ?_
  refine zl_sld hO hX dL_law_650 (hv 2 (by decide)) ?_
  rw [hc 2 (by decide)]
  refine zl_aload_n hO dL_law_651 0 rfl ?_
  refine zl_iload_n hO dL_law_652 3 rfl ?_
  refine zl_iconst (v := nI 3) hO dL_law_653 (by decide) ?_
  refine zl_iadd hO dL_law_654 ?_
  refine zl_sld hO hX dL_law_655 (hv 3 (by decide)) ?_
  rw [hc 3 (by decide)]
  refine zl_aload_n hO dL_law_656 0 rfl ?_
  refine zl_iload_n hO dL_law_657 3 rfl ?_
  refine zl_iconst (v := nI 4) hO dL_law_658 (by decide) ?_
  refine zl_iadd hO dL_law_659 ?_
  refine zl_sld hO hX dL_law_660 (hv 4 (by decide)) ?_
  rw [hc 4 (by decide)]
  refine zl_callI (r := 0) (i := 0) (as := [vI (xs (i + 1)), vI (xs (i + 2)), vI (xs (i + 3)), vI (xs (i + 4))]) hO hNN dL_law_661 kL_70 (by decide) rfl (zI (by decide)) rfl rfl (Nat.le_of_ble_eq_true rfl) rfl rfl h1 (fun v1 im1 lv1 p1 => ?_)
  obtain ⟨P2, h2, j2⟩ := j1 v1 im1 lv1 p1
  refine zl_aload_n hO dL_law_664 2 rfl ?_
  refine zl_aload_n hO dL_law_665 0 rfl ?_
  refine zl_iload_n hO dL_law_666 3 rfl ?_
  refine zl_iconst (v := nI 1) hO dL_law_667 (by decide) ?_
  refine zl_iadd hO dL_law_668 ?_
  refine zl_sld hO hX dL_law_669 (hv 1 (by decide)) ?_
  rw [hc 1 (by decide)]
  refine zl_aload_n hO dL_law_670 0 rfl ?_
  refine zl_iload_n hO dL_law_671 3 rfl ?_
  refine zl_iconst (v := nI 2) hO dL_law_672 (by decide) ?_
  refine zl_iadd hO dL_law_673 ?_
  refine zl_sld hO hX dL_law_674 (hv 2 (by decide)) ?_
  rw [hc 2 (by decide)]
  refine zl_aload_n hO dL_law_675 0 rfl ?_
  refine zl_iload_n hO dL_law_676 3 rfl ?_
  refine zl_iconst (v := nI 3) hO dL_law_677 (by decide) ?_
  refine zl_iadd hO dL_law_678 ?_
  refine zl_sld hO hX dL_law_679 (hv 3 (by decide)) ?_
  rw [hc 3 (by decide)]
  refine zl_aload_n hO dL_law_680 0 rfl ?_
  refine zl_iload_n hO dL_law_681 3 rfl ?_
  refine zl_iconst (v := nI 4) hO dL_law_682 (by decide) ?_
  refine zl_iadd hO dL_law_683 ?_
  refine zl_sld hO hX dL_law_684 (hv 4 (by decide)) ?_
  rw [hc 4 (by decide)]
  refine zl_callI (r := 43) (i := 0) (as := [vI (xs (i + 1)), vI (xs (i + 2)), vI (xs (i + 3)), vI (xs (i + 4))]) hO hNN dL_law_685 kL_73 (by decide) rfl (zI (by decide)) rfl rfl (Nat.le_of_ble_eq_true rfl) rfl rfl h2 (fun v2 im2 lv2 p2 => ?_)
  obtain ⟨e, hI⟩ := j2 v2 im2 lv2 p2
  exact zl_icmp_eq (tgt := 1151) hO dL_law_688 (by decide) (fun _ => kk im2 lv2 hI) (fun q => absurd e q)
theorem L_case13 {x : zX} {w : zWd} {b N i : Nat} {xs : Nat → Int32} {m : zMem} {lv : Int64} (hO : zOK x w zyL_law 14) (hNN : zN x 126 126) (hX : zSc x w b N xs) (hv : ∀ k : Nat, k < 6 → vp_in (nI i + nI k) N) (hc : ∀ k : Nat, k < 6 → xs (Int32.toNatClampNeg (nI i + nI k)) = xs (i + k)) (hJ : JS x.2.1 w 4 zyX11_choose (vR 0 0 :: [vI (xs (i + 1)), vI (xs (i + 2)), vI (xs (i + 3))]) 4 zyX12_choose (vR 43 0 :: [vI (xs (i + 1)), vI (xs (i + 2)), vI (xs (i + 3))]) m lv) (kk : ∀ im2 lv2, INV im2 → zLr x w 126 zRF 1151 [(0, .ref b), (1, .ref (w.1 + zad 0 0)), (2, .ref (w.1 + zad 43 0)), (3, .int (nI i))] [] im2 lv2) : zLr x w 126 zRF 693 [(0, .ref b), (1, .ref (w.1 + zad 0 0)), (2, .ref (w.1 + zad 43 0)), (3, .int (nI i))] [] m lv := by
  obtain ⟨P1, h1, j1⟩ := hJ
  refine zl_aload_n hO dL_law_693 1 rfl ?_
  refine zl_aload_n hO dL_law_694 0 rfl ?_
  refine zl_iload_n hO dL_law_695 3 rfl ?_
  refine zl_iconst (v := nI 1) hO dL_law_696 (by decide) ?_
  refine zl_iadd hO dL_law_697 ?_
  refine zl_sld hO hX dL_law_698 (hv 1 (by decide)) ?_
  rw [hc 1 (by decide)]
  refine zl_aload_n hO dL_law_699 0 rfl ?_
  refine zl_iload_n hO dL_law_700 3 rfl ?_
  refine zl_iconst (v := nI 2) hO dL_law_701 (by decide) ?_
  refine zl_iadd hO dL_law_702 ?_
  refine zl_sld hO hX dL_law_703 (hv 2 (by decide)) ?_
  rw [hc 2 (by decide)]
  refine zl_aload_n hO dL_law_704 0 rfl ?_
  refine zl_iload_n hO dL_law_705 3 rfl ?_
  refine zl_iconst (v := nI 3) hO dL_law_706 (by decide) ?_
  refine zl_iadd hO dL_law_707 ?_
  refine zl_sld hO hX dL_law_708 (hv 3 (by decide)) ?_
  rw [hc 3 (by decide)]
  refine zl_callI (r := 0) (i := 0) (as := [vI (xs (i + 1)), vI (xs (i + 2)), vI (xs (i + 3))]) hO hNN dL_law_709 kL_74 (by decide) rfl (zI (by decide)) rfl rfl (Nat.le_of_ble_eq_true rfl) rfl rfl h1 (fun v1 im1 lv1 p1 => ?_)
  obtain ⟨P2, h2, j2⟩ := j1 v1 im1 lv1 p1
  refine zl_aload_n hO dL_law_712 2 rfl ?_
  refine zl_aload_n hO dL_law_713 0 rfl ?_
  refine zl_iload_n hO dL_law_714 3 rfl ?_
  refine zl_iconst (v := nI 1) hO dL_law_715 (by decide) ?_
  refine zl_iadd hO dL_law_716 ?_
  refine zl_sld hO hX dL_law_717 (hv 1 (by decide)) ?_
  rw [hc 1 (by decide)]
  refine zl_aload_n hO dL_law_718 0 rfl ?_
  refine zl_iload_n hO dL_law_719 3 rfl ?_
  refine zl_iconst (v := nI 2) hO dL_law_720 (by decide) ?_
  refine zl_iadd hO dL_law_721 ?_
  refine zl_sld hO hX dL_law_722 (hv 2 (by decide)) ?_
  rw [hc 2 (by decide)]
  refine zl_aload_n hO dL_law_723 0 rfl ?_
  refine zl_iload_n hO dL_law_724 3 rfl ?_
  refine zl_iconst (v := nI 3) hO dL_law_725 (by decide) ?_
  refine zl_iadd hO dL_law_726 ?_
  refine zl_sld hO hX dL_law_727 (hv 3 (by decide)) ?_
  rw [hc 3 (by decide)]
  refine zl_callI (r := 43) (i := 0) (as := [vI (xs (i + 1)), vI (xs (i + 2)), vI (xs (i + 3))]) hO hNN dL_law_728 kL_77 (by decide) rfl (zI (by decide)) rfl rfl (Nat.le_of_ble_eq_true rfl) rfl rfl h2 (fun v2 im2 lv2 p2 => ?_)
  obtain ⟨e, hI⟩ := j2 v2 im2 lv2 p2
  exact zl_icmp_eq (tgt := 1151) hO dL_law_731 (by decide) (fun _ => kk im2 lv2 hI) (fun q => absurd e q)
theorem L_case14 {x : zX} {w : zWd} {b N i : Nat} {xs : Nat → Int32} {m : zMem} {lv : Int64} (hO : zOK x w zyL_law 14) (hNN : zN x 126 126) (hX : zSc x w b N xs) (hv : ∀ k : Nat, k < 6 → vp_in (nI i + nI k) N) (hc : ∀ k : Nat, k < 6 → xs (Int32.toNatClampNeg (nI i + nI k)) = xs (i + k)) (hJ : JS x.2.1 w 3 zyX11_at (vR 0 0 :: [vI (xs (i + 1)), vI (xs (i + 2))]) 4 zyX12_at (vR 43 0 :: [vI (xs (i + 1)), vI (xs (i + 2))]) m lv) (kk : ∀ im2 lv2, INV im2 → zLr x w 126 zRF 1151 [(0, .ref b), (1, .ref (w.1 + zad 0 0)), (2, .ref (w.1 + zad 43 0)), (3, .int (nI i))] [] im2 lv2) : zLr x w 126 zRF 736 [(0, .ref b), (1, .ref (w.1 + zad 0 0)), (2, .ref (w.1 + zad 43 0)), (3, .int (nI i))] [] m lv := by
  obtain ⟨P1, h1, j1⟩ := hJ
  refine zl_aload_n hO dL_law_736 1 rfl ?_
  refine zl_aload_n hO dL_law_737 0 rfl ?_
  refine zl_iload_n hO dL_law_738 3 rfl ?_
  refine zl_iconst (v := nI 1) hO dL_law_739 (by decide) ?_
  refine zl_iadd hO dL_law_740 ?_
  refine zl_sld hO hX dL_law_741 (hv 1 (by decide)) ?_
  rw [hc 1 (by decide)]
  refine zl_aload_n hO dL_law_742 0 rfl ?_
  refine zl_iload_n hO dL_law_743 3 rfl ?_
  refine zl_iconst (v := nI 2) hO dL_law_744 (by decide) ?_
  refine zl_iadd hO dL_law_745 ?_
  refine zl_sld hO hX dL_law_746 (hv 2 (by decide)) ?_
  rw [hc 2 (by decide)]
  refine zl_callI (r := 0) (i := 0) (as := [vI (xs (i + 1)), vI (xs (i + 2))]) hO hNN dL_law_747 kL_78 (by decide) rfl (zI (by decide)) rfl rfl (Nat.le_of_ble_eq_true rfl) rfl rfl h1 (fun v1 im1 lv1 p1 => ?_)
  obtain ⟨P2, h2, j2⟩ := j1 v1 im1 lv1 p1
  refine zl_aload_n hO dL_law_750 2 rfl ?_
  refine zl_aload_n hO dL_law_751 0 rfl ?_
  refine zl_iload_n hO dL_law_752 3 rfl ?_
  refine zl_iconst (v := nI 1) hO dL_law_753 (by decide) ?_
  refine zl_iadd hO dL_law_754 ?_
  refine zl_sld hO hX dL_law_755 (hv 1 (by decide)) ?_
  rw [hc 1 (by decide)]
  refine zl_aload_n hO dL_law_756 0 rfl ?_
  refine zl_iload_n hO dL_law_757 3 rfl ?_
  refine zl_iconst (v := nI 2) hO dL_law_758 (by decide) ?_
  refine zl_iadd hO dL_law_759 ?_
  refine zl_sld hO hX dL_law_760 (hv 2 (by decide)) ?_
  rw [hc 2 (by decide)]
  refine zl_callI (r := 43) (i := 0) (as := [vI (xs (i + 1)), vI (xs (i + 2))]) hO hNN dL_law_761 kL_81 (by decide) rfl (zI (by decide)) rfl rfl (Nat.le_of_ble_eq_true rfl) rfl rfl h2 (fun v2 im2 lv2 p2 => ?_)
  obtain ⟨e, hI⟩ := j2 v2 im2 lv2 p2
  exact zl_icmp_eq (tgt := 1151) hO dL_law_764 (by decide) (fun _ => kk im2 lv2 hI) (fun q => absurd e q)
theorem L_case15 {x : zX} {w : zWd} {b N i : Nat} {xs : Nat → Int32} {m : zMem} {lv : Int64} (hO : zOK x w zyL_law 14) (hNN : zN x 126 126) (hX : zSc x w b N xs) (hv : ∀ k : Nat, k < 6 → vp_in (nI i + nI k) N) (hc : ∀ k : Nat, k < 6 → xs (Int32.toNatClampNeg (nI i + nI k)) = xs (i + k)) (hJ : JS x.2.1 w 6 zyX11_load (vR 0 0 :: [vI (xs (i + 1)), vI (xs (i + 2)), vI (xs (i + 3))]) 5 zyX12_load (vR 43 0 :: [vI (xs (i + 1)), vI (xs (i + 2)), vI (xs (i + 3))]) m lv) (kk : ∀ im2 lv2, INV im2 → zLr x w 126 zRF 1151 [(0, .ref b), (1, .ref (w.1 + zad 0 0)), (2, .ref (w.1 + zad 43 0)), (3, .int (nI i))] [] im2 lv2) : zLr x w 126 zRF 769 [(0, .ref b), (1, .ref (w.1 + zad 0 0)), (2, .ref (w.1 + zad 43 0)), (3, .int (nI i))] [] m lv := by
  obtain ⟨P1, h1, j1⟩ := hJ
  refine zl_aload_n hO dL_law_769 1 rfl ?_
  refine zl_aload_n hO dL_law_770 0 rfl ?_
  refine zl_iload_n hO dL_law_771 3 rfl ?_
  refine zl_iconst (v := nI 1) hO dL_law_772 (by decide) ?_
  refine zl_iadd hO dL_law_773 ?_
  refine zl_sld hO hX dL_law_774 (hv 1 (by decide)) ?_
  rw [hc 1 (by decide)]
  refine zl_aload_n hO dL_law_775 0 rfl ?_
  refine zl_iload_n hO dL_law_776 3 rfl ?_
  refine zl_iconst (v := nI 2) hO dL_law_777 (by decide) ?_
  refine zl_iadd hO dL_law_778 ?_
  refine zl_sld hO hX dL_law_779 (hv 2 (by decide)) ?_
  rw [hc 2 (by decide)]
  refine zl_aload_n hO dL_law_780 0 rfl ?_
  refine zl_iload_n hO dL_law_781 3 rfl ?_
  refine zl_iconst (v := nI 3) hO dL_law_782 (by decide) ?_
  refine zl_iadd hO dL_law_783 ?_
  refine zl_sld hO hX dL_law_784 (hv 3 (by decide)) ?_
  rw [hc 3 (by decide)]
  refine zl_callI (r := 0) (i := 0) (as := [vI (xs (i + 1)), vI (xs (i + 2)), vI (xs (i + 3))]) hO hNN dL_law_785 kL_82 (by decide) rfl (zI (by decide)) rfl rfl (Nat.le_of_ble_eq_true rfl) rfl rfl h1 (fun v1 im1 lv1 p1 => ?_)
  obtain ⟨P2, h2, j2⟩ := j1 v1 im1 lv1 p1
  refine zl_aload_n hO dL_law_788 2 rfl ?_
  refine zl_aload_n hO dL_law_789 0 rfl ?_
  refine zl_iload_n hO dL_law_790 3 rfl ?_
  refine zl_iconst (v := nI 1) hO dL_law_791 (by decide) ?_
  refine zl_iadd hO dL_law_792 ?_
  refine zl_sld hO hX dL_law_793 (hv 1 (by decide)) ?_
  rw [hc 1 (by decide)]
  refine zl_aload_n hO dL_law_794 0 rfl ?_
  refine zl_iload_n hO dL_law_795 3 rfl ?_
  refine zl_iconst (v := nI 2) hO dL_law_796 (by decide) ?_
  refine zl_iadd hO dL_law_797 ?_
  refine zl_sld hO hX dL_law_798 (hv 2 (by decide)) ?_
  rw [hc 2 (by decide)]
  refine zl_aload_n hO dL_law_799 0 rfl ?_
  refine zl_iload_n hO dL_law_800 3 rfl ?_
  refine zl_iconst (v := nI 3) hO dL_law_801 (by decide) ?_
  refine zl_iadd hO dL_law_802 ?_
  refine zl_sld hO hX dL_law_803 (hv 3 (by decide)) ?_
  rw [hc 3 (by decide)]
  refine zl_callI (r := 43) (i := 0) (as := [vI (xs (i + 1)), vI (xs (i + 2)), vI (xs (i + 3))]) hO hNN dL_law_804 kL_85 (by decide) rfl (zI (by decide)) rfl rfl (Nat.le_of_ble_eq_true rfl) rfl rfl h2 (fun v2 im2 lv2 p2 => ?_)
  obtain ⟨e, hI⟩ := j2 v2 im2 lv2 p2
  exact zl_icmp_eq (tgt := 1151) hO dL_law_807 (by decide) (fun _ => kk im2 lv2 hI) (fun q => absurd e q)
theorem L_case16 {x : zX} {w : zWd} {b N i : Nat} {xs : Nat → Int32} {m : zMem} {lv : Int64} (hO : zOK x w zyL_law 14) (hNN : zN x 126 126) (hX : zSc x w b N xs) (hv : ∀ k : Nat, k < 6 → vp_in (nI i + nI k) N) (hc : ∀ k : Nat, k < 6 → xs (Int32.toNatClampNeg (nI i + nI k)) = xs (i + k)) (hJ : JS x.2.1 w 6 zyX11_all (vR 0 0 :: [vI (xs (i + 1))]) 6 zyX12_all (vR 43 0 :: [vI (xs (i + 1))]) m lv) (kk : ∀ im2 lv2, INV im2 → zLr x w 126 zRF 1151 [(0, .ref b), (1, .ref (w.1 + zad 0 0)), (2, .ref (w.1 + zad 43 0)), (3, .int (nI i))] [] im2 lv2) : zLr x w 126 zRF 812 [(0, .ref b), (1, .ref (w.1 + zad 0 0)), (2, .ref (w.1 + zad 43 0)), (3, .int (nI i))] [] m lv := by
  obtain ⟨P1, h1, j1⟩ := hJ
  refine zl_aload_n hO dL_law_812 1 rfl ?_
  refine zl_aload_n hO dL_law_813 0 rfl ?_
  refine zl_iload_n hO dL_law_814 3 rfl ?_
  refine zl_iconst (v := nI 1) hO dL_law_815 (by decide) ?_
  refine zl_iadd hO dL_law_816 ?_
  refine zl_sld hO hX dL_law_817 (hv 1 (by decide)) ?_
  rw [hc 1 (by decide)]
  refine zl_callI (r := 0) (i := 0) (as := [vI (xs (i + 1))]) hO hNN dL_law_818 kL_86 (by decide) rfl (zI (by decide)) rfl rfl (Nat.le_of_ble_eq_true rfl) rfl rfl h1 (fun v1 im1 lv1 p1 => ?_)
  obtain ⟨P2, h2, j2⟩ := j1 v1 im1 lv1 p1
  refine zl_aload_n hO dL_law_821 2 rfl ?_
  refine zl_aload_n hO dL_law_822 0 rfl ?_
  refine zl_iload_n hO dL_law_823 3 rfl ?_
  refine zl_iconst (v := nI 1) hO dL_law_824 (by decide) ?_
  refine zl_iadd hO dL_law_825 ?_
  refine zl_sld hO hX dL_law_826 (hv 1 (by decide)) ?_
  rw [hc 1 (by decide)]
  refine zl_callI (r := 43) (i := 0) (as := [vI (xs (i + 1))]) hO hNN dL_law_827 kL_89 (by decide) rfl (zI (by decide)) rfl rfl (Nat.le_of_ble_eq_true rfl) rfl rfl h2 (fun v2 im2 lv2 p2 => ?_)
  obtain ⟨e, hI⟩ := j2 v2 im2 lv2 p2
  exact zl_icmp_eq (tgt := 1151) hO dL_law_830 (by decide) (fun _ => kk im2 lv2 hI) (fun q => absurd e q)
theorem L_case17 {x : zX} {w : zWd} {b N i : Nat} {xs : Nat → Int32} {m : zMem} {lv : Int64} (hO : zOK x w zyL_law 14) (hNN : zN x 126 126) (hX : zSc x w b N xs) (hv : ∀ k : Nat, k < 6 → vp_in (nI i + nI k) N) (hc : ∀ k : Nat, k < 6 → xs (Int32.toNatClampNeg (nI i + nI k)) = xs (i + k)) (hJ : JS x.2.1 w 4 zyX11_known (vR 0 0 :: [vI (xs (i + 1)), vI (xs (i + 2)), vI (xs (i + 3))]) 4 zyX12_known (vR 43 0 :: [vI (xs (i + 1)), vI (xs (i + 2)), vI (xs (i + 3))]) m lv) (kk : ∀ im2 lv2, INV im2 → zLr x w 126 zRF 1151 [(0, .ref b), (1, .ref (w.1 + zad 0 0)), (2, .ref (w.1 + zad 43 0)), (3, .int (nI i))] [] im2 lv2) : zLr x w 126 zRF 835 [(0, .ref b), (1, .ref (w.1 + zad 0 0)), (2, .ref (w.1 + zad 43 0)), (3, .int (nI i))] [] m lv := by
  obtain ⟨P1, h1, j1⟩ := hJ
  refine zl_aload_n hO dL_law_835 1 rfl ?_
  refine zl_aload_n hO dL_law_836 0 rfl ?_
  refine zl_iload_n hO dL_law_837 3 rfl ?_
  refine zl_iconst (v := nI 1) hO dL_law_838 (by decide) ?_
  refine zl_iadd hO dL_law_839 ?_
  refine zl_sld hO hX dL_law_840 (hv 1 (by decide)) ?_
  rw [hc 1 (by decide)]
  refine zl_aload_n hO dL_law_841 0 rfl ?_
  refine zl_iload_n hO dL_law_842 3 rfl ?_
  refine zl_iconst (v := nI 2) hO dL_law_843 (by decide) ?_
  refine zl_iadd hO dL_law_844 ?_
  refine zl_sld hO hX dL_law_845 (hv 2 (by decide)) ?_
  rw [hc 2 (by decide)]
  refine zl_aload_n hO dL_law_846 0 rfl ?_
  refine zl_iload_n hO dL_law_847 3 rfl ?_
  refine zl_iconst (v := nI 3) hO dL_law_848 (by decide) ?_
  refine zl_iadd hO dL_law_849 ?_
  refine zl_sld hO hX dL_law_850 (hv 3 (by decide)) ?_
  rw [hc 3 (by decide)]
  refine zl_callI (r := 0) (i := 0) (as := [vI (xs (i + 1)), vI (xs (i + 2)), vI (xs (i + 3))]) hO hNN dL_law_851 kL_90 (by decide) rfl (zI (by decide)) rfl rfl (Nat.le_of_ble_eq_true rfl) rfl rfl h1 (fun v1 im1 lv1 p1 => ?_)
  obtain ⟨P2, h2, j2⟩ := j1 v1 im1 lv1 p1
  refine zl_aload_n hO dL_law_854 2 rfl ?_
  refine zl_aload_n hO dL_law_855 0 rfl ?_
  refine zl_iload_n hO dL_law_856 3 rfl ?_
  refine zl_iconst (v := nI 1) hO dL_law_857 (by decide) ?_
  refine zl_iadd hO dL_law_858 ?_
  refine zl_sld hO hX dL_law_859 (hv 1 (by decide)) ?_
  rw [hc 1 (by decide)]
  refine zl_aload_n hO dL_law_860 0 rfl ?_
  refine zl_iload_n hO dL_law_861 3 rfl ?_
  refine zl_iconst (v := nI 2) hO dL_law_862 (by decide) ?_
  refine zl_iadd hO dL_law_863 ?_
  refine zl_sld hO hX dL_law_864 (hv 2 (by decide)) ?_
  rw [hc 2 (by decide)]
  refine zl_aload_n hO dL_law_865 0 rfl ?_
  refine zl_iload_n hO dL_law_866 3 rfl ?_
  refine zl_iconst (v := nI 3) hO dL_law_867 (by decide) ?_
  refine zl_iadd hO dL_law_868 ?_
  refine zl_sld hO hX dL_law_869 (hv 3 (by decide)) ?_
  rw [hc 3 (by decide)]
  refine zl_callI (r := 43) (i := 0) (as := [vI (xs (i + 1)), vI (xs (i + 2)), vI (xs (i + 3))]) hO hNN dL_law_870 kL_93 (by decide) rfl (zI (by decide)) rfl rfl (Nat.le_of_ble_eq_true rfl) rfl rfl h2 (fun v2 im2 lv2 p2 => ?_)
  obtain ⟨e, hI⟩ := j2 v2 im2 lv2 p2
  exact zl_icmp_eq (tgt := 1151) hO dL_law_873 (by decide) (fun _ => kk im2 lv2 hI) (fun q => absurd e q)
theorem L_case18 {x : zX} {w : zWd} {b N i : Nat} {xs : Nat → Int32} {m : zMem} {lv : Int64} (hO : zOK x w zyL_law 14) (hNN : zN x 126 126) (hX : zSc x w b N xs) (hv : ∀ k : Nat, k < 6 → vp_in (nI i + nI k) N) (hc : ∀ k : Nat, k < 6 → xs (Int32.toNatClampNeg (nI i + nI k)) = xs (i + k)) (hJ : JS x.2.1 w 8 zyX11_split (vR 0 0 :: [vI (xs (i + 1))]) 5 zyX12_split (vR 43 0 :: [vI (xs (i + 1))]) m lv) (kk : ∀ im2 lv2, INV im2 → zLr x w 126 zRF 1151 [(0, .ref b), (1, .ref (w.1 + zad 0 0)), (2, .ref (w.1 + zad 43 0)), (3, .int (nI i))] [] im2 lv2) : zLr x w 126 zRF 878 [(0, .ref b), (1, .ref (w.1 + zad 0 0)), (2, .ref (w.1 + zad 43 0)), (3, .int (nI i))] [] m lv := by
  obtain ⟨P1, h1, j1⟩ := hJ
  refine zl_aload_n hO dL_law_878 1 rfl ?_
  refine zl_aload_n hO dL_law_879 0 rfl ?_
  refine zl_iload_n hO dL_law_880 3 rfl ?_
  refine zl_iconst (v := nI 1) hO dL_law_881 (by decide) ?_
  refine zl_iadd hO dL_law_882 ?_
  refine zl_sld hO hX dL_law_883 (hv 1 (by decide)) ?_
  rw [hc 1 (by decide)]
  refine zl_callI (r := 0) (i := 0) (as := [vI (xs (i + 1))]) hO hNN dL_law_884 kL_94 (by decide) rfl (zI (by decide)) rfl rfl (Nat.le_of_ble_eq_true rfl) rfl rfl h1 (fun v1 im1 lv1 p1 => ?_)
  obtain ⟨P2, h2, j2⟩ := j1 v1 im1 lv1 p1
  refine zl_aload_n hO dL_law_887 2 rfl ?_
  refine zl_aload_n hO dL_law_888 0 rfl ?_
  refine zl_iload_n hO dL_law_889 3 rfl ?_
  refine zl_iconst (v := nI 1) hO dL_law_890 (by decide) ?_
  refine zl_iadd hO dL_law_891 ?_
  refine zl_sld hO hX dL_law_892 (hv 1 (by decide)) ?_
  rw [hc 1 (by decide)]
  refine zl_callI (r := 43) (i := 0) (as := [vI (xs (i + 1))]) hO hNN dL_law_893 kL_97 (by decide) rfl (zI (by decide)) rfl rfl (Nat.le_of_ble_eq_true rfl) rfl rfl h2 (fun v2 im2 lv2 p2 => ?_)
  obtain ⟨e, hI⟩ := j2 v2 im2 lv2 p2
  exact zl_icmp_eq (tgt := 1151) hO dL_law_896 (by decide) (fun _ => kk im2 lv2 hI) (fun q => absurd e q)
theorem L_case19 {x : zX} {w : zWd} {b N i : Nat} {xs : Nat → Int32} {m : zMem} {lv : Int64} (hO : zOK x w zyL_law 14) (hNN : zN x 126 126) (hX : zSc x w b N xs) (hv : ∀ k : Nat, k < 6 → vp_in (nI i + nI k) N) (hc : ∀ k : Nat, k < 6 → xs (Int32.toNatClampNeg (nI i + nI k)) = xs (i + k)) (hJ : JS x.2.1 w 13 zyX11_settle (vR 0 0 :: [vI (xs (i + 1))]) 5 zyX12_settle (vR 43 0 :: [vI (xs (i + 1))]) m lv) (kk : ∀ im2 lv2, INV im2 → zLr x w 126 zRF 1151 [(0, .ref b), (1, .ref (w.1 + zad 0 0)), (2, .ref (w.1 + zad 43 0)), (3, .int (nI i))] [] im2 lv2) : zLr x w 126 zRF 901 [(0, .ref b), (1, .ref (w.1 + zad 0 0)), (2, .ref (w.1 + zad 43 0)), (3, .int (nI i))] [] m lv := by
  obtain ⟨P1, h1, j1⟩ := hJ
  refine zl_aload_n hO dL_law_901 1 rfl ?_
  refine zl_aload_n hO dL_law_902 0 rfl ?_
  refine zl_iload_n hO dL_law_903 3 rfl ?_
  refine zl_iconst (v := nI 1) hO dL_law_904 (by decide) ?_
  refine zl_iadd hO dL_law_905 ?_
  refine zl_sld hO hX dL_law_906 (hv 1 (by decide)) ?_
  rw [hc 1 (by decide)]
  refine zl_callI (r := 0) (i := 0) (as := [vI (xs (i + 1))]) hO hNN dL_law_907 kL_98 (by decide) rfl (zI (by decide)) rfl rfl (Nat.le_of_ble_eq_true rfl) rfl rfl h1 (fun v1 im1 lv1 p1 => ?_)
  obtain ⟨P2, h2, j2⟩ := j1 v1 im1 lv1 p1
  refine zl_aload_n hO dL_law_910 2 rfl ?_
  refine zl_aload_n hO dL_law_911 0 rfl ?_
  refine zl_iload_n hO dL_law_912 3 rfl ?_
  refine zl_iconst (v := nI 1) hO dL_law_913 (by decide) ?_
  refine zl_iadd hO dL_law_914 ?_
  refine zl_sld hO hX dL_law_915 (hv 1 (by decide)) ?_
  rw [hc 1 (by decide)]
  refine zl_callI (r := 43) (i := 0) (as := [vI (xs (i + 1))]) hO hNN dL_law_916 kL_101 (by decide) rfl (zI (by decide)) rfl rfl (Nat.le_of_ble_eq_true rfl) rfl rfl h2 (fun v2 im2 lv2 p2 => ?_)
  obtain ⟨e, hI⟩ := j2 v2 im2 lv2 p2
  exact zl_icmp_eq (tgt := 1151) hO dL_law_919 (by decide) (fun _ => kk im2 lv2 hI) (fun q => absurd e q)
theorem L_case20 {x : zX} {w : zWd} {b N i : Nat} {xs : Nat → Int32} {m : zMem} {lv : Int64} (hO : zOK x w zyL_law 14) (hNN : zN x 126 126) (hX : zSc x w b N xs) (hv : ∀ k : Nat, k < 6 → vp_in (nI i + nI k) N) (hc : ∀ k : Nat, k < 6 → xs (Int32.toNatClampNeg (nI i + nI k)) = xs (i + k)) (hJ : JS x.2.1 w 7 zyX11_harmless (vR 0 0 :: [vI (xs (i + 1)), vI (xs (i + 2))]) 7 zyX12_harmless (vR 43 0 :: [vI (xs (i + 1)), vI (xs (i + 2))]) m lv) (kk : ∀ im2 lv2, INV im2 → zLr x w 126 zRF 1151 [(0, .ref b), (1, .ref (w.1 + zad 0 0)), (2, .ref (w.1 + zad 43 0)), (3, .int (nI i))] [] im2 lv2) : zLr x w 126 zRF 924 [(0, .ref b), (1, .ref (w.1 + zad 0 0)), (2, .ref (w.1 + zad 43 0)), (3, .int (nI i))] [] m lv := by
  obtain ⟨P1, h1, j1⟩ := hJ
  refine zl_aload_n hO dL_law_924 1 rfl ?_
  refine zl_aload_n hO dL_law_925 0 rfl ?_
  refine zl_iload_n hO dL_law_926 3 rfl ?_
  refine zl_iconst (v := nI 1) hO dL_law_927 (by decide) ?_
  refine zl_iadd hO dL_law_928 ?_
  refine zl_sld hO hX dL_law_929 (hv 1 (by decide)) ?_
  rw [hc 1 (by decide)]
  refine zl_aload_n hO dL_law_930 0 rfl ?_
  refine zl_iload_n hO dL_law_931 3 rfl ?_
  refine zl_iconst (v := nI 2) hO dL_law_932 (by decide) ?_
  refine zl_iadd hO dL_law_933 ?_
  refine zl_sld hO hX dL_law_934 (hv 2 (by decide)) ?_
  rw [hc 2 (by decide)]
  refine zl_callI (r := 0) (i := 0) (as := [vI (xs (i + 1)), vI (xs (i + 2))]) hO hNN dL_law_935 kL_102 (by decide) rfl (zI (by decide)) rfl rfl (Nat.le_of_ble_eq_true rfl) rfl rfl h1 (fun v1 im1 lv1 p1 => ?_)
  obtain ⟨P2, h2, j2⟩ := j1 v1 im1 lv1 p1
  refine zl_aload_n hO dL_law_938 2 rfl ?_
  refine zl_aload_n hO dL_law_939 0 rfl ?_
  refine zl_iload_n hO dL_law_940 3 rfl ?_
  refine zl_iconst (v := nI 1) hO dL_law_941 (by decide) ?_
  refine zl_iadd hO dL_law_942 ?_
  refine zl_sld hO hX dL_law_943 (hv 1 (by decide)) ?_
  rw [hc 1 (by decide)]
  refine zl_aload_n hO dL_law_944 0 rfl ?_
  refine zl_iload_n hO dL_law_945 3 rfl ?_
  refine zl_iconst (v := nI 2) hO dL_law_946 (by decide) ?_
  refine zl_iadd hO dL_law_947 ?_
  refine zl_sld hO hX dL_law_948 (hv 2 (by decide)) ?_
  rw [hc 2 (by decide)]
  refine zl_callI (r := 43) (i := 0) (as := [vI (xs (i + 1)), vI (xs (i + 2))]) hO hNN dL_law_949 kL_105 (by decide) rfl (zI (by decide)) rfl rfl (Nat.le_of_ble_eq_true rfl) rfl rfl h2 (fun v2 im2 lv2 p2 => ?_)
  obtain ⟨e, hI⟩ := j2 v2 im2 lv2 p2
  exact zl_icmp_eq (tgt := 1151) hO dL_law_952 (by decide) (fun _ => kk im2 lv2 hI) (fun q => absurd e q)
theorem L_case21 {x : zX} {w : zWd} {b N i : Nat} {xs : Nat → Int32} {m : zMem} {lv : Int64} (hO : zOK x w zyL_law 14) (hNN : zN x 126 126) (hX : zSc x w b N xs) (hv : ∀ k : Nat, k < 6 → vp_in (nI i + nI k) N) (hc : ∀ k : Nat, k < 6 → xs (Int32.toNatClampNeg (nI i + nI k)) = xs (i + k)) (hJ : JS x.2.1 w 7 zyX11_swap (vR 0 0 :: []) 7 zyX12_swap (vR 43 0 :: []) m lv) (kk : ∀ im2 lv2, INV im2 → zLr x w 126 zRF 1151 [(0, .ref b), (1, .ref (w.1 + zad 0 0)), (2, .ref (w.1 + zad 43 0)), (3, .int (nI i))] [] im2 lv2) : zLr x w 126 zRF 957 [(0, .ref b), (1, .ref (w.1 + zad 0 0)), (2, .ref (w.1 + zad 43 0)), (3, .int (nI i))] [] m lv := by
  obtain ⟨P1, h1, j1⟩ := hJ
  refine zl_aload_n hO dL_law_957 1 rfl ?_
  refine zl_callI (r := 0) (i := 0) (as := []) hO hNN dL_law_958 kL_106 (by decide) rfl (zI (by decide)) rfl rfl (Nat.le_of_ble_eq_true rfl) rfl rfl h1 (fun v1 im1 lv1 p1 => ?_)
  obtain ⟨P2, h2, j2⟩ := j1 v1 im1 lv1 p1
  refine zl_aload_n hO dL_law_961 2 rfl ?_
  refine zl_callI (r := 43) (i := 0) (as := []) hO hNN dL_law_962 kL_109 (by decide) rfl (zI (by decide)) rfl rfl (Nat.le_of_ble_eq_true rfl) rfl rfl h2 (fun v2 im2 lv2 p2 => ?_)
  obtain ⟨e, hI⟩ := j2 v2 im2 lv2 p2
  exact zl_icmp_eq (tgt := 1151) hO dL_law_965 (by decide) (fun _ => kk im2 lv2 hI) (fun q => absurd e q)
theorem L_case22 {x : zX} {w : zWd} {b N i : Nat} {xs : Nat → Int32} {m : zMem} {lv : Int64} (hO : zOK x w zyL_law 14) (hNN : zN x 126 126) (hX : zSc x w b N xs) (hv : ∀ k : Nat, k < 6 → vp_in (nI i + nI k) N) (hc : ∀ k : Nat, k < 6 → xs (Int32.toNatClampNeg (nI i + nI k)) = xs (i + k)) (hJ : JS x.2.1 w 6 zyX11_airline (vR 0 0 :: [vI (xs (i + 1)), vI (xs (i + 2))]) 6 zyX12_airline (vR 43 0 :: [vI (xs (i + 1)), vI (xs (i + 2))]) m lv) (kk : ∀ im2 lv2, INV im2 → zLr x w 126 zRF 1151 [(0, .ref b), (1, .ref (w.1 + zad 0 0)), (2, .ref (w.1 + zad 43 0)), (3, .int (nI i))] [] im2 lv2) : zLr x w 126 zRF 970 [(0, .ref b), (1, .ref (w.1 + zad 0 0)), (2, .ref (w.1 + zad 43 0)), (3, .int (nI i))] [] m lv := by
  obtain ⟨P1, h1, j1⟩ := hJ
  refine zl_aload_n hO dL_law_970 1 rfl ?_
  refine zl_aload_n hO dL_law_971 0 rfl ?_
  refine zl_iload_n hO dL_law_972 3 rfl ?_
  refine zl_iconst (v := nI 1) hO dL_law_973 (by decide) ?_
  refine zl_iadd hO dL_law_974 ?_
  refine zl_sld hO hX dL_law_975 (hv 1 (by decide)) ?_
  rw [hc 1 (by decide)]
  refine zl_aload_n hO dL_law_976 0 rfl ?_
  refine zl_iload_n hO dL_law_977 3 rfl ?_
  refine zl_iconst (v := nI 2) hO dL_law_978 (by decide) ?_
  refine zl_iadd hO dL_law_979 ?_
  refine zl_sld hO hX dL_law_980 (hv 2 (by decide)) ?_
  rw [hc 2 (by decide)]
  refine zl_callI (r := 0) (i := 0) (as := [vI (xs (i + 1)), vI (xs (i + 2))]) hO hNN dL_law_981 kL_110 (by decide) rfl (zI (by decide)) rfl rfl (Nat.le_of_ble_eq_true rfl) rfl rfl h1 (fun v1 im1 lv1 p1 => ?_)
  obtain ⟨P2, h2, j2⟩ := j1 v1 im1 lv1 p1
  refine zl_aload_n hO dL_law_984 2 rfl ?_
  refine zl_aload_n hO dL_law_985 0 rfl ?_
  refine zl_iload_n hO dL_law_986 3 rfl ?_
  refine zl_iconst (v := nI 1) hO dL_law_987 (by decide) ?_
  refine zl_iadd hO dL_law_988 ?_
  refine zl_sld hO hX dL_law_989 (hv 1 (by decide)) ?_
  rw [hc 1 (by decide)]
  refine zl_aload_n hO dL_law_990 0 rfl ?_
  refine zl_iload_n hO dL_law_991 3 rfl ?_
  refine zl_iconst (v := nI 2) hO dL_law_992 (by decide) ?_
  refine zl_iadd hO dL_law_993 ?_
  refine zl_sld hO hX dL_law_994 (hv 2 (by decide)) ?_
  rw [hc 2 (by decide)]
  refine zl_callI (r := 43) (i := 0) (as := [vI (xs (i + 1)), vI (xs (i + 2))]) hO hNN dL_law_995 kL_113 (by decide) rfl (zI (by decide)) rfl rfl (Nat.le_of_ble_eq_true rfl) rfl rfl h2 (fun v2 im2 lv2 p2 => ?_)
  obtain ⟨e, hI⟩ := j2 v2 im2 lv2 p2
  exact zl_icmp_eq (tgt := 1151) hO dL_law_998 (by decide) (fun _ => kk im2 lv2 hI) (fun q => absurd e q)
theorem L_case23 {x : zX} {w : zWd} {b N i : Nat} {xs : Nat → Int32} {m : zMem} {lv : Int64} (hO : zOK x w zyL_law 14) (hNN : zN x 126 126) (hX : zSc x w b N xs) (hv : ∀ k : Nat, k < 6 → vp_in (nI i + nI k) N) (hc : ∀ k : Nat, k < 6 → xs (Int32.toNatClampNeg (nI i + nI k)) = xs (i + k)) (hJ : JS x.2.1 w 6 zyX11_kind (vR 0 0 :: [vI (xs (i + 1))]) 6 zyX12_kind (vR 43 0 :: [vI (xs (i + 1))]) m lv) (kk : ∀ im2 lv2, INV im2 → zLr x w 126 zRF 1151 [(0, .ref b), (1, .ref (w.1 + zad 0 0)), (2, .ref (w.1 + zad 43 0)), (3, .int (nI i))] [] im2 lv2) : zLr x w 126 zRF 1003 [(0, .ref b), (1, .ref (w.1 + zad 0 0)), (2, .ref (w.1 + zad 43 0)), (3, .int (nI i))] [] m lv := by
  obtain ⟨P1, h1, j1⟩ := hJ
  refine zl_aload_n hO dL_law_1003 1 rfl ?_
  refine zl_aload_n hO dL_law_1004 0 rfl ?_
  refine zl_iload_n hO dL_law_1005 3 rfl ?_
  refine zl_iconst (v := nI 1) hO dL_law_1006 (by decide) ?_
  refine zl_iadd hO dL_law_1007 ?_
  refine zl_sld hO hX dL_law_1008 (hv 1 (by decide)) ?_
  rw [hc 1 (by decide)]
  refine zl_callI (r := 0) (i := 0) (as := [vI (xs (i + 1))]) hO hNN dL_law_1009 kL_114 (by decide) rfl (zI (by decide)) rfl rfl (Nat.le_of_ble_eq_true rfl) rfl rfl h1 (fun v1 im1 lv1 p1 => ?_)
  obtain ⟨P2, h2, j2⟩ := j1 v1 im1 lv1 p1
  refine zl_aload_n hO dL_law_1012 2 rfl ?_
  refine zl_aload_n hO dL_law_1013 0 rfl ?_
  refine zl_iload_n hO dL_law_1014 3 rfl ?_
  refine zl_iconst (v := nI 1) hO dL_law_1015 (by decide) ?_
  refine zl_iadd hO dL_law_1016 ?_
  refine zl_sld hO hX dL_law_1017 (hv 1 (by decide)) ?_
  rw [hc 1 (by decide)]
  refine zl_callI (r := 43) (i := 0) (as := [vI (xs (i + 1))]) hO hNN dL_law_1018 kL_117 (by decide) rfl (zI (by decide)) rfl rfl (Nat.le_of_ble_eq_true rfl) rfl rfl h2 (fun v2 im2 lv2 p2 => ?_)
  obtain ⟨e, hI⟩ := j2 v2 im2 lv2 p2
  exact zl_icmp_eq (tgt := 1151) hO dL_law_1021 (by decide) (fun _ => kk im2 lv2 hI) (fun q => absurd e q)
theorem L_case24 {x : zX} {w : zWd} {b N i : Nat} {xs : Nat → Int32} {m : zMem} {lv : Int64} (hO : zOK x w zyL_law 14) (hNN : zN x 126 126) (hX : zSc x w b N xs) (hv : ∀ k : Nat, k < 6 → vp_in (nI i + nI k) N) (hc : ∀ k : Nat, k < 6 → xs (Int32.toNatClampNeg (nI i + nI k)) = xs (i + k)) (hJ : JS x.2.1 w 6 zyX11_as (vR 0 0 :: [vI (xs (i + 1)), vI (xs (i + 2))]) 6 zyX12_as (vR 43 0 :: [vI (xs (i + 1)), vI (xs (i + 2))]) m lv) (kk : ∀ im2 lv2, INV im2 → zLr x w 126 zRF 1151 [(0, .ref b), (1, .ref (w.1 + zad 0 0)), (2, .ref (w.1 + zad 43 0)), (3, .int (nI i))] [] im2 lv2) : zLr x w 126 zRF 1026 [(0, .ref b), (1, .ref (w.1 + zad 0 0)), (2, .ref (w.1 + zad 43 0)), (3, .int (nI i))] [] m lv := by
  obtain ⟨P1, h1, j1⟩ := hJ
  refine zl_aload_n hO dL_law_1026 1 rfl ?_
  refine zl_aload_n hO dL_law_1027 0 rfl ?_
  refine zl_iload_n hO dL_law_1028 3 rfl ?_
  refine zl_iconst (v := nI 1) hO dL_law_1029 (by decide) ?_
  refine zl_iadd hO dL_law_1030 ?_
  refine zl_sld hO hX dL_law_1031 (hv 1 (by decide)) ?_
  rw [hc 1 (by decide)]
  refine zl_aload_n hO dL_law_1032 0 rfl ?_
  refine zl_iload_n hO dL_law_1033 3 rfl ?_
  refine zl_iconst (v := nI 2) hO dL_law_1034 (by decide) ?_
  refine zl_iadd hO dL_law_1035 ?_
  refine zl_sld hO hX dL_law_1036 (hv 2 (by decide)) ?_
  rw [hc 2 (by decide)]
  refine zl_callI (r := 0) (i := 0) (as := [vI (xs (i + 1)), vI (xs (i + 2))]) hO hNN dL_law_1037 kL_118 (by decide) rfl (zI (by decide)) rfl rfl (Nat.le_of_ble_eq_true rfl) rfl rfl h1 (fun v1 im1 lv1 p1 => ?_)
  obtain ⟨P2, h2, j2⟩ := j1 v1 im1 lv1 p1
  refine zl_aload_n hO dL_law_1040 2 rfl ?_
  refine zl_aload_n hO dL_law_1041 0 rfl ?_
  refine zl_iload_n hO dL_law_1042 3 rfl ?_
  refine zl_iconst (v := nI 1) hO dL_law_1043 (by decide) ?_
  refine zl_iadd hO dL_law_1044 ?_
  refine zl_sld hO hX dL_law_1045 (hv 1 (by decide)) ?_
  rw [hc 1 (by decide)]
  refine zl_aload_n hO dL_law_1046 0 rfl ?_
  refine zl_iload_n hO dL_law_1047 3 rfl ?_
  refine zl_iconst (v := nI 2) hO dL_law_1048 (by decide) ?_
  refine zl_iadd hO dL_law_1049 ?_
  refine zl_sld hO hX dL_law_1050 (hv 2 (by decide)) ?_
  rw [hc 2 (by decide)]
  refine zl_callI (r := 43) (i := 0) (as := [vI (xs (i + 1)), vI (xs (i + 2))]) hO hNN dL_law_1051 kL_121 (by decide) rfl (zI (by decide)) rfl rfl (Nat.le_of_ble_eq_true rfl) rfl rfl h2 (fun v2 im2 lv2 p2 => ?_)
  obtain ⟨e, hI⟩ := j2 v2 im2 lv2 p2
  exact zl_icmp_eq (tgt := 1151) hO dL_law_1054 (by decide) (fun _ => kk im2 lv2 hI) (fun q => absurd e q)
theorem L_case25 {x : zX} {w : zWd} {b N i : Nat} {xs : Nat → Int32} {m : zMem} {lv : Int64} (hO : zOK x w zyL_law 14) (hNN : zN x 126 126) (hX : zSc x w b N xs) (hv : ∀ k : Nat, k < 6 → vp_in (nI i + nI k) N) (hc : ∀ k : Nat, k < 6 → xs (Int32.toNatClampNeg (nI i + nI k)) = xs (i + k)) (hJ : JS x.2.1 w 8 zyX11_ask (vR 0 0 :: [vI (xs (i + 1)), vI (xs (i + 2))]) 6 zyX12_ask (vR 43 0 :: [vI (xs (i + 1)), vI (xs (i + 2))]) m lv) (kk : ∀ im2 lv2, INV im2 → zLr x w 126 zRF 1151 [(0, .ref b), (1, .ref (w.1 + zad 0 0)), (2, .ref (w.1 + zad 43 0)), (3, .int (nI i))] [] im2 lv2) : zLr x w 126 zRF 1059 [(0, .ref b), (1, .ref (w.1 + zad 0 0)), (2, .ref (w.1 + zad 43 0)), (3, .int (nI i))] [] m lv := by
  obtain ⟨P1, h1, j1⟩ := hJ
  refine zl_aload_n hO dL_law_1059 1 rfl ?_
  refine zl_aload_n hO dL_law_1060 0 rfl ?_
  refine zl_iload_n hO dL_law_1061 3 rfl ?_
  refine zl_iconst (v := nI 1) hO dL_law_1062 (by decide) ?_
  refine zl_iadd hO dL_law_1063 ?_
  refine zl_sld hO hX dL_law_1064 (hv 1 (by decide)) ?_
  rw [hc 1 (by decide)]
  refine zl_aload_n hO dL_law_1065 0 rfl ?_
  refine zl_iload_n hO dL_law_1066 3 rfl ?_
  refine zl_iconst (v := nI 2) hO dL_law_1067 (by decide) ?_
  refine zl_iadd hO dL_law_1068 ?_
  refine zl_sld hO hX dL_law_1069 (hv 2 (by decide)) ?_
  rw [hc 2 (by decide)]
  refine zl_callI (r := 0) (i := 0) (as := [vI (xs (i + 1)), vI (xs (i + 2))]) hO hNN dL_law_1070 kL_122 (by decide) rfl (zI (by decide)) rfl rfl (Nat.le_of_ble_eq_true rfl) rfl rfl h1 (fun v1 im1 lv1 p1 => ?_)
  obtain ⟨P2, h2, j2⟩ := j1 v1 im1 lv1 p1
  refine zl_aload_n hO dL_law_1073 2 rfl ?_
  refine zl_aload_n hO dL_law_1074 0 rfl ?_
  refine zl_iload_n hO dL_law_1075 3 rfl ?_
  refine zl_iconst (v := nI 1) hO dL_law_1076 (by decide) ?_
  refine zl_iadd hO dL_law_1077 ?_
  refine zl_sld hO hX dL_law_1078 (hv 1 (by decide)) ?_
  rw [hc 1 (by decide)]
  refine zl_aload_n hO dL_law_1079 0 rfl ?_
  refine zl_iload_n hO dL_law_1080 3 rfl ?_
  refine zl_iconst (v := nI 2) hO dL_law_1081 (by decide) ?_
  refine zl_iadd hO dL_law_1082 ?_
  refine zl_sld hO hX dL_law_1083 (hv 2 (by decide)) ?_
  rw [hc 2 (by decide)]
  refine zl_callI (r := 43) (i := 0) (as := [vI (xs (i + 1)), vI (xs (i + 2))]) hO hNN dL_law_1084 kL_125 (by decide) rfl (zI (by decide)) rfl rfl (Nat.le_of_ble_eq_true rfl) rfl rfl h2 (fun v2 im2 lv2 p2 => ?_)
  obtain ⟨e, hI⟩ := j2 v2 im2 lv2 p2
  exact zl_icmp_eq (tgt := 1151) hO dL_law_1087 (by decide) (fun _ => kk im2 lv2 hI) (fun q => absurd e q)
theorem L_case26 {x : zX} {w : zWd} {b N i : Nat} {xs : Nat → Int32} {m : zMem} {lv : Int64} (hO : zOK x w zyL_law 14) (hNN : zN x 126 126) (hX : zSc x w b N xs) (hv : ∀ k : Nat, k < 6 → vp_in (nI i + nI k) N) (hc : ∀ k : Nat, k < 6 → xs (Int32.toNatClampNeg (nI i + nI k)) = xs (i + k)) (hJ : JS x.2.1 w 2 zyX11_trace (vR 0 0 :: [vI (xs (i + 1))]) 3 zyX12_trace (vR 43 0 :: [vI (xs (i + 1))]) m lv) (kk : ∀ im2 lv2, INV im2 → zLr x w 126 zRF 1151 [(0, .ref b), (1, .ref (w.1 + zad 0 0)), (2, .ref (w.1 + zad 43 0)), (3, .int (nI i))] [] im2 lv2) : zLr x w 126 zRF 1092 [(0, .ref b), (1, .ref (w.1 + zad 0 0)), (2, .ref (w.1 + zad 43 0)), (3, .int (nI i))] [] m lv := by
  obtain ⟨P1, h1, j1⟩ := hJ
  refine zl_aload_n hO dL_law_1092 1 rfl ?_
  refine zl_aload_n hO dL_law_1093 0 rfl ?_
  refine zl_iload_n hO dL_law_1094 3 rfl ?_
  refine zl_iconst (v := nI 1) hO dL_law_1095 (by decide) ?_
  refine zl_iadd hO dL_law_1096 ?_
  refine zl_sld hO hX dL_law_1097 (hv 1 (by decide)) ?_
  rw [hc 1 (by decide)]
  refine zl_callI (r := 0) (i := 0) (as := [vI (xs (i + 1))]) hO hNN dL_law_1098 kL_126 (by decide) rfl (zI (by decide)) rfl rfl (Nat.le_of_ble_eq_true rfl) rfl rfl h1 (fun v1 im1 lv1 p1 => ?_)
  obtain ⟨P2, h2, j2⟩ := j1 v1 im1 lv1 p1
  refine zl_aload_n hO dL_law_1101 2 rfl ?_
  refine zl_aload_n hO dL_law_1102 0 rfl ?_
  refine zl_iload_n hO dL_law_1103 3 rfl ?_
  refine zl_iconst (v := nI 1) hO dL_law_1104 (by decide) ?_
  refine zl_iadd hO dL_law_1105 ?_
  refine zl_sld hO hX dL_law_1106 (hv 1 (by decide)) ?_
  rw [hc 1 (by decide)]
  refine zl_callI (r := 43) (i := 0) (as := [vI (xs (i + 1))]) hO hNN dL_law_1107 kL_129 (by decide) rfl (zI (by decide)) rfl rfl (Nat.le_of_ble_eq_true rfl) rfl rfl h2 (fun v2 im2 lv2 p2 => ?_)
  obtain ⟨e, hI⟩ := j2 v2 im2 lv2 p2
  exact zl_icmp_eq (tgt := 1151) hO dL_law_1110 (by decide) (fun _ => kk im2 lv2 hI) (fun q => absurd e q)
theorem L_case27 {x : zX} {w : zWd} {b N i : Nat} {xs : Nat → Int32} {m : zMem} {lv : Int64} (hO : zOK x w zyL_law 14) (hNN : zN x 126 126) (hX : zSc x w b N xs) (hv : ∀ k : Nat, k < 6 → vp_in (nI i + nI k) N) (hc : ∀ k : Nat, k < 6 → xs (Int32.toNatClampNeg (nI i + nI k)) = xs (i + k)) (hJ : JS x.2.1 w 7 zyX11_count (vR 0 0 :: [vI (xs (i + 1))]) 6 zyX12_count (vR 43 0 :: [vI (xs (i + 1))]) m lv) (kk : ∀ im2 lv2, INV im2 → zLr x w 126 zRF 1151 [(0, .ref b), (1, .ref (w.1 + zad 0 0)), (2, .ref (w.1 + zad 43 0)), (3, .int (nI i))] [] im2 lv2) : zLr x w 126 zRF 1115 [(0, .ref b), (1, .ref (w.1 + zad 0 0)), (2, .ref (w.1 + zad 43 0)), (3, .int (nI i))] [] m lv := by
  obtain ⟨P1, h1, j1⟩ := hJ
  refine zl_aload_n hO dL_law_1115 1 rfl ?_
  refine zl_aload_n hO dL_law_1116 0 rfl ?_
  refine zl_iload_n hO dL_law_1117 3 rfl ?_
  refine zl_iconst (v := nI 1) hO dL_law_1118 (by decide) ?_
  refine zl_iadd hO dL_law_1119 ?_
  refine zl_sld hO hX dL_law_1120 (hv 1 (by decide)) ?_
  rw [hc 1 (by decide)]
  refine zl_callI (r := 0) (i := 0) (as := [vI (xs (i + 1))]) hO hNN dL_law_1121 kL_130 (by decide) rfl (zI (by decide)) rfl rfl (Nat.le_of_ble_eq_true rfl) rfl rfl h1 (fun v1 im1 lv1 p1 => ?_)
  obtain ⟨P2, h2, j2⟩ := j1 v1 im1 lv1 p1
  refine zl_aload_n hO dL_law_1124 2 rfl ?_
  refine zl_aload_n hO dL_law_1125 0 rfl ?_
  refine zl_iload_n hO dL_law_1126 3 rfl ?_
  refine zl_iconst (v := nI 1) hO dL_law_1127 (by decide) ?_
  refine zl_iadd hO dL_law_1128 ?_
  refine zl_sld hO hX dL_law_1129 (hv 1 (by decide)) ?_
  rw [hc 1 (by decide)]
  refine zl_callI (r := 43) (i := 0) (as := [vI (xs (i + 1))]) hO hNN dL_law_1130 kL_133 (by decide) rfl (zI (by decide)) rfl rfl (Nat.le_of_ble_eq_true rfl) rfl rfl h2 (fun v2 im2 lv2 p2 => ?_)
  obtain ⟨e, hI⟩ := j2 v2 im2 lv2 p2
  exact zl_icmp_eq (tgt := 1151) hO dL_law_1133 (by decide) (fun _ => kk im2 lv2 hI) (fun q => absurd e q)
theorem L_case28 {x : zX} {w : zWd} {b N i : Nat} {xs : Nat → Int32} {m : zMem} {lv : Int64} (hO : zOK x w zyL_law 14) (hNN : zN x 126 126) (hX : zSc x w b N xs) (hv : ∀ k : Nat, k < 6 → vp_in (nI i + nI k) N) (hc : ∀ k : Nat, k < 6 → xs (Int32.toNatClampNeg (nI i + nI k)) = xs (i + k)) (hJ : JS x.2.1 w 2 zyX11_status (vR 0 0 :: []) 2 zyX12_status (vR 43 0 :: []) m lv) (kk : ∀ im2 lv2, INV im2 → zLr x w 126 zRF 1151 [(0, .ref b), (1, .ref (w.1 + zad 0 0)), (2, .ref (w.1 + zad 43 0)), (3, .int (nI i))] [] im2 lv2) : zLr x w 126 zRF 1138 [(0, .ref b), (1, .ref (w.1 + zad 0 0)), (2, .ref (w.1 + zad 43 0)), (3, .int (nI i))] [] m lv := by
  obtain ⟨P1, h1, j1⟩ := hJ
  refine zl_aload_n hO dL_law_1138 1 rfl ?_
  refine zl_callI (r := 0) (i := 0) (as := []) hO hNN dL_law_1139 kL_134 (by decide) rfl (zI (by decide)) rfl rfl (Nat.le_of_ble_eq_true rfl) rfl rfl h1 (fun v1 im1 lv1 p1 => ?_)
  obtain ⟨P2, h2, j2⟩ := j1 v1 im1 lv1 p1
  refine zl_aload_n hO dL_law_1142 2 rfl ?_
  refine zl_callI (r := 43) (i := 0) (as := []) hO hNN dL_law_1143 kL_137 (by decide) rfl (zI (by decide)) rfl rfl (Nat.le_of_ble_eq_true rfl) rfl rfl h2 (fun v2 im2 lv2 p2 => ?_)
  obtain ⟨e, hI⟩ := j2 v2 im2 lv2 p2
  exact zl_icmp_eq (tgt := 1151) hO dL_law_1146 (by decide) (fun _ => kk im2 lv2 hI) (fun q => absurd e q)
