/-! THE LAW'S CALLS, one by one. -/
def lk_b (z : Int) : Int := if z = 0 then 0 else 1
theorem lw_b01 (z : Int) : lk_b z = 0 ∨ lk_b z = 1 := by unfold lk_b; split <;> simp
/-- behind a call: the law goes on with both states alike -/
def LK (L i : Nat) (g : Nat → Int) (Q : Option mm_V → mm_H → Prop) : Prop := ∀ (σ' T' : mk_S) (t' w' o' : List Int) (f' l' p' n' : Int), CI σ' T' t' w' o' f' l' p' n' → MI σ' T' t' w' o' f' l' p' n' → SI T' t' w' o' → σ' 1 = g → mm_X 0 656 [vP 1, vP 2, vP 55, vI i] [] (hp L σ') Q
def RI (g : Nat → Int) : Prop := ∀ j, -2147483648 ≤ g j ∧ g j ≤ 2147483647
section LAW
variable {L i : Nat} {σ T : mk_S} {t w o : List Int} {f l p n : Int} {Q : Option mm_V → mm_H → Prop}
theorem lw_b329 {z : Int} {ls st : List mm_V} {h : mm_H} (k : mm_X 0 337 ls (vI (lk_b z) :: st) h Q) : mm_X 0 329 ls (vI z :: st) h Q := by
  unfold lk_b at k
  refine r_if_eq c_0_329 (fun q => ?_) <| (fun q => ?_)
  · refine r_iconst c_0_336 <| ?_
    rw [if_pos q] at k; exact k
  · refine r_iconst c_0_332 <| r_goto c_0_333 <| ?_
    rw [if_neg q] at k; exact k
theorem lw_b361 {z : Int} {ls st : List mm_V} {h : mm_H} (k : mm_X 0 369 ls (vI (lk_b z) :: st) h Q) : mm_X 0 361 ls (vI z :: st) h Q := by
  unfold lk_b at k
  refine r_if_eq c_0_361 (fun q => ?_) <| (fun q => ?_)
  · refine r_iconst c_0_368 <| ?_
    rw [if_pos q] at k; exact k
  · refine r_iconst c_0_364 <| r_goto c_0_365 <| ?_
    rw [if_neg q] at k; exact k
theorem lw_b577 {z : Int} {ls st : List mm_V} {h : mm_H} (k : mm_X 0 585 ls (vI (lk_b z) :: st) h Q) : mm_X 0 577 ls (vI z :: st) h Q := by
  unfold lk_b at k
  refine r_if_eq c_0_577 (fun q => ?_) <| (fun q => ?_)
  · refine r_iconst c_0_584 <| ?_
    rw [if_pos q] at k; exact k
  · refine r_iconst c_0_580 <| r_goto c_0_581 <| ?_
    rw [if_neg q] at k; exact k
theorem lw_b594 {z : Int} {ls st : List mm_V} {h : mm_H} (k : mm_X 0 602 ls (vI (lk_b z) :: st) h Q) : mm_X 0 594 ls (vI z :: st) h Q := by
  unfold lk_b at k
  refine r_if_eq c_0_594 (fun q => ?_) <| (fun q => ?_)
  · refine r_iconst c_0_601 <| ?_
    rw [if_pos q] at k; exact k
  · refine r_iconst c_0_597 <| r_goto c_0_598 <| ?_
    rw [if_neg q] at k; exact k
theorem lw_c_feed (hL : L ≤ 320) (hi : i + 5 ≤ L) (hC : CI σ T t w o f l p n) (hM : MI σ T t w o f l p n) (hS : SI T t w o) (hR : RI (σ 1)) (kk : LK L i (σ 1) Q) : mm_X 0 120 [vP 1, vP 2, vP 55, vI i] [] (hp L σ) Q := by
  refine r_aload_n c_0_120 rfl <| r_aload_n c_0_121 rfl <| r_iload_n c_0_122 rfl <| r_iconst c_0_123 <| r_iadd c_0_124 (by omega) <| r_iald c_0_125 rfl (Or.inr rfl) (jn := i + 1) (by omega) (by omega) <| r_i2l c_0_126 <| r_bipush c_0_127 <| r_lshl c_0_129 rfl <| r_aload_n c_0_130 rfl <| ?_
  refine r_iload_n c_0_131 rfl <| r_iconst c_0_132 <| r_iadd c_0_133 (by omega) <| r_iald c_0_134 rfl (Or.inr rfl) (jn := i + 2) (by omega) (by omega) <| r_i2l c_0_135 <| r_ldc2_w c_0_136 <| r_land c_0_139 rfl <| r_lor c_0_140 rfl <| r_aload_n c_0_141 rfl <| r_iload_n c_0_142 rfl <| ?_
  refine r_iconst c_0_143 <| r_iadd c_0_144 (by omega) <| r_iald c_0_145 rfl (Or.inr rfl) (jn := i + 3) (by omega) (by omega) <| r_cV2 c_0_146 rfl (Nat.le_of_ble_eq_true rfl) <| ?_
  refine cc_feed hC hS _ _ (hR _) (fun σ1 a1 a2 a3 => ?_)
  have b1 := hM.keep a2
  refine r_aload_n c_0_149 rfl <| r_aload_n c_0_150 rfl <| r_iload_n c_0_151 rfl <| r_iconst c_0_152 <| r_iadd c_0_153 (by omega) <| r_iald c_0_154 rfl (Or.inr rfl) (jn := i + 1) (by omega) (by omega) <| r_i2l c_0_155 <| r_bipush c_0_156 <| r_lshl c_0_158 rfl <| r_aload_n c_0_159 rfl <| ?_
  refine r_iload_n c_0_160 rfl <| r_iconst c_0_161 <| r_iadd c_0_162 (by omega) <| r_iald c_0_163 rfl (Or.inr rfl) (jn := i + 2) (by omega) (by omega) <| r_i2l c_0_164 <| r_ldc2_w c_0_165 <| r_land c_0_168 rfl <| r_lor c_0_169 rfl <| r_aload_n c_0_170 rfl <| r_iload_n c_0_171 rfl <| ?_
  refine r_iconst c_0_172 <| r_iadd c_0_173 (by omega) <| r_iald c_0_174 rfl (Or.inr rfl) (jn := i + 3) (by omega) (by omega) <| r_cV2 c_0_175 rfl (Nat.le_of_ble_eq_true rfl) <| ?_
  rw [a3]
  refine cm_feed b1 hS _ _ (hR _) (fun σ2 c1 e1 c2 => ?_)
  refine r_icmp_eq c_0_178 (fun h178 => ?_) <| (fun h178 => ?_)
  · exact kk σ2 _ _ _ _ _ _ _ _ (a1.keep c2) c1 ⟨hS.1, e1, hS.2.2.1, hS.2.2.2⟩ ((c2 1 (by decide)).trans a3)
  · exact absurd rfl h178
theorem lw_c_read (hL : L ≤ 320) (hi : i + 5 ≤ L) (hC : CI σ T t w o f l p n) (hM : MI σ T t w o f l p n) (hS : SI T t w o) (hR : RI (σ 1)) (kk : LK L i (σ 1) Q) : mm_X 0 183 [vP 1, vP 2, vP 55, vI i] [] (hp L σ) Q := by
  refine r_aload_n c_0_183 rfl <| r_cV0 c_0_184 rfl (Nat.le_of_ble_eq_true rfl) <| ?_
  refine cc_read hC hS (fun σ1 a1 a2 a3 => ?_)
  have b1 := hM.keep a2
  refine r_aload_n c_0_187 rfl <| r_cV0 c_0_188 rfl (Nat.le_of_ble_eq_true rfl) <| ?_
  refine cm_read b1 hS (fun σ2 c1 c2 => ?_)
  refine r_icmp_eq c_0_191 (fun h191 => ?_) <| (fun h191 => ?_)
  · exact kk σ2 _ _ _ _ _ _ _ _ (a1.keep c2) c1 ⟨hS.1, hS.2.1, readW_pts hS.2.1 hS.2.2.1, hS.2.2.2⟩ ((c2 1 (by decide)).trans a3)
  · exact absurd rfl h191
theorem lw_c_point (hL : L ≤ 320) (hi : i + 5 ≤ L) (hC : CI σ T t w o f l p n) (hM : MI σ T t w o f l p n) (hS : SI T t w o) (hR : RI (σ 1)) (kk : LK L i (σ 1) Q) : mm_X 0 196 [vP 1, vP 2, vP 55, vI i] [] (hp L σ) Q := by
  refine r_aload_n c_0_196 rfl <| r_aload_n c_0_197 rfl <| r_iload_n c_0_198 rfl <| r_iconst c_0_199 <| r_iadd c_0_200 (by omega) <| r_iald c_0_201 rfl (Or.inr rfl) (jn := i + 1) (by omega) (by omega) <| r_cV1 c_0_202 rfl (Nat.le_of_ble_eq_true rfl) <| ?_
  refine cc_point hC hS _ (fun σ1 a1 a2 a3 => ?_)
  have b1 := hM.keep a2
  refine r_aload_n c_0_205 rfl <| r_aload_n c_0_206 rfl <| r_iload_n c_0_207 rfl <| r_iconst c_0_208 <| r_iadd c_0_209 (by omega) <| r_iald c_0_210 rfl (Or.inr rfl) (jn := i + 1) (by omega) (by omega) <| r_cV1 c_0_211 rfl (Nat.le_of_ble_eq_true rfl) <| ?_
  rw [a3]
  refine cm_point b1 hS _ (fun σ2 c1 c2 => ?_)
  refine r_icmp_eq c_0_214 (fun h214 => ?_) <| (fun h214 => ?_)
  · exact kk σ2 _ _ _ _ _ _ _ _ (a1.keep c2) c1 hS ((c2 1 (by decide)).trans a3)
  · exact absurd rfl h214
theorem lw_c_add (hL : L ≤ 320) (hi : i + 5 ≤ L) (hC : CI σ T t w o f l p n) (hM : MI σ T t w o f l p n) (hS : SI T t w o) (hR : RI (σ 1)) (kk : LK L i (σ 1) Q) : mm_X 0 219 [vP 1, vP 2, vP 55, vI i] [] (hp L σ) Q := by
  refine r_aload_n c_0_219 rfl <| r_aload_n c_0_220 rfl <| r_iload_n c_0_221 rfl <| r_iconst c_0_222 <| r_iadd c_0_223 (by omega) <| r_iald c_0_224 rfl (Or.inr rfl) (jn := i + 1) (by omega) (by omega) <| r_cV1 c_0_225 rfl (Nat.le_of_ble_eq_true rfl) <| ?_
  refine cc_add hC hS _ (fun σ1 a1 a2 a3 => ?_)
  have b1 := hM.keep a2
  refine r_aload_n c_0_228 rfl <| r_aload_n c_0_229 rfl <| r_iload_n c_0_230 rfl <| r_iconst c_0_231 <| r_iadd c_0_232 (by omega) <| r_iald c_0_233 rfl (Or.inr rfl) (jn := i + 1) (by omega) (by omega) <| r_cV1 c_0_234 rfl (Nat.le_of_ble_eq_true rfl) <| ?_
  rw [a3]
  refine cm_add b1 hS _ (fun σ2 c1 c2 => ?_)
  refine r_icmp_eq c_0_237 (fun h237 => ?_) <| (fun h237 => ?_)
  · exact kk σ2 _ _ _ _ _ _ _ _ (a1.keep c2) c1 ⟨hS.1, hS.2.1, addW_pts hS.2.2.1 _, hS.2.2.2⟩ ((c2 1 (by decide)).trans a3)
  · exact absurd rfl h237
theorem lw_c_status (hL : L ≤ 320) (hi : i + 5 ≤ L) (hC : CI σ T t w o f l p n) (hM : MI σ T t w o f l p n) (hS : SI T t w o) (hR : RI (σ 1)) (kk : LK L i (σ 1) Q) : mm_X 0 242 [vP 1, vP 2, vP 55, vI i] [] (hp L σ) Q := by
  refine r_aload_n c_0_242 rfl <| r_aload_n c_0_243 rfl <| r_iload_n c_0_244 rfl <| r_iconst c_0_245 <| r_iadd c_0_246 (by omega) <| r_iald c_0_247 rfl (Or.inr rfl) (jn := i + 1) (by omega) (by omega) <| r_aload_n c_0_248 rfl <| r_iload_n c_0_249 rfl <| r_iconst c_0_250 <| r_iadd c_0_251 (by omega) <| ?_
  refine r_iald c_0_252 rfl (Or.inr rfl) (jn := i + 2) (by omega) (by omega) <| r_aload_n c_0_253 rfl <| r_iload_n c_0_254 rfl <| r_iconst c_0_255 <| r_iadd c_0_256 (by omega) <| r_iald c_0_257 rfl (Or.inr rfl) (jn := i + 3) (by omega) (by omega) <| r_cV3 c_0_258 rfl (Nat.le_of_ble_eq_true rfl) <| ?_
  refine cc_status hC hS _ _ _ (fun σ1 a1 a2 a3 => ?_)
  have b1 := hM.keep a2
  refine r_aload_n c_0_261 rfl <| r_aload_n c_0_262 rfl <| r_iload_n c_0_263 rfl <| r_iconst c_0_264 <| r_iadd c_0_265 (by omega) <| r_iald c_0_266 rfl (Or.inr rfl) (jn := i + 1) (by omega) (by omega) <| r_aload_n c_0_267 rfl <| r_iload_n c_0_268 rfl <| r_iconst c_0_269 <| r_iadd c_0_270 (by omega) <| ?_
  refine r_iald c_0_271 rfl (Or.inr rfl) (jn := i + 2) (by omega) (by omega) <| r_aload_n c_0_272 rfl <| r_iload_n c_0_273 rfl <| r_iconst c_0_274 <| r_iadd c_0_275 (by omega) <| r_iald c_0_276 rfl (Or.inr rfl) (jn := i + 3) (by omega) (by omega) <| r_cV3 c_0_277 rfl (Nat.le_of_ble_eq_true rfl) <| ?_
  rw [a3]
  refine cm_status b1 hS _ _ _ (fun σ2 c1 c2 => ?_)
  refine r_icmp_eq c_0_280 (fun h280 => ?_) <| (fun h280 => ?_)
  · exact kk σ2 _ _ _ _ _ _ _ _ (a1.keep c2) c1 ⟨tok_stat hS.1 _ _ _, hS.2⟩ ((c2 1 (by decide)).trans a3)
  · exact absurd rfl h280
theorem lw_c_map (hL : L ≤ 320) (hi : i + 5 ≤ L) (hC : CI σ T t w o f l p n) (hM : MI σ T t w o f l p n) (hS : SI T t w o) (hR : RI (σ 1)) (kk : LK L i (σ 1) Q) : mm_X 0 285 [vP 1, vP 2, vP 55, vI i] [] (hp L σ) Q := by
  refine r_aload_n c_0_285 rfl <| r_aload_n c_0_286 rfl <| r_iload_n c_0_287 rfl <| r_iconst c_0_288 <| r_iadd c_0_289 (by omega) <| r_iald c_0_290 rfl (Or.inr rfl) (jn := i + 1) (by omega) (by omega) <| r_cV1 c_0_291 rfl (Nat.le_of_ble_eq_true rfl) <| ?_
  refine cc_map hC hS _ (fun σ1 a1 a2 a3 => ?_)
  have b1 := hM.keep a2
  refine r_aload_n c_0_294 rfl <| r_aload_n c_0_295 rfl <| r_iload_n c_0_296 rfl <| r_iconst c_0_297 <| r_iadd c_0_298 (by omega) <| r_iald c_0_299 rfl (Or.inr rfl) (jn := i + 1) (by omega) (by omega) <| r_cV1 c_0_300 rfl (Nat.le_of_ble_eq_true rfl) <| ?_
  rw [a3]
  refine cm_map b1 hS _ (fun σ2 c1 c2 => ?_)
  refine r_icmp_eq c_0_303 (fun h303 => ?_) <| (fun h303 => ?_)
  · exact kk σ2 _ _ _ _ _ _ _ _ (a1.keep c2) c1 ⟨tok_map hS.1 _ hS.2.2.1, hS.2⟩ ((c2 1 (by decide)).trans a3)
  · exact absurd rfl h303
theorem lw_c_parts (hL : L ≤ 320) (hi : i + 5 ≤ L) (hC : CI σ T t w o f l p n) (hM : MI σ T t w o f l p n) (hS : SI T t w o) (hR : RI (σ 1)) (kk : LK L i (σ 1) Q) : mm_X 0 308 [vP 1, vP 2, vP 55, vI i] [] (hp L σ) Q := by
  refine r_aload_n c_0_308 rfl <| r_aload_n c_0_309 rfl <| r_iload_n c_0_310 rfl <| r_iconst c_0_311 <| r_iadd c_0_312 (by omega) <| r_iald c_0_313 rfl (Or.inr rfl) (jn := i + 1) (by omega) (by omega) <| r_aload_n c_0_314 rfl <| r_iload_n c_0_315 rfl <| r_iconst c_0_316 <| r_iadd c_0_317 (by omega) <| ?_
  refine r_iald c_0_318 rfl (Or.inr rfl) (jn := i + 2) (by omega) (by omega) <| r_aload_n c_0_319 rfl <| r_iload_n c_0_320 rfl <| r_iconst c_0_321 <| r_iadd c_0_322 (by omega) <| r_iald c_0_323 rfl (Or.inr rfl) (jn := i + 3) (by omega) (by omega) <| r_aload_n c_0_324 rfl <| r_iload_n c_0_325 rfl <| r_iconst c_0_326 <| r_iadd c_0_327 (by omega) <| ?_
  refine r_iald c_0_328 rfl (Or.inr rfl) (jn := i + 4) (by omega) (by omega) <| ?_
  refine lw_b329 ?_
  refine r_cV4 c_0_337 rfl (Nat.le_of_ble_eq_true rfl) <| ?_
  refine cc_parts hC hS _ _ _ _ (lw_b01 _) (fun σ1 a1 a2 a3 => ?_)
  have b1 := hM.keep a2
  refine r_aload_n c_0_340 rfl <| r_aload_n c_0_341 rfl <| r_iload_n c_0_342 rfl <| r_iconst c_0_343 <| r_iadd c_0_344 (by omega) <| r_iald c_0_345 rfl (Or.inr rfl) (jn := i + 1) (by omega) (by omega) <| r_aload_n c_0_346 rfl <| r_iload_n c_0_347 rfl <| r_iconst c_0_348 <| r_iadd c_0_349 (by omega) <| ?_
  refine r_iald c_0_350 rfl (Or.inr rfl) (jn := i + 2) (by omega) (by omega) <| r_aload_n c_0_351 rfl <| r_iload_n c_0_352 rfl <| r_iconst c_0_353 <| r_iadd c_0_354 (by omega) <| r_iald c_0_355 rfl (Or.inr rfl) (jn := i + 3) (by omega) (by omega) <| r_aload_n c_0_356 rfl <| r_iload_n c_0_357 rfl <| r_iconst c_0_358 <| r_iadd c_0_359 (by omega) <| ?_
  refine r_iald c_0_360 rfl (Or.inr rfl) (jn := i + 4) (by omega) (by omega) <| ?_
  refine lw_b361 ?_
  refine r_cV4 c_0_369 rfl (Nat.le_of_ble_eq_true rfl) <| ?_
  rw [a3]
  refine cm_parts b1 hS _ _ _ _ (lw_b01 _) (fun σ2 c1 c2 => ?_)
  refine r_icmp_eq c_0_372 (fun h372 => ?_) <| (fun h372 => ?_)
  · exact kk σ2 _ _ _ _ _ _ _ _ (a1.keep c2) c1 ⟨tok_part hS.1 _ _ _ _ (lw_b01 _), hS.2⟩ ((c2 1 (by decide)).trans a3)
  · exact absurd rfl h372
theorem lw_c_rank (hL : L ≤ 320) (hi : i + 5 ≤ L) (hC : CI σ T t w o f l p n) (hM : MI σ T t w o f l p n) (hS : SI T t w o) (hR : RI (σ 1)) (kk : LK L i (σ 1) Q) : mm_X 0 377 [vP 1, vP 2, vP 55, vI i] [] (hp L σ) Q := by
  refine r_aload_n c_0_377 rfl <| r_aload_n c_0_378 rfl <| r_iload_n c_0_379 rfl <| r_iconst c_0_380 <| r_iadd c_0_381 (by omega) <| r_iald c_0_382 rfl (Or.inr rfl) (jn := i + 1) (by omega) (by omega) <| r_aload_n c_0_383 rfl <| r_iload_n c_0_384 rfl <| r_iconst c_0_385 <| r_iadd c_0_386 (by omega) <| ?_
  refine r_iald c_0_387 rfl (Or.inr rfl) (jn := i + 2) (by omega) (by omega) <| r_cV2 c_0_388 rfl (Nat.le_of_ble_eq_true rfl) <| ?_
  refine cc_rank hC hS _ _ (fun σ1 a1 a2 a3 => ?_)
  have b1 := hM.keep a2
  refine r_aload_n c_0_391 rfl <| r_aload_n c_0_392 rfl <| r_iload_n c_0_393 rfl <| r_iconst c_0_394 <| r_iadd c_0_395 (by omega) <| r_iald c_0_396 rfl (Or.inr rfl) (jn := i + 1) (by omega) (by omega) <| r_aload_n c_0_397 rfl <| r_iload_n c_0_398 rfl <| r_iconst c_0_399 <| r_iadd c_0_400 (by omega) <| ?_
  refine r_iald c_0_401 rfl (Or.inr rfl) (jn := i + 2) (by omega) (by omega) <| r_cV2 c_0_402 rfl (Nat.le_of_ble_eq_true rfl) <| ?_
  rw [a3]
  refine cm_rank b1 hS _ _ (fun σ2 c1 c2 => ?_)
  refine r_icmp_eq c_0_405 (fun h405 => ?_) <| (fun h405 => ?_)
  · exact kk σ2 _ _ _ _ _ _ _ _ (a1.keep c2) c1 ⟨tok_rank hS.1 _ _, hS.2⟩ ((c2 1 (by decide)).trans a3)
  · exact absurd rfl h405
theorem lw_c_range (hL : L ≤ 320) (hi : i + 5 ≤ L) (hC : CI σ T t w o f l p n) (hM : MI σ T t w o f l p n) (hS : SI T t w o) (hR : RI (σ 1)) (kk : LK L i (σ 1) Q) : mm_X 0 410 [vP 1, vP 2, vP 55, vI i] [] (hp L σ) Q := by
  refine r_aload_n c_0_410 rfl <| r_aload_n c_0_411 rfl <| r_iload_n c_0_412 rfl <| r_iconst c_0_413 <| r_iadd c_0_414 (by omega) <| r_iald c_0_415 rfl (Or.inr rfl) (jn := i + 1) (by omega) (by omega) <| r_aload_n c_0_416 rfl <| r_iload_n c_0_417 rfl <| r_iconst c_0_418 <| r_iadd c_0_419 (by omega) <| ?_
  refine r_iald c_0_420 rfl (Or.inr rfl) (jn := i + 2) (by omega) (by omega) <| r_aload_n c_0_421 rfl <| r_iload_n c_0_422 rfl <| r_iconst c_0_423 <| r_iadd c_0_424 (by omega) <| r_iald c_0_425 rfl (Or.inr rfl) (jn := i + 3) (by omega) (by omega) <| r_aload_n c_0_426 rfl <| r_iload_n c_0_427 rfl <| r_iconst c_0_428 <| r_iadd c_0_429 (by omega) <| ?_
  refine r_iald c_0_430 rfl (Or.inr rfl) (jn := i + 4) (by omega) (by omega) <| r_cV4 c_0_431 rfl (Nat.le_of_ble_eq_true rfl) <| ?_
  refine cc_range hC hS _ _ _ _ (fun σ1 a1 a2 a3 => ?_)
  have b1 := hM.keep a2
  refine r_aload_n c_0_434 rfl <| r_aload_n c_0_435 rfl <| r_iload_n c_0_436 rfl <| r_iconst c_0_437 <| r_iadd c_0_438 (by omega) <| r_iald c_0_439 rfl (Or.inr rfl) (jn := i + 1) (by omega) (by omega) <| r_aload_n c_0_440 rfl <| r_iload_n c_0_441 rfl <| r_iconst c_0_442 <| r_iadd c_0_443 (by omega) <| ?_
  refine r_iald c_0_444 rfl (Or.inr rfl) (jn := i + 2) (by omega) (by omega) <| r_aload_n c_0_445 rfl <| r_iload_n c_0_446 rfl <| r_iconst c_0_447 <| r_iadd c_0_448 (by omega) <| r_iald c_0_449 rfl (Or.inr rfl) (jn := i + 3) (by omega) (by omega) <| r_aload_n c_0_450 rfl <| r_iload_n c_0_451 rfl <| r_iconst c_0_452 <| r_iadd c_0_453 (by omega) <| ?_
  refine r_iald c_0_454 rfl (Or.inr rfl) (jn := i + 4) (by omega) (by omega) <| r_cV4 c_0_455 rfl (Nat.le_of_ble_eq_true rfl) <| ?_
  rw [a3]
  refine cm_range b1 hS _ _ _ _ (fun σ2 c1 c2 => ?_)
  refine r_icmp_eq c_0_458 (fun h458 => ?_) <| (fun h458 => ?_)
  · exact kk σ2 _ _ _ _ _ _ _ _ (a1.keep c2) c1 ⟨tok_rang hS.1 _ _ _ _, hS.2⟩ ((c2 1 (by decide)).trans a3)
  · exact absurd rfl h458
theorem lw_c_about (hL : L ≤ 320) (hi : i + 5 ≤ L) (hC : CI σ T t w o f l p n) (hM : MI σ T t w o f l p n) (hS : SI T t w o) (hR : RI (σ 1)) (kk : LK L i (σ 1) Q) : mm_X 0 463 [vP 1, vP 2, vP 55, vI i] [] (hp L σ) Q := by
  refine r_aload_n c_0_463 rfl <| r_aload_n c_0_464 rfl <| r_iload_n c_0_465 rfl <| r_iconst c_0_466 <| r_iadd c_0_467 (by omega) <| r_iald c_0_468 rfl (Or.inr rfl) (jn := i + 1) (by omega) (by omega) <| r_aload_n c_0_469 rfl <| r_iload_n c_0_470 rfl <| r_iconst c_0_471 <| r_iadd c_0_472 (by omega) <| ?_
  refine r_iald c_0_473 rfl (Or.inr rfl) (jn := i + 2) (by omega) (by omega) <| r_cV2 c_0_474 rfl (Nat.le_of_ble_eq_true rfl) <| ?_
  refine cc_about hC hS _ _ (fun σ1 a1 a2 a3 => ?_)
  have b1 := hM.keep a2
  refine r_aload_n c_0_477 rfl <| r_aload_n c_0_478 rfl <| r_iload_n c_0_479 rfl <| r_iconst c_0_480 <| r_iadd c_0_481 (by omega) <| r_iald c_0_482 rfl (Or.inr rfl) (jn := i + 1) (by omega) (by omega) <| r_aload_n c_0_483 rfl <| r_iload_n c_0_484 rfl <| r_iconst c_0_485 <| r_iadd c_0_486 (by omega) <| ?_
  refine r_iald c_0_487 rfl (Or.inr rfl) (jn := i + 2) (by omega) (by omega) <| r_cV2 c_0_488 rfl (Nat.le_of_ble_eq_true rfl) <| ?_
  rw [a3]
  refine cm_about b1 hS _ _ (fun σ2 c1 c2 => ?_)
  refine r_icmp_eq c_0_491 (fun h491 => ?_) <| (fun h491 => ?_)
  · exact kk σ2 _ _ _ _ _ _ _ _ (a1.keep c2) c1 hS ((c2 1 (by decide)).trans a3)
  · exact absurd rfl h491
theorem lw_c_form (hL : L ≤ 320) (hi : i + 5 ≤ L) (hC : CI σ T t w o f l p n) (hM : MI σ T t w o f l p n) (hS : SI T t w o) (hR : RI (σ 1)) (kk : LK L i (σ 1) Q) : mm_X 0 496 [vP 1, vP 2, vP 55, vI i] [] (hp L σ) Q := by
  refine r_aload_n c_0_496 rfl <| r_aload_n c_0_497 rfl <| r_iload_n c_0_498 rfl <| r_iconst c_0_499 <| r_iadd c_0_500 (by omega) <| r_iald c_0_501 rfl (Or.inr rfl) (jn := i + 1) (by omega) (by omega) <| r_cV1 c_0_502 rfl (Nat.le_of_ble_eq_true rfl) <| ?_
  refine cc_form hC hS _ (fun σ1 a1 a2 a3 => ?_)
  have b1 := hM.keep a2
  refine r_aload_n c_0_505 rfl <| r_aload_n c_0_506 rfl <| r_iload_n c_0_507 rfl <| r_iconst c_0_508 <| r_iadd c_0_509 (by omega) <| r_iald c_0_510 rfl (Or.inr rfl) (jn := i + 1) (by omega) (by omega) <| r_cV1 c_0_511 rfl (Nat.le_of_ble_eq_true rfl) <| ?_
  rw [a3]
  refine cm_form b1 hS _ (fun σ2 c1 c2 => ?_)
  refine r_icmp_eq c_0_514 (fun h514 => ?_) <| (fun h514 => ?_)
  · exact kk σ2 _ _ _ _ _ _ _ _ (a1.keep c2) c1 ⟨hS.1, hS.2.1, formW_pts hS.1 hS.2.2.1 _, hS.2.2.2⟩ ((c2 1 (by decide)).trans a3)
  · exact absurd rfl h514
theorem lw_c_inForm (hL : L ≤ 320) (hi : i + 5 ≤ L) (hC : CI σ T t w o f l p n) (hM : MI σ T t w o f l p n) (hS : SI T t w o) (hR : RI (σ 1)) (kk : LK L i (σ 1) Q) : mm_X 0 519 [vP 1, vP 2, vP 55, vI i] [] (hp L σ) Q := by
  refine r_aload_n c_0_519 rfl <| r_cV0 c_0_520 rfl (Nat.le_of_ble_eq_true rfl) <| ?_
  refine cc_inForm hC hS (fun σ1 a1 a2 a3 => ?_)
  have b1 := hM.keep a2
  refine r_aload_n c_0_523 rfl <| r_cV0 c_0_524 rfl (Nat.le_of_ble_eq_true rfl) <| ?_
  refine cm_inForm b1 hS (fun σ2 c1 c2 => ?_)
  refine r_icmp_eq c_0_527 (fun h527 => ?_) <| (fun h527 => ?_)
  · exact kk σ2 _ _ _ _ _ _ _ _ (a1.keep c2) c1 hS ((c2 1 (by decide)).trans a3)
  · exact absurd rfl h527
theorem lw_c_alike (hL : L ≤ 320) (hi : i + 5 ≤ L) (hC : CI σ T t w o f l p n) (hM : MI σ T t w o f l p n) (hS : SI T t w o) (hR : RI (σ 1)) (kk : LK L i (σ 1) Q) : mm_X 0 532 [vP 1, vP 2, vP 55, vI i] [] (hp L σ) Q := by
  refine r_aload_n c_0_532 rfl <| r_cV0 c_0_533 rfl (Nat.le_of_ble_eq_true rfl) <| ?_
  refine cc_alike hC hS (fun σ1 a1 a2 a3 => ?_)
  have b1 := hM.keep a2
  refine r_aload_n c_0_536 rfl <| r_cV0 c_0_537 rfl (Nat.le_of_ble_eq_true rfl) <| ?_
  refine cm_alike b1 hS (fun σ2 c1 c2 => ?_)
  refine r_icmp_eq c_0_540 (fun h540 => ?_) <| (fun h540 => ?_)
  · exact kk σ2 _ _ _ _ _ _ _ _ (a1.keep c2) c1 hS ((c2 1 (by decide)).trans a3)
  · exact absurd rfl h540
theorem lw_c_encode (hL : L ≤ 320) (hi : i + 5 ≤ L) (hC : CI σ T t w o f l p n) (hM : MI σ T t w o f l p n) (hS : SI T t w o) (hR : RI (σ 1)) (kk : LK L i (σ 1) Q) : mm_X 0 545 [vP 1, vP 2, vP 55, vI i] [] (hp L σ) Q := by
  refine r_aload_n c_0_545 rfl <| r_cV0 c_0_546 rfl (Nat.le_of_ble_eq_true rfl) <| ?_
  refine cc_encode hC hS (fun σ1 a1 a2 a3 => ?_)
  have b1 := hM.keep a2
  refine r_aload_n c_0_549 rfl <| r_cV0 c_0_550 rfl (Nat.le_of_ble_eq_true rfl) <| ?_
  refine cm_encode b1 hS (fun σ2 c1 c2 => ?_)
  refine r_icmp_eq c_0_553 (fun h553 => ?_) <| (fun h553 => ?_)
  · exact kk σ2 _ _ _ _ _ _ _ _ (a1.keep c2) c1 ⟨hS.1, hS.2.1, encW_pts hC.wl hS.2.2.1, hS.2.2.2⟩ ((c2 1 (by decide)).trans a3)
  · exact absurd rfl h553
theorem lw_c_decode (hL : L ≤ 320) (hi : i + 5 ≤ L) (hC : CI σ T t w o f l p n) (hM : MI σ T t w o f l p n) (hS : SI T t w o) (hR : RI (σ 1)) (kk : LK L i (σ 1) Q) : mm_X 0 558 [vP 1, vP 2, vP 55, vI i] [] (hp L σ) Q := by
  refine r_aload_n c_0_558 rfl <| r_cV0 c_0_559 rfl (Nat.le_of_ble_eq_true rfl) <| ?_
  refine cc_decode hC hS (fun σ1 a1 a2 a3 => ?_)
  have b1 := hM.keep a2
  refine r_aload_n c_0_562 rfl <| r_cV0 c_0_563 rfl (Nat.le_of_ble_eq_true rfl) <| ?_
  refine cm_decode b1 hS (fun σ2 c1 c2 => ?_)
  refine r_icmp_eq c_0_566 (fun h566 => ?_) <| (fun h566 => ?_)
  · exact kk σ2 _ _ _ _ _ _ _ _ (a1.keep c2) c1 ⟨hS.1, hS.2.1, deW_pts hC.wl hS.2.2.1, hS.2.2.2⟩ ((c2 1 (by decide)).trans a3)
  · exact absurd rfl h566
theorem lw_c_make (hL : L ≤ 320) (hi : i + 5 ≤ L) (hC : CI σ T t w o f l p n) (hM : MI σ T t w o f l p n) (hS : SI T t w o) (hR : RI (σ 1)) (kk : LK L i (σ 1) Q) : mm_X 0 571 [vP 1, vP 2, vP 55, vI i] [] (hp L σ) Q := by
  refine r_aload_n c_0_571 rfl <| r_aload_n c_0_572 rfl <| r_iload_n c_0_573 rfl <| r_iconst c_0_574 <| r_iadd c_0_575 (by omega) <| r_iald c_0_576 rfl (Or.inr rfl) (jn := i + 1) (by omega) (by omega) <| ?_
  refine lw_b577 ?_
  refine r_cV1 c_0_585 rfl (Nat.le_of_ble_eq_true rfl) <| ?_
  refine cc_make hC hS _ (fun σ1 a1 a2 a3 => ?_)
  have b1 := hM.keep a2
  refine r_aload_n c_0_588 rfl <| r_aload_n c_0_589 rfl <| r_iload_n c_0_590 rfl <| r_iconst c_0_591 <| r_iadd c_0_592 (by omega) <| r_iald c_0_593 rfl (Or.inr rfl) (jn := i + 1) (by omega) (by omega) <| ?_
  refine lw_b594 ?_
  refine r_cV1 c_0_602 rfl (Nat.le_of_ble_eq_true rfl) <| ?_
  rw [a3]
  refine cm_make b1 hS _ (fun σ2 c1 c2 => ?_)
  refine r_icmp_eq c_0_605 (fun h605 => ?_) <| (fun h605 => ?_)
  · exact kk σ2 _ _ _ _ _ _ _ _ (a1.keep c2) c1 ⟨hS.1, hS.2.1, hS.2.2.1, mkG_oct hS⟩ ((c2 1 (by decide)).trans a3)
  · exact absurd rfl h605
theorem lw_c_fault (hL : L ≤ 320) (hi : i + 5 ≤ L) (hC : CI σ T t w o f l p n) (hM : MI σ T t w o f l p n) (hS : SI T t w o) (hR : RI (σ 1)) (kk : LK L i (σ 1) Q) : mm_X 0 610 [vP 1, vP 2, vP 55, vI i] [] (hp L σ) Q := by
  refine r_aload_n c_0_610 rfl <| r_aload_n c_0_611 rfl <| r_iload_n c_0_612 rfl <| r_iconst c_0_613 <| r_iadd c_0_614 (by omega) <| r_iald c_0_615 rfl (Or.inr rfl) (jn := i + 1) (by omega) (by omega) <| r_cV1 c_0_616 rfl (Nat.le_of_ble_eq_true rfl) <| ?_
  refine cc_fault hC _ ?_
  refine r_aload_n c_0_619 rfl <| r_aload_n c_0_620 rfl <| r_iload_n c_0_621 rfl <| r_iconst c_0_622 <| r_iadd c_0_623 (by omega) <| r_iald c_0_624 rfl (Or.inr rfl) (jn := i + 1) (by omega) (by omega) <| r_cV1 c_0_625 rfl (Nat.le_of_ble_eq_true rfl) <| ?_
  refine cm_fault hM _ (fun σ2 c1 c2 => ?_)
  refine r_icmp_eq c_0_628 (fun h628 => ?_) <| (fun h628 => ?_)
  · exact kk σ2 _ _ _ _ _ _ _ _ (hC.keep c2) c1 hS (c2 1 (by decide))
  · exact absurd rfl h628
theorem lw_c_octet (hL : L ≤ 320) (hi : i + 5 ≤ L) (hC : CI σ T t w o f l p n) (hM : MI σ T t w o f l p n) (hS : SI T t w o) (hR : RI (σ 1)) (kk : LK L i (σ 1) Q) : mm_X 0 633 [vP 1, vP 2, vP 55, vI i] [] (hp L σ) Q := by
  refine r_aload_n c_0_633 rfl <| r_aload_n c_0_634 rfl <| r_iload_n c_0_635 rfl <| r_iconst c_0_636 <| r_iadd c_0_637 (by omega) <| r_iald c_0_638 rfl (Or.inr rfl) (jn := i + 1) (by omega) (by omega) <| r_cV1 c_0_639 rfl (Nat.le_of_ble_eq_true rfl) <| ?_
  refine cc_octet hC _ ?_
  refine r_aload_n c_0_642 rfl <| r_aload_n c_0_643 rfl <| r_iload_n c_0_644 rfl <| r_iconst c_0_645 <| r_iadd c_0_646 (by omega) <| r_iald c_0_647 rfl (Or.inr rfl) (jn := i + 1) (by omega) (by omega) <| r_cV1 c_0_648 rfl (Nat.le_of_ble_eq_true rfl) <| ?_
  refine cm_octet hM hS _ (fun σ2 c1 c2 => ?_)
  refine r_icmp_eq c_0_651 (fun h651 => ?_) <| (fun h651 => ?_)
  · exact kk σ2 _ _ _ _ _ _ _ _ (hC.keep c2) c1 hS (c2 1 (by decide))
  · exact absurd rfl h651
theorem lw_loop (hL : L ≤ 320) : ∀ (k i : Nat) (σ T : mk_S) (t w o : List Int) (f l p n : Int), L < i + 5 * k + 5 → i ≤ L → CI σ T t w o f l p n → MI σ T t w o f l p n → SI T t w o → RI (σ 1) → (∀ σ', Q (some (vI 1)) (hp L σ')) → mm_X 0 18 [vP 1, vP 2, vP 55, vI (i : Nat)] [] (hp L σ) Q := by
  intro k
  induction k with
  | zero =>
    intro i σ T t w o f l p n hk hle hC hM hS hR kq
    refine r_iload_n c_0_18 rfl <| r_aload_n c_0_19 rfl <| r_alen c_0_20 rfl (by decide) (by omega) <| r_iconst c_0_21 <| r_isub c_0_22 (by omega) <| r_icmp_gt c_0_23 (fun h23 => ?_) <| (fun h23 => ?_)
    · refine r_iconst c_0_662 <| r_zret c_0_663 (Or.inr rfl) <| ?_
      exact kq _
    · exact absurd (show False by omega) (by decide)
  | succ k ih =>
    intro i σ T t w o f l p n hk hle hC hM hS hR kq
    refine r_iload_n c_0_18 rfl <| r_aload_n c_0_19 rfl <| r_alen c_0_20 rfl (by decide) (by omega) <| r_iconst c_0_21 <| r_isub c_0_22 (by omega) <| r_icmp_gt c_0_23 (fun h23 => ?_) <| (fun h23 => ?_)
    · refine r_iconst c_0_662 <| r_zret c_0_663 (Or.inr rfl) <| ?_
      exact kq _
    · have hi : i + 5 ≤ L := by omega
      have kk : LK L i (σ 1) Q := by
        intro σ' T' t' w' o' f' l' p' n' g1 g2 g3 g4
        refine r_iinc_4_3 c_0_656 rfl (by omega) <| r_goto c_0_659 <| ?_
        exact ih (i + 5) σ' T' t' w' o' f' l' p' n' (by omega) hi g1 g2 g3 (by rw [g4]; exact hR) kq
      have hj := hi
      refine r_aload_n c_0_26 rfl <| r_iload_n c_0_27 rfl <| r_iald c_0_28 rfl (Or.inr rfl) (jn := i) rfl (by omega) <| r_bipush c_0_29 <| r_iand c_0_31 rfl <| r_tsw c_0_32 (by decide) (fun h32 => ?_) <| (fun i32 o32 ho32 h32 => ?_)
      · exact kk σ T t w o f l p n hC hM hS rfl
      · match i32, ho32, h32 with
        | 0, ho32, h32 =>
          obtain rfl : 88 = o32 := Option.some.inj ho32
          exact lw_c_feed hL hi hC hM hS hR kk
        | 1, ho32, h32 =>
          obtain rfl : 151 = o32 := Option.some.inj ho32
          exact lw_c_read hL hi hC hM hS hR kk
        | 2, ho32, h32 =>
          obtain rfl : 164 = o32 := Option.some.inj ho32
          exact lw_c_point hL hi hC hM hS hR kk
        | 3, ho32, h32 =>
          obtain rfl : 187 = o32 := Option.some.inj ho32
          exact lw_c_add hL hi hC hM hS hR kk
        | 4, ho32, h32 =>
          obtain rfl : 210 = o32 := Option.some.inj ho32
          exact lw_c_status hL hi hC hM hS hR kk
        | 5, ho32, h32 =>
          obtain rfl : 253 = o32 := Option.some.inj ho32
          exact lw_c_map hL hi hC hM hS hR kk
        | 6, ho32, h32 =>
          obtain rfl : 276 = o32 := Option.some.inj ho32
          exact lw_c_parts hL hi hC hM hS hR kk
        | 7, ho32, h32 =>
          obtain rfl : 345 = o32 := Option.some.inj ho32
          exact lw_c_rank hL hi hC hM hS hR kk
        | 8, ho32, h32 =>
          obtain rfl : 378 = o32 := Option.some.inj ho32
          exact lw_c_range hL hi hC hM hS hR kk
        | 9, ho32, h32 =>
          obtain rfl : 431 = o32 := Option.some.inj ho32
          exact lw_c_about hL hi hC hM hS hR kk
        | 10, ho32, h32 =>
          obtain rfl : 464 = o32 := Option.some.inj ho32
          exact lw_c_form hL hi hC hM hS hR kk
        | 11, ho32, h32 =>
          obtain rfl : 487 = o32 := Option.some.inj ho32
          exact lw_c_inForm hL hi hC hM hS hR kk
        | 12, ho32, h32 =>
          obtain rfl : 500 = o32 := Option.some.inj ho32
          exact lw_c_alike hL hi hC hM hS hR kk
        | 13, ho32, h32 =>
          obtain rfl : 513 = o32 := Option.some.inj ho32
          exact lw_c_encode hL hi hC hM hS hR kk
        | 14, ho32, h32 =>
          obtain rfl : 526 = o32 := Option.some.inj ho32
          exact lw_c_decode hL hi hC hM hS hR kk
        | 15, ho32, h32 =>
          obtain rfl : 539 = o32 := Option.some.inj ho32
          exact lw_c_make hL hi hC hM hS hR kk
        | 16, ho32, h32 =>
          obtain rfl : 578 = o32 := Option.some.inj ho32
          exact lw_c_fault hL hi hC hM hS hR kk
        | 17, ho32, h32 =>
          obtain rfl : 601 = o32 := Option.some.inj ho32
          exact lw_c_octet hL hi hC hM hS hR kk
        | _ + 18, ho32, h32 => exact absurd ho32 (by simp)
end LAW
