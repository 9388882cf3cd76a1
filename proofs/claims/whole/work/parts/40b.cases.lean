-- ===== 40b: one turn of the law's loop =====
/-- what holds between two turns -/
def Bth (σ : Sg) : Prop := ∃ T : TS, WF T ∧ KdOK T ∧ InvX T σ ∧ InvM T none σ
theorem law_0 {Γ : Gm} {N i : Nat} {xs : Nat → Int32} {T : TS} {σ : Sg} {u v : Option PV} (c : Cx Γ RL cL_law 10) (lg : LwG Γ N xs) (hN31 : N < 2 ^ 31) (hi : i + 5 ≤ N) (hW : WF T) (hKd : KdOK T) (hX : InvX T σ) (hM : InvM T none σ) (nx : ∀ σ' : Sg, Bth σ' → J Γ 1134 [some (.inr 68), some (.inr 0), some (.inr 50), some (.inr 67), some (.inl (nI i)), u, v] [] σ') : J Γ 148 [some (.inr 68), some (.inr 0), some (.inr 50), some (.inr 67), some (.inl (nI i)), u, v] [] σ := by
  refine j_aload_n c dL_law_148 rfl ?_
  refine j_aload_n c dL_law_149 rfl ?_
  refine j_iload c dL_law_150 rfl ?_
  refine j_iconst c (nI 1) dL_law_152 (by decide) ?_
  refine j_iadd c _ dL_law_153 (by first | exact nI_add _ _ | rfl) ?_
  refine j_sld c lg dL_law_154 (by omega) hN31 ?_
  refine j_aload_n c dL_law_155 rfl ?_
  refine j_iload c dL_law_156 rfl ?_
  refine j_iconst c (nI 2) dL_law_158 (by decide) ?_
  refine j_iadd c _ dL_law_159 (by first | exact nI_add _ _ | rfl) ?_
  refine j_sld c lg dL_law_160 (by omega) hN31 ?_
  refine j_aload_n c dL_law_161 rfl ?_
  refine j_iload c dL_law_162 rfl ?_
  refine j_iconst c (nI 3) dL_law_164 (by decide) ?_
  refine j_iadd c _ dL_law_165 (by first | exact nI_add _ _ | rfl) ?_
  refine j_sld c lg dL_law_166 (by omega) hN31 ?_
  refine j_callV c kw_L_23 (sp_kindX hX hW _ _ _) dL_law_167 rfl rfl (by decide) (Nat.le_of_ble_eq_true rfl) (Nat.le_of_ble_eq_true rfl) rfl rfl ?_
  rintro _ σ1 ⟨rfl, hX1, f1⟩
  have hM1 : InvM T none σ1 := hM.hi (fun q h1 _ => f1 q h1)
  refine j_aload_n c dL_law_170 rfl ?_
  refine j_aload_n c dL_law_171 rfl ?_
  refine j_iload c dL_law_172 rfl ?_
  refine j_iconst c (nI 1) dL_law_174 (by decide) ?_
  refine j_iadd c _ dL_law_175 (by first | exact nI_add _ _ | rfl) ?_
  refine j_sld c lg dL_law_176 (by omega) hN31 ?_
  refine j_aload_n c dL_law_177 rfl ?_
  refine j_iload c dL_law_178 rfl ?_
  refine j_iconst c (nI 2) dL_law_180 (by decide) ?_
  refine j_iadd c _ dL_law_181 (by first | exact nI_add _ _ | rfl) ?_
  refine j_sld c lg dL_law_182 (by omega) hN31 ?_
  refine j_aload_n c dL_law_183 rfl ?_
  refine j_iload c dL_law_184 rfl ?_
  refine j_iconst c (nI 3) dL_law_186 (by decide) ?_
  refine j_iadd c _ dL_law_187 (by first | exact nI_add _ _ | rfl) ?_
  refine j_sld c lg dL_law_188 (by omega) hN31 ?_
  refine j_callV c kw_L_26 (sp_kindM hM1 hW _ _ _) dL_law_189 rfl rfl (by decide) (Nat.le_of_ble_eq_true rfl) (Nat.le_of_ble_eq_true rfl) rfl rfl ?_
  rintro _ σ2 ⟨rfl, hM2, f2⟩
  refine j_icmp_eq c 1134 dL_law_192 (by decide) (fun _ => ?_) (fun h_9 => absurd (by rfl) h_9)
  exact nx σ2 ⟨_, (wf_tKind hW _ _ _), (kd_tKind hKd _ _ _), hX1.low ((wf_tKind hW _ _ _)).2.2.2.1 (fun q hq => f2 q (Or.inl (by omega))), hM2⟩
theorem law_1 {Γ : Gm} {N i : Nat} {xs : Nat → Int32} {T : TS} {σ : Sg} {u v : Option PV} (c : Cx Γ RL cL_law 10) (lg : LwG Γ N xs) (hN31 : N < 2 ^ 31) (hi : i + 5 ≤ N) (hW : WF T) (hKd : KdOK T) (hX : InvX T σ) (hM : InvM T none σ) (nx : ∀ σ' : Sg, Bth σ' → J Γ 1134 [some (.inr 68), some (.inr 0), some (.inr 50), some (.inr 67), some (.inl (nI i)), u, v] [] σ') : J Γ 197 [some (.inr 68), some (.inr 0), some (.inr 50), some (.inr 67), some (.inl (nI i)), u, v] [] σ := by
  refine j_aload_n c dL_law_197 rfl ?_
  refine j_aload_n c dL_law_198 rfl ?_
  refine j_iload c dL_law_199 rfl ?_
  refine j_iconst c (nI 1) dL_law_201 (by decide) ?_
  refine j_iadd c _ dL_law_202 (by first | exact nI_add _ _ | rfl) ?_
  refine j_sld c lg dL_law_203 (by omega) hN31 ?_
  refine j_aload_n c dL_law_204 rfl ?_
  refine j_iload c dL_law_205 rfl ?_
  refine j_iconst c (nI 2) dL_law_207 (by decide) ?_
  refine j_iadd c _ dL_law_208 (by first | exact nI_add _ _ | rfl) ?_
  refine j_sld c lg dL_law_209 (by omega) hN31 ?_
  refine j_callV c kw_L_27 ((sp_isX hX hW _ _).toX hX) dL_law_210 rfl rfl (by decide) (Nat.le_of_ble_eq_true rfl) (Nat.le_of_ble_eq_true rfl) rfl rfl ?_
  rintro _ σ1 ⟨rfl, hX1, f1⟩
  have hM1 : InvM T none σ1 := hM.hi (fun q h1 _ => f1 q h1)
  refine j_aload_n c dL_law_213 rfl ?_
  refine j_aload_n c dL_law_214 rfl ?_
  refine j_iload c dL_law_215 rfl ?_
  refine j_iconst c (nI 1) dL_law_217 (by decide) ?_
  refine j_iadd c _ dL_law_218 (by first | exact nI_add _ _ | rfl) ?_
  refine j_sld c lg dL_law_219 (by omega) hN31 ?_
  refine j_aload_n c dL_law_220 rfl ?_
  refine j_iload c dL_law_221 rfl ?_
  refine j_iconst c (nI 2) dL_law_223 (by decide) ?_
  refine j_iadd c _ dL_law_224 (by first | exact nI_add _ _ | rfl) ?_
  refine j_sld c lg dL_law_225 (by omega) hN31 ?_
  refine j_callV c kw_L_31 ((sp_isM hM1 hW _ _).toM hM1) dL_law_226 rfl rfl (by decide) (Nat.le_of_ble_eq_true rfl) (Nat.le_of_ble_eq_true rfl) rfl rfl ?_
  rintro _ σ2 ⟨rfl, hM2, f2⟩
  refine j_icmp_eq c 1134 dL_law_229 (by decide) (fun _ => ?_) (fun h_9 => absurd (by rfl) h_9)
  exact nx σ2 ⟨_, hW, hKd, hX1.low (hW).2.2.2.1 (fun q hq => f2 q (Or.inl (by omega))), hM2⟩
theorem law_2 {Γ : Gm} {N i : Nat} {xs : Nat → Int32} {T : TS} {σ : Sg} {u v : Option PV} (c : Cx Γ RL cL_law 10) (lg : LwG Γ N xs) (hN31 : N < 2 ^ 31) (hi : i + 5 ≤ N) (hW : WF T) (hKd : KdOK T) (hX : InvX T σ) (hM : InvM T none σ) (nx : ∀ σ' : Sg, Bth σ' → J Γ 1134 [some (.inr 68), some (.inr 0), some (.inr 50), some (.inr 67), some (.inl (nI i)), u, v] [] σ') : J Γ 234 [some (.inr 68), some (.inr 0), some (.inr 50), some (.inr 67), some (.inl (nI i)), u, v] [] σ := by
  refine j_aload_n c dL_law_234 rfl ?_
  refine j_aload_n c dL_law_235 rfl ?_
  refine j_iload c dL_law_236 rfl ?_
  refine j_iconst c (nI 1) dL_law_238 (by decide) ?_
  refine j_iadd c _ dL_law_239 (by first | exact nI_add _ _ | rfl) ?_
  refine j_sld c lg dL_law_240 (by omega) hN31 ?_
  refine j_aload_n c dL_law_241 rfl ?_
  refine j_iload c dL_law_242 rfl ?_
  refine j_iconst c (nI 2) dL_law_244 (by decide) ?_
  refine j_iadd c _ dL_law_245 (by first | exact nI_add _ _ | rfl) ?_
  refine j_sld c lg dL_law_246 (by omega) hN31 ?_
  refine j_callV c kw_L_32 ((sp_listX hX hW _ _).toX hX) dL_law_247 rfl rfl (by decide) (Nat.le_of_ble_eq_true rfl) (Nat.le_of_ble_eq_true rfl) rfl rfl ?_
  rintro _ σ1 ⟨rfl, hX1, f1⟩
  have hM1 : InvM T none σ1 := hM.hi (fun q h1 _ => f1 q h1)
  refine j_aload_n c dL_law_250 rfl ?_
  refine j_aload_n c dL_law_251 rfl ?_
  refine j_iload c dL_law_252 rfl ?_
  refine j_iconst c (nI 1) dL_law_254 (by decide) ?_
  refine j_iadd c _ dL_law_255 (by first | exact nI_add _ _ | rfl) ?_
  refine j_sld c lg dL_law_256 (by omega) hN31 ?_
  refine j_aload_n c dL_law_257 rfl ?_
  refine j_iload c dL_law_258 rfl ?_
  refine j_iconst c (nI 2) dL_law_260 (by decide) ?_
  refine j_iadd c _ dL_law_261 (by first | exact nI_add _ _ | rfl) ?_
  refine j_sld c lg dL_law_262 (by omega) hN31 ?_
  refine j_callV c kw_L_35 ((sp_listM hM1 hW _ _).toM hM1) dL_law_263 rfl rfl (by decide) (Nat.le_of_ble_eq_true rfl) (Nat.le_of_ble_eq_true rfl) rfl rfl ?_
  rintro _ σ2 ⟨rfl, hM2, f2⟩
  refine j_icmp_eq c 1134 dL_law_266 (by decide) (fun _ => ?_) (fun h_9 => absurd (by rfl) h_9)
  exact nx σ2 ⟨_, hW, hKd, hX1.low (hW).2.2.2.1 (fun q hq => f2 q (Or.inl (by omega))), hM2⟩
theorem law_3 {Γ : Gm} {N i : Nat} {xs : Nat → Int32} {T : TS} {σ : Sg} {u v : Option PV} (c : Cx Γ RL cL_law 10) (lg : LwG Γ N xs) (hN31 : N < 2 ^ 31) (hi : i + 5 ≤ N) (hW : WF T) (hKd : KdOK T) (hX : InvX T σ) (hM : InvM T none σ) (nx : ∀ σ' : Sg, Bth σ' → J Γ 1134 [some (.inr 68), some (.inr 0), some (.inr 50), some (.inr 67), some (.inl (nI i)), u, v] [] σ') : J Γ 271 [some (.inr 68), some (.inr 0), some (.inr 50), some (.inr 67), some (.inl (nI i)), u, v] [] σ := by
  refine j_aload_n c dL_law_271 rfl ?_
  refine j_aload_n c dL_law_272 rfl ?_
  refine j_iload c dL_law_273 rfl ?_
  refine j_iconst c (nI 1) dL_law_275 (by decide) ?_
  refine j_iadd c _ dL_law_276 (by first | exact nI_add _ _ | rfl) ?_
  refine j_sld c lg dL_law_277 (by omega) hN31 ?_
  refine j_aload_n c dL_law_278 rfl ?_
  refine j_iload c dL_law_279 rfl ?_
  refine j_iconst c (nI 2) dL_law_281 (by decide) ?_
  refine j_iadd c _ dL_law_282 (by first | exact nI_add _ _ | rfl) ?_
  refine j_sld c lg dL_law_283 (by omega) hN31 ?_
  refine j_aload_n c dL_law_284 rfl ?_
  refine j_iload c dL_law_285 rfl ?_
  refine j_iconst c (nI 3) dL_law_287 (by decide) ?_
  refine j_iadd c _ dL_law_288 (by first | exact nI_add _ _ | rfl) ?_
  refine j_sld c lg dL_law_289 (by omega) hN31 ?_
  refine j_callV c kw_L_36 ((sp_meetX hX hW _ _ _).toX hX) dL_law_290 rfl rfl (by decide) (Nat.le_of_ble_eq_true rfl) (Nat.le_of_ble_eq_true rfl) rfl rfl ?_
  rintro _ σ1 ⟨rfl, hX1, f1⟩
  have hM1 : InvM T none σ1 := hM.hi (fun q h1 _ => f1 q h1)
  refine j_aload_n c dL_law_293 rfl ?_
  refine j_aload_n c dL_law_294 rfl ?_
  refine j_iload c dL_law_295 rfl ?_
  refine j_iconst c (nI 1) dL_law_297 (by decide) ?_
  refine j_iadd c _ dL_law_298 (by first | exact nI_add _ _ | rfl) ?_
  refine j_sld c lg dL_law_299 (by omega) hN31 ?_
  refine j_aload_n c dL_law_300 rfl ?_
  refine j_iload c dL_law_301 rfl ?_
  refine j_iconst c (nI 2) dL_law_303 (by decide) ?_
  refine j_iadd c _ dL_law_304 (by first | exact nI_add _ _ | rfl) ?_
  refine j_sld c lg dL_law_305 (by omega) hN31 ?_
  refine j_aload_n c dL_law_306 rfl ?_
  refine j_iload c dL_law_307 rfl ?_
  refine j_iconst c (nI 3) dL_law_309 (by decide) ?_
  refine j_iadd c _ dL_law_310 (by first | exact nI_add _ _ | rfl) ?_
  refine j_sld c lg dL_law_311 (by omega) hN31 ?_
  refine j_callV c kw_L_39 ((sp_meetM hM1 hW _ _ _).toM hM1) dL_law_312 rfl rfl (by decide) (Nat.le_of_ble_eq_true rfl) (Nat.le_of_ble_eq_true rfl) rfl rfl ?_
  rintro _ σ2 ⟨rfl, hM2, f2⟩
  refine j_icmp_eq c 1134 dL_law_315 (by decide) (fun _ => ?_) (fun h_9 => absurd (by rfl) h_9)
  exact nx σ2 ⟨_, hW, hKd, hX1.low (hW).2.2.2.1 (fun q hq => f2 q (Or.inl (by omega))), hM2⟩
theorem law_4 {Γ : Gm} {N i : Nat} {xs : Nat → Int32} {T : TS} {σ : Sg} {u v : Option PV} (c : Cx Γ RL cL_law 10) (lg : LwG Γ N xs) (hN31 : N < 2 ^ 31) (hi : i + 5 ≤ N) (hW : WF T) (hKd : KdOK T) (hX : InvX T σ) (hM : InvM T none σ) (nx : ∀ σ' : Sg, Bth σ' → J Γ 1134 [some (.inr 68), some (.inr 0), some (.inr 50), some (.inr 67), some (.inl (nI i)), u, v] [] σ') : J Γ 320 [some (.inr 68), some (.inr 0), some (.inr 50), some (.inr 67), some (.inl (nI i)), u, v] [] σ := by
  refine j_aload_n c dL_law_320 rfl ?_
  refine j_aload_n c dL_law_321 rfl ?_
  refine j_iload c dL_law_322 rfl ?_
  refine j_iconst c (nI 1) dL_law_324 (by decide) ?_
  refine j_iadd c _ dL_law_325 (by first | exact nI_add _ _ | rfl) ?_
  refine j_sld c lg dL_law_326 (by omega) hN31 ?_
  refine j_callV c kw_L_40 (sp_functionX hX hW _) dL_law_327 rfl rfl (by decide) (Nat.le_of_ble_eq_true rfl) (Nat.le_of_ble_eq_true rfl) rfl rfl ?_
  rintro _ σ1 ⟨rfl, hX1, f1⟩
  have hM1 : InvM T none σ1 := hM.hi (fun q h1 _ => f1 q h1)
  refine j_aload_n c dL_law_330 rfl ?_
  refine j_aload_n c dL_law_331 rfl ?_
  refine j_iload c dL_law_332 rfl ?_
  refine j_iconst c (nI 1) dL_law_334 (by decide) ?_
  refine j_iadd c _ dL_law_335 (by first | exact nI_add _ _ | rfl) ?_
  refine j_sld c lg dL_law_336 (by omega) hN31 ?_
  refine j_callV c kw_L_44 (sp_functionM hM1 hW _) dL_law_337 rfl rfl (by decide) (Nat.le_of_ble_eq_true rfl) (Nat.le_of_ble_eq_true rfl) rfl rfl ?_
  rintro _ σ2 ⟨rfl, hM2, f2⟩
  refine j_icmp_eq c 1134 dL_law_340 (by decide) (fun _ => ?_) (fun h_9 => absurd (by rfl) h_9)
  exact nx σ2 ⟨_, (wf_tFun hW _), (kd_tFun hKd _), hX1.low ((wf_tFun hW _)).2.2.2.1 (fun q hq => f2 q (Or.inl (by omega))), hM2⟩
theorem law_5 {Γ : Gm} {N i : Nat} {xs : Nat → Int32} {T : TS} {σ : Sg} {u v : Option PV} (c : Cx Γ RL cL_law 10) (lg : LwG Γ N xs) (hN31 : N < 2 ^ 31) (hi : i + 5 ≤ N) (hW : WF T) (hKd : KdOK T) (hX : InvX T σ) (hM : InvM T none σ) (nx : ∀ σ' : Sg, Bth σ' → J Γ 1134 [some (.inr 68), some (.inr 0), some (.inr 50), some (.inr 67), some (.inl (nI i)), u, v] [] σ') : J Γ 345 [some (.inr 68), some (.inr 0), some (.inr 50), some (.inr 67), some (.inl (nI i)), u, v] [] σ := by
  refine j_aload_n c dL_law_345 rfl ?_
  refine j_aload_n c dL_law_346 rfl ?_
  refine j_iload c dL_law_347 rfl ?_
  refine j_iconst c (nI 1) dL_law_349 (by decide) ?_
  refine j_iadd c _ dL_law_350 (by first | exact nI_add _ _ | rfl) ?_
  refine j_sld c lg dL_law_351 (by omega) hN31 ?_
  refine j_aload_n c dL_law_352 rfl ?_
  refine j_iload c dL_law_353 rfl ?_
  refine j_iconst c (nI 2) dL_law_355 (by decide) ?_
  refine j_iadd c _ dL_law_356 (by first | exact nI_add _ _ | rfl) ?_
  refine j_sld c lg dL_law_357 (by omega) hN31 ?_
  refine j_aload_n c dL_law_358 rfl ?_
  refine j_iload c dL_law_359 rfl ?_
  refine j_iconst c (nI 3) dL_law_361 (by decide) ?_
  refine j_iadd c _ dL_law_362 (by first | exact nI_add _ _ | rfl) ?_
  refine j_sld c lg dL_law_363 (by omega) hN31 ?_
  refine j_aload_n c dL_law_364 rfl ?_
  refine j_iload c dL_law_365 rfl ?_
  refine j_iconst c (nI 4) dL_law_367 (by decide) ?_
  refine j_iadd c _ dL_law_368 (by first | exact nI_add _ _ | rfl) ?_
  refine j_sld c lg dL_law_369 (by omega) hN31 ?_
  refine j_callV c kw_L_45 (sp_methodX hX hW _ _ _ _) dL_law_370 rfl rfl (by decide) (Nat.le_of_ble_eq_true rfl) (Nat.le_of_ble_eq_true rfl) rfl rfl ?_
  rintro _ σ1 ⟨rfl, hX1, f1⟩
  have hM1 : InvM T none σ1 := hM.hi (fun q h1 _ => f1 q h1)
  refine j_aload_n c dL_law_373 rfl ?_
  refine j_aload_n c dL_law_374 rfl ?_
  refine j_iload c dL_law_375 rfl ?_
  refine j_iconst c (nI 1) dL_law_377 (by decide) ?_
  refine j_iadd c _ dL_law_378 (by first | exact nI_add _ _ | rfl) ?_
  refine j_sld c lg dL_law_379 (by omega) hN31 ?_
  refine j_aload_n c dL_law_380 rfl ?_
  refine j_iload c dL_law_381 rfl ?_
  refine j_iconst c (nI 2) dL_law_383 (by decide) ?_
  refine j_iadd c _ dL_law_384 (by first | exact nI_add _ _ | rfl) ?_
  refine j_sld c lg dL_law_385 (by omega) hN31 ?_
  refine j_aload_n c dL_law_386 rfl ?_
  refine j_iload c dL_law_387 rfl ?_
  refine j_iconst c (nI 3) dL_law_389 (by decide) ?_
  refine j_iadd c _ dL_law_390 (by first | exact nI_add _ _ | rfl) ?_
  refine j_sld c lg dL_law_391 (by omega) hN31 ?_
  refine j_aload_n c dL_law_392 rfl ?_
  refine j_iload c dL_law_393 rfl ?_
  refine j_iconst c (nI 4) dL_law_395 (by decide) ?_
  refine j_iadd c _ dL_law_396 (by first | exact nI_add _ _ | rfl) ?_
  refine j_sld c lg dL_law_397 (by omega) hN31 ?_
  refine j_callV c kw_L_49 (sp_methodM hM1 hW _ _ _ _) dL_law_398 rfl rfl (by decide) (Nat.le_of_ble_eq_true rfl) (Nat.le_of_ble_eq_true rfl) rfl rfl ?_
  rintro _ σ2 ⟨rfl, hM2, f2⟩
  refine j_icmp_eq c 1134 dL_law_401 (by decide) (fun _ => ?_) (fun h_9 => absurd (by rfl) h_9)
  exact nx σ2 ⟨_, (wf_tMeth hW hKd _ _ _ _).1, (wf_tMeth hW hKd _ _ _ _).2, hX1.low ((wf_tMeth hW hKd _ _ _ _).1).2.2.2.1 (fun q hq => f2 q (Or.inl (by omega))), hM2⟩
theorem law_6 {Γ : Gm} {N i : Nat} {xs : Nat → Int32} {T : TS} {σ : Sg} {u v : Option PV} (c : Cx Γ RL cL_law 10) (lg : LwG Γ N xs) (hN31 : N < 2 ^ 31) (hi : i + 5 ≤ N) (hW : WF T) (hKd : KdOK T) (hX : InvX T σ) (hM : InvM T none σ) (nx : ∀ σ' : Sg, Bth σ' → J Γ 1134 [some (.inr 68), some (.inr 0), some (.inr 50), some (.inr 67), some (.inl (nI i)), u, v] [] σ') : J Γ 406 [some (.inr 68), some (.inr 0), some (.inr 50), some (.inr 67), some (.inl (nI i)), u, v] [] σ := by
  refine j_aload_n c dL_law_406 rfl ?_
  refine j_aload_n c dL_law_407 rfl ?_
  refine j_iload c dL_law_408 rfl ?_
  refine j_iconst c (nI 1) dL_law_410 (by decide) ?_
  refine j_iadd c _ dL_law_411 (by first | exact nI_add _ _ | rfl) ?_
  refine j_sld c lg dL_law_412 (by omega) hN31 ?_
  refine j_aload_n c dL_law_413 rfl ?_
  refine j_iload c dL_law_414 rfl ?_
  refine j_iconst c (nI 2) dL_law_416 (by decide) ?_
  refine j_iadd c _ dL_law_417 (by first | exact nI_add _ _ | rfl) ?_
  refine j_sld c lg dL_law_418 (by omega) hN31 ?_
  refine j_callV c kw_L_50 (sp_dropX hX hW _ _) dL_law_419 rfl rfl (by decide) (Nat.le_of_ble_eq_true rfl) (Nat.le_of_ble_eq_true rfl) rfl rfl ?_
  rintro _ σ1 ⟨rfl, hX1, f1⟩
  have hM1 : InvM T none σ1 := hM.hi (fun q h1 _ => f1 q h1)
  refine j_aload_n c dL_law_422 rfl ?_
  refine j_aload_n c dL_law_423 rfl ?_
  refine j_iload c dL_law_424 rfl ?_
  refine j_iconst c (nI 1) dL_law_426 (by decide) ?_
  refine j_iadd c _ dL_law_427 (by first | exact nI_add _ _ | rfl) ?_
  refine j_sld c lg dL_law_428 (by omega) hN31 ?_
  refine j_aload_n c dL_law_429 rfl ?_
  refine j_iload c dL_law_430 rfl ?_
  refine j_iconst c (nI 2) dL_law_432 (by decide) ?_
  refine j_iadd c _ dL_law_433 (by first | exact nI_add _ _ | rfl) ?_
  refine j_sld c lg dL_law_434 (by omega) hN31 ?_
  refine j_callV c kw_L_53 (sp_dropM hM1 hW _ _) dL_law_435 rfl rfl (by decide) (Nat.le_of_ble_eq_true rfl) (Nat.le_of_ble_eq_true rfl) rfl rfl ?_
  rintro _ σ2 ⟨rfl, hM2, f2⟩
  refine j_icmp_eq c 1134 dL_law_438 (by decide) (fun _ => ?_) (fun h_9 => absurd (by rfl) h_9)
  exact nx σ2 ⟨_, (wf_tDrop hW hKd _ _).1, (wf_tDrop hW hKd _ _).2, hX1.low ((wf_tDrop hW hKd _ _).1).2.2.2.1 (fun q hq => f2 q (Or.inl (by omega))), hM2⟩
theorem law_7 {Γ : Gm} {N i : Nat} {xs : Nat → Int32} {T : TS} {σ : Sg} {u v : Option PV} (c : Cx Γ RL cL_law 10) (lg : LwG Γ N xs) (hN31 : N < 2 ^ 31) (hi : i + 5 ≤ N) (hW : WF T) (hKd : KdOK T) (hX : InvX T σ) (hM : InvM T none σ) (nx : ∀ σ' : Sg, Bth σ' → J Γ 1134 [some (.inr 68), some (.inr 0), some (.inr 50), some (.inr 67), some (.inl (nI i)), u, v] [] σ') : J Γ 443 [some (.inr 68), some (.inr 0), some (.inr 50), some (.inr 67), some (.inl (nI i)), u, v] [] σ := by
  refine j_aload_n c dL_law_443 rfl ?_
  refine j_callV c kw_L_54 (sp_ruleX hX hW) dL_law_444 rfl rfl (by decide) (Nat.le_of_ble_eq_true rfl) (Nat.le_of_ble_eq_true rfl) rfl rfl ?_
  rintro _ σ1 ⟨rfl, hX1, f1⟩
  have hM1 : InvM T none σ1 := hM.hi (fun q h1 _ => f1 q h1)
  refine j_aload_n c dL_law_447 rfl ?_
  refine j_callV c kw_L_58 (sp_ruleM hM1 hW) dL_law_448 rfl rfl (by decide) (Nat.le_of_ble_eq_true rfl) (Nat.le_of_ble_eq_true rfl) rfl rfl ?_
  rintro _ σ2 ⟨rfl, hM2, f2⟩
  refine j_icmp_eq c 1134 dL_law_451 (by decide) (fun _ => ?_) (fun h_9 => absurd (by rfl) h_9)
  exact nx σ2 ⟨_, hW.rule, hKd.rule, hX1.low (hW.rule).2.2.2.1 (fun q hq => f2 q (Or.inl (by omega))), hM2⟩
theorem law_8 {Γ : Gm} {N i : Nat} {xs : Nat → Int32} {T : TS} {σ : Sg} {u v : Option PV} (c : Cx Γ RL cL_law 10) (lg : LwG Γ N xs) (hN31 : N < 2 ^ 31) (hi : i + 5 ≤ N) (hW : WF T) (hKd : KdOK T) (hX : InvX T σ) (hM : InvM T none σ) (nx : ∀ σ' : Sg, Bth σ' → J Γ 1134 [some (.inr 68), some (.inr 0), some (.inr 50), some (.inr 67), some (.inl (nI i)), u, v] [] σ') : J Γ 456 [some (.inr 68), some (.inr 0), some (.inr 50), some (.inr 67), some (.inl (nI i)), u, v] [] σ := by
  refine j_aload_n c dL_law_456 rfl ?_
  refine j_aload_n c dL_law_457 rfl ?_
  refine j_iload c dL_law_458 rfl ?_
  refine j_iconst c (nI 1) dL_law_460 (by decide) ?_
  refine j_iadd c _ dL_law_461 (by first | exact nI_add _ _ | rfl) ?_
  refine j_sld c lg dL_law_462 (by omega) hN31 ?_
  refine j_callV c kw_L_59 ((sp_countX hX hW _).toX hX) dL_law_463 rfl rfl (by decide) (Nat.le_of_ble_eq_true rfl) (Nat.le_of_ble_eq_true rfl) rfl rfl ?_
  rintro _ σ1 ⟨rfl, hX1, f1⟩
  have hM1 : InvM T none σ1 := hM.hi (fun q h1 _ => f1 q h1)
  refine j_aload_n c dL_law_466 rfl ?_
  refine j_aload_n c dL_law_467 rfl ?_
  refine j_iload c dL_law_468 rfl ?_
  refine j_iconst c (nI 1) dL_law_470 (by decide) ?_
  refine j_iadd c _ dL_law_471 (by first | exact nI_add _ _ | rfl) ?_
  refine j_sld c lg dL_law_472 (by omega) hN31 ?_
  refine j_callV c kw_L_62 ((sp_countM hM1 hW _).toM hM1) dL_law_473 rfl rfl (by decide) (Nat.le_of_ble_eq_true rfl) (Nat.le_of_ble_eq_true rfl) rfl rfl ?_
  rintro _ σ2 ⟨rfl, hM2, f2⟩
  refine j_icmp_eq c 1134 dL_law_476 (by decide) (fun _ => ?_) (fun h_9 => absurd (by rfl) h_9)
  exact nx σ2 ⟨_, hW, hKd, hX1.low (hW).2.2.2.1 (fun q hq => f2 q (Or.inl (by omega))), hM2⟩
theorem law_9 {Γ : Gm} {N i : Nat} {xs : Nat → Int32} {T : TS} {σ : Sg} {u v : Option PV} (c : Cx Γ RL cL_law 10) (lg : LwG Γ N xs) (hN31 : N < 2 ^ 31) (hi : i + 5 ≤ N) (hW : WF T) (hKd : KdOK T) (hX : InvX T σ) (hM : InvM T none σ) (nx : ∀ σ' : Sg, Bth σ' → J Γ 1134 [some (.inr 68), some (.inr 0), some (.inr 50), some (.inr 67), some (.inl (nI i)), u, v] [] σ') : J Γ 481 [some (.inr 68), some (.inr 0), some (.inr 50), some (.inr 67), some (.inl (nI i)), u, v] [] σ := by
  refine j_aload_n c dL_law_481 rfl ?_
  refine j_aload_n c dL_law_482 rfl ?_
  refine j_iload c dL_law_483 rfl ?_
  refine j_iconst c (nI 1) dL_law_485 (by decide) ?_
  refine j_iadd c _ dL_law_486 (by first | exact nI_add _ _ | rfl) ?_
  refine j_sld c lg dL_law_487 (by omega) hN31 ?_
  refine j_aload_n c dL_law_488 rfl ?_
  refine j_iload c dL_law_489 rfl ?_
  refine j_iconst c (nI 2) dL_law_491 (by decide) ?_
  refine j_iadd c _ dL_law_492 (by first | exact nI_add _ _ | rfl) ?_
  refine j_sld c lg dL_law_493 (by omega) hN31 ?_
  refine j_callV c kw_L_63 (sp_ofX hX hW _ _) dL_law_494 rfl rfl (by decide) (Nat.le_of_ble_eq_true rfl) (Nat.le_of_ble_eq_true rfl) rfl rfl ?_
  rintro _ σ1 ⟨rfl, hX1, f1⟩
  have hM1 : InvM T none σ1 := hM.hi (fun q h1 _ => f1 q h1)
  refine j_aload_n c dL_law_497 rfl ?_
  refine j_aload_n c dL_law_498 rfl ?_
  refine j_iload c dL_law_499 rfl ?_
  refine j_iconst c (nI 1) dL_law_501 (by decide) ?_
  refine j_iadd c _ dL_law_502 (by first | exact nI_add _ _ | rfl) ?_
  refine j_sld c lg dL_law_503 (by omega) hN31 ?_
  refine j_aload_n c dL_law_504 rfl ?_
  refine j_iload c dL_law_505 rfl ?_
  refine j_iconst c (nI 2) dL_law_507 (by decide) ?_
  refine j_iadd c _ dL_law_508 (by first | exact nI_add _ _ | rfl) ?_
  refine j_sld c lg dL_law_509 (by omega) hN31 ?_
  refine j_callV c kw_L_66 ((sp_ofM hM1 hW _ _).toM hM1) dL_law_510 rfl rfl (by decide) (Nat.le_of_ble_eq_true rfl) (Nat.le_of_ble_eq_true rfl) rfl rfl ?_
  rintro _ σ2 ⟨rfl, hM2, f2⟩
  refine j_icmp_eq c 1134 dL_law_513 (by decide) (fun _ => ?_) (fun h_9 => absurd (by rfl) h_9)
  exact nx σ2 ⟨_, hW, hKd, hX1.low (hW).2.2.2.1 (fun q hq => f2 q (Or.inl (by omega))), hM2⟩
theorem law_11 {Γ : Gm} {N i : Nat} {xs : Nat → Int32} {T : TS} {σ : Sg} {u v : Option PV} (c : Cx Γ RL cL_law 10) (lg : LwG Γ N xs) (hN31 : N < 2 ^ 31) (hi : i + 5 ≤ N) (hW : WF T) (hKd : KdOK T) (hX : InvX T σ) (hM : InvM T none σ) (nx : ∀ σ' : Sg, Bth σ' → J Γ 1134 [some (.inr 68), some (.inr 0), some (.inr 50), some (.inr 67), some (.inl (nI i)), u, v] [] σ') : J Γ 598 [some (.inr 68), some (.inr 0), some (.inr 50), some (.inr 67), some (.inl (nI i)), u, v] [] σ := by
  refine j_aload_n c dL_law_598 rfl ?_
  refine j_aload_n c dL_law_599 rfl ?_
  refine j_iload c dL_law_600 rfl ?_
  refine j_iconst c (nI 1) dL_law_602 (by decide) ?_
  refine j_iadd c _ dL_law_603 (by first | exact nI_add _ _ | rfl) ?_
  refine j_sld c lg dL_law_604 (by omega) hN31 ?_
  refine j_aload_n c dL_law_605 rfl ?_
  refine j_iload c dL_law_606 rfl ?_
  refine j_iconst c (nI 2) dL_law_608 (by decide) ?_
  refine j_iadd c _ dL_law_609 (by first | exact nI_add _ _ | rfl) ?_
  refine j_sld c lg dL_law_610 (by omega) hN31 ?_
  refine j_callV c kw_L_76 (sp_callX hX hW _ _) dL_law_611 rfl rfl (by decide) (Nat.le_of_ble_eq_true rfl) (Nat.le_of_ble_eq_true rfl) rfl rfl ?_
  rintro _ σ1 ⟨rfl, hX1, f1⟩
  have hM1 : InvM T none σ1 := hM.hi (fun q h1 _ => f1 q h1)
  refine j_aload_n c dL_law_614 rfl ?_
  refine j_aload_n c dL_law_615 rfl ?_
  refine j_iload c dL_law_616 rfl ?_
  refine j_iconst c (nI 1) dL_law_618 (by decide) ?_
  refine j_iadd c _ dL_law_619 (by first | exact nI_add _ _ | rfl) ?_
  refine j_sld c lg dL_law_620 (by omega) hN31 ?_
  refine j_aload_n c dL_law_621 rfl ?_
  refine j_iload c dL_law_622 rfl ?_
  refine j_iconst c (nI 2) dL_law_624 (by decide) ?_
  refine j_iadd c _ dL_law_625 (by first | exact nI_add _ _ | rfl) ?_
  refine j_sld c lg dL_law_626 (by omega) hN31 ?_
  refine j_callV c kw_L_79 (sp_callM hM1 hW _ _) dL_law_627 rfl rfl (by decide) (Nat.le_of_ble_eq_true rfl) (Nat.le_of_ble_eq_true rfl) rfl rfl ?_
  rintro _ σ2 ⟨rfl, hM2, f2⟩
  refine j_icmp_eq c 1134 dL_law_630 (by decide) (fun _ => ?_) (fun h_9 => absurd (by rfl) h_9)
  exact nx σ2 ⟨_, (wf_tCall hW hKd _ _).1, (wf_tCall hW hKd _ _).2, hX1.low ((wf_tCall hW hKd _ _).1).2.2.2.1 (fun q hq => f2 q (Or.inl (by omega))), hM2⟩
theorem law_12 {Γ : Gm} {N i : Nat} {xs : Nat → Int32} {T : TS} {σ : Sg} {u v : Option PV} (c : Cx Γ RL cL_law 10) (lg : LwG Γ N xs) (hN31 : N < 2 ^ 31) (hi : i + 5 ≤ N) (hW : WF T) (hKd : KdOK T) (hX : InvX T σ) (hM : InvM T none σ) (nx : ∀ σ' : Sg, Bth σ' → J Γ 1134 [some (.inr 68), some (.inr 0), some (.inr 50), some (.inr 67), some (.inl (nI i)), u, v] [] σ') : J Γ 635 [some (.inr 68), some (.inr 0), some (.inr 50), some (.inr 67), some (.inl (nI i)), u, v] [] σ := by
  refine j_aload_n c dL_law_635 rfl ?_
  refine j_aload_n c dL_law_636 rfl ?_
  refine j_iload c dL_law_637 rfl ?_
  refine j_iconst c (nI 1) dL_law_639 (by decide) ?_
  refine j_iadd c _ dL_law_640 (by first | exact nI_add _ _ | rfl) ?_
  refine j_sld c lg dL_law_641 (by omega) hN31 ?_
  refine j_aload_n c dL_law_642 rfl ?_
  refine j_iload c dL_law_643 rfl ?_
  refine j_iconst c (nI 2) dL_law_645 (by decide) ?_
  refine j_iadd c _ dL_law_646 (by first | exact nI_add _ _ | rfl) ?_
  refine j_sld c lg dL_law_647 (by omega) hN31 ?_
  refine j_callV c kw_L_80 ((sp_answerX hX hW _ _).toX hX) dL_law_648 rfl rfl (by decide) (Nat.le_of_ble_eq_true rfl) (Nat.le_of_ble_eq_true rfl) rfl rfl ?_
  rintro _ σ1 ⟨rfl, hX1, f1⟩
  have hM1 : InvM T none σ1 := hM.hi (fun q h1 _ => f1 q h1)
  refine j_aload_n c dL_law_651 rfl ?_
  refine j_aload_n c dL_law_652 rfl ?_
  refine j_iload c dL_law_653 rfl ?_
  refine j_iconst c (nI 1) dL_law_655 (by decide) ?_
  refine j_iadd c _ dL_law_656 (by first | exact nI_add _ _ | rfl) ?_
  refine j_sld c lg dL_law_657 (by omega) hN31 ?_
  refine j_aload_n c dL_law_658 rfl ?_
  refine j_iload c dL_law_659 rfl ?_
  refine j_iconst c (nI 2) dL_law_661 (by decide) ?_
  refine j_iadd c _ dL_law_662 (by first | exact nI_add _ _ | rfl) ?_
  refine j_sld c lg dL_law_663 (by omega) hN31 ?_
  refine j_callV c kw_L_83 ((sp_answerM hM1 hW _ _).toM hM1) dL_law_664 rfl rfl (by decide) (Nat.le_of_ble_eq_true rfl) (Nat.le_of_ble_eq_true rfl) rfl rfl ?_
  rintro _ σ2 ⟨rfl, hM2, f2⟩
  refine j_icmp_eq c 1134 dL_law_667 (by decide) (fun _ => ?_) (fun h_9 => absurd (by rfl) h_9)
  exact nx σ2 ⟨_, hW, hKd, hX1.low (hW).2.2.2.1 (fun q hq => f2 q (Or.inl (by omega))), hM2⟩
theorem law_13 {Γ : Gm} {N i : Nat} {xs : Nat → Int32} {T : TS} {σ : Sg} {u v : Option PV} (c : Cx Γ RL cL_law 10) (lg : LwG Γ N xs) (hN31 : N < 2 ^ 31) (hi : i + 5 ≤ N) (hW : WF T) (hKd : KdOK T) (hX : InvX T σ) (hM : InvM T none σ) (nx : ∀ σ' : Sg, Bth σ' → J Γ 1134 [some (.inr 68), some (.inr 0), some (.inr 50), some (.inr 67), some (.inl (nI i)), u, v] [] σ') : J Γ 672 [some (.inr 68), some (.inr 0), some (.inr 50), some (.inr 67), some (.inl (nI i)), u, v] [] σ := by
  refine j_aload_n c dL_law_672 rfl ?_
  refine j_aload_n c dL_law_673 rfl ?_
  refine j_iload c dL_law_674 rfl ?_
  refine j_iconst c (nI 1) dL_law_676 (by decide) ?_
  refine j_iadd c _ dL_law_677 (by first | exact nI_add _ _ | rfl) ?_
  refine j_sld c lg dL_law_678 (by omega) hN31 ?_
  refine j_aload_n c dL_law_679 rfl ?_
  refine j_iload c dL_law_680 rfl ?_
  refine j_iconst c (nI 2) dL_law_682 (by decide) ?_
  refine j_iadd c _ dL_law_683 (by first | exact nI_add _ _ | rfl) ?_
  refine j_sld c lg dL_law_684 (by omega) hN31 ?_
  refine j_callV c kw_L_84 ((sp_applicableX hX hW _ _).toX hX) dL_law_685 rfl rfl (by decide) (Nat.le_of_ble_eq_true rfl) (Nat.le_of_ble_eq_true rfl) rfl rfl ?_
  rintro _ σ1 ⟨rfl, hX1, f1⟩
  have hM1 : InvM T none σ1 := hM.hi (fun q h1 _ => f1 q h1)
  refine j_aload_n c dL_law_688 rfl ?_
  refine j_aload_n c dL_law_689 rfl ?_
  refine j_iload c dL_law_690 rfl ?_
  refine j_iconst c (nI 1) dL_law_692 (by decide) ?_
  refine j_iadd c _ dL_law_693 (by first | exact nI_add _ _ | rfl) ?_
  refine j_sld c lg dL_law_694 (by omega) hN31 ?_
  refine j_aload_n c dL_law_695 rfl ?_
  refine j_iload c dL_law_696 rfl ?_
  refine j_iconst c (nI 2) dL_law_698 (by decide) ?_
  refine j_iadd c _ dL_law_699 (by first | exact nI_add _ _ | rfl) ?_
  refine j_sld c lg dL_law_700 (by omega) hN31 ?_
  refine j_callV c kw_L_87 ((sp_applicableM hM1 hW _ _).toM hM1) dL_law_701 rfl rfl (by decide) (Nat.le_of_ble_eq_true rfl) (Nat.le_of_ble_eq_true rfl) rfl rfl ?_
  rintro _ σ2 ⟨rfl, hM2, f2⟩
  refine j_icmp_eq c 1134 dL_law_704 (by decide) (fun _ => ?_) (fun h_9 => absurd (by rfl) h_9)
  exact nx σ2 ⟨_, hW, hKd, hX1.low (hW).2.2.2.1 (fun q hq => f2 q (Or.inl (by omega))), hM2⟩
theorem law_14 {Γ : Gm} {N i : Nat} {xs : Nat → Int32} {T : TS} {σ : Sg} {u v : Option PV} (c : Cx Γ RL cL_law 10) (lg : LwG Γ N xs) (hN31 : N < 2 ^ 31) (hi : i + 5 ≤ N) (hW : WF T) (hKd : KdOK T) (hX : InvX T σ) (hM : InvM T none σ) (nx : ∀ σ' : Sg, Bth σ' → J Γ 1134 [some (.inr 68), some (.inr 0), some (.inr 50), some (.inr 67), some (.inl (nI i)), u, v] [] σ') : J Γ 709 [some (.inr 68), some (.inr 0), some (.inr 50), some (.inr 67), some (.inl (nI i)), u, v] [] σ := by
  refine j_aload_n c dL_law_709 rfl ?_
  refine j_aload_n c dL_law_710 rfl ?_
  refine j_iload c dL_law_711 rfl ?_
  refine j_iconst c (nI 1) dL_law_713 (by decide) ?_
  refine j_iadd c _ dL_law_714 (by first | exact nI_add _ _ | rfl) ?_
  refine j_sld c lg dL_law_715 (by omega) hN31 ?_
  refine j_aload_n c dL_law_716 rfl ?_
  refine j_iload c dL_law_717 rfl ?_
  refine j_iconst c (nI 2) dL_law_719 (by decide) ?_
  refine j_iadd c _ dL_law_720 (by first | exact nI_add _ _ | rfl) ?_
  refine j_sld c lg dL_law_721 (by omega) hN31 ?_
  refine j_aload_n c dL_law_722 rfl ?_
  refine j_iload c dL_law_723 rfl ?_
  refine j_iconst c (nI 3) dL_law_725 (by decide) ?_
  refine j_iadd c _ dL_law_726 (by first | exact nI_add _ _ | rfl) ?_
  refine j_sld c lg dL_law_727 (by omega) hN31 ?_
  refine j_callV c kw_L_88 (sp_chainX hX hW _ _ _) dL_law_728 rfl rfl (by decide) (Nat.le_of_ble_eq_true rfl) (Nat.le_of_ble_eq_true rfl) rfl rfl ?_
  rintro _ σ1 ⟨rfl, hX1, f1⟩
  have hM1 : InvM T none σ1 := hM.hi (fun q h1 _ => f1 q h1)
  refine j_aload_n c dL_law_731 rfl ?_
  refine j_aload_n c dL_law_732 rfl ?_
  refine j_iload c dL_law_733 rfl ?_
  refine j_iconst c (nI 1) dL_law_735 (by decide) ?_
  refine j_iadd c _ dL_law_736 (by first | exact nI_add _ _ | rfl) ?_
  refine j_sld c lg dL_law_737 (by omega) hN31 ?_
  refine j_aload_n c dL_law_738 rfl ?_
  refine j_iload c dL_law_739 rfl ?_
  refine j_iconst c (nI 2) dL_law_741 (by decide) ?_
  refine j_iadd c _ dL_law_742 (by first | exact nI_add _ _ | rfl) ?_
  refine j_sld c lg dL_law_743 (by omega) hN31 ?_
  refine j_aload_n c dL_law_744 rfl ?_
  refine j_iload c dL_law_745 rfl ?_
  refine j_iconst c (nI 3) dL_law_747 (by decide) ?_
  refine j_iadd c _ dL_law_748 (by first | exact nI_add _ _ | rfl) ?_
  refine j_sld c lg dL_law_749 (by omega) hN31 ?_
  refine j_callV c kw_L_91 ((sp_chainM hM1 hW _ _ _).toM hM1) dL_law_750 rfl rfl (by decide) (Nat.le_of_ble_eq_true rfl) (Nat.le_of_ble_eq_true rfl) rfl rfl ?_
  rintro _ σ2 ⟨rfl, hM2, f2⟩
  refine j_icmp_eq c 1134 dL_law_753 (by decide) (fun _ => ?_) (fun h_9 => absurd (by rfl) h_9)
  exact nx σ2 ⟨_, hW, hKd, hX1.low (hW).2.2.2.1 (fun q hq => f2 q (Or.inl (by omega))), hM2⟩
theorem law_15 {Γ : Gm} {N i : Nat} {xs : Nat → Int32} {T : TS} {σ : Sg} {u v : Option PV} (c : Cx Γ RL cL_law 10) (lg : LwG Γ N xs) (hN31 : N < 2 ^ 31) (hi : i + 5 ≤ N) (hW : WF T) (hKd : KdOK T) (hX : InvX T σ) (hM : InvM T none σ) (nx : ∀ σ' : Sg, Bth σ' → J Γ 1134 [some (.inr 68), some (.inr 0), some (.inr 50), some (.inr 67), some (.inl (nI i)), u, v] [] σ') : J Γ 758 [some (.inr 68), some (.inr 0), some (.inr 50), some (.inr 67), some (.inl (nI i)), u, v] [] σ := by
  refine j_aload_n c dL_law_758 rfl ?_
  refine j_aload_n c dL_law_759 rfl ?_
  refine j_iload c dL_law_760 rfl ?_
  refine j_iconst c (nI 1) dL_law_762 (by decide) ?_
  refine j_iadd c _ dL_law_763 (by first | exact nI_add _ _ | rfl) ?_
  refine j_sld c lg dL_law_764 (by omega) hN31 ?_
  refine j_aload_n c dL_law_765 rfl ?_
  refine j_iload c dL_law_766 rfl ?_
  refine j_iconst c (nI 2) dL_law_768 (by decide) ?_
  refine j_iadd c _ dL_law_769 (by first | exact nI_add _ _ | rfl) ?_
  refine j_sld c lg dL_law_770 (by omega) hN31 ?_
  refine j_callV c kw_L_92 (sp_brokenX hX hW _ _) dL_law_771 rfl rfl (by decide) (Nat.le_of_ble_eq_true rfl) (Nat.le_of_ble_eq_true rfl) rfl rfl ?_
  rintro _ σ1 ⟨rfl, hX1, f1⟩
  have hM1 : InvM T none σ1 := hM.hi (fun q h1 _ => f1 q h1)
  refine j_aload_n c dL_law_774 rfl ?_
  refine j_aload_n c dL_law_775 rfl ?_
  refine j_iload c dL_law_776 rfl ?_
  refine j_iconst c (nI 1) dL_law_778 (by decide) ?_
  refine j_iadd c _ dL_law_779 (by first | exact nI_add _ _ | rfl) ?_
  refine j_sld c lg dL_law_780 (by omega) hN31 ?_
  refine j_aload_n c dL_law_781 rfl ?_
  refine j_iload c dL_law_782 rfl ?_
  refine j_iconst c (nI 2) dL_law_784 (by decide) ?_
  refine j_iadd c _ dL_law_785 (by first | exact nI_add _ _ | rfl) ?_
  refine j_sld c lg dL_law_786 (by omega) hN31 ?_
  refine j_callV c kw_L_95 ((sp_brokenM hM1 hW _ _).toM hM1) dL_law_787 rfl rfl (by decide) (Nat.le_of_ble_eq_true rfl) (Nat.le_of_ble_eq_true rfl) rfl rfl ?_
  rintro _ σ2 ⟨rfl, hM2, f2⟩
  refine j_icmp_eq c 1134 dL_law_790 (by decide) (fun _ => ?_) (fun h_9 => absurd (by rfl) h_9)
  exact nx σ2 ⟨_, hW, hKd, hX1.low (hW).2.2.2.1 (fun q hq => f2 q (Or.inl (by omega))), hM2⟩
theorem law_17 {Γ : Gm} {N i : Nat} {xs : Nat → Int32} {T : TS} {σ : Sg} {u v : Option PV} (c : Cx Γ RL cL_law 10) (lg : LwG Γ N xs) (hN31 : N < 2 ^ 31) (hi : i + 5 ≤ N) (hW : WF T) (hKd : KdOK T) (hX : InvX T σ) (hM : InvM T none σ) (nx : ∀ σ' : Sg, Bth σ' → J Γ 1134 [some (.inr 68), some (.inr 0), some (.inr 50), some (.inr 67), some (.inl (nI i)), u, v] [] σ') : J Γ 863 [some (.inr 68), some (.inr 0), some (.inr 50), some (.inr 67), some (.inl (nI i)), u, v] [] σ := by
  refine j_aload_n c dL_law_863 rfl ?_
  refine j_aload_n c dL_law_864 rfl ?_
  refine j_iload c dL_law_865 rfl ?_
  refine j_iconst c (nI 1) dL_law_867 (by decide) ?_
  refine j_iadd c _ dL_law_868 (by first | exact nI_add _ _ | rfl) ?_
  refine j_sld c lg dL_law_869 (by omega) hN31 ?_
  refine j_aload_n c dL_law_870 rfl ?_
  refine j_iload c dL_law_871 rfl ?_
  refine j_iconst c (nI 2) dL_law_873 (by decide) ?_
  refine j_iadd c _ dL_law_874 (by first | exact nI_add _ _ | rfl) ?_
  refine j_sld c lg dL_law_875 (by omega) hN31 ?_
  refine j_callV c kw_L_100 ((sp_keptX hX hW _ _).toX hX) dL_law_876 rfl rfl (by decide) (Nat.le_of_ble_eq_true rfl) (Nat.le_of_ble_eq_true rfl) rfl rfl ?_
  rintro _ σ1 ⟨rfl, hX1, f1⟩
  have hM1 : InvM T none σ1 := hM.hi (fun q h1 _ => f1 q h1)
  refine j_aload_n c dL_law_879 rfl ?_
  refine j_aload_n c dL_law_880 rfl ?_
  refine j_iload c dL_law_881 rfl ?_
  refine j_iconst c (nI 1) dL_law_883 (by decide) ?_
  refine j_iadd c _ dL_law_884 (by first | exact nI_add _ _ | rfl) ?_
  refine j_sld c lg dL_law_885 (by omega) hN31 ?_
  refine j_aload_n c dL_law_886 rfl ?_
  refine j_iload c dL_law_887 rfl ?_
  refine j_iconst c (nI 2) dL_law_889 (by decide) ?_
  refine j_iadd c _ dL_law_890 (by first | exact nI_add _ _ | rfl) ?_
  refine j_sld c lg dL_law_891 (by omega) hN31 ?_
  refine j_callV c kw_L_103 ((sp_keptM hM1 hW _ _).toM hM1) dL_law_892 rfl rfl (by decide) (Nat.le_of_ble_eq_true rfl) (Nat.le_of_ble_eq_true rfl) rfl rfl ?_
  rintro _ σ2 ⟨rfl, hM2, f2⟩
  refine j_icmp_eq c 1134 dL_law_895 (by decide) (fun _ => ?_) (fun h_9 => absurd (by rfl) h_9)
  exact nx σ2 ⟨_, hW, hKd, hX1.low (hW).2.2.2.1 (fun q hq => f2 q (Or.inl (by omega))), hM2⟩
theorem law_18 {Γ : Gm} {N i : Nat} {xs : Nat → Int32} {T : TS} {σ : Sg} {u v : Option PV} (c : Cx Γ RL cL_law 10) (lg : LwG Γ N xs) (hN31 : N < 2 ^ 31) (hi : i + 5 ≤ N) (hW : WF T) (hKd : KdOK T) (hX : InvX T σ) (hM : InvM T none σ) (nx : ∀ σ' : Sg, Bth σ' → J Γ 1134 [some (.inr 68), some (.inr 0), some (.inr 50), some (.inr 67), some (.inl (nI i)), u, v] [] σ') : J Γ 900 [some (.inr 68), some (.inr 0), some (.inr 50), some (.inr 67), some (.inl (nI i)), u, v] [] σ := by
  refine j_aload_n c dL_law_900 rfl ?_
  refine j_aload_n c dL_law_901 rfl ?_
  refine j_iload c dL_law_902 rfl ?_
  refine j_iconst c (nI 1) dL_law_904 (by decide) ?_
  refine j_iadd c _ dL_law_905 (by first | exact nI_add _ _ | rfl) ?_
  refine j_sld c lg dL_law_906 (by omega) hN31 ?_
  refine j_aload_n c dL_law_907 rfl ?_
  refine j_iload c dL_law_908 rfl ?_
  refine j_iconst c (nI 2) dL_law_910 (by decide) ?_
  refine j_iadd c _ dL_law_911 (by first | exact nI_add _ _ | rfl) ?_
  refine j_sld c lg dL_law_912 (by omega) hN31 ?_
  refine j_callV c kw_L_104 (sp_clashX hX hW _ _) dL_law_913 rfl rfl (by decide) (Nat.le_of_ble_eq_true rfl) (Nat.le_of_ble_eq_true rfl) rfl rfl ?_
  rintro _ σ1 ⟨rfl, hX1, f1⟩
  have hM1 : InvM T none σ1 := hM.hi (fun q h1 _ => f1 q h1)
  refine j_aload_n c dL_law_916 rfl ?_
  refine j_aload_n c dL_law_917 rfl ?_
  refine j_iload c dL_law_918 rfl ?_
  refine j_iconst c (nI 1) dL_law_920 (by decide) ?_
  refine j_iadd c _ dL_law_921 (by first | exact nI_add _ _ | rfl) ?_
  refine j_sld c lg dL_law_922 (by omega) hN31 ?_
  refine j_aload_n c dL_law_923 rfl ?_
  refine j_iload c dL_law_924 rfl ?_
  refine j_iconst c (nI 2) dL_law_926 (by decide) ?_
  refine j_iadd c _ dL_law_927 (by first | exact nI_add _ _ | rfl) ?_
  refine j_sld c lg dL_law_928 (by omega) hN31 ?_
  refine j_callV c kw_L_107 ((sp_clashM hM1 hW _ _).toM hM1) dL_law_929 rfl rfl (by decide) (Nat.le_of_ble_eq_true rfl) (Nat.le_of_ble_eq_true rfl) rfl rfl ?_
  rintro _ σ2 ⟨rfl, hM2, f2⟩
  refine j_icmp_eq c 1134 dL_law_932 (by decide) (fun _ => ?_) (fun h_9 => absurd (by rfl) h_9)
  exact nx σ2 ⟨_, hW, hKd, hX1.low (hW).2.2.2.1 (fun q hq => f2 q (Or.inl (by omega))), hM2⟩
theorem law_19 {Γ : Gm} {N i : Nat} {xs : Nat → Int32} {T : TS} {σ : Sg} {u v : Option PV} (c : Cx Γ RL cL_law 10) (lg : LwG Γ N xs) (hN31 : N < 2 ^ 31) (hi : i + 5 ≤ N) (hW : WF T) (hKd : KdOK T) (hX : InvX T σ) (hM : InvM T none σ) (nx : ∀ σ' : Sg, Bth σ' → J Γ 1134 [some (.inr 68), some (.inr 0), some (.inr 50), some (.inr 67), some (.inl (nI i)), u, v] [] σ') : J Γ 937 [some (.inr 68), some (.inr 0), some (.inr 50), some (.inr 67), some (.inl (nI i)), u, v] [] σ := by
  refine j_aload_n c dL_law_937 rfl ?_
  refine j_aload_n c dL_law_938 rfl ?_
  refine j_iload c dL_law_939 rfl ?_
  refine j_iconst c (nI 1) dL_law_941 (by decide) ?_
  refine j_iadd c _ dL_law_942 (by first | exact nI_add _ _ | rfl) ?_
  refine j_sld c lg dL_law_943 (by omega) hN31 ?_
  refine j_aload_n c dL_law_944 rfl ?_
  refine j_iload c dL_law_945 rfl ?_
  refine j_iconst c (nI 2) dL_law_947 (by decide) ?_
  refine j_iadd c _ dL_law_948 (by first | exact nI_add _ _ | rfl) ?_
  refine j_sld c lg dL_law_949 (by omega) hN31 ?_
  refine j_callV c kw_L_108 (sp_gapX hX hW _ _) dL_law_950 rfl rfl (by decide) (Nat.le_of_ble_eq_true rfl) (Nat.le_of_ble_eq_true rfl) rfl rfl ?_
  rintro _ σ1 ⟨rfl, hX1, f1⟩
  have hM1 : InvM T none σ1 := hM.hi (fun q h1 _ => f1 q h1)
  refine j_aload_n c dL_law_953 rfl ?_
  refine j_aload_n c dL_law_954 rfl ?_
  refine j_iload c dL_law_955 rfl ?_
  refine j_iconst c (nI 1) dL_law_957 (by decide) ?_
  refine j_iadd c _ dL_law_958 (by first | exact nI_add _ _ | rfl) ?_
  refine j_sld c lg dL_law_959 (by omega) hN31 ?_
  refine j_aload_n c dL_law_960 rfl ?_
  refine j_iload c dL_law_961 rfl ?_
  refine j_iconst c (nI 2) dL_law_963 (by decide) ?_
  refine j_iadd c _ dL_law_964 (by first | exact nI_add _ _ | rfl) ?_
  refine j_sld c lg dL_law_965 (by omega) hN31 ?_
  refine j_callV c kw_L_111 ((sp_gapM hM1 hW _ _).toM hM1) dL_law_966 rfl rfl (by decide) (Nat.le_of_ble_eq_true rfl) (Nat.le_of_ble_eq_true rfl) rfl rfl ?_
  rintro _ σ2 ⟨rfl, hM2, f2⟩
  refine j_icmp_eq c 1134 dL_law_969 (by decide) (fun _ => ?_) (fun h_9 => absurd (by rfl) h_9)
  exact nx σ2 ⟨_, hW, hKd, hX1.low (hW).2.2.2.1 (fun q hq => f2 q (Or.inl (by omega))), hM2⟩
theorem law_20 {Γ : Gm} {N i : Nat} {xs : Nat → Int32} {T : TS} {σ : Sg} {u v : Option PV} (c : Cx Γ RL cL_law 10) (lg : LwG Γ N xs) (hN31 : N < 2 ^ 31) (hi : i + 5 ≤ N) (hW : WF T) (hKd : KdOK T) (hX : InvX T σ) (hM : InvM T none σ) (nx : ∀ σ' : Sg, Bth σ' → J Γ 1134 [some (.inr 68), some (.inr 0), some (.inr 50), some (.inr 67), some (.inl (nI i)), u, v] [] σ') : J Γ 974 [some (.inr 68), some (.inr 0), some (.inr 50), some (.inr 67), some (.inl (nI i)), u, v] [] σ := by
  refine j_aload_n c dL_law_974 rfl ?_
  refine j_aload_n c dL_law_975 rfl ?_
  refine j_iload c dL_law_976 rfl ?_
  refine j_iconst c (nI 1) dL_law_978 (by decide) ?_
  refine j_iadd c _ dL_law_979 (by first | exact nI_add _ _ | rfl) ?_
  refine j_sld c lg dL_law_980 (by omega) hN31 ?_
  refine j_aload_n c dL_law_981 rfl ?_
  refine j_iload c dL_law_982 rfl ?_
  refine j_iconst c (nI 2) dL_law_984 (by decide) ?_
  refine j_iadd c _ dL_law_985 (by first | exact nI_add _ _ | rfl) ?_
  refine j_sld c lg dL_law_986 (by omega) hN31 ?_
  refine j_aload_n c dL_law_987 rfl ?_
  refine j_iload c dL_law_988 rfl ?_
  refine j_iconst c (nI 3) dL_law_990 (by decide) ?_
  refine j_iadd c _ dL_law_991 (by first | exact nI_add _ _ | rfl) ?_
  refine j_sld c lg dL_law_992 (by omega) hN31 ?_
  refine j_callV c kw_L_112 ((sp_fightX hX hW _ _ _).toX hX) dL_law_993 rfl rfl (by decide) (Nat.le_of_ble_eq_true rfl) (Nat.le_of_ble_eq_true rfl) rfl rfl ?_
  rintro _ σ1 ⟨rfl, hX1, f1⟩
  have hM1 : InvM T none σ1 := hM.hi (fun q h1 _ => f1 q h1)
  refine j_aload_n c dL_law_996 rfl ?_
  refine j_aload_n c dL_law_997 rfl ?_
  refine j_iload c dL_law_998 rfl ?_
  refine j_iconst c (nI 1) dL_law_1000 (by decide) ?_
  refine j_iadd c _ dL_law_1001 (by first | exact nI_add _ _ | rfl) ?_
  refine j_sld c lg dL_law_1002 (by omega) hN31 ?_
  refine j_aload_n c dL_law_1003 rfl ?_
  refine j_iload c dL_law_1004 rfl ?_
  refine j_iconst c (nI 2) dL_law_1006 (by decide) ?_
  refine j_iadd c _ dL_law_1007 (by first | exact nI_add _ _ | rfl) ?_
  refine j_sld c lg dL_law_1008 (by omega) hN31 ?_
  refine j_aload_n c dL_law_1009 rfl ?_
  refine j_iload c dL_law_1010 rfl ?_
  refine j_iconst c (nI 3) dL_law_1012 (by decide) ?_
  refine j_iadd c _ dL_law_1013 (by first | exact nI_add _ _ | rfl) ?_
  refine j_sld c lg dL_law_1014 (by omega) hN31 ?_
  refine j_callV c kw_L_115 ((sp_fightM hM1 hW _ _ _).toM hM1) dL_law_1015 rfl rfl (by decide) (Nat.le_of_ble_eq_true rfl) (Nat.le_of_ble_eq_true rfl) rfl rfl ?_
  rintro _ σ2 ⟨rfl, hM2, f2⟩
  refine j_icmp_eq c 1134 dL_law_1018 (by decide) (fun _ => ?_) (fun h_9 => absurd (by rfl) h_9)
  exact nx σ2 ⟨_, hW, hKd, hX1.low (hW).2.2.2.1 (fun q hq => f2 q (Or.inl (by omega))), hM2⟩
theorem law_21 {Γ : Gm} {N i : Nat} {xs : Nat → Int32} {T : TS} {σ : Sg} {u v : Option PV} (c : Cx Γ RL cL_law 10) (lg : LwG Γ N xs) (hN31 : N < 2 ^ 31) (hi : i + 5 ≤ N) (hW : WF T) (hKd : KdOK T) (hX : InvX T σ) (hM : InvM T none σ) (nx : ∀ σ' : Sg, Bth σ' → J Γ 1134 [some (.inr 68), some (.inr 0), some (.inr 50), some (.inr 67), some (.inl (nI i)), u, v] [] σ') : J Γ 1023 [some (.inr 68), some (.inr 0), some (.inr 50), some (.inr 67), some (.inl (nI i)), u, v] [] σ := by
  refine j_aload_n c dL_law_1023 rfl ?_
  refine j_aload_n c dL_law_1024 rfl ?_
  refine j_iload c dL_law_1025 rfl ?_
  refine j_iconst c (nI 1) dL_law_1027 (by decide) ?_
  refine j_iadd c _ dL_law_1028 (by first | exact nI_add _ _ | rfl) ?_
  refine j_sld c lg dL_law_1029 (by omega) hN31 ?_
  refine j_aload_n c dL_law_1030 rfl ?_
  refine j_iload c dL_law_1031 rfl ?_
  refine j_iconst c (nI 2) dL_law_1033 (by decide) ?_
  refine j_iadd c _ dL_law_1034 (by first | exact nI_add _ _ | rfl) ?_
  refine j_sld c lg dL_law_1035 (by omega) hN31 ?_
  refine j_aload_n c dL_law_1036 rfl ?_
  refine j_iload c dL_law_1037 rfl ?_
  refine j_iconst c (nI 3) dL_law_1039 (by decide) ?_
  refine j_iadd c _ dL_law_1040 (by first | exact nI_add _ _ | rfl) ?_
  refine j_sld c lg dL_law_1041 (by omega) hN31 ?_
  refine j_callV c kw_L_116 (sp_poleX hX hW _ _ _) dL_law_1042 rfl rfl (by decide) (Nat.le_of_ble_eq_true rfl) (Nat.le_of_ble_eq_true rfl) rfl rfl ?_
  rintro _ σ1 ⟨rfl, hX1, f1⟩
  have hM1 : InvM T none σ1 := hM.hi (fun q h1 _ => f1 q h1)
  refine j_aload_n c dL_law_1045 rfl ?_
  refine j_aload_n c dL_law_1046 rfl ?_
  refine j_iload c dL_law_1047 rfl ?_
  refine j_iconst c (nI 1) dL_law_1049 (by decide) ?_
  refine j_iadd c _ dL_law_1050 (by first | exact nI_add _ _ | rfl) ?_
  refine j_sld c lg dL_law_1051 (by omega) hN31 ?_
  refine j_aload_n c dL_law_1052 rfl ?_
  refine j_iload c dL_law_1053 rfl ?_
  refine j_iconst c (nI 2) dL_law_1055 (by decide) ?_
  refine j_iadd c _ dL_law_1056 (by first | exact nI_add _ _ | rfl) ?_
  refine j_sld c lg dL_law_1057 (by omega) hN31 ?_
  refine j_aload_n c dL_law_1058 rfl ?_
  refine j_iload c dL_law_1059 rfl ?_
  refine j_iconst c (nI 3) dL_law_1061 (by decide) ?_
  refine j_iadd c _ dL_law_1062 (by first | exact nI_add _ _ | rfl) ?_
  refine j_sld c lg dL_law_1063 (by omega) hN31 ?_
  refine j_callV c kw_L_119 ((sp_poleM hM1 hW _ _ _).toM hM1) dL_law_1064 rfl rfl (by decide) (Nat.le_of_ble_eq_true rfl) (Nat.le_of_ble_eq_true rfl) rfl rfl ?_
  rintro _ σ2 ⟨rfl, hM2, f2⟩
  refine j_icmp_eq c 1134 dL_law_1067 (by decide) (fun _ => ?_) (fun h_9 => absurd (by rfl) h_9)
  exact nx σ2 ⟨_, hW, hKd, hX1.low (hW).2.2.2.1 (fun q hq => f2 q (Or.inl (by omega))), hM2⟩
theorem law_22 {Γ : Gm} {N i : Nat} {xs : Nat → Int32} {T : TS} {σ : Sg} {u v : Option PV} (c : Cx Γ RL cL_law 10) (lg : LwG Γ N xs) (hN31 : N < 2 ^ 31) (hi : i + 5 ≤ N) (hW : WF T) (hKd : KdOK T) (hX : InvX T σ) (hM : InvM T none σ) (nx : ∀ σ' : Sg, Bth σ' → J Γ 1134 [some (.inr 68), some (.inr 0), some (.inr 50), some (.inr 67), some (.inl (nI i)), u, v] [] σ') : J Γ 1072 [some (.inr 68), some (.inr 0), some (.inr 50), some (.inr 67), some (.inl (nI i)), u, v] [] σ := by
  refine j_aload_n c dL_law_1072 rfl ?_
  refine j_aload_n c dL_law_1073 rfl ?_
  refine j_iload c dL_law_1074 rfl ?_
  refine j_iconst c (nI 1) dL_law_1076 (by decide) ?_
  refine j_iadd c _ dL_law_1077 (by first | exact nI_add _ _ | rfl) ?_
  refine j_sld c lg dL_law_1078 (by omega) hN31 ?_
  refine j_aload_n c dL_law_1079 rfl ?_
  refine j_iload c dL_law_1080 rfl ?_
  refine j_iconst c (nI 2) dL_law_1082 (by decide) ?_
  refine j_iadd c _ dL_law_1083 (by first | exact nI_add _ _ | rfl) ?_
  refine j_sld c lg dL_law_1084 (by omega) hN31 ?_
  refine j_callV c kw_L_120 (sp_changeX hX hW _ _) dL_law_1085 rfl rfl (by decide) (Nat.le_of_ble_eq_true rfl) (Nat.le_of_ble_eq_true rfl) rfl rfl ?_
  rintro _ σ1 ⟨rfl, hX1, f1⟩
  have hM1 : InvM T none σ1 := hM.hi (fun q h1 _ => f1 q h1)
  refine j_aload_n c dL_law_1088 rfl ?_
  refine j_aload_n c dL_law_1089 rfl ?_
  refine j_iload c dL_law_1090 rfl ?_
  refine j_iconst c (nI 1) dL_law_1092 (by decide) ?_
  refine j_iadd c _ dL_law_1093 (by first | exact nI_add _ _ | rfl) ?_
  refine j_sld c lg dL_law_1094 (by omega) hN31 ?_
  refine j_aload_n c dL_law_1095 rfl ?_
  refine j_iload c dL_law_1096 rfl ?_
  refine j_iconst c (nI 2) dL_law_1098 (by decide) ?_
  refine j_iadd c _ dL_law_1099 (by first | exact nI_add _ _ | rfl) ?_
  refine j_sld c lg dL_law_1100 (by omega) hN31 ?_
  refine j_callV c kw_L_123 (sp_changeM hM1 hW _ _) dL_law_1101 rfl rfl (by decide) (Nat.le_of_ble_eq_true rfl) (Nat.le_of_ble_eq_true rfl) rfl rfl ?_
  rintro _ σ2 ⟨rfl, hM2, f2⟩
  refine j_icmp_eq c 1134 dL_law_1104 (by decide) (fun _ => ?_) (fun h_9 => absurd (by rfl) h_9)
  exact nx σ2 ⟨_, hW, hKd, hX1.low (hW).2.2.2.1 (fun q hq => f2 q (Or.inl (by omega))), hM2⟩
theorem law_23 {Γ : Gm} {N i : Nat} {xs : Nat → Int32} {T : TS} {σ : Sg} {u v : Option PV} (c : Cx Γ RL cL_law 10) (lg : LwG Γ N xs) (hN31 : N < 2 ^ 31) (hi : i + 5 ≤ N) (hW : WF T) (hKd : KdOK T) (hX : InvX T σ) (hM : InvM T none σ) (nx : ∀ σ' : Sg, Bth σ' → J Γ 1134 [some (.inr 68), some (.inr 0), some (.inr 50), some (.inr 67), some (.inl (nI i)), u, v] [] σ') : J Γ 1109 [some (.inr 68), some (.inr 0), some (.inr 50), some (.inr 67), some (.inl (nI i)), u, v] [] σ := by
  refine j_aload_n c dL_law_1109 rfl ?_
  refine j_aload_n c dL_law_1110 rfl ?_
  refine j_iload c dL_law_1111 rfl ?_
  refine j_iconst c (nI 1) dL_law_1113 (by decide) ?_
  refine j_iadd c _ dL_law_1114 (by first | exact nI_add _ _ | rfl) ?_
  refine j_sld c lg dL_law_1115 (by omega) hN31 ?_
  refine j_callV c kw_L_124 (sp_settleX hX hW _) dL_law_1116 rfl rfl (by decide) (Nat.le_of_ble_eq_true rfl) (Nat.le_of_ble_eq_true rfl) rfl rfl ?_
  rintro _ σ1 ⟨rfl, hX1, f1⟩
  have hM1 : InvM T none σ1 := hM.hi (fun q h1 _ => f1 q h1)
  refine j_aload_n c dL_law_1119 rfl ?_
  refine j_aload_n c dL_law_1120 rfl ?_
  refine j_iload c dL_law_1121 rfl ?_
  refine j_iconst c (nI 1) dL_law_1123 (by decide) ?_
  refine j_iadd c _ dL_law_1124 (by first | exact nI_add _ _ | rfl) ?_
  refine j_sld c lg dL_law_1125 (by omega) hN31 ?_
  refine j_callV c kw_L_127 (sp_settleM hM1 hW _) dL_law_1126 rfl rfl (by decide) (Nat.le_of_ble_eq_true rfl) (Nat.le_of_ble_eq_true rfl) rfl rfl ?_
  rintro _ σ2 ⟨rfl, hM2, f2⟩
  refine j_icmp_eq c 1134 dL_law_1129 (by decide) (fun _ => ?_) (fun h_9 => absurd (by rfl) h_9)
  exact nx σ2 ⟨_, hW, hKd, hX1.low (hW).2.2.2.1 (fun q hq => f2 q (Or.inl (by omega))), hM2⟩
theorem law_10 {Γ : Gm} {N i : Nat} {xs : Nat → Int32} {T : TS} {σ : Sg} {u v : Option PV} (c : Cx Γ RL cL_law 10) (rm : RmX Γ) (lg : LwG Γ N xs) (hN31 : N < 2 ^ 31) (hi : i + 5 ≤ N) (hW : WF T) (hKd : KdOK T) (hX : InvX T σ) (hM : InvM T none σ) (nx : ∀ (σ' : Sg) (u v : Option PV), Bth σ' → J (bmp Γ) 1134 [some (.inr 68), some (.inr 0), some (.inr 50), some (.inr 67), some (.inl (nI i)), u, v] [] σ') : J Γ 518 [some (.inr 68), some (.inr 0), some (.inr 50), some (.inr 67), some (.inl (nI i)), u, v] [] σ := by
  refine j_aload_n c dL_law_518 rfl ?_
  refine j_aload_n c dL_law_519 rfl ?_
  refine j_iload c dL_law_520 rfl ?_
  refine j_iconst c (nI 1) dL_law_522 (by decide) ?_
  refine j_iadd c _ dL_law_523 (by first | exact nI_add _ _ | rfl) ?_
  refine j_sld c lg dL_law_524 (by omega) hN31 ?_
  refine j_aload_n c dL_law_525 rfl ?_
  refine j_iload c dL_law_526 rfl ?_
  refine j_iconst c (nI 2) dL_law_528 (by decide) ?_
  refine j_iadd c _ dL_law_529 (by first | exact nI_add _ _ | rfl) ?_
  refine j_sld c lg dL_law_530 (by omega) hN31 ?_
  refine j_aload_n c dL_law_531 rfl ?_
  refine j_iload c dL_law_532 rfl ?_
  refine j_iconst c (nI 3) dL_law_534 (by decide) ?_
  refine j_iadd c _ dL_law_535 (by first | exact nI_add _ _ | rfl) ?_
  refine j_sld c lg dL_law_536 (by omega) hN31 ?_
  refine j_aload_n c dL_law_537 rfl ?_
  refine j_callSH c rm ch_67 (sp_L_at hX hW _ _ _) dL_law_538 rfl rfl (by decide) (Nat.le_of_ble_eq_true rfl) ?_
  rintro _ σ1 ⟨rfl, hX1, h67, f1⟩
  have c := c.bmp rm
  have lg := lwg_bmp lg
  have hM1 : InvM T none σ1 := hM.hi (fun q h1 h2 => f1 q h1 (by omega))
  refine j_istore c dL_law_541 (Nat.le_of_ble_eq_true rfl) rfl ?_
  refine j_aload_n c dL_law_543 rfl ?_
  refine j_aload_n c dL_law_544 rfl ?_
  refine j_iload c dL_law_545 rfl ?_
  refine j_iconst c (nI 1) dL_law_547 (by decide) ?_
  refine j_iadd c _ dL_law_548 (by first | exact nI_add _ _ | rfl) ?_
  refine j_sld c lg dL_law_549 (by omega) hN31 ?_
  refine j_aload_n c dL_law_550 rfl ?_
  refine j_iload c dL_law_551 rfl ?_
  refine j_iconst c (nI 2) dL_law_553 (by decide) ?_
  refine j_iadd c _ dL_law_554 (by first | exact nI_add _ _ | rfl) ?_
  refine j_sld c lg dL_law_555 (by omega) hN31 ?_
  refine j_aload_n c dL_law_556 rfl ?_
  refine j_iload c dL_law_557 rfl ?_
  refine j_iconst c (nI 3) dL_law_559 (by decide) ?_
  refine j_iadd c _ dL_law_560 (by first | exact nI_add _ _ | rfl) ?_
  refine j_sld c lg dL_law_561 (by omega) hN31 ?_
  refine j_callV c kw_L_72 (sp_atM hM1 hW _ _ _) dL_law_562 rfl rfl (by decide) (Nat.le_of_ble_eq_true rfl) (Nat.le_of_ble_eq_true rfl) rfl rfl ?_
  rintro _ σ2 ⟨k2, k0, w, rfl, hw⟩
  have hX2 : InvX T σ2 := hX1.low hW.2.2.2.1 (fun q hq => k2.1 q (by omega) (by omega))
  have hM2 : InvM T none σ2 := hM1.keep k2
  refine j_istore c dL_law_565 (Nat.le_of_ble_eq_true rfl) rfl ?_
  refine j_aload_n c dL_law_567 rfl ?_
  refine j_callV1 c kw_L_73 (sp_thrown σ2) dL_law_568 rfl rfl (by decide) (Nat.le_of_ble_eq_true rfl) (Nat.le_of_ble_eq_true rfl) rfl rfl ?_
  rw [k0]
  refine j_iload c dL_law_571 rfl ?_
  refine j_icmp_eq c 578 dL_law_573 (by decide) (fun _ => ?_) (fun h_9 => absurd (by rfl) h_9)
  refine j_iload c dL_law_578 rfl ?_
  cases hok : okAt T (xs (i + 1)) (xs (i + 2)) (xs (i + 3)) with
  | false =>
    refine j_if_ne c 595 dL_law_580 (by decide) (fun _ => ?_) (fun h_9 => absurd h_9 (by show ¬ bI true = 0; decide))
    refine j_goto c 1134 dL_law_595 (by decide) ?_
    exact nx σ2 _ _ ⟨T, hW, hKd, hX2, hM2⟩
  | true =>
    refine j_if_ne c 595 dL_law_580 (by decide) (fun h_9 => absurd (by rfl) h_9) (fun _ => ?_)
    refine j_aload_n c dL_law_583 rfl ?_
    refine j_iconst c (nI 0) dL_law_584 (by decide) ?_
    refine j_lcmp c dL_law_585 dL_law_586 dL_law_588 dL_law_589 rfl (by rw [k2.2.2 67 (Nat.le_refl _), h67 hok, hw hok]) ?_
    refine j_if_eq c 595 dL_law_590 (by decide) (fun _ => ?_) (fun h_9 => absurd (by rfl) h_9)
    refine j_goto c 1134 dL_law_595 (by decide) ?_
    exact nx σ2 _ _ ⟨T, hW, hKd, hX2, hM2⟩
theorem law_16 {Γ : Gm} {N i : Nat} {xs : Nat → Int32} {T : TS} {σ : Sg} {u v : Option PV} (c : Cx Γ RL cL_law 10) (rm : RmX Γ) (lg : LwG Γ N xs) (hN31 : N < 2 ^ 31) (hi : i + 5 ≤ N) (hW : WF T) (hKd : KdOK T) (hX : InvX T σ) (hM : InvM T none σ) (nx : ∀ (σ' : Sg) (u v : Option PV), Bth σ' → J (bmp Γ) 1134 [some (.inr 68), some (.inr 0), some (.inr 50), some (.inr 67), some (.inl (nI i)), u, v] [] σ') : J Γ 795 [some (.inr 68), some (.inr 0), some (.inr 50), some (.inr 67), some (.inl (nI i)), u, v] [] σ := by
  refine j_aload_n c dL_law_795 rfl ?_
  refine j_aload_n c dL_law_796 rfl ?_
  refine j_iload c dL_law_797 rfl ?_
  refine j_iconst c (nI 1) dL_law_799 (by decide) ?_
  refine j_iadd c _ dL_law_800 (by first | exact nI_add _ _ | rfl) ?_
  refine j_sld c lg dL_law_801 (by omega) hN31 ?_
  refine j_aload_n c dL_law_802 rfl ?_
  refine j_iload c dL_law_803 rfl ?_
  refine j_iconst c (nI 2) dL_law_805 (by decide) ?_
  refine j_iadd c _ dL_law_806 (by first | exact nI_add _ _ | rfl) ?_
  refine j_sld c lg dL_law_807 (by omega) hN31 ?_
  refine j_aload_n c dL_law_808 rfl ?_
  refine j_callSH c rm ch_96 (sp_L_work hX hW hKd _ _) dL_law_809 rfl rfl (by decide) (Nat.le_of_ble_eq_true rfl) ?_
  rintro _ σ1 ⟨rfl, hX1, h67, f1⟩
  have c := c.bmp rm
  have lg := lwg_bmp lg
  have hM1 : InvM T none σ1 := hM.hi (fun q h1 h2 => f1 q h1 (by omega))
  refine j_istore c dL_law_812 (Nat.le_of_ble_eq_true rfl) rfl ?_
  refine j_aload_n c dL_law_814 rfl ?_
  refine j_aload_n c dL_law_815 rfl ?_
  refine j_iload c dL_law_816 rfl ?_
  refine j_iconst c (nI 1) dL_law_818 (by decide) ?_
  refine j_iadd c _ dL_law_819 (by first | exact nI_add _ _ | rfl) ?_
  refine j_sld c lg dL_law_820 (by omega) hN31 ?_
  refine j_aload_n c dL_law_821 rfl ?_
  refine j_iload c dL_law_822 rfl ?_
  refine j_iconst c (nI 2) dL_law_824 (by decide) ?_
  refine j_iadd c _ dL_law_825 (by first | exact nI_add _ _ | rfl) ?_
  refine j_sld c lg dL_law_826 (by omega) hN31 ?_
  refine j_callV c kw_L_99 (sp_workM hM1 hW hKd _ _) dL_law_827 rfl rfl (by decide) (Nat.le_of_ble_eq_true rfl) (Nat.le_of_ble_eq_true rfl) rfl rfl ?_
  rintro _ σ2 ⟨k2, k0, w, rfl, hw⟩
  have hX2 : InvX T σ2 := hX1.low hW.2.2.2.1 (fun q hq => k2.1 q (by omega) (by omega))
  have hM2 : InvM T none σ2 := hM1.keep k2
  refine j_istore c dL_law_830 (Nat.le_of_ble_eq_true rfl) rfl ?_
  refine j_aload_n c dL_law_832 rfl ?_
  refine j_callV1 c kw_L_73 (sp_thrown σ2) dL_law_833 rfl rfl (by decide) (Nat.le_of_ble_eq_true rfl) (Nat.le_of_ble_eq_true rfl) rfl rfl ?_
  rw [k0]
  refine j_iload c dL_law_836 rfl ?_
  refine j_icmp_eq c 843 dL_law_838 (by decide) (fun _ => ?_) (fun h_9 => absurd (by rfl) h_9)
  refine j_iload c dL_law_843 rfl ?_
  cases hok : okWork T (xs (i + 1)) (xs (i + 2)) with
  | false =>
    refine j_if_ne c 860 dL_law_845 (by decide) (fun _ => ?_) (fun h_9 => absurd h_9 (by show ¬ bI true = 0; decide))
    refine j_goto c 1134 dL_law_860 (by decide) ?_
    exact nx σ2 _ _ ⟨T, hW, hKd, hX2, hM2⟩
  | true =>
    refine j_if_ne c 860 dL_law_845 (by decide) (fun h_9 => absurd (by rfl) h_9) (fun _ => ?_)
    refine j_aload_n c dL_law_848 rfl ?_
    refine j_iconst c (nI 0) dL_law_849 (by decide) ?_
    refine j_lcmp c dL_law_850 dL_law_851 dL_law_853 dL_law_854 rfl (by rw [k2.2.2 67 (Nat.le_refl _), h67 hok, hw hok]) ?_
    refine j_if_eq c 860 dL_law_855 (by decide) (fun _ => ?_) (fun h_9 => absurd (by rfl) h_9)
    refine j_goto c 1134 dL_law_860 (by decide) ?_
    exact nx σ2 _ _ ⟨T, hW, hKd, hX2, hM2⟩
