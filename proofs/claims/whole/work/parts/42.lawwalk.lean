set_option maxRecDepth 100000 in
set_option maxHeartbeats 4000000 in
theorem k_L_law_924 {G : xG} {post : Int32 → xMem → Prop} (hG : xOk G cL_law RL wsL_law room_1) (hQ : xLawQ G post) (L : Nat) (xs : Nat → Int32) (hX : xScr G L xs) {r18 : xMem → Int32 → Prop} (hr18 : ∀ (M : xMem) (p3 : Int32), r18 M p3 → xW G M [some (.ref (xa G 300)), some (.ref (xa G 0)), some (.ref (xa G 81)), some (.int p3)] [] 18) : ∀ (M : xMem) (p3 : Int32), b_L_law_924 post L xs r18 M p3 → xW G M [some (.ref (xa G 300)), some (.ref (xa G 0)), some (.ref (xa G 81)), some (.int p3)] [] 924 := by
  intro M p3 h
  unfold b_L_law_924 at h
  refine x_iinc (v := _) hG dL_law_924 rfl (x_iincE (k := 5) (by decide)) (Nat.le_of_ble_eq_true rfl) rfl ?_
  refine x_goto (tgt := 18) hG dL_law_927 (by decide) ?_
  refine x_keep [true, true, true, true] rfl ?_
  exact hr18 _ _ h
set_option maxRecDepth 100000 in
set_option maxHeartbeats 4000000 in
theorem k_L_law_18 {G : xG} {post : Int32 → xMem → Prop} (hG : xOk G cL_law RL wsL_law room_1) (hQ : xLawQ G post) (L : Nat) (xs : Nat → Int32) (hX : xScr G L xs) : ∀ (M : xMem) (p3 : Int32), xlp2 (b_L_law_18 post L xs) M p3 → xW G M [some (.ref (xa G 300)), some (.ref (xa G 0)), some (.ref (xa G 81)), some (.int p3)] [] 18 := by
  refine xlp2_W (W := fun M p3 => xW G M [some (.ref (xa G 300)), some (.ref (xa G 0)), some (.ref (xa G 81)), some (.int p3)] [] 18) (fun r18 hr18 => ?_)
  intro M p3 h
  unfold b_L_law_18 at h
  refine x_iload_n hG dL_law_18 rfl rfl ?_
  refine x_aload_n hG dL_law_19 rfl rfl ?_
  refine x_sln hG hX dL_law_20 ?_
  refine x_iconst (v := (5 : Int32)) hG dL_law_21 (by decide) ?_
  refine x_isub hG dL_law_22 ?_
  refine x_icmp_gt (tgt := 930) hG dL_law_23 (by decide) (fun hc1 => ?_) (fun hc1 => ?_)
  · have h := h.1 hc1
    refine x_iconst (v := (1 : Int32)) hG dL_law_930 (by decide) ?_
    exact x_lawret hG hQ dL_law_931 h
  · have h := h.2 hc1
    refine x_aload_n hG dL_law_26 rfl rfl ?_
    refine x_iload_n hG dL_law_27 rfl rfl ?_
    obtain ⟨hi2, h⟩ := h
    refine x_sld hG hX dL_law_28 hi2 ?_
    refine x_bipush (v := (31 : Int32)) hG dL_law_29 (by decide) ?_
    refine x_iand hG dL_law_31 ?_
    by_cases hc3 : ((xs p3.toNatClampNeg) &&& (31 : Int32)) = 0
    · have h := h.1 hc3
      refine x_tsIn (tgt := 148) hG dL_law_32 0 (by rw [hc3]; decide) rfl rfl (by decide) ?_
      refine x_aload_n hG dL_law_148 rfl rfl ?_
      refine x_aload_n hG dL_law_149 rfl rfl ?_
      refine x_iload_n hG dL_law_150 rfl rfl ?_
      refine x_iconst (v := (1 : Int32)) hG dL_law_151 (by decide) ?_
      refine x_iadd hG dL_law_152 ?_
      obtain ⟨hi4, h⟩ := h
      refine x_sld hG hX dL_law_153 hi4 ?_
      refine x_i2l hG dL_law_154 ?_
      refine x_bipush (v := (32 : Int32)) hG dL_law_155 (by decide) ?_
      refine x_lshl hG dL_law_157 ?_
      refine x_aload_n hG dL_law_158 rfl rfl ?_
      refine x_iload_n hG dL_law_159 rfl rfl ?_
      refine x_iconst (v := (2 : Int32)) hG dL_law_160 (by decide) ?_
      refine x_iadd hG dL_law_161 ?_
      obtain ⟨hi5, h⟩ := h
      refine x_sld hG hX dL_law_162 hi5 ?_
      refine x_i2l hG dL_law_163 ?_
      refine x_ldc2 (v := (4294967295 : Int64)) hG dL_law_164 (List.mem_of_getElem? (i := 6) rfl) ?_
      refine x_land hG dL_law_167 ?_
      refine x_lor hG dL_law_168 ?_
      refine x_aload_n hG dL_law_169 rfl rfl ?_
      refine x_iload_n hG dL_law_170 rfl rfl ?_
      refine x_iconst (v := (3 : Int32)) hG dL_law_171 (by decide) ?_
      refine x_iadd hG dL_law_172 ?_
      obtain ⟨hi6, h⟩ := h
      refine x_sld hG hX dL_law_173 hi6 ?_
      refine x_cVI2 hG dL_law_174 (fun ha => c_X8_type ha h) gL_law_X8_type rfl ⟨rfl, rfl⟩ hy_X8_type ⟨Nat.le_of_ble_eq_true rfl, Nat.le_of_ble_eq_true rfl⟩ (kd_lt (rfl : kd 0 = 8) (by decide)) (fun _ => xc_8 (rfl : kd 0 = 8)) rfl (Nat.le_of_ble_eq_true rfl) (fun z7 M8 h => ?_)
      refine x_aload_n hG dL_law_177 rfl rfl ?_
      refine x_aload_n hG dL_law_178 rfl rfl ?_
      refine x_iload_n hG dL_law_179 rfl rfl ?_
      refine x_iconst (v := (1 : Int32)) hG dL_law_180 (by decide) ?_
      refine x_iadd hG dL_law_181 ?_
      obtain ⟨hi9, h⟩ := h
      refine x_sld hG hX dL_law_182 hi9 ?_
      refine x_i2l hG dL_law_183 ?_
      refine x_bipush (v := (32 : Int32)) hG dL_law_184 (by decide) ?_
      refine x_lshl hG dL_law_186 ?_
      refine x_aload_n hG dL_law_187 rfl rfl ?_
      refine x_iload_n hG dL_law_188 rfl rfl ?_
      refine x_iconst (v := (2 : Int32)) hG dL_law_189 (by decide) ?_
      refine x_iadd hG dL_law_190 ?_
      obtain ⟨hi10, h⟩ := h
      refine x_sld hG hX dL_law_191 hi10 ?_
      refine x_i2l hG dL_law_192 ?_
      refine x_ldc2 (v := (4294967295 : Int64)) hG dL_law_193 (List.mem_of_getElem? (i := 6) rfl) ?_
      refine x_land hG dL_law_196 ?_
      refine x_lor hG dL_law_197 ?_
      refine x_aload_n hG dL_law_198 rfl rfl ?_
      refine x_iload_n hG dL_law_199 rfl rfl ?_
      refine x_iconst (v := (3 : Int32)) hG dL_law_200 (by decide) ?_
      refine x_iadd hG dL_law_201 ?_
      obtain ⟨hi11, h⟩ := h
      refine x_sld hG hX dL_law_202 hi11 ?_
      refine x_cVI2 hG dL_law_203 (fun ha => c_X9_type ha h) gL_law_X9_type rfl ⟨rfl, rfl⟩ hy_X9_type ⟨Nat.le_of_ble_eq_true rfl, Nat.le_of_ble_eq_true rfl⟩ (kd_lt (rfl : kd 81 = 9) (by decide)) (fun _ => xc_9 (rfl : kd 81 = 9)) rfl (Nat.le_of_ble_eq_true rfl) (fun z12 M13 h => ?_)
      refine x_icmp_eq (tgt := 924) hG dL_law_206 (by decide) (fun hc14 => ?_) (fun hc14 => ?_)
      · have h := h.1 hc14
        refine x_keep [true, true, true, true] rfl ?_
        exact k_L_law_924 hG hQ L xs hX hr18 _ _ h
      · have h := h.2 hc14
        refine x_iconst (v := (0 : Int32)) hG dL_law_209 (by decide) ?_
        exact x_lawret hG hQ dL_law_210 h
    have h := h.2
    by_cases hc15 : ((xs p3.toNatClampNeg) &&& (31 : Int32)) = 1
    · have h := h.1 hc15
      refine x_tsIn (tgt := 211) hG dL_law_32 1 (by rw [hc15]; decide) rfl rfl (by decide) ?_
      refine x_aload_n hG dL_law_211 rfl rfl ?_
      refine x_cVI0 hG dL_law_212 (fun ha => c_X8_clear ha h) gL_law_X8_clear rfl ⟨rfl, rfl⟩ hy_X8_clear ⟨Nat.le_of_ble_eq_true rfl, Nat.le_of_ble_eq_true rfl⟩ (kd_lt (rfl : kd 0 = 8) (by decide)) (fun _ => xc_8 (rfl : kd 0 = 8)) rfl (Nat.le_of_ble_eq_true rfl) (fun z16 M17 h => ?_)
      refine x_aload_n hG dL_law_215 rfl rfl ?_
      refine x_cVI0 hG dL_law_216 (fun ha => c_X9_clear ha h) gL_law_X9_clear rfl ⟨rfl, rfl⟩ hy_X9_clear ⟨Nat.le_of_ble_eq_true rfl, Nat.le_of_ble_eq_true rfl⟩ (kd_lt (rfl : kd 81 = 9) (by decide)) (fun _ => xc_9 (rfl : kd 81 = 9)) rfl (Nat.le_of_ble_eq_true rfl) (fun z18 M19 h => ?_)
      refine x_icmp_eq (tgt := 924) hG dL_law_219 (by decide) (fun hc20 => ?_) (fun hc20 => ?_)
      · have h := h.1 hc20
        refine x_keep [true, true, true, true] rfl ?_
        exact k_L_law_924 hG hQ L xs hX hr18 _ _ h
      · have h := h.2 hc20
        refine x_iconst (v := (0 : Int32)) hG dL_law_222 (by decide) ?_
        exact x_lawret hG hQ dL_law_223 h
    have h := h.2
    by_cases hc21 : ((xs p3.toNatClampNeg) &&& (31 : Int32)) = 2
    · have h := h.1 hc21
      refine x_tsIn (tgt := 224) hG dL_law_32 2 (by rw [hc21]; decide) rfl rfl (by decide) ?_
      refine x_aload_n hG dL_law_224 rfl rfl ?_
      refine x_cVI0 hG dL_law_225 (fun ha => c_X8_hill ha h) gL_law_X8_hill rfl ⟨rfl, rfl⟩ hy_X8_hill ⟨Nat.le_of_ble_eq_true rfl, Nat.le_of_ble_eq_true rfl⟩ (kd_lt (rfl : kd 0 = 8) (by decide)) (fun _ => xc_8 (rfl : kd 0 = 8)) rfl (Nat.le_of_ble_eq_true rfl) (fun z22 M23 h => ?_)
      refine x_aload_n hG dL_law_228 rfl rfl ?_
      refine x_cVI0 hG dL_law_229 (fun ha => c_X9_hill ha h) gL_law_X9_hill rfl ⟨rfl, rfl⟩ hy_X9_hill ⟨Nat.le_of_ble_eq_true rfl, Nat.le_of_ble_eq_true rfl⟩ (kd_lt (rfl : kd 81 = 9) (by decide)) (fun _ => xc_9 (rfl : kd 81 = 9)) rfl (Nat.le_of_ble_eq_true rfl) (fun z24 M25 h => ?_)
      refine x_icmp_eq (tgt := 924) hG dL_law_232 (by decide) (fun hc26 => ?_) (fun hc26 => ?_)
      · have h := h.1 hc26
        refine x_keep [true, true, true, true] rfl ?_
        exact k_L_law_924 hG hQ L xs hX hr18 _ _ h
      · have h := h.2 hc26
        refine x_iconst (v := (0 : Int32)) hG dL_law_235 (by decide) ?_
        exact x_lawret hG hQ dL_law_236 h
    have h := h.2
    by_cases hc27 : ((xs p3.toNatClampNeg) &&& (31 : Int32)) = 3
    · have h := h.1 hc27
      refine x_tsIn (tgt := 237) hG dL_law_32 3 (by rw [hc27]; decide) rfl rfl (by decide) ?_
      refine x_aload_n hG dL_law_237 rfl rfl ?_
      refine x_aload_n hG dL_law_238 rfl rfl ?_
      refine x_iload_n hG dL_law_239 rfl rfl ?_
      refine x_iconst (v := (1 : Int32)) hG dL_law_240 (by decide) ?_
      refine x_iadd hG dL_law_241 ?_
      obtain ⟨hi28, h⟩ := h
      refine x_sld hG hX dL_law_242 hi28 ?_
      refine x_aload_n hG dL_law_243 rfl rfl ?_
      refine x_iload_n hG dL_law_244 rfl rfl ?_
      refine x_iconst (v := (2 : Int32)) hG dL_law_245 (by decide) ?_
      refine x_iadd hG dL_law_246 ?_
      obtain ⟨hi29, h⟩ := h
      refine x_sld hG hX dL_law_247 hi29 ?_
      refine x_aload_n hG dL_law_248 rfl rfl ?_
      refine x_iload_n hG dL_law_249 rfl rfl ?_
      refine x_iconst (v := (3 : Int32)) hG dL_law_250 (by decide) ?_
      refine x_iadd hG dL_law_251 ?_
      obtain ⟨hi30, h⟩ := h
      refine x_sld hG hX dL_law_252 hi30 ?_
      refine x_cVI3 hG dL_law_253 (fun ha => c_X8_between ha h) gL_law_X8_between rfl ⟨rfl, rfl⟩ hy_X8_between ⟨Nat.le_of_ble_eq_true rfl, Nat.le_of_ble_eq_true rfl⟩ (kd_lt (rfl : kd 0 = 8) (by decide)) (fun _ => xc_8 (rfl : kd 0 = 8)) rfl (Nat.le_of_ble_eq_true rfl) (fun z31 M32 h => ?_)
      refine x_aload_n hG dL_law_256 rfl rfl ?_
      refine x_aload_n hG dL_law_257 rfl rfl ?_
      refine x_iload_n hG dL_law_258 rfl rfl ?_
      refine x_iconst (v := (1 : Int32)) hG dL_law_259 (by decide) ?_
      refine x_iadd hG dL_law_260 ?_
      obtain ⟨hi33, h⟩ := h
      refine x_sld hG hX dL_law_261 hi33 ?_
      refine x_aload_n hG dL_law_262 rfl rfl ?_
      refine x_iload_n hG dL_law_263 rfl rfl ?_
      refine x_iconst (v := (2 : Int32)) hG dL_law_264 (by decide) ?_
      refine x_iadd hG dL_law_265 ?_
      obtain ⟨hi34, h⟩ := h
      refine x_sld hG hX dL_law_266 hi34 ?_
      refine x_aload_n hG dL_law_267 rfl rfl ?_
      refine x_iload_n hG dL_law_268 rfl rfl ?_
      refine x_iconst (v := (3 : Int32)) hG dL_law_269 (by decide) ?_
      refine x_iadd hG dL_law_270 ?_
      obtain ⟨hi35, h⟩ := h
      refine x_sld hG hX dL_law_271 hi35 ?_
      refine x_cVI3 hG dL_law_272 (fun ha => c_X9_between ha h) gL_law_X9_between rfl ⟨rfl, rfl⟩ hy_X9_between ⟨Nat.le_of_ble_eq_true rfl, Nat.le_of_ble_eq_true rfl⟩ (kd_lt (rfl : kd 81 = 9) (by decide)) (fun _ => xc_9 (rfl : kd 81 = 9)) rfl (Nat.le_of_ble_eq_true rfl) (fun z36 M37 h => ?_)
      refine x_icmp_eq (tgt := 924) hG dL_law_275 (by decide) (fun hc38 => ?_) (fun hc38 => ?_)
      · have h := h.1 hc38
        refine x_keep [true, true, true, true] rfl ?_
        exact k_L_law_924 hG hQ L xs hX hr18 _ _ h
      · have h := h.2 hc38
        refine x_iconst (v := (0 : Int32)) hG dL_law_278 (by decide) ?_
        exact x_lawret hG hQ dL_law_279 h
    have h := h.2
    by_cases hc39 : ((xs p3.toNatClampNeg) &&& (31 : Int32)) = 4
    · have h := h.1 hc39
      refine x_tsIn (tgt := 280) hG dL_law_32 4 (by rw [hc39]; decide) rfl rfl (by decide) ?_
      refine x_aload_n hG dL_law_280 rfl rfl ?_
      refine x_aload_n hG dL_law_281 rfl rfl ?_
      refine x_iload_n hG dL_law_282 rfl rfl ?_
      refine x_iconst (v := (1 : Int32)) hG dL_law_283 (by decide) ?_
      refine x_iadd hG dL_law_284 ?_
      obtain ⟨hi40, h⟩ := h
      refine x_sld hG hX dL_law_285 hi40 ?_
      refine x_aload_n hG dL_law_286 rfl rfl ?_
      refine x_iload_n hG dL_law_287 rfl rfl ?_
      refine x_iconst (v := (2 : Int32)) hG dL_law_288 (by decide) ?_
      refine x_iadd hG dL_law_289 ?_
      obtain ⟨hi41, h⟩ := h
      refine x_sld hG hX dL_law_290 hi41 ?_
      refine x_aload_n hG dL_law_291 rfl rfl ?_
      refine x_iload_n hG dL_law_292 rfl rfl ?_
      refine x_iconst (v := (3 : Int32)) hG dL_law_293 (by decide) ?_
      refine x_iadd hG dL_law_294 ?_
      obtain ⟨hi42, h⟩ := h
      refine x_sld hG hX dL_law_295 hi42 ?_
      refine x_aload_n hG dL_law_296 rfl rfl ?_
      refine x_iload_n hG dL_law_297 rfl rfl ?_
      refine x_iconst (v := (4 : Int32)) hG dL_law_298 (by decide) ?_
      refine x_iadd hG dL_law_299 ?_
      obtain ⟨hi43, h⟩ := h
      refine x_sld hG hX dL_law_300 hi43 ?_
      refine x_cVI4 hG dL_law_301 (fun ha => c_X8_build ha h) gL_law_X8_build rfl ⟨rfl, rfl⟩ hy_X8_build ⟨Nat.le_of_ble_eq_true rfl, Nat.le_of_ble_eq_true rfl⟩ (kd_lt (rfl : kd 0 = 8) (by decide)) (fun _ => xc_8 (rfl : kd 0 = 8)) rfl (Nat.le_of_ble_eq_true rfl) (fun z44 M45 h => ?_)
      refine x_aload_n hG dL_law_304 rfl rfl ?_
      refine x_aload_n hG dL_law_305 rfl rfl ?_
      refine x_iload_n hG dL_law_306 rfl rfl ?_
      refine x_iconst (v := (1 : Int32)) hG dL_law_307 (by decide) ?_
      refine x_iadd hG dL_law_308 ?_
      obtain ⟨hi46, h⟩ := h
      refine x_sld hG hX dL_law_309 hi46 ?_
      refine x_aload_n hG dL_law_310 rfl rfl ?_
      refine x_iload_n hG dL_law_311 rfl rfl ?_
      refine x_iconst (v := (2 : Int32)) hG dL_law_312 (by decide) ?_
      refine x_iadd hG dL_law_313 ?_
      obtain ⟨hi47, h⟩ := h
      refine x_sld hG hX dL_law_314 hi47 ?_
      refine x_aload_n hG dL_law_315 rfl rfl ?_
      refine x_iload_n hG dL_law_316 rfl rfl ?_
      refine x_iconst (v := (3 : Int32)) hG dL_law_317 (by decide) ?_
      refine x_iadd hG dL_law_318 ?_
      obtain ⟨hi48, h⟩ := h
      refine x_sld hG hX dL_law_319 hi48 ?_
      refine x_aload_n hG dL_law_320 rfl rfl ?_
      refine x_iload_n hG dL_law_321 rfl rfl ?_
      refine x_iconst (v := (4 : Int32)) hG dL_law_322 (by decide) ?_
      refine x_iadd hG dL_law_323 ?_
      obtain ⟨hi49, h⟩ := h
      refine x_sld hG hX dL_law_324 hi49 ?_
      refine x_cVI4 hG dL_law_325 (fun ha => c_X9_build ha h) gL_law_X9_build rfl ⟨rfl, rfl⟩ hy_X9_build ⟨Nat.le_of_ble_eq_true rfl, Nat.le_of_ble_eq_true rfl⟩ (kd_lt (rfl : kd 81 = 9) (by decide)) (fun _ => xc_9 (rfl : kd 81 = 9)) rfl (Nat.le_of_ble_eq_true rfl) (fun z50 M51 h => ?_)
      refine x_icmp_eq (tgt := 924) hG dL_law_328 (by decide) (fun hc52 => ?_) (fun hc52 => ?_)
      · have h := h.1 hc52
        refine x_keep [true, true, true, true] rfl ?_
        exact k_L_law_924 hG hQ L xs hX hr18 _ _ h
      · have h := h.2 hc52
        refine x_iconst (v := (0 : Int32)) hG dL_law_331 (by decide) ?_
        exact x_lawret hG hQ dL_law_332 h
    have h := h.2
    by_cases hc53 : ((xs p3.toNatClampNeg) &&& (31 : Int32)) = 5
    · have h := h.1 hc53
      refine x_tsIn (tgt := 333) hG dL_law_32 5 (by rw [hc53]; decide) rfl rfl (by decide) ?_
      refine x_aload_n hG dL_law_333 rfl rfl ?_
      refine x_aload_n hG dL_law_334 rfl rfl ?_
      refine x_iload_n hG dL_law_335 rfl rfl ?_
      refine x_iconst (v := (1 : Int32)) hG dL_law_336 (by decide) ?_
      refine x_iadd hG dL_law_337 ?_
      obtain ⟨hi54, h⟩ := h
      refine x_sld hG hX dL_law_338 hi54 ?_
      refine x_aload_n hG dL_law_339 rfl rfl ?_
      refine x_iload_n hG dL_law_340 rfl rfl ?_
      refine x_iconst (v := (2 : Int32)) hG dL_law_341 (by decide) ?_
      refine x_iadd hG dL_law_342 ?_
      obtain ⟨hi55, h⟩ := h
      refine x_sld hG hX dL_law_343 hi55 ?_
      refine x_cVI2 hG dL_law_344 (fun ha => c_X8_wind ha h) gL_law_X8_wind rfl ⟨rfl, rfl⟩ hy_X8_wind ⟨Nat.le_of_ble_eq_true rfl, Nat.le_of_ble_eq_true rfl⟩ (kd_lt (rfl : kd 0 = 8) (by decide)) (fun _ => xc_8 (rfl : kd 0 = 8)) rfl (Nat.le_of_ble_eq_true rfl) (fun z56 M57 h => ?_)
      refine x_aload_n hG dL_law_347 rfl rfl ?_
      refine x_aload_n hG dL_law_348 rfl rfl ?_
      refine x_iload_n hG dL_law_349 rfl rfl ?_
      refine x_iconst (v := (1 : Int32)) hG dL_law_350 (by decide) ?_
      refine x_iadd hG dL_law_351 ?_
      obtain ⟨hi58, h⟩ := h
      refine x_sld hG hX dL_law_352 hi58 ?_
      refine x_aload_n hG dL_law_353 rfl rfl ?_
      refine x_iload_n hG dL_law_354 rfl rfl ?_
      refine x_iconst (v := (2 : Int32)) hG dL_law_355 (by decide) ?_
      refine x_iadd hG dL_law_356 ?_
      obtain ⟨hi59, h⟩ := h
      refine x_sld hG hX dL_law_357 hi59 ?_
      refine x_cVI2 hG dL_law_358 (fun ha => c_X9_wind ha h) gL_law_X9_wind rfl ⟨rfl, rfl⟩ hy_X9_wind ⟨Nat.le_of_ble_eq_true rfl, Nat.le_of_ble_eq_true rfl⟩ (kd_lt (rfl : kd 81 = 9) (by decide)) (fun _ => xc_9 (rfl : kd 81 = 9)) rfl (Nat.le_of_ble_eq_true rfl) (fun z60 M61 h => ?_)
      refine x_icmp_eq (tgt := 924) hG dL_law_361 (by decide) (fun hc62 => ?_) (fun hc62 => ?_)
      · have h := h.1 hc62
        refine x_keep [true, true, true, true] rfl ?_
        exact k_L_law_924 hG hQ L xs hX hr18 _ _ h
      · have h := h.2 hc62
        refine x_iconst (v := (0 : Int32)) hG dL_law_364 (by decide) ?_
        exact x_lawret hG hQ dL_law_365 h
    have h := h.2
    by_cases hc63 : ((xs p3.toNatClampNeg) &&& (31 : Int32)) = 6
    · have h := h.1 hc63
      refine x_tsIn (tgt := 366) hG dL_law_32 6 (by rw [hc63]; decide) rfl rfl (by decide) ?_
      refine x_aload_n hG dL_law_366 rfl rfl ?_
      refine x_aload_n hG dL_law_367 rfl rfl ?_
      refine x_iload_n hG dL_law_368 rfl rfl ?_
      refine x_iconst (v := (1 : Int32)) hG dL_law_369 (by decide) ?_
      refine x_iadd hG dL_law_370 ?_
      obtain ⟨hi64, h⟩ := h
      refine x_sld hG hX dL_law_371 hi64 ?_
      refine x_cVI1 hG dL_law_372 (fun ha => c_X8_fade ha h) gL_law_X8_fade rfl ⟨rfl, rfl⟩ hy_X8_fade ⟨Nat.le_of_ble_eq_true rfl, Nat.le_of_ble_eq_true rfl⟩ (kd_lt (rfl : kd 0 = 8) (by decide)) (fun _ => xc_8 (rfl : kd 0 = 8)) rfl (Nat.le_of_ble_eq_true rfl) (fun z65 M66 h => ?_)
      refine x_aload_n hG dL_law_375 rfl rfl ?_
      refine x_aload_n hG dL_law_376 rfl rfl ?_
      refine x_iload_n hG dL_law_377 rfl rfl ?_
      refine x_iconst (v := (1 : Int32)) hG dL_law_378 (by decide) ?_
      refine x_iadd hG dL_law_379 ?_
      obtain ⟨hi67, h⟩ := h
      refine x_sld hG hX dL_law_380 hi67 ?_
      refine x_cVI1 hG dL_law_381 (fun ha => c_X9_fade ha h) gL_law_X9_fade rfl ⟨rfl, rfl⟩ hy_X9_fade ⟨Nat.le_of_ble_eq_true rfl, Nat.le_of_ble_eq_true rfl⟩ (kd_lt (rfl : kd 81 = 9) (by decide)) (fun _ => xc_9 (rfl : kd 81 = 9)) rfl (Nat.le_of_ble_eq_true rfl) (fun z68 M69 h => ?_)
      refine x_icmp_eq (tgt := 924) hG dL_law_384 (by decide) (fun hc70 => ?_) (fun hc70 => ?_)
      · have h := h.1 hc70
        refine x_keep [true, true, true, true] rfl ?_
        exact k_L_law_924 hG hQ L xs hX hr18 _ _ h
      · have h := h.2 hc70
        refine x_iconst (v := (0 : Int32)) hG dL_law_387 (by decide) ?_
        exact x_lawret hG hQ dL_law_388 h
    have h := h.2
    by_cases hc71 : ((xs p3.toNatClampNeg) &&& (31 : Int32)) = 7
    · have h := h.1 hc71
      refine x_tsIn (tgt := 389) hG dL_law_32 7 (by rw [hc71]; decide) rfl rfl (by decide) ?_
      refine x_aload_n hG dL_law_389 rfl rfl ?_
      refine x_aload_n hG dL_law_390 rfl rfl ?_
      refine x_iload_n hG dL_law_391 rfl rfl ?_
      refine x_iconst (v := (1 : Int32)) hG dL_law_392 (by decide) ?_
      refine x_iadd hG dL_law_393 ?_
      obtain ⟨hi72, h⟩ := h
      refine x_sld hG hX dL_law_394 hi72 ?_
      refine x_aload_n hG dL_law_395 rfl rfl ?_
      refine x_iload_n hG dL_law_396 rfl rfl ?_
      refine x_iconst (v := (2 : Int32)) hG dL_law_397 (by decide) ?_
      refine x_iadd hG dL_law_398 ?_
      obtain ⟨hi73, h⟩ := h
      refine x_sld hG hX dL_law_399 hi73 ?_
      refine x_cVI2 hG dL_law_400 (fun ha => c_X8_worker ha h) gL_law_X8_worker rfl ⟨rfl, rfl⟩ hy_X8_worker ⟨Nat.le_of_ble_eq_true rfl, Nat.le_of_ble_eq_true rfl⟩ (kd_lt (rfl : kd 0 = 8) (by decide)) (fun _ => xc_8 (rfl : kd 0 = 8)) rfl (Nat.le_of_ble_eq_true rfl) (fun z74 M75 h => ?_)
      refine x_aload_n hG dL_law_403 rfl rfl ?_
      refine x_aload_n hG dL_law_404 rfl rfl ?_
      refine x_iload_n hG dL_law_405 rfl rfl ?_
      refine x_iconst (v := (1 : Int32)) hG dL_law_406 (by decide) ?_
      refine x_iadd hG dL_law_407 ?_
      obtain ⟨hi76, h⟩ := h
      refine x_sld hG hX dL_law_408 hi76 ?_
      refine x_aload_n hG dL_law_409 rfl rfl ?_
      refine x_iload_n hG dL_law_410 rfl rfl ?_
      refine x_iconst (v := (2 : Int32)) hG dL_law_411 (by decide) ?_
      refine x_iadd hG dL_law_412 ?_
      obtain ⟨hi77, h⟩ := h
      refine x_sld hG hX dL_law_413 hi77 ?_
      refine x_cVI2 hG dL_law_414 (fun ha => c_X9_worker ha h) gL_law_X9_worker rfl ⟨rfl, rfl⟩ hy_X9_worker ⟨Nat.le_of_ble_eq_true rfl, Nat.le_of_ble_eq_true rfl⟩ (kd_lt (rfl : kd 81 = 9) (by decide)) (fun _ => xc_9 (rfl : kd 81 = 9)) rfl (Nat.le_of_ble_eq_true rfl) (fun z78 M79 h => ?_)
      refine x_icmp_eq (tgt := 924) hG dL_law_417 (by decide) (fun hc80 => ?_) (fun hc80 => ?_)
      · have h := h.1 hc80
        refine x_keep [true, true, true, true] rfl ?_
        exact k_L_law_924 hG hQ L xs hX hr18 _ _ h
      · have h := h.2 hc80
        refine x_iconst (v := (0 : Int32)) hG dL_law_420 (by decide) ?_
        exact x_lawret hG hQ dL_law_421 h
    have h := h.2
    by_cases hc81 : ((xs p3.toNatClampNeg) &&& (31 : Int32)) = 8
    · have h := h.1 hc81
      refine x_tsIn (tgt := 422) hG dL_law_32 8 (by rw [hc81]; decide) rfl rfl (by decide) ?_
      refine x_aload_n hG dL_law_422 rfl rfl ?_
      refine x_aload_n hG dL_law_423 rfl rfl ?_
      refine x_iload_n hG dL_law_424 rfl rfl ?_
      refine x_iconst (v := (1 : Int32)) hG dL_law_425 (by decide) ?_
      refine x_iadd hG dL_law_426 ?_
      obtain ⟨hi82, h⟩ := h
      refine x_sld hG hX dL_law_427 hi82 ?_
      refine x_aload_n hG dL_law_428 rfl rfl ?_
      refine x_iload_n hG dL_law_429 rfl rfl ?_
      refine x_iconst (v := (2 : Int32)) hG dL_law_430 (by decide) ?_
      refine x_iadd hG dL_law_431 ?_
      obtain ⟨hi83, h⟩ := h
      refine x_sld hG hX dL_law_432 hi83 ?_
      refine x_cVI2 hG dL_law_433 (fun ha => c_X8_deed ha h) gL_law_X8_deed rfl ⟨rfl, rfl⟩ hy_X8_deed ⟨Nat.le_of_ble_eq_true rfl, Nat.le_of_ble_eq_true rfl⟩ (kd_lt (rfl : kd 0 = 8) (by decide)) (fun _ => xc_8 (rfl : kd 0 = 8)) rfl (Nat.le_of_ble_eq_true rfl) (fun z84 M85 h => ?_)
      refine x_aload_n hG dL_law_436 rfl rfl ?_
      refine x_aload_n hG dL_law_437 rfl rfl ?_
      refine x_iload_n hG dL_law_438 rfl rfl ?_
      refine x_iconst (v := (1 : Int32)) hG dL_law_439 (by decide) ?_
      refine x_iadd hG dL_law_440 ?_
      obtain ⟨hi86, h⟩ := h
      refine x_sld hG hX dL_law_441 hi86 ?_
      refine x_aload_n hG dL_law_442 rfl rfl ?_
      refine x_iload_n hG dL_law_443 rfl rfl ?_
      refine x_iconst (v := (2 : Int32)) hG dL_law_444 (by decide) ?_
      refine x_iadd hG dL_law_445 ?_
      obtain ⟨hi87, h⟩ := h
      refine x_sld hG hX dL_law_446 hi87 ?_
      refine x_cVI2 hG dL_law_447 (fun ha => c_X9_deed ha h) gL_law_X9_deed rfl ⟨rfl, rfl⟩ hy_X9_deed ⟨Nat.le_of_ble_eq_true rfl, Nat.le_of_ble_eq_true rfl⟩ (kd_lt (rfl : kd 81 = 9) (by decide)) (fun _ => xc_9 (rfl : kd 81 = 9)) rfl (Nat.le_of_ble_eq_true rfl) (fun z88 M89 h => ?_)
      refine x_icmp_eq (tgt := 924) hG dL_law_450 (by decide) (fun hc90 => ?_) (fun hc90 => ?_)
      · have h := h.1 hc90
        refine x_keep [true, true, true, true] rfl ?_
        exact k_L_law_924 hG hQ L xs hX hr18 _ _ h
      · have h := h.2 hc90
        refine x_iconst (v := (0 : Int32)) hG dL_law_453 (by decide) ?_
        exact x_lawret hG hQ dL_law_454 h
    have h := h.2
    by_cases hc91 : ((xs p3.toNatClampNeg) &&& (31 : Int32)) = 9
    · have h := h.1 hc91
      refine x_tsIn (tgt := 455) hG dL_law_32 9 (by rw [hc91]; decide) rfl rfl (by decide) ?_
      refine x_aload_n hG dL_law_455 rfl rfl ?_
      refine x_aload_n hG dL_law_456 rfl rfl ?_
      refine x_iload_n hG dL_law_457 rfl rfl ?_
      refine x_iconst (v := (1 : Int32)) hG dL_law_458 (by decide) ?_
      refine x_iadd hG dL_law_459 ?_
      obtain ⟨hi92, h⟩ := h
      refine x_sld hG hX dL_law_460 hi92 ?_
      refine x_aload_n hG dL_law_461 rfl rfl ?_
      refine x_iload_n hG dL_law_462 rfl rfl ?_
      refine x_iconst (v := (2 : Int32)) hG dL_law_463 (by decide) ?_
      refine x_iadd hG dL_law_464 ?_
      obtain ⟨hi93, h⟩ := h
      refine x_sld hG hX dL_law_465 hi93 ?_
      refine x_cVI2 hG dL_law_466 (fun ha => c_X8_loud ha h) gL_law_X8_loud rfl ⟨rfl, rfl⟩ hy_X8_loud ⟨Nat.le_of_ble_eq_true rfl, Nat.le_of_ble_eq_true rfl⟩ (kd_lt (rfl : kd 0 = 8) (by decide)) (fun _ => xc_8 (rfl : kd 0 = 8)) rfl (Nat.le_of_ble_eq_true rfl) (fun z94 M95 h => ?_)
      refine x_aload_n hG dL_law_469 rfl rfl ?_
      refine x_aload_n hG dL_law_470 rfl rfl ?_
      refine x_iload_n hG dL_law_471 rfl rfl ?_
      refine x_iconst (v := (1 : Int32)) hG dL_law_472 (by decide) ?_
      refine x_iadd hG dL_law_473 ?_
      obtain ⟨hi96, h⟩ := h
      refine x_sld hG hX dL_law_474 hi96 ?_
      refine x_aload_n hG dL_law_475 rfl rfl ?_
      refine x_iload_n hG dL_law_476 rfl rfl ?_
      refine x_iconst (v := (2 : Int32)) hG dL_law_477 (by decide) ?_
      refine x_iadd hG dL_law_478 ?_
      obtain ⟨hi97, h⟩ := h
      refine x_sld hG hX dL_law_479 hi97 ?_
      refine x_cVI2 hG dL_law_480 (fun ha => c_X9_loud ha h) gL_law_X9_loud rfl ⟨rfl, rfl⟩ hy_X9_loud ⟨Nat.le_of_ble_eq_true rfl, Nat.le_of_ble_eq_true rfl⟩ (kd_lt (rfl : kd 81 = 9) (by decide)) (fun _ => xc_9 (rfl : kd 81 = 9)) rfl (Nat.le_of_ble_eq_true rfl) (fun z98 M99 h => ?_)
      refine x_icmp_eq (tgt := 924) hG dL_law_483 (by decide) (fun hc100 => ?_) (fun hc100 => ?_)
      · have h := h.1 hc100
        refine x_keep [true, true, true, true] rfl ?_
        exact k_L_law_924 hG hQ L xs hX hr18 _ _ h
      · have h := h.2 hc100
        refine x_iconst (v := (0 : Int32)) hG dL_law_486 (by decide) ?_
        exact x_lawret hG hQ dL_law_487 h
    have h := h.2
    by_cases hc101 : ((xs p3.toNatClampNeg) &&& (31 : Int32)) = 10
    · have h := h.1 hc101
      refine x_tsIn (tgt := 488) hG dL_law_32 10 (by rw [hc101]; decide) rfl rfl (by decide) ?_
      refine x_aload_n hG dL_law_488 rfl rfl ?_
      refine x_aload_n hG dL_law_489 rfl rfl ?_
      refine x_iload_n hG dL_law_490 rfl rfl ?_
      refine x_iconst (v := (1 : Int32)) hG dL_law_491 (by decide) ?_
      refine x_iadd hG dL_law_492 ?_
      obtain ⟨hi102, h⟩ := h
      refine x_sld hG hX dL_law_493 hi102 ?_
      refine x_aload_n hG dL_law_494 rfl rfl ?_
      refine x_iload_n hG dL_law_495 rfl rfl ?_
      refine x_iconst (v := (2 : Int32)) hG dL_law_496 (by decide) ?_
      refine x_iadd hG dL_law_497 ?_
      obtain ⟨hi103, h⟩ := h
      refine x_sld hG hX dL_law_498 hi103 ?_
      refine x_cVI2 hG dL_law_499 (fun ha => c_X8_heard ha h) gL_law_X8_heard rfl ⟨rfl, rfl⟩ hy_X8_heard ⟨Nat.le_of_ble_eq_true rfl, Nat.le_of_ble_eq_true rfl⟩ (kd_lt (rfl : kd 0 = 8) (by decide)) (fun _ => xc_8 (rfl : kd 0 = 8)) rfl (Nat.le_of_ble_eq_true rfl) (fun z104 M105 h => ?_)
      refine x_aload_n hG dL_law_502 rfl rfl ?_
      refine x_aload_n hG dL_law_503 rfl rfl ?_
      refine x_iload_n hG dL_law_504 rfl rfl ?_
      refine x_iconst (v := (1 : Int32)) hG dL_law_505 (by decide) ?_
      refine x_iadd hG dL_law_506 ?_
      obtain ⟨hi106, h⟩ := h
      refine x_sld hG hX dL_law_507 hi106 ?_
      refine x_aload_n hG dL_law_508 rfl rfl ?_
      refine x_iload_n hG dL_law_509 rfl rfl ?_
      refine x_iconst (v := (2 : Int32)) hG dL_law_510 (by decide) ?_
      refine x_iadd hG dL_law_511 ?_
      obtain ⟨hi107, h⟩ := h
      refine x_sld hG hX dL_law_512 hi107 ?_
      refine x_cVI2 hG dL_law_513 (fun ha => c_X9_heard ha h) gL_law_X9_heard rfl ⟨rfl, rfl⟩ hy_X9_heard ⟨Nat.le_of_ble_eq_true rfl, Nat.le_of_ble_eq_true rfl⟩ (kd_lt (rfl : kd 81 = 9) (by decide)) (fun _ => xc_9 (rfl : kd 81 = 9)) rfl (Nat.le_of_ble_eq_true rfl) (fun z108 M109 h => ?_)
      refine x_icmp_eq (tgt := 924) hG dL_law_516 (by decide) (fun hc110 => ?_) (fun hc110 => ?_)
      · have h := h.1 hc110
        refine x_keep [true, true, true, true] rfl ?_
        exact k_L_law_924 hG hQ L xs hX hr18 _ _ h
      · have h := h.2 hc110
        refine x_iconst (v := (0 : Int32)) hG dL_law_519 (by decide) ?_
        exact x_lawret hG hQ dL_law_520 h
    have h := h.2
    by_cases hc111 : ((xs p3.toNatClampNeg) &&& (31 : Int32)) = 11
    · have h := h.1 hc111
      refine x_tsIn (tgt := 521) hG dL_law_32 11 (by rw [hc111]; decide) rfl rfl (by decide) ?_
      refine x_aload_n hG dL_law_521 rfl rfl ?_
      refine x_aload_n hG dL_law_522 rfl rfl ?_
      refine x_iload_n hG dL_law_523 rfl rfl ?_
      refine x_iconst (v := (1 : Int32)) hG dL_law_524 (by decide) ?_
      refine x_iadd hG dL_law_525 ?_
      obtain ⟨hi112, h⟩ := h
      refine x_sld hG hX dL_law_526 hi112 ?_
      refine x_aload_n hG dL_law_527 rfl rfl ?_
      refine x_iload_n hG dL_law_528 rfl rfl ?_
      refine x_iconst (v := (2 : Int32)) hG dL_law_529 (by decide) ?_
      refine x_iadd hG dL_law_530 ?_
      obtain ⟨hi113, h⟩ := h
      refine x_sld hG hX dL_law_531 hi113 ?_
      refine x_cVI2 hG dL_law_532 (fun ha => c_X8_broken ha h) gL_law_X8_broken rfl ⟨rfl, rfl⟩ hy_X8_broken ⟨Nat.le_of_ble_eq_true rfl, Nat.le_of_ble_eq_true rfl⟩ (kd_lt (rfl : kd 0 = 8) (by decide)) (fun _ => xc_8 (rfl : kd 0 = 8)) rfl (Nat.le_of_ble_eq_true rfl) (fun z114 M115 h => ?_)
      refine x_aload_n hG dL_law_535 rfl rfl ?_
      refine x_aload_n hG dL_law_536 rfl rfl ?_
      refine x_iload_n hG dL_law_537 rfl rfl ?_
      refine x_iconst (v := (1 : Int32)) hG dL_law_538 (by decide) ?_
      refine x_iadd hG dL_law_539 ?_
      obtain ⟨hi116, h⟩ := h
      refine x_sld hG hX dL_law_540 hi116 ?_
      refine x_aload_n hG dL_law_541 rfl rfl ?_
      refine x_iload_n hG dL_law_542 rfl rfl ?_
      refine x_iconst (v := (2 : Int32)) hG dL_law_543 (by decide) ?_
      refine x_iadd hG dL_law_544 ?_
      obtain ⟨hi117, h⟩ := h
      refine x_sld hG hX dL_law_545 hi117 ?_
      refine x_cVI2 hG dL_law_546 (fun ha => c_X9_broken ha h) gL_law_X9_broken rfl ⟨rfl, rfl⟩ hy_X9_broken ⟨Nat.le_of_ble_eq_true rfl, Nat.le_of_ble_eq_true rfl⟩ (kd_lt (rfl : kd 81 = 9) (by decide)) (fun _ => xc_9 (rfl : kd 81 = 9)) rfl (Nat.le_of_ble_eq_true rfl) (fun z118 M119 h => ?_)
      refine x_icmp_eq (tgt := 924) hG dL_law_549 (by decide) (fun hc120 => ?_) (fun hc120 => ?_)
      · have h := h.1 hc120
        refine x_keep [true, true, true, true] rfl ?_
        exact k_L_law_924 hG hQ L xs hX hr18 _ _ h
      · have h := h.2 hc120
        refine x_iconst (v := (0 : Int32)) hG dL_law_552 (by decide) ?_
        exact x_lawret hG hQ dL_law_553 h
    have h := h.2
    by_cases hc121 : ((xs p3.toNatClampNeg) &&& (31 : Int32)) = 12
    · have h := h.1 hc121
      refine x_tsIn (tgt := 554) hG dL_law_32 12 (by rw [hc121]; decide) rfl rfl (by decide) ?_
      refine x_aload_n hG dL_law_554 rfl rfl ?_
      refine x_aload_n hG dL_law_555 rfl rfl ?_
      refine x_iload_n hG dL_law_556 rfl rfl ?_
      refine x_iconst (v := (1 : Int32)) hG dL_law_557 (by decide) ?_
      refine x_iadd hG dL_law_558 ?_
      obtain ⟨hi122, h⟩ := h
      refine x_sld hG hX dL_law_559 hi122 ?_
      refine x_aload_n hG dL_law_560 rfl rfl ?_
      refine x_iload_n hG dL_law_561 rfl rfl ?_
      refine x_iconst (v := (2 : Int32)) hG dL_law_562 (by decide) ?_
      refine x_iadd hG dL_law_563 ?_
      obtain ⟨hi123, h⟩ := h
      refine x_sld hG hX dL_law_564 hi123 ?_
      refine x_aload_n hG dL_law_565 rfl rfl ?_
      refine x_iload_n hG dL_law_566 rfl rfl ?_
      refine x_iconst (v := (3 : Int32)) hG dL_law_567 (by decide) ?_
      refine x_iadd hG dL_law_568 ?_
      obtain ⟨hi124, h⟩ := h
      refine x_sld hG hX dL_law_569 hi124 ?_
      refine x_cVI3 hG dL_law_570 (fun ha => c_X8_plan ha h) gL_law_X8_plan rfl ⟨rfl, rfl⟩ hy_X8_plan ⟨Nat.le_of_ble_eq_true rfl, Nat.le_of_ble_eq_true rfl⟩ (kd_lt (rfl : kd 0 = 8) (by decide)) (fun _ => xc_8 (rfl : kd 0 = 8)) rfl (Nat.le_of_ble_eq_true rfl) (fun z125 M126 h => ?_)
      refine x_aload_n hG dL_law_573 rfl rfl ?_
      refine x_aload_n hG dL_law_574 rfl rfl ?_
      refine x_iload_n hG dL_law_575 rfl rfl ?_
      refine x_iconst (v := (1 : Int32)) hG dL_law_576 (by decide) ?_
      refine x_iadd hG dL_law_577 ?_
      obtain ⟨hi127, h⟩ := h
      refine x_sld hG hX dL_law_578 hi127 ?_
      refine x_aload_n hG dL_law_579 rfl rfl ?_
      refine x_iload_n hG dL_law_580 rfl rfl ?_
      refine x_iconst (v := (2 : Int32)) hG dL_law_581 (by decide) ?_
      refine x_iadd hG dL_law_582 ?_
      obtain ⟨hi128, h⟩ := h
      refine x_sld hG hX dL_law_583 hi128 ?_
      refine x_aload_n hG dL_law_584 rfl rfl ?_
      refine x_iload_n hG dL_law_585 rfl rfl ?_
      refine x_iconst (v := (3 : Int32)) hG dL_law_586 (by decide) ?_
      refine x_iadd hG dL_law_587 ?_
      obtain ⟨hi129, h⟩ := h
      refine x_sld hG hX dL_law_588 hi129 ?_
      refine x_cVI3 hG dL_law_589 (fun ha => c_X9_plan ha h) gL_law_X9_plan rfl ⟨rfl, rfl⟩ hy_X9_plan ⟨Nat.le_of_ble_eq_true rfl, Nat.le_of_ble_eq_true rfl⟩ (kd_lt (rfl : kd 81 = 9) (by decide)) (fun _ => xc_9 (rfl : kd 81 = 9)) rfl (Nat.le_of_ble_eq_true rfl) (fun z130 M131 h => ?_)
      refine x_icmp_eq (tgt := 924) hG dL_law_592 (by decide) (fun hc132 => ?_) (fun hc132 => ?_)
      · have h := h.1 hc132
        refine x_keep [true, true, true, true] rfl ?_
        exact k_L_law_924 hG hQ L xs hX hr18 _ _ h
      · have h := h.2 hc132
        refine x_iconst (v := (0 : Int32)) hG dL_law_595 (by decide) ?_
        exact x_lawret hG hQ dL_law_596 h
    have h := h.2
    by_cases hc133 : ((xs p3.toNatClampNeg) &&& (31 : Int32)) = 13
    · have h := h.1 hc133
      refine x_tsIn (tgt := 597) hG dL_law_32 13 (by rw [hc133]; decide) rfl rfl (by decide) ?_
      refine x_aload_n hG dL_law_597 rfl rfl ?_
      refine x_aload_n hG dL_law_598 rfl rfl ?_
      refine x_iload_n hG dL_law_599 rfl rfl ?_
      refine x_iconst (v := (1 : Int32)) hG dL_law_600 (by decide) ?_
      refine x_iadd hG dL_law_601 ?_
      obtain ⟨hi134, h⟩ := h
      refine x_sld hG hX dL_law_602 hi134 ?_
      refine x_cVI1 hG dL_law_603 (fun ha => c_X8_day ha h) gL_law_X8_day rfl ⟨rfl, rfl⟩ hy_X8_day ⟨Nat.le_of_ble_eq_true rfl, Nat.le_of_ble_eq_true rfl⟩ (kd_lt (rfl : kd 0 = 8) (by decide)) (fun _ => xc_8 (rfl : kd 0 = 8)) rfl (Nat.le_of_ble_eq_true rfl) (fun z135 M136 h => ?_)
      refine x_aload_n hG dL_law_606 rfl rfl ?_
      refine x_aload_n hG dL_law_607 rfl rfl ?_
      refine x_iload_n hG dL_law_608 rfl rfl ?_
      refine x_iconst (v := (1 : Int32)) hG dL_law_609 (by decide) ?_
      refine x_iadd hG dL_law_610 ?_
      obtain ⟨hi137, h⟩ := h
      refine x_sld hG hX dL_law_611 hi137 ?_
      refine x_cVI1 hG dL_law_612 (fun ha => c_X9_day ha h) gL_law_X9_day rfl ⟨rfl, rfl⟩ hy_X9_day ⟨Nat.le_of_ble_eq_true rfl, Nat.le_of_ble_eq_true rfl⟩ (kd_lt (rfl : kd 81 = 9) (by decide)) (fun _ => xc_9 (rfl : kd 81 = 9)) rfl (Nat.le_of_ble_eq_true rfl) (fun z138 M139 h => ?_)
      refine x_icmp_eq (tgt := 924) hG dL_law_615 (by decide) (fun hc140 => ?_) (fun hc140 => ?_)
      · have h := h.1 hc140
        refine x_keep [true, true, true, true] rfl ?_
        exact k_L_law_924 hG hQ L xs hX hr18 _ _ h
      · have h := h.2 hc140
        refine x_iconst (v := (0 : Int32)) hG dL_law_618 (by decide) ?_
        exact x_lawret hG hQ dL_law_619 h
    have h := h.2
    by_cases hc141 : ((xs p3.toNatClampNeg) &&& (31 : Int32)) = 14
    · have h := h.1 hc141
      refine x_tsIn (tgt := 620) hG dL_law_32 14 (by rw [hc141]; decide) rfl rfl (by decide) ?_
      refine x_aload_n hG dL_law_620 rfl rfl ?_
      refine x_aload_n hG dL_law_621 rfl rfl ?_
      refine x_iload_n hG dL_law_622 rfl rfl ?_
      refine x_iconst (v := (1 : Int32)) hG dL_law_623 (by decide) ?_
      refine x_iadd hG dL_law_624 ?_
      obtain ⟨hi142, h⟩ := h
      refine x_sld hG hX dL_law_625 hi142 ?_
      refine x_aload_n hG dL_law_626 rfl rfl ?_
      refine x_iload_n hG dL_law_627 rfl rfl ?_
      refine x_iconst (v := (2 : Int32)) hG dL_law_628 (by decide) ?_
      refine x_iadd hG dL_law_629 ?_
      obtain ⟨hi143, h⟩ := h
      refine x_sld hG hX dL_law_630 hi143 ?_
      refine x_aload_n hG dL_law_631 rfl rfl ?_
      refine x_iload_n hG dL_law_632 rfl rfl ?_
      refine x_iconst (v := (3 : Int32)) hG dL_law_633 (by decide) ?_
      refine x_iadd hG dL_law_634 ?_
      obtain ⟨hi144, h⟩ := h
      refine x_sld hG hX dL_law_635 hi144 ?_
      refine x_cVI3 hG dL_law_636 (fun ha => c_X8_best ha h) gL_law_X8_best rfl ⟨rfl, rfl⟩ hy_X8_best ⟨Nat.le_of_ble_eq_true rfl, Nat.le_of_ble_eq_true rfl⟩ (kd_lt (rfl : kd 0 = 8) (by decide)) (fun _ => xc_8 (rfl : kd 0 = 8)) rfl (Nat.le_of_ble_eq_true rfl) (fun z145 M146 h => ?_)
      refine x_aload_n hG dL_law_639 rfl rfl ?_
      refine x_aload_n hG dL_law_640 rfl rfl ?_
      refine x_iload_n hG dL_law_641 rfl rfl ?_
      refine x_iconst (v := (1 : Int32)) hG dL_law_642 (by decide) ?_
      refine x_iadd hG dL_law_643 ?_
      obtain ⟨hi147, h⟩ := h
      refine x_sld hG hX dL_law_644 hi147 ?_
      refine x_aload_n hG dL_law_645 rfl rfl ?_
      refine x_iload_n hG dL_law_646 rfl rfl ?_
      refine x_iconst (v := (2 : Int32)) hG dL_law_647 (by decide) ?_
      refine x_iadd hG dL_law_648 ?_
      obtain ⟨hi148, h⟩ := h
      refine x_sld hG hX dL_law_649 hi148 ?_
      refine x_aload_n hG dL_law_650 rfl rfl ?_
      refine x_iload_n hG dL_law_651 rfl rfl ?_
      refine x_iconst (v := (3 : Int32)) hG dL_law_652 (by decide) ?_
      refine x_iadd hG dL_law_653 ?_
      obtain ⟨hi149, h⟩ := h
      refine x_sld hG hX dL_law_654 hi149 ?_
      refine x_cVI3 hG dL_law_655 (fun ha => c_X9_best ha h) gL_law_X9_best rfl ⟨rfl, rfl⟩ hy_X9_best ⟨Nat.le_of_ble_eq_true rfl, Nat.le_of_ble_eq_true rfl⟩ (kd_lt (rfl : kd 81 = 9) (by decide)) (fun _ => xc_9 (rfl : kd 81 = 9)) rfl (Nat.le_of_ble_eq_true rfl) (fun z150 M151 h => ?_)
      refine x_icmp_eq (tgt := 924) hG dL_law_658 (by decide) (fun hc152 => ?_) (fun hc152 => ?_)
      · have h := h.1 hc152
        refine x_keep [true, true, true, true] rfl ?_
        exact k_L_law_924 hG hQ L xs hX hr18 _ _ h
      · have h := h.2 hc152
        refine x_iconst (v := (0 : Int32)) hG dL_law_661 (by decide) ?_
        exact x_lawret hG hQ dL_law_662 h
    have h := h.2
    by_cases hc153 : ((xs p3.toNatClampNeg) &&& (31 : Int32)) = 15
    · have h := h.1 hc153
      refine x_tsIn (tgt := 663) hG dL_law_32 15 (by rw [hc153]; decide) rfl rfl (by decide) ?_
      refine x_aload_n hG dL_law_663 rfl rfl ?_
      refine x_aload_n hG dL_law_664 rfl rfl ?_
      refine x_iload_n hG dL_law_665 rfl rfl ?_
      refine x_iconst (v := (1 : Int32)) hG dL_law_666 (by decide) ?_
      refine x_iadd hG dL_law_667 ?_
      obtain ⟨hi154, h⟩ := h
      refine x_sld hG hX dL_law_668 hi154 ?_
      refine x_aload_n hG dL_law_669 rfl rfl ?_
      refine x_iload_n hG dL_law_670 rfl rfl ?_
      refine x_iconst (v := (2 : Int32)) hG dL_law_671 (by decide) ?_
      refine x_iadd hG dL_law_672 ?_
      obtain ⟨hi155, h⟩ := h
      refine x_sld hG hX dL_law_673 hi155 ?_
      refine x_aload_n hG dL_law_674 rfl rfl ?_
      refine x_iload_n hG dL_law_675 rfl rfl ?_
      refine x_iconst (v := (3 : Int32)) hG dL_law_676 (by decide) ?_
      refine x_iadd hG dL_law_677 ?_
      obtain ⟨hi156, h⟩ := h
      refine x_sld hG hX dL_law_678 hi156 ?_
      refine x_cVI3 hG dL_law_679 (fun ha => c_X8_saw ha h) gL_law_X8_saw rfl ⟨rfl, rfl⟩ hy_X8_saw ⟨Nat.le_of_ble_eq_true rfl, Nat.le_of_ble_eq_true rfl⟩ (kd_lt (rfl : kd 0 = 8) (by decide)) (fun _ => xc_8 (rfl : kd 0 = 8)) rfl (Nat.le_of_ble_eq_true rfl) (fun z157 M158 h => ?_)
      refine x_aload_n hG dL_law_682 rfl rfl ?_
      refine x_aload_n hG dL_law_683 rfl rfl ?_
      refine x_iload_n hG dL_law_684 rfl rfl ?_
      refine x_iconst (v := (1 : Int32)) hG dL_law_685 (by decide) ?_
      refine x_iadd hG dL_law_686 ?_
      obtain ⟨hi159, h⟩ := h
      refine x_sld hG hX dL_law_687 hi159 ?_
      refine x_aload_n hG dL_law_688 rfl rfl ?_
      refine x_iload_n hG dL_law_689 rfl rfl ?_
      refine x_iconst (v := (2 : Int32)) hG dL_law_690 (by decide) ?_
      refine x_iadd hG dL_law_691 ?_
      obtain ⟨hi160, h⟩ := h
      refine x_sld hG hX dL_law_692 hi160 ?_
      refine x_aload_n hG dL_law_693 rfl rfl ?_
      refine x_iload_n hG dL_law_694 rfl rfl ?_
      refine x_iconst (v := (3 : Int32)) hG dL_law_695 (by decide) ?_
      refine x_iadd hG dL_law_696 ?_
      obtain ⟨hi161, h⟩ := h
      refine x_sld hG hX dL_law_697 hi161 ?_
      refine x_cVI3 hG dL_law_698 (fun ha => c_X9_saw ha h) gL_law_X9_saw rfl ⟨rfl, rfl⟩ hy_X9_saw ⟨Nat.le_of_ble_eq_true rfl, Nat.le_of_ble_eq_true rfl⟩ (kd_lt (rfl : kd 81 = 9) (by decide)) (fun _ => xc_9 (rfl : kd 81 = 9)) rfl (Nat.le_of_ble_eq_true rfl) (fun z162 M163 h => ?_)
      refine x_icmp_eq (tgt := 924) hG dL_law_701 (by decide) (fun hc164 => ?_) (fun hc164 => ?_)
      · have h := h.1 hc164
        refine x_keep [true, true, true, true] rfl ?_
        exact k_L_law_924 hG hQ L xs hX hr18 _ _ h
      · have h := h.2 hc164
        refine x_iconst (v := (0 : Int32)) hG dL_law_704 (by decide) ?_
        exact x_lawret hG hQ dL_law_705 h
    have h := h.2
    by_cases hc165 : ((xs p3.toNatClampNeg) &&& (31 : Int32)) = 16
    · have h := h.1 hc165
      refine x_tsIn (tgt := 706) hG dL_law_32 16 (by rw [hc165]; decide) rfl rfl (by decide) ?_
      refine x_aload_n hG dL_law_706 rfl rfl ?_
      refine x_aload_n hG dL_law_707 rfl rfl ?_
      refine x_iload_n hG dL_law_708 rfl rfl ?_
      refine x_iconst (v := (1 : Int32)) hG dL_law_709 (by decide) ?_
      refine x_iadd hG dL_law_710 ?_
      obtain ⟨hi166, h⟩ := h
      refine x_sld hG hX dL_law_711 hi166 ?_
      refine x_aload_n hG dL_law_712 rfl rfl ?_
      refine x_iload_n hG dL_law_713 rfl rfl ?_
      refine x_iconst (v := (2 : Int32)) hG dL_law_714 (by decide) ?_
      refine x_iadd hG dL_law_715 ?_
      obtain ⟨hi167, h⟩ := h
      refine x_sld hG hX dL_law_716 hi167 ?_
      refine x_cVI2 hG dL_law_717 (fun ha => c_X8_hear ha h) gL_law_X8_hear rfl ⟨rfl, rfl⟩ hy_X8_hear ⟨Nat.le_of_ble_eq_true rfl, Nat.le_of_ble_eq_true rfl⟩ (kd_lt (rfl : kd 0 = 8) (by decide)) (fun _ => xc_8 (rfl : kd 0 = 8)) rfl (Nat.le_of_ble_eq_true rfl) (fun z168 M169 h => ?_)
      refine x_aload_n hG dL_law_720 rfl rfl ?_
      refine x_aload_n hG dL_law_721 rfl rfl ?_
      refine x_iload_n hG dL_law_722 rfl rfl ?_
      refine x_iconst (v := (1 : Int32)) hG dL_law_723 (by decide) ?_
      refine x_iadd hG dL_law_724 ?_
      obtain ⟨hi170, h⟩ := h
      refine x_sld hG hX dL_law_725 hi170 ?_
      refine x_aload_n hG dL_law_726 rfl rfl ?_
      refine x_iload_n hG dL_law_727 rfl rfl ?_
      refine x_iconst (v := (2 : Int32)) hG dL_law_728 (by decide) ?_
      refine x_iadd hG dL_law_729 ?_
      obtain ⟨hi171, h⟩ := h
      refine x_sld hG hX dL_law_730 hi171 ?_
      refine x_cVI2 hG dL_law_731 (fun ha => c_X9_hear ha h) gL_law_X9_hear rfl ⟨rfl, rfl⟩ hy_X9_hear ⟨Nat.le_of_ble_eq_true rfl, Nat.le_of_ble_eq_true rfl⟩ (kd_lt (rfl : kd 81 = 9) (by decide)) (fun _ => xc_9 (rfl : kd 81 = 9)) rfl (Nat.le_of_ble_eq_true rfl) (fun z172 M173 h => ?_)
      refine x_icmp_eq (tgt := 924) hG dL_law_734 (by decide) (fun hc174 => ?_) (fun hc174 => ?_)
      · have h := h.1 hc174
        refine x_keep [true, true, true, true] rfl ?_
        exact k_L_law_924 hG hQ L xs hX hr18 _ _ h
      · have h := h.2 hc174
        refine x_iconst (v := (0 : Int32)) hG dL_law_737 (by decide) ?_
        exact x_lawret hG hQ dL_law_738 h
    have h := h.2
    by_cases hc175 : ((xs p3.toNatClampNeg) &&& (31 : Int32)) = 17
    · have h := h.1 hc175
      refine x_tsIn (tgt := 739) hG dL_law_32 17 (by rw [hc175]; decide) rfl rfl (by decide) ?_
      refine x_aload_n hG dL_law_739 rfl rfl ?_
      refine x_cVI0 hG dL_law_740 (fun ha => c_X8_forget ha h) gL_law_X8_forget rfl ⟨rfl, rfl⟩ hy_X8_forget ⟨Nat.le_of_ble_eq_true rfl, Nat.le_of_ble_eq_true rfl⟩ (kd_lt (rfl : kd 0 = 8) (by decide)) (fun _ => xc_8 (rfl : kd 0 = 8)) rfl (Nat.le_of_ble_eq_true rfl) (fun z176 M177 h => ?_)
      refine x_aload_n hG dL_law_743 rfl rfl ?_
      refine x_cVI0 hG dL_law_744 (fun ha => c_X9_forget ha h) gL_law_X9_forget rfl ⟨rfl, rfl⟩ hy_X9_forget ⟨Nat.le_of_ble_eq_true rfl, Nat.le_of_ble_eq_true rfl⟩ (kd_lt (rfl : kd 81 = 9) (by decide)) (fun _ => xc_9 (rfl : kd 81 = 9)) rfl (Nat.le_of_ble_eq_true rfl) (fun z178 M179 h => ?_)
      refine x_icmp_eq (tgt := 924) hG dL_law_747 (by decide) (fun hc180 => ?_) (fun hc180 => ?_)
      · have h := h.1 hc180
        refine x_keep [true, true, true, true] rfl ?_
        exact k_L_law_924 hG hQ L xs hX hr18 _ _ h
      · have h := h.2 hc180
        refine x_iconst (v := (0 : Int32)) hG dL_law_750 (by decide) ?_
        exact x_lawret hG hQ dL_law_751 h
    have h := h.2
    by_cases hc181 : ((xs p3.toNatClampNeg) &&& (31 : Int32)) = 18
    · have h := h.1 hc181
      refine x_tsIn (tgt := 752) hG dL_law_32 18 (by rw [hc181]; decide) rfl rfl (by decide) ?_
      refine x_aload_n hG dL_law_752 rfl rfl ?_
      refine x_aload_n hG dL_law_753 rfl rfl ?_
      refine x_iload_n hG dL_law_754 rfl rfl ?_
      refine x_iconst (v := (1 : Int32)) hG dL_law_755 (by decide) ?_
      refine x_iadd hG dL_law_756 ?_
      obtain ⟨hi182, h⟩ := h
      refine x_sld hG hX dL_law_757 hi182 ?_
      refine x_cVI1 hG dL_law_758 (fun ha => c_X8_who ha h) gL_law_X8_who rfl ⟨rfl, rfl⟩ hy_X8_who ⟨Nat.le_of_ble_eq_true rfl, Nat.le_of_ble_eq_true rfl⟩ (kd_lt (rfl : kd 0 = 8) (by decide)) (fun _ => xc_8 (rfl : kd 0 = 8)) rfl (Nat.le_of_ble_eq_true rfl) (fun z183 M184 h => ?_)
      refine x_aload_n hG dL_law_761 rfl rfl ?_
      refine x_aload_n hG dL_law_762 rfl rfl ?_
      refine x_iload_n hG dL_law_763 rfl rfl ?_
      refine x_iconst (v := (1 : Int32)) hG dL_law_764 (by decide) ?_
      refine x_iadd hG dL_law_765 ?_
      obtain ⟨hi185, h⟩ := h
      refine x_sld hG hX dL_law_766 hi185 ?_
      refine x_cVI1 hG dL_law_767 (fun ha => c_X9_who ha h) gL_law_X9_who rfl ⟨rfl, rfl⟩ hy_X9_who ⟨Nat.le_of_ble_eq_true rfl, Nat.le_of_ble_eq_true rfl⟩ (kd_lt (rfl : kd 81 = 9) (by decide)) (fun _ => xc_9 (rfl : kd 81 = 9)) rfl (Nat.le_of_ble_eq_true rfl) (fun z186 M187 h => ?_)
      refine x_icmp_eq (tgt := 924) hG dL_law_770 (by decide) (fun hc188 => ?_) (fun hc188 => ?_)
      · have h := h.1 hc188
        refine x_keep [true, true, true, true] rfl ?_
        exact k_L_law_924 hG hQ L xs hX hr18 _ _ h
      · have h := h.2 hc188
        refine x_iconst (v := (0 : Int32)) hG dL_law_773 (by decide) ?_
        exact x_lawret hG hQ dL_law_774 h
    have h := h.2
    by_cases hc189 : ((xs p3.toNatClampNeg) &&& (31 : Int32)) = 19
    · have h := h.1 hc189
      refine x_tsIn (tgt := 775) hG dL_law_32 19 (by rw [hc189]; decide) rfl rfl (by decide) ?_
      refine x_aload_n hG dL_law_775 rfl rfl ?_
      refine x_aload_n hG dL_law_776 rfl rfl ?_
      refine x_iload_n hG dL_law_777 rfl rfl ?_
      refine x_iconst (v := (1 : Int32)) hG dL_law_778 (by decide) ?_
      refine x_iadd hG dL_law_779 ?_
      obtain ⟨hi190, h⟩ := h
      refine x_sld hG hX dL_law_780 hi190 ?_
      refine x_aload_n hG dL_law_781 rfl rfl ?_
      refine x_iload_n hG dL_law_782 rfl rfl ?_
      refine x_iconst (v := (2 : Int32)) hG dL_law_783 (by decide) ?_
      refine x_iadd hG dL_law_784 ?_
      obtain ⟨hi191, h⟩ := h
      refine x_sld hG hX dL_law_785 hi191 ?_
      refine x_cVI2 hG dL_law_786 (fun ha => c_X8_price ha h) gL_law_X8_price rfl ⟨rfl, rfl⟩ hy_X8_price ⟨Nat.le_of_ble_eq_true rfl, Nat.le_of_ble_eq_true rfl⟩ (kd_lt (rfl : kd 0 = 8) (by decide)) (fun _ => xc_8 (rfl : kd 0 = 8)) rfl (Nat.le_of_ble_eq_true rfl) (fun z192 M193 h => ?_)
      refine x_aload_n hG dL_law_789 rfl rfl ?_
      refine x_aload_n hG dL_law_790 rfl rfl ?_
      refine x_iload_n hG dL_law_791 rfl rfl ?_
      refine x_iconst (v := (1 : Int32)) hG dL_law_792 (by decide) ?_
      refine x_iadd hG dL_law_793 ?_
      obtain ⟨hi194, h⟩ := h
      refine x_sld hG hX dL_law_794 hi194 ?_
      refine x_aload_n hG dL_law_795 rfl rfl ?_
      refine x_iload_n hG dL_law_796 rfl rfl ?_
      refine x_iconst (v := (2 : Int32)) hG dL_law_797 (by decide) ?_
      refine x_iadd hG dL_law_798 ?_
      obtain ⟨hi195, h⟩ := h
      refine x_sld hG hX dL_law_799 hi195 ?_
      refine x_cVI2 hG dL_law_800 (fun ha => c_X9_price ha h) gL_law_X9_price rfl ⟨rfl, rfl⟩ hy_X9_price ⟨Nat.le_of_ble_eq_true rfl, Nat.le_of_ble_eq_true rfl⟩ (kd_lt (rfl : kd 81 = 9) (by decide)) (fun _ => xc_9 (rfl : kd 81 = 9)) rfl (Nat.le_of_ble_eq_true rfl) (fun z196 M197 h => ?_)
      refine x_icmp_eq (tgt := 924) hG dL_law_803 (by decide) (fun hc198 => ?_) (fun hc198 => ?_)
      · have h := h.1 hc198
        refine x_keep [true, true, true, true] rfl ?_
        exact k_L_law_924 hG hQ L xs hX hr18 _ _ h
      · have h := h.2 hc198
        refine x_iconst (v := (0 : Int32)) hG dL_law_806 (by decide) ?_
        exact x_lawret hG hQ dL_law_807 h
    have h := h.2
    by_cases hc199 : ((xs p3.toNatClampNeg) &&& (31 : Int32)) = 20
    · have h := h.1 hc199
      refine x_tsIn (tgt := 808) hG dL_law_32 20 (by rw [hc199]; decide) rfl rfl (by decide) ?_
      refine x_aload_n hG dL_law_808 rfl rfl ?_
      refine x_aload_n hG dL_law_809 rfl rfl ?_
      refine x_iload_n hG dL_law_810 rfl rfl ?_
      refine x_iconst (v := (1 : Int32)) hG dL_law_811 (by decide) ?_
      refine x_iadd hG dL_law_812 ?_
      obtain ⟨hi200, h⟩ := h
      refine x_sld hG hX dL_law_813 hi200 ?_
      refine x_aload_n hG dL_law_814 rfl rfl ?_
      refine x_iload_n hG dL_law_815 rfl rfl ?_
      refine x_iconst (v := (2 : Int32)) hG dL_law_816 (by decide) ?_
      refine x_iadd hG dL_law_817 ?_
      obtain ⟨hi201, h⟩ := h
      refine x_sld hG hX dL_law_818 hi201 ?_
      refine x_cVI2 hG dL_law_819 (fun ha => c_X8_rate ha h) gL_law_X8_rate rfl ⟨rfl, rfl⟩ hy_X8_rate ⟨Nat.le_of_ble_eq_true rfl, Nat.le_of_ble_eq_true rfl⟩ (kd_lt (rfl : kd 0 = 8) (by decide)) (fun _ => xc_8 (rfl : kd 0 = 8)) rfl (Nat.le_of_ble_eq_true rfl) (fun z202 M203 h => ?_)
      refine x_aload_n hG dL_law_822 rfl rfl ?_
      refine x_aload_n hG dL_law_823 rfl rfl ?_
      refine x_iload_n hG dL_law_824 rfl rfl ?_
      refine x_iconst (v := (1 : Int32)) hG dL_law_825 (by decide) ?_
      refine x_iadd hG dL_law_826 ?_
      obtain ⟨hi204, h⟩ := h
      refine x_sld hG hX dL_law_827 hi204 ?_
      refine x_aload_n hG dL_law_828 rfl rfl ?_
      refine x_iload_n hG dL_law_829 rfl rfl ?_
      refine x_iconst (v := (2 : Int32)) hG dL_law_830 (by decide) ?_
      refine x_iadd hG dL_law_831 ?_
      obtain ⟨hi205, h⟩ := h
      refine x_sld hG hX dL_law_832 hi205 ?_
      refine x_cVI2 hG dL_law_833 (fun ha => c_X9_rate ha h) gL_law_X9_rate rfl ⟨rfl, rfl⟩ hy_X9_rate ⟨Nat.le_of_ble_eq_true rfl, Nat.le_of_ble_eq_true rfl⟩ (kd_lt (rfl : kd 81 = 9) (by decide)) (fun _ => xc_9 (rfl : kd 81 = 9)) rfl (Nat.le_of_ble_eq_true rfl) (fun z206 M207 h => ?_)
      refine x_icmp_eq (tgt := 924) hG dL_law_836 (by decide) (fun hc208 => ?_) (fun hc208 => ?_)
      · have h := h.1 hc208
        refine x_keep [true, true, true, true] rfl ?_
        exact k_L_law_924 hG hQ L xs hX hr18 _ _ h
      · have h := h.2 hc208
        refine x_iconst (v := (0 : Int32)) hG dL_law_839 (by decide) ?_
        exact x_lawret hG hQ dL_law_840 h
    have h := h.2
    by_cases hc209 : ((xs p3.toNatClampNeg) &&& (31 : Int32)) = 21
    · have h := h.1 hc209
      refine x_tsIn (tgt := 841) hG dL_law_32 21 (by rw [hc209]; decide) rfl rfl (by decide) ?_
      refine x_aload_n hG dL_law_841 rfl rfl ?_
      refine x_aload_n hG dL_law_842 rfl rfl ?_
      refine x_iload_n hG dL_law_843 rfl rfl ?_
      refine x_iconst (v := (1 : Int32)) hG dL_law_844 (by decide) ?_
      refine x_iadd hG dL_law_845 ?_
      obtain ⟨hi210, h⟩ := h
      refine x_sld hG hX dL_law_846 hi210 ?_
      refine x_cVI1 hG dL_law_847 (fun ha => c_X8_keep ha h) gL_law_X8_keep rfl ⟨rfl, rfl⟩ hy_X8_keep ⟨Nat.le_of_ble_eq_true rfl, Nat.le_of_ble_eq_true rfl⟩ (kd_lt (rfl : kd 0 = 8) (by decide)) (fun _ => xc_8 (rfl : kd 0 = 8)) rfl (Nat.le_of_ble_eq_true rfl) (fun z211 M212 h => ?_)
      refine x_aload_n hG dL_law_850 rfl rfl ?_
      refine x_aload_n hG dL_law_851 rfl rfl ?_
      refine x_iload_n hG dL_law_852 rfl rfl ?_
      refine x_iconst (v := (1 : Int32)) hG dL_law_853 (by decide) ?_
      refine x_iadd hG dL_law_854 ?_
      obtain ⟨hi213, h⟩ := h
      refine x_sld hG hX dL_law_855 hi213 ?_
      refine x_cVI1 hG dL_law_856 (fun ha => c_X9_keep ha h) gL_law_X9_keep rfl ⟨rfl, rfl⟩ hy_X9_keep ⟨Nat.le_of_ble_eq_true rfl, Nat.le_of_ble_eq_true rfl⟩ (kd_lt (rfl : kd 81 = 9) (by decide)) (fun _ => xc_9 (rfl : kd 81 = 9)) rfl (Nat.le_of_ble_eq_true rfl) (fun z214 M215 h => ?_)
      refine x_icmp_eq (tgt := 924) hG dL_law_859 (by decide) (fun hc216 => ?_) (fun hc216 => ?_)
      · have h := h.1 hc216
        refine x_keep [true, true, true, true] rfl ?_
        exact k_L_law_924 hG hQ L xs hX hr18 _ _ h
      · have h := h.2 hc216
        refine x_iconst (v := (0 : Int32)) hG dL_law_862 (by decide) ?_
        exact x_lawret hG hQ dL_law_863 h
    have h := h.2
    by_cases hc217 : ((xs p3.toNatClampNeg) &&& (31 : Int32)) = 22
    · have h := h.1 hc217
      refine x_tsIn (tgt := 864) hG dL_law_32 22 (by rw [hc217]; decide) rfl rfl (by decide) ?_
      refine x_aload_n hG dL_law_864 rfl rfl ?_
      refine x_aload_n hG dL_law_865 rfl rfl ?_
      refine x_iload_n hG dL_law_866 rfl rfl ?_
      refine x_iconst (v := (1 : Int32)) hG dL_law_867 (by decide) ?_
      refine x_iadd hG dL_law_868 ?_
      obtain ⟨hi218, h⟩ := h
      refine x_sld hG hX dL_law_869 hi218 ?_
      refine x_cVI1 hG dL_law_870 (fun ha => c_X8_back ha h) gL_law_X8_back rfl ⟨rfl, rfl⟩ hy_X8_back ⟨Nat.le_of_ble_eq_true rfl, Nat.le_of_ble_eq_true rfl⟩ (kd_lt (rfl : kd 0 = 8) (by decide)) (fun _ => xc_8 (rfl : kd 0 = 8)) rfl (Nat.le_of_ble_eq_true rfl) (fun z219 M220 h => ?_)
      refine x_aload_n hG dL_law_873 rfl rfl ?_
      refine x_aload_n hG dL_law_874 rfl rfl ?_
      refine x_iload_n hG dL_law_875 rfl rfl ?_
      refine x_iconst (v := (1 : Int32)) hG dL_law_876 (by decide) ?_
      refine x_iadd hG dL_law_877 ?_
      obtain ⟨hi221, h⟩ := h
      refine x_sld hG hX dL_law_878 hi221 ?_
      refine x_cVI1 hG dL_law_879 (fun ha => c_X9_back ha h) gL_law_X9_back rfl ⟨rfl, rfl⟩ hy_X9_back ⟨Nat.le_of_ble_eq_true rfl, Nat.le_of_ble_eq_true rfl⟩ (kd_lt (rfl : kd 81 = 9) (by decide)) (fun _ => xc_9 (rfl : kd 81 = 9)) rfl (Nat.le_of_ble_eq_true rfl) (fun z222 M223 h => ?_)
      refine x_icmp_eq (tgt := 924) hG dL_law_882 (by decide) (fun hc224 => ?_) (fun hc224 => ?_)
      · have h := h.1 hc224
        refine x_keep [true, true, true, true] rfl ?_
        exact k_L_law_924 hG hQ L xs hX hr18 _ _ h
      · have h := h.2 hc224
        refine x_iconst (v := (0 : Int32)) hG dL_law_885 (by decide) ?_
        exact x_lawret hG hQ dL_law_886 h
    have h := h.2
    by_cases hc225 : ((xs p3.toNatClampNeg) &&& (31 : Int32)) = 23
    · have h := h.1 hc225
      refine x_tsIn (tgt := 887) hG dL_law_32 23 (by rw [hc225]; decide) rfl rfl (by decide) ?_
      refine x_aload_n hG dL_law_887 rfl rfl ?_
      refine x_aload_n hG dL_law_888 rfl rfl ?_
      refine x_iload_n hG dL_law_889 rfl rfl ?_
      refine x_iconst (v := (1 : Int32)) hG dL_law_890 (by decide) ?_
      refine x_iadd hG dL_law_891 ?_
      obtain ⟨hi226, h⟩ := h
      refine x_sld hG hX dL_law_892 hi226 ?_
      refine x_cVI1 hG dL_law_893 (fun ha => c_X8_count ha h) gL_law_X8_count rfl ⟨rfl, rfl⟩ hy_X8_count ⟨Nat.le_of_ble_eq_true rfl, Nat.le_of_ble_eq_true rfl⟩ (kd_lt (rfl : kd 0 = 8) (by decide)) (fun _ => xc_8 (rfl : kd 0 = 8)) rfl (Nat.le_of_ble_eq_true rfl) (fun z227 M228 h => ?_)
      refine x_aload_n hG dL_law_896 rfl rfl ?_
      refine x_aload_n hG dL_law_897 rfl rfl ?_
      refine x_iload_n hG dL_law_898 rfl rfl ?_
      refine x_iconst (v := (1 : Int32)) hG dL_law_899 (by decide) ?_
      refine x_iadd hG dL_law_900 ?_
      obtain ⟨hi229, h⟩ := h
      refine x_sld hG hX dL_law_901 hi229 ?_
      refine x_cVI1 hG dL_law_902 (fun ha => c_X9_count ha h) gL_law_X9_count rfl ⟨rfl, rfl⟩ hy_X9_count ⟨Nat.le_of_ble_eq_true rfl, Nat.le_of_ble_eq_true rfl⟩ (kd_lt (rfl : kd 81 = 9) (by decide)) (fun _ => xc_9 (rfl : kd 81 = 9)) rfl (Nat.le_of_ble_eq_true rfl) (fun z230 M231 h => ?_)
      refine x_icmp_eq (tgt := 924) hG dL_law_905 (by decide) (fun hc232 => ?_) (fun hc232 => ?_)
      · have h := h.1 hc232
        refine x_keep [true, true, true, true] rfl ?_
        exact k_L_law_924 hG hQ L xs hX hr18 _ _ h
      · have h := h.2 hc232
        refine x_iconst (v := (0 : Int32)) hG dL_law_908 (by decide) ?_
        exact x_lawret hG hQ dL_law_909 h
    have h := h.2
    by_cases hc233 : ((xs p3.toNatClampNeg) &&& (31 : Int32)) = 24
    · have h := h.1 hc233
      refine x_tsIn (tgt := 910) hG dL_law_32 24 (by rw [hc233]; decide) rfl rfl (by decide) ?_
      refine x_aload_n hG dL_law_910 rfl rfl ?_
      refine x_cVL0 hG dL_law_911 (fun ha => c_X8_trace ha h) gL_law_X8_trace rfl ⟨rfl, rfl⟩ hy_X8_trace ⟨Nat.le_of_ble_eq_true rfl, Nat.le_of_ble_eq_true rfl⟩ (kd_lt (rfl : kd 0 = 8) (by decide)) (fun _ => xc_8 (rfl : kd 0 = 8)) rfl (Nat.le_of_ble_eq_true rfl) (fun z234 M235 h => ?_)
      refine x_aload_n hG dL_law_914 rfl rfl ?_
      refine x_cVL0 hG dL_law_915 (fun ha => c_X9_trace ha h) gL_law_X9_trace rfl ⟨rfl, rfl⟩ hy_X9_trace ⟨Nat.le_of_ble_eq_true rfl, Nat.le_of_ble_eq_true rfl⟩ (kd_lt (rfl : kd 81 = 9) (by decide)) (fun _ => xc_9 (rfl : kd 81 = 9)) rfl (Nat.le_of_ble_eq_true rfl) (fun z236 M237 h => ?_)
      refine x_lcmp hG dL_law_918 ?_
      refine x_if_eq (tgt := 924) hG dL_law_919 (by decide) (fun hc238 => ?_) (fun hc238 => ?_)
      · have h := h.1 hc238
        refine x_keep [true, true, true, true] rfl ?_
        exact k_L_law_924 hG hQ L xs hX hr18 _ _ h
      · have h := h.2 hc238
        refine x_iconst (v := (0 : Int32)) hG dL_law_922 (by decide) ?_
        exact x_lawret hG hQ dL_law_923 h
    have h := h.2
    have h := h hc3 hc15 hc21 hc27 hc39 hc53 hc63 hc71 hc81 hc91 hc101 hc111 hc121 hc133 hc141 hc153 hc165 hc175 hc181 hc189 hc199 hc209 hc217 hc225 hc233
    have e0 : ((xs p3.toNatClampNeg) &&& (31 : Int32)).toInt ≠ 0 := fun q => hc3 (Int32.toInt_inj.mp (q.trans (by decide)))
    have e1 : ((xs p3.toNatClampNeg) &&& (31 : Int32)).toInt ≠ 1 := fun q => hc15 (Int32.toInt_inj.mp (q.trans (by decide)))
    have e2 : ((xs p3.toNatClampNeg) &&& (31 : Int32)).toInt ≠ 2 := fun q => hc21 (Int32.toInt_inj.mp (q.trans (by decide)))
    have e3 : ((xs p3.toNatClampNeg) &&& (31 : Int32)).toInt ≠ 3 := fun q => hc27 (Int32.toInt_inj.mp (q.trans (by decide)))
    have e4 : ((xs p3.toNatClampNeg) &&& (31 : Int32)).toInt ≠ 4 := fun q => hc39 (Int32.toInt_inj.mp (q.trans (by decide)))
    have e5 : ((xs p3.toNatClampNeg) &&& (31 : Int32)).toInt ≠ 5 := fun q => hc53 (Int32.toInt_inj.mp (q.trans (by decide)))
    have e6 : ((xs p3.toNatClampNeg) &&& (31 : Int32)).toInt ≠ 6 := fun q => hc63 (Int32.toInt_inj.mp (q.trans (by decide)))
    have e7 : ((xs p3.toNatClampNeg) &&& (31 : Int32)).toInt ≠ 7 := fun q => hc71 (Int32.toInt_inj.mp (q.trans (by decide)))
    have e8 : ((xs p3.toNatClampNeg) &&& (31 : Int32)).toInt ≠ 8 := fun q => hc81 (Int32.toInt_inj.mp (q.trans (by decide)))
    have e9 : ((xs p3.toNatClampNeg) &&& (31 : Int32)).toInt ≠ 9 := fun q => hc91 (Int32.toInt_inj.mp (q.trans (by decide)))
    have e10 : ((xs p3.toNatClampNeg) &&& (31 : Int32)).toInt ≠ 10 := fun q => hc101 (Int32.toInt_inj.mp (q.trans (by decide)))
    have e11 : ((xs p3.toNatClampNeg) &&& (31 : Int32)).toInt ≠ 11 := fun q => hc111 (Int32.toInt_inj.mp (q.trans (by decide)))
    have e12 : ((xs p3.toNatClampNeg) &&& (31 : Int32)).toInt ≠ 12 := fun q => hc121 (Int32.toInt_inj.mp (q.trans (by decide)))
    have e13 : ((xs p3.toNatClampNeg) &&& (31 : Int32)).toInt ≠ 13 := fun q => hc133 (Int32.toInt_inj.mp (q.trans (by decide)))
    have e14 : ((xs p3.toNatClampNeg) &&& (31 : Int32)).toInt ≠ 14 := fun q => hc141 (Int32.toInt_inj.mp (q.trans (by decide)))
    have e15 : ((xs p3.toNatClampNeg) &&& (31 : Int32)).toInt ≠ 15 := fun q => hc153 (Int32.toInt_inj.mp (q.trans (by decide)))
    have e16 : ((xs p3.toNatClampNeg) &&& (31 : Int32)).toInt ≠ 16 := fun q => hc165 (Int32.toInt_inj.mp (q.trans (by decide)))
    have e17 : ((xs p3.toNatClampNeg) &&& (31 : Int32)).toInt ≠ 17 := fun q => hc175 (Int32.toInt_inj.mp (q.trans (by decide)))
    have e18 : ((xs p3.toNatClampNeg) &&& (31 : Int32)).toInt ≠ 18 := fun q => hc181 (Int32.toInt_inj.mp (q.trans (by decide)))
    have e19 : ((xs p3.toNatClampNeg) &&& (31 : Int32)).toInt ≠ 19 := fun q => hc189 (Int32.toInt_inj.mp (q.trans (by decide)))
    have e20 : ((xs p3.toNatClampNeg) &&& (31 : Int32)).toInt ≠ 20 := fun q => hc199 (Int32.toInt_inj.mp (q.trans (by decide)))
    have e21 : ((xs p3.toNatClampNeg) &&& (31 : Int32)).toInt ≠ 21 := fun q => hc209 (Int32.toInt_inj.mp (q.trans (by decide)))
    have e22 : ((xs p3.toNatClampNeg) &&& (31 : Int32)).toInt ≠ 22 := fun q => hc217 (Int32.toInt_inj.mp (q.trans (by decide)))
    have e23 : ((xs p3.toNatClampNeg) &&& (31 : Int32)).toInt ≠ 23 := fun q => hc225 (Int32.toInt_inj.mp (q.trans (by decide)))
    have e24 : ((xs p3.toNatClampNeg) &&& (31 : Int32)).toInt ≠ 24 := fun q => hc233 (Int32.toInt_inj.mp (q.trans (by decide)))
    refine x_tsOut (tgt := 924) hG dL_law_32 (by omega) (by decide) ?_
    refine x_keep [true, true, true, true] rfl ?_
    exact k_L_law_924 hG hQ L xs hX hr18 _ _ h
