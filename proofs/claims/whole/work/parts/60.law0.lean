noncomputable def fK0 (sx : Nat → Int32) (L : Nat) (x m o : Nat) (i : Int32) (σ : St) : Option St :=
(sc sx L (i + 1)).bind fun v198 =>
(sc sx L (i + 2)).bind fun v204 =>
(sc sx L (i + 3)).bind fun v210 =>
(sc sx L (i + 4)).bind fun v216 =>
(sc sx L (i + 5)).bind fun v222 =>
(isO σ x 10).bind fun _ =>
(fX11_feed σ x v198 v204 v210 v216 v222).bind fun w223 =>
(sc sx L (i + 1)).bind fun v232 =>
(sc sx L (i + 2)).bind fun v238 =>
(sc sx L (i + 3)).bind fun v244 =>
(sc sx L (i + 4)).bind fun v250 =>
(sc sx L (i + 5)).bind fun v256 =>
(isO w223.2 m 11).bind fun _ =>
(fX12_feed w223.2 m v232 v238 v244 v250 v256).bind fun w257 =>
if w223.1 = w257.1 then
(some w257.2)
else
(none)
set_option maxHeartbeats 4000000 in
set_option maxRecDepth 100000 in
theorem lK0 {X : xX} {adK adV : Nat → Nat} {b L : Nat} {sx : Nat → Int32} {x m o : Nat} {i : Int32} {σ σ' : St} {k : Nat × Nat} (C : Ok X code 7 RL room_1 (some .boolean)) (hst : (xl X).stackTraces = false) (Ev : xEnv adK adV (xA X) (xs X)) (S : Scr X b L sx) (hk : k.1 + 10 ≤ room_1.cells ∧ k.2 + 60 ≤ room_1.slots) (hf : fK0 sx L x m o i σ = some σ') (kk : ∀ k' : Nat × Nat, k'.1 ≤ k.1 + 10 ∧ k'.2 ≤ k.2 + 60 → Vz X k' σ' 2168 [(0, .ref (b)), (1, .ref (x)), (2, .ref (m)), (3, .ref (o)), (4, .int (i))] []) : Vz X k σ 192 [(0, .ref (b)), (1, .ref (x)), (2, .ref (m)), (3, .ref (o)), (4, .int (i))] [] := by
  unfold fK0 at hf
  refine z_aload_n C dL_law_192 193 rfl 1 rfl rfl ?_
  refine z_aload_n C dL_law_193 194 rfl 0 rfl rfl ?_
  refine z_iload C dL_law_194 196 rfl 4 rfl ?_
  refine z_iconst C dL_law_196 197 rfl 1 (by decide) ?_
  refine z_iadd C dL_law_197 198 rfl ?_
  obtain ⟨v198, hv198, hf⟩ := x_bind hf
  refine z_sld C S hv198 dL_law_198 199 rfl ?_
  refine z_aload_n C dL_law_199 200 rfl 0 rfl rfl ?_
  refine z_iload C dL_law_200 202 rfl 4 rfl ?_
  refine z_iconst C dL_law_202 203 rfl 2 (by decide) ?_
  refine z_iadd C dL_law_203 204 rfl ?_
  obtain ⟨v204, hv204, hf⟩ := x_bind hf
  refine z_sld C S hv204 dL_law_204 205 rfl ?_
  refine z_aload_n C dL_law_205 206 rfl 0 rfl rfl ?_
  refine z_iload C dL_law_206 208 rfl 4 rfl ?_
  refine z_iconst C dL_law_208 209 rfl 3 (by decide) ?_
  refine z_iadd C dL_law_209 210 rfl ?_
  obtain ⟨v210, hv210, hf⟩ := x_bind hf
  refine z_sld C S hv210 dL_law_210 211 rfl ?_
  refine z_aload_n C dL_law_211 212 rfl 0 rfl rfl ?_
  refine z_iload C dL_law_212 214 rfl 4 rfl ?_
  refine z_iconst C dL_law_214 215 rfl 4 (by decide) ?_
  refine z_iadd C dL_law_215 216 rfl ?_
  obtain ⟨v216, hv216, hf⟩ := x_bind hf
  refine z_sld C S hv216 dL_law_216 217 rfl ?_
  refine z_aload_n C dL_law_217 218 rfl 0 rfl rfl ?_
  refine z_iload C dL_law_218 220 rfl 4 rfl ?_
  refine z_iconst C dL_law_220 221 rfl 5 (by decide) ?_
  refine z_iadd C dL_law_221 222 rfl ?_
  obtain ⟨v222, hv222, hf⟩ := x_bind hf
  refine z_sld C S hv222 dL_law_222 223 rfl ?_
  obtain ⟨o223, ho223, hf⟩ := x_bind hf
  obtain ⟨w223, hw223, hf⟩ := x_bind hf
  refine z_callVi C dL_law_223 226 rfl ho223 cl10.1 rfl (cX11_feedc hw223) kX11_feed kvX11_feed w576 ⟨rfl, rfl⟩ ⟨Nat.le_of_ble_eq_true rfl, Nat.le_of_ble_eq_true rfl⟩ (kle hk 0 0 rfl rfl) rfl rfl (Nat.le_of_ble_eq_true rfl) ?_
  refine z_aload_n C dL_law_226 227 rfl 2 rfl rfl ?_
  refine z_aload_n C dL_law_227 228 rfl 0 rfl rfl ?_
  refine z_iload C dL_law_228 230 rfl 4 rfl ?_
  refine z_iconst C dL_law_230 231 rfl 1 (by decide) ?_
  refine z_iadd C dL_law_231 232 rfl ?_
  obtain ⟨v232, hv232, hf⟩ := x_bind hf
  refine z_sld C S hv232 dL_law_232 233 rfl ?_
  refine z_aload_n C dL_law_233 234 rfl 0 rfl rfl ?_
  refine z_iload C dL_law_234 236 rfl 4 rfl ?_
  refine z_iconst C dL_law_236 237 rfl 2 (by decide) ?_
  refine z_iadd C dL_law_237 238 rfl ?_
  obtain ⟨v238, hv238, hf⟩ := x_bind hf
  refine z_sld C S hv238 dL_law_238 239 rfl ?_
  refine z_aload_n C dL_law_239 240 rfl 0 rfl rfl ?_
  refine z_iload C dL_law_240 242 rfl 4 rfl ?_
  refine z_iconst C dL_law_242 243 rfl 3 (by decide) ?_
  refine z_iadd C dL_law_243 244 rfl ?_
  obtain ⟨v244, hv244, hf⟩ := x_bind hf
  refine z_sld C S hv244 dL_law_244 245 rfl ?_
  refine z_aload_n C dL_law_245 246 rfl 0 rfl rfl ?_
  refine z_iload C dL_law_246 248 rfl 4 rfl ?_
  refine z_iconst C dL_law_248 249 rfl 4 (by decide) ?_
  refine z_iadd C dL_law_249 250 rfl ?_
  obtain ⟨v250, hv250, hf⟩ := x_bind hf
  refine z_sld C S hv250 dL_law_250 251 rfl ?_
  refine z_aload_n C dL_law_251 252 rfl 0 rfl rfl ?_
  refine z_iload C dL_law_252 254 rfl 4 rfl ?_
  refine z_iconst C dL_law_254 255 rfl 5 (by decide) ?_
  refine z_iadd C dL_law_255 256 rfl ?_
  obtain ⟨v256, hv256, hf⟩ := x_bind hf
  refine z_sld C S hv256 dL_law_256 257 rfl ?_
  obtain ⟨o257, ho257, hf⟩ := x_bind hf
  obtain ⟨w257, hw257, hf⟩ := x_bind hf
  refine z_callVi C dL_law_257 260 rfl ho257 cl11.1 rfl (cX12_feedc hw257) kX12_feed kvX12_feed w1633 ⟨rfl, rfl⟩ ⟨Nat.le_of_ble_eq_true rfl, Nat.le_of_ble_eq_true rfl⟩ (kle hk 0 0 rfl rfl) rfl rfl (Nat.le_of_ble_eq_true rfl) ?_
  refine z_icmp_eq C dL_law_260 2168 (by decide) 263 rfl (fun hc => ?_) (fun hc => ?_)
  · have hf := (if_pos hc).symm.trans hf
    have e9 := Option.some.inj hf
    subst e9
    exact kk k ⟨Nat.le_add_right _ _, Nat.le_add_right _ _⟩
  · have hf := (if_neg hc).symm.trans hf
    cases hf
noncomputable def fK1 (sx : Nat → Int32) (L : Nat) (x m o : Nat) (i : Int32) (σ : St) : Option St :=
(sc sx L (i + 1)).bind fun v271 =>
(fL_system σ x v271 o).bind fun w273 =>
(sc sx L (i + 1)).bind fun v284 =>
(isO w273.2 m 11).bind fun _ =>
(fX12_system w273.2 m v284).bind fun w285 =>
(isO w285.2 m 11).bind fun _ =>
(fX12_thrown w285.2 m).bind fun w291 =>
if w291 = w273.1 then
(if w273.1 = 0 then
((aL w285.2 o 0).bind fun v308 =>
if (lg_cmp v308 w285.1.toInt64) = 0 then
(some w285.2)
else
(none))
else
(some w285.2))
else
(none)
set_option maxHeartbeats 4000000 in
set_option maxRecDepth 100000 in
theorem lK1 {X : xX} {adK adV : Nat → Nat} {b L : Nat} {sx : Nat → Int32} {x m o : Nat} {i : Int32} {σ σ' : St} {k : Nat × Nat} (C : Ok X code 7 RL room_1 (some .boolean)) (hst : (xl X).stackTraces = false) (Ev : xEnv adK adV (xA X) (xs X)) (S : Scr X b L sx) (hk : k.1 + 10 ≤ room_1.cells ∧ k.2 + 60 ≤ room_1.slots) (hf : fK1 sx L x m o i σ = some σ') (kk : ∀ k' : Nat × Nat, k'.1 ≤ k.1 + 10 ∧ k'.2 ≤ k.2 + 60 → Vz X k' σ' 2168 [(0, .ref (b)), (1, .ref (x)), (2, .ref (m)), (3, .ref (o)), (4, .int (i))] []) : Vz X k σ 265 [(0, .ref (b)), (1, .ref (x)), (2, .ref (m)), (3, .ref (o)), (4, .int (i))] [] := by
  unfold fK1 at hf
  refine z_aload_n C dL_law_265 266 rfl 1 rfl rfl ?_
  refine z_aload_n C dL_law_266 267 rfl 0 rfl rfl ?_
  refine z_iload C dL_law_267 269 rfl 4 rfl ?_
  refine z_iconst C dL_law_269 270 rfl 1 (by decide) ?_
  refine z_iadd C dL_law_270 271 rfl ?_
  obtain ⟨v271, hv271, hf⟩ := x_bind hf
  refine z_sld C S hv271 dL_law_271 272 rfl ?_
  refine z_aload_n C dL_law_272 273 rfl 3 rfl rfl ?_
  obtain ⟨w273, hw273, hf⟩ := x_bind hf
  refine e_cS C Ev dL_law_273 276 rfl (cL_systemc hst hw273) kwL_system w755 ⟨rfl, rfl⟩ ⟨Nat.le_of_ble_eq_true rfl, Nat.le_of_ble_eq_true rfl⟩ (kle hk 1 6 rfl rfl) rfl rfl (Nat.le_of_ble_eq_true rfl) ?_
  refine z_istore C dL_law_276 278 rfl rfl [(5, .int (w273.1)), (0, .ref (b)), (1, .ref (x)), (2, .ref (m)), (3, .ref (o)), (4, .int (i))] rfl ?_
  refine z_aload_n C dL_law_278 279 rfl 3 rfl rfl ?_
  refine z_aload_n C dL_law_279 280 rfl 1 rfl rfl ?_
  refine z_iload C dL_law_280 282 rfl 5 rfl ?_
  refine z_iconst C dL_law_282 283 rfl 1 (by decide) ?_
  refine z_iadd C dL_law_283 284 rfl ?_
  obtain ⟨v284, hv284, hf⟩ := x_bind hf
  refine z_sld C S hv284 dL_law_284 285 rfl ?_
  obtain ⟨o285, ho285, hf⟩ := x_bind hf
  obtain ⟨w285, hw285, hf⟩ := x_bind hf
  refine zy_callV C Ev dL_law_285 288 rfl ho285 cl11.1 rfl (cX12_systemc hw285) kX12_system kvX12_system w1641 ⟨rfl, rfl⟩ ⟨Nat.le_of_ble_eq_true rfl, Nat.le_of_ble_eq_true rfl⟩ (kle hk 1 6 rfl rfl) rfl rfl (Nat.le_of_ble_eq_true rfl) [.int (w285.1)] rfl ?_
  refine z_istore C dL_law_288 290 rfl rfl [(6, .int (w285.1)), (5, .int (w273.1)), (0, .ref (b)), (1, .ref (x)), (2, .ref (m)), (3, .ref (o)), (4, .int (i))] rfl ?_
  refine z_aload_n C dL_law_290 291 rfl 4 rfl rfl ?_
  obtain ⟨o291, ho291, hf⟩ := x_bind hf
  obtain ⟨w291, hw291, hf⟩ := x_bind hf
  refine z_callVi C dL_law_291 294 rfl ho291 cl11.1 rfl (cX12_thrownc hw291) kX12_thrown kvX12_thrown w1430 ⟨rfl, rfl⟩ ⟨Nat.le_of_ble_eq_true rfl, Nat.le_of_ble_eq_true rfl⟩ (kle hk 1 6 rfl rfl) rfl rfl (Nat.le_of_ble_eq_true rfl) ?_
  refine z_iload C dL_law_294 296 rfl 1 rfl ?_
  refine z_icmp_eq C dL_law_296 301 (by decide) 299 rfl (fun hc => ?_) (fun hc => ?_)
  · have hf := (if_pos hc).symm.trans hf
    refine z_iload C dL_law_301 303 rfl 1 rfl ?_
    refine z_if_ne C dL_law_303 318 (by decide) 306 rfl (fun hc => ?_) (fun hc => ?_)
    · have hf := (if_neg hc).symm.trans hf
      refine z_goto C dL_law_318 2168 (by decide) ?_
      refine z_lv [2, 3, 4, 5, 6] (lv' := [(0, .ref (b)), (1, .ref (x)), (2, .ref (m)), (3, .ref (o)), (4, .int (i))]) rfl ?_
      have e9 := Option.some.inj hf
      subst e9
      exact kk (k.1 + 1, k.2 + 6) ⟨Nat.add_le_add_left (by decide) _, Nat.add_le_add_left (by decide) _⟩
    · have hf := (if_pos hc).symm.trans hf
      refine z_aload_n C dL_law_306 307 rfl 5 rfl rfl ?_
      refine z_iconst C dL_law_307 308 rfl 0 (by decide) ?_
      obtain ⟨v308, hv308, hf⟩ := x_bind hf
      refine z_laload C dL_law_308 309 rfl hv308 ?_
      refine z_iload C dL_law_309 311 rfl 0 rfl ?_
      refine z_i2l C dL_law_311 312 rfl ?_
      refine z_lcmp C dL_law_312 313 rfl ?_
      refine z_if_eq C dL_law_313 318 (by decide) 316 rfl (fun hc => ?_) (fun hc => ?_)
      · have hf := (if_pos hc).symm.trans hf
        refine z_goto C dL_law_318 2168 (by decide) ?_
        refine z_lv [2, 3, 4, 5, 6] (lv' := [(0, .ref (b)), (1, .ref (x)), (2, .ref (m)), (3, .ref (o)), (4, .int (i))]) rfl ?_
        have e9 := Option.some.inj hf
        subst e9
        exact kk (k.1 + 1, k.2 + 6) ⟨Nat.add_le_add_left (by decide) _, Nat.add_le_add_left (by decide) _⟩
      · have hf := (if_neg hc).symm.trans hf
        cases hf
  · have hf := (if_neg hc).symm.trans hf
    cases hf
noncomputable def fK2 (sx : Nat → Int32) (L : Nat) (x m o : Nat) (i : Int32) (σ : St) : Option St :=
(isO σ x 10).bind fun _ =>
(fX11_fault σ x).bind fun w322 =>
(isO σ m 11).bind fun _ =>
(fX12_fault σ m).bind fun w326 =>
if w322 = w326.1 then
(some w326.2)
else
(none)
set_option maxHeartbeats 4000000 in
set_option maxRecDepth 100000 in
theorem lK2 {X : xX} {adK adV : Nat → Nat} {b L : Nat} {sx : Nat → Int32} {x m o : Nat} {i : Int32} {σ σ' : St} {k : Nat × Nat} (C : Ok X code 7 RL room_1 (some .boolean)) (hst : (xl X).stackTraces = false) (Ev : xEnv adK adV (xA X) (xs X)) (S : Scr X b L sx) (hk : k.1 + 10 ≤ room_1.cells ∧ k.2 + 60 ≤ room_1.slots) (hf : fK2 sx L x m o i σ = some σ') (kk : ∀ k' : Nat × Nat, k'.1 ≤ k.1 + 10 ∧ k'.2 ≤ k.2 + 60 → Vz X k' σ' 2168 [(0, .ref (b)), (1, .ref (x)), (2, .ref (m)), (3, .ref (o)), (4, .int (i))] []) : Vz X k σ 321 [(0, .ref (b)), (1, .ref (x)), (2, .ref (m)), (3, .ref (o)), (4, .int (i))] [] := by
  unfold fK2 at hf
  refine z_aload_n C dL_law_321 322 rfl 1 rfl rfl ?_
  obtain ⟨o322, ho322, hf⟩ := x_bind hf
  obtain ⟨w322, hw322, hf⟩ := x_bind hf
  refine z_callVi C dL_law_322 325 rfl ho322 cl10.1 rfl (cX11_faultc hw322) kX11_fault kvX11_fault w584 ⟨rfl, rfl⟩ ⟨Nat.le_of_ble_eq_true rfl, Nat.le_of_ble_eq_true rfl⟩ (kle hk 0 0 rfl rfl) rfl rfl (Nat.le_of_ble_eq_true rfl) ?_
  refine z_aload_n C dL_law_325 326 rfl 2 rfl rfl ?_
  obtain ⟨o326, ho326, hf⟩ := x_bind hf
  obtain ⟨w326, hw326, hf⟩ := x_bind hf
  refine z_callVi C dL_law_326 329 rfl ho326 cl11.1 rfl (cX12_faultc hw326) kX12_fault kvX12_fault w1739 ⟨rfl, rfl⟩ ⟨Nat.le_of_ble_eq_true rfl, Nat.le_of_ble_eq_true rfl⟩ (kle hk 0 0 rfl rfl) rfl rfl (Nat.le_of_ble_eq_true rfl) ?_
  refine z_icmp_eq C dL_law_329 2168 (by decide) 332 rfl (fun hc => ?_) (fun hc => ?_)
  · have hf := (if_pos hc).symm.trans hf
    have e9 := Option.some.inj hf
    subst e9
    exact kk k ⟨Nat.le_add_right _ _, Nat.le_add_right _ _⟩
  · have hf := (if_neg hc).symm.trans hf
    cases hf
noncomputable def fK3 (sx : Nat → Int32) (L : Nat) (x m o : Nat) (i : Int32) (σ : St) : Option St :=
(sc sx L (i + 1)).bind fun v340 =>
(fL_count σ x v340 o).bind fun w342 =>
(sc sx L (i + 1)).bind fun v353 =>
(isO w342.2 m 11).bind fun _ =>
(fX12_count w342.2 m v353).bind fun w354 =>
(isO w354.2 m 11).bind fun _ =>
(fX12_thrown w354.2 m).bind fun w360 =>
if w360 = w342.1 then
(if w342.1 = 0 then
((aL w354.2 o 0).bind fun v377 =>
if (lg_cmp v377 w354.1.toInt64) = 0 then
(some w354.2)
else
(none))
else
(some w354.2))
else
(none)
set_option maxHeartbeats 4000000 in
set_option maxRecDepth 100000 in
theorem lK3 {X : xX} {adK adV : Nat → Nat} {b L : Nat} {sx : Nat → Int32} {x m o : Nat} {i : Int32} {σ σ' : St} {k : Nat × Nat} (C : Ok X code 7 RL room_1 (some .boolean)) (hst : (xl X).stackTraces = false) (Ev : xEnv adK adV (xA X) (xs X)) (S : Scr X b L sx) (hk : k.1 + 10 ≤ room_1.cells ∧ k.2 + 60 ≤ room_1.slots) (hf : fK3 sx L x m o i σ = some σ') (kk : ∀ k' : Nat × Nat, k'.1 ≤ k.1 + 10 ∧ k'.2 ≤ k.2 + 60 → Vz X k' σ' 2168 [(0, .ref (b)), (1, .ref (x)), (2, .ref (m)), (3, .ref (o)), (4, .int (i))] []) : Vz X k σ 334 [(0, .ref (b)), (1, .ref (x)), (2, .ref (m)), (3, .ref (o)), (4, .int (i))] [] := by
  unfold fK3 at hf
  refine z_aload_n C dL_law_334 335 rfl 1 rfl rfl ?_
  refine z_aload_n C dL_law_335 336 rfl 0 rfl rfl ?_
  refine z_iload C dL_law_336 338 rfl 4 rfl ?_
  refine z_iconst C dL_law_338 339 rfl 1 (by decide) ?_
  refine z_iadd C dL_law_339 340 rfl ?_
  obtain ⟨v340, hv340, hf⟩ := x_bind hf
  refine z_sld C S hv340 dL_law_340 341 rfl ?_
  refine z_aload_n C dL_law_341 342 rfl 3 rfl rfl ?_
  obtain ⟨w342, hw342, hf⟩ := x_bind hf
  refine e_cS C Ev dL_law_342 345 rfl (cL_countc hst hw342) kwL_count w969 ⟨rfl, rfl⟩ ⟨Nat.le_of_ble_eq_true rfl, Nat.le_of_ble_eq_true rfl⟩ (kle hk 1 6 rfl rfl) rfl rfl (Nat.le_of_ble_eq_true rfl) ?_
  refine z_istore C dL_law_345 347 rfl rfl [(5, .int (w342.1)), (0, .ref (b)), (1, .ref (x)), (2, .ref (m)), (3, .ref (o)), (4, .int (i))] rfl ?_
  refine z_aload_n C dL_law_347 348 rfl 3 rfl rfl ?_
  refine z_aload_n C dL_law_348 349 rfl 1 rfl rfl ?_
  refine z_iload C dL_law_349 351 rfl 5 rfl ?_
  refine z_iconst C dL_law_351 352 rfl 1 (by decide) ?_
  refine z_iadd C dL_law_352 353 rfl ?_
  obtain ⟨v353, hv353, hf⟩ := x_bind hf
  refine z_sld C S hv353 dL_law_353 354 rfl ?_
  obtain ⟨o354, ho354, hf⟩ := x_bind hf
  obtain ⟨w354, hw354, hf⟩ := x_bind hf
  refine z_callVi C dL_law_354 357 rfl ho354 cl11.1 rfl (cX12_countc hw354) kX12_count kvX12_count w1867 ⟨rfl, rfl⟩ ⟨Nat.le_of_ble_eq_true rfl, Nat.le_of_ble_eq_true rfl⟩ (kle hk 1 6 rfl rfl) rfl rfl (Nat.le_of_ble_eq_true rfl) ?_
  refine z_istore C dL_law_357 359 rfl rfl [(6, .int (w354.1)), (5, .int (w342.1)), (0, .ref (b)), (1, .ref (x)), (2, .ref (m)), (3, .ref (o)), (4, .int (i))] rfl ?_
  refine z_aload_n C dL_law_359 360 rfl 4 rfl rfl ?_
  obtain ⟨o360, ho360, hf⟩ := x_bind hf
  obtain ⟨w360, hw360, hf⟩ := x_bind hf
  refine z_callVi C dL_law_360 363 rfl ho360 cl11.1 rfl (cX12_thrownc hw360) kX12_thrown kvX12_thrown w1430 ⟨rfl, rfl⟩ ⟨Nat.le_of_ble_eq_true rfl, Nat.le_of_ble_eq_true rfl⟩ (kle hk 1 6 rfl rfl) rfl rfl (Nat.le_of_ble_eq_true rfl) ?_
  refine z_iload C dL_law_363 365 rfl 1 rfl ?_
  refine z_icmp_eq C dL_law_365 370 (by decide) 368 rfl (fun hc => ?_) (fun hc => ?_)
  · have hf := (if_pos hc).symm.trans hf
    refine z_iload C dL_law_370 372 rfl 1 rfl ?_
    refine z_if_ne C dL_law_372 387 (by decide) 375 rfl (fun hc => ?_) (fun hc => ?_)
    · have hf := (if_neg hc).symm.trans hf
      refine z_goto C dL_law_387 2168 (by decide) ?_
      refine z_lv [2, 3, 4, 5, 6] (lv' := [(0, .ref (b)), (1, .ref (x)), (2, .ref (m)), (3, .ref (o)), (4, .int (i))]) rfl ?_
      have e9 := Option.some.inj hf
      subst e9
      exact kk (k.1 + 1, k.2 + 6) ⟨Nat.add_le_add_left (by decide) _, Nat.add_le_add_left (by decide) _⟩
    · have hf := (if_pos hc).symm.trans hf
      refine z_aload_n C dL_law_375 376 rfl 5 rfl rfl ?_
      refine z_iconst C dL_law_376 377 rfl 0 (by decide) ?_
      obtain ⟨v377, hv377, hf⟩ := x_bind hf
      refine z_laload C dL_law_377 378 rfl hv377 ?_
      refine z_iload C dL_law_378 380 rfl 0 rfl ?_
      refine z_i2l C dL_law_380 381 rfl ?_
      refine z_lcmp C dL_law_381 382 rfl ?_
      refine z_if_eq C dL_law_382 387 (by decide) 385 rfl (fun hc => ?_) (fun hc => ?_)
      · have hf := (if_pos hc).symm.trans hf
        refine z_goto C dL_law_387 2168 (by decide) ?_
        refine z_lv [2, 3, 4, 5, 6] (lv' := [(0, .ref (b)), (1, .ref (x)), (2, .ref (m)), (3, .ref (o)), (4, .int (i))]) rfl ?_
        have e9 := Option.some.inj hf
        subst e9
        exact kk (k.1 + 1, k.2 + 6) ⟨Nat.add_le_add_left (by decide) _, Nat.add_le_add_left (by decide) _⟩
      · have hf := (if_neg hc).symm.trans hf
        cases hf
  · have hf := (if_neg hc).symm.trans hf
    cases hf
noncomputable def fK4 (sx : Nat → Int32) (L : Nat) (x m o : Nat) (i : Int32) (σ : St) : Option St :=
(sc sx L (i + 1)).bind fun v396 =>
(sc sx L (i + 2)).bind fun v402 =>
if v402 = 0 then
((sc sx L (i + 3)).bind fun v416 =>
(fL_side σ x v396 0 v416 o).bind fun w418 =>
(sc sx L (i + 1)).bind fun v429 =>
(sc sx L (i + 2)).bind fun v435 =>
if v435 = 0 then
((sc sx L (i + 3)).bind fun v449 =>
(isO w418.2 m 11).bind fun _ =>
(fX12_side_ w418.2 m v429 0 v449).bind fun w450 =>
(isO w450.2 m 11).bind fun _ =>
(fX12_thrown w450.2 m).bind fun w456 =>
if w456 = w418.1 then
(if w418.1 = 0 then
((aL w450.2 o 0).bind fun v473 =>
if (lg_cmp v473 w450.1.toInt64) = 0 then
(some w450.2)
else
(none))
else
(some w450.2))
else
(none))
else
((sc sx L (i + 3)).bind fun v449 =>
(isO w418.2 m 11).bind fun _ =>
(fX12_side_ w418.2 m v429 1 v449).bind fun w450 =>
(isO w450.2 m 11).bind fun _ =>
(fX12_thrown w450.2 m).bind fun w456 =>
if w456 = w418.1 then
(if w418.1 = 0 then
((aL w450.2 o 0).bind fun v473 =>
if (lg_cmp v473 w450.1.toInt64) = 0 then
(some w450.2)
else
(none))
else
(some w450.2))
else
(none)))
else
((sc sx L (i + 3)).bind fun v416 =>
(fL_side σ x v396 1 v416 o).bind fun w418 =>
(sc sx L (i + 1)).bind fun v429 =>
(sc sx L (i + 2)).bind fun v435 =>
if v435 = 0 then
((sc sx L (i + 3)).bind fun v449 =>
(isO w418.2 m 11).bind fun _ =>
(fX12_side_ w418.2 m v429 0 v449).bind fun w450 =>
(isO w450.2 m 11).bind fun _ =>
(fX12_thrown w450.2 m).bind fun w456 =>
if w456 = w418.1 then
(if w418.1 = 0 then
((aL w450.2 o 0).bind fun v473 =>
if (lg_cmp v473 w450.1.toInt64) = 0 then
(some w450.2)
else
(none))
else
(some w450.2))
else
(none))
else
((sc sx L (i + 3)).bind fun v449 =>
(isO w418.2 m 11).bind fun _ =>
(fX12_side_ w418.2 m v429 1 v449).bind fun w450 =>
(isO w450.2 m 11).bind fun _ =>
(fX12_thrown w450.2 m).bind fun w456 =>
if w456 = w418.1 then
(if w418.1 = 0 then
((aL w450.2 o 0).bind fun v473 =>
if (lg_cmp v473 w450.1.toInt64) = 0 then
(some w450.2)
else
(none))
else
(some w450.2))
else
(none)))
set_option maxHeartbeats 4000000 in
set_option maxRecDepth 100000 in
theorem lK4 {X : xX} {adK adV : Nat → Nat} {b L : Nat} {sx : Nat → Int32} {x m o : Nat} {i : Int32} {σ σ' : St} {k : Nat × Nat} (C : Ok X code 7 RL room_1 (some .boolean)) (hst : (xl X).stackTraces = false) (Ev : xEnv adK adV (xA X) (xs X)) (S : Scr X b L sx) (hk : k.1 + 10 ≤ room_1.cells ∧ k.2 + 60 ≤ room_1.slots) (hf : fK4 sx L x m o i σ = some σ') (kk : ∀ k' : Nat × Nat, k'.1 ≤ k.1 + 10 ∧ k'.2 ≤ k.2 + 60 → Vz X k' σ' 2168 [(0, .ref (b)), (1, .ref (x)), (2, .ref (m)), (3, .ref (o)), (4, .int (i))] []) : Vz X k σ 390 [(0, .ref (b)), (1, .ref (x)), (2, .ref (m)), (3, .ref (o)), (4, .int (i))] [] := by
  unfold fK4 at hf
  refine z_aload_n C dL_law_390 391 rfl 1 rfl rfl ?_
  refine z_aload_n C dL_law_391 392 rfl 0 rfl rfl ?_
  refine z_iload C dL_law_392 394 rfl 4 rfl ?_
  refine z_iconst C dL_law_394 395 rfl 1 (by decide) ?_
  refine z_iadd C dL_law_395 396 rfl ?_
  obtain ⟨v396, hv396, hf⟩ := x_bind hf
  refine z_sld C S hv396 dL_law_396 397 rfl ?_
  refine z_aload_n C dL_law_397 398 rfl 0 rfl rfl ?_
  refine z_iload C dL_law_398 400 rfl 4 rfl ?_
  refine z_iconst C dL_law_400 401 rfl 2 (by decide) ?_
  refine z_iadd C dL_law_401 402 rfl ?_
  obtain ⟨v402, hv402, hf⟩ := x_bind hf
  refine z_sld C S hv402 dL_law_402 403 rfl ?_
  refine z_if_eq C dL_law_403 410 (by decide) 406 rfl (fun hc => ?_) (fun hc => ?_)
  · have hf := (if_pos hc).symm.trans hf
    refine z_iconst C dL_law_410 411 rfl 0 (by decide) ?_
    refine z_aload_n C dL_law_411 412 rfl 0 rfl rfl ?_
    refine z_iload C dL_law_412 414 rfl 4 rfl ?_
    refine z_iconst C dL_law_414 415 rfl 3 (by decide) ?_
    refine z_iadd C dL_law_415 416 rfl ?_
    obtain ⟨v416, hv416, hf⟩ := x_bind hf
    refine z_sld C S hv416 dL_law_416 417 rfl ?_
    refine z_aload_n C dL_law_417 418 rfl 3 rfl rfl ?_
    obtain ⟨w418, hw418, hf⟩ := x_bind hf
    refine e_cS C Ev dL_law_418 421 rfl (cL_sidec hst hw418) kwL_side w1042 ⟨rfl, rfl⟩ ⟨Nat.le_of_ble_eq_true rfl, Nat.le_of_ble_eq_true rfl⟩ (kle hk 2 12 rfl rfl) rfl rfl (Nat.le_of_ble_eq_true rfl) ?_
    refine z_istore C dL_law_421 423 rfl rfl [(5, .int (w418.1)), (0, .ref (b)), (1, .ref (x)), (2, .ref (m)), (3, .ref (o)), (4, .int (i))] rfl ?_
    refine z_aload_n C dL_law_423 424 rfl 3 rfl rfl ?_
    refine z_aload_n C dL_law_424 425 rfl 1 rfl rfl ?_
    refine z_iload C dL_law_425 427 rfl 5 rfl ?_
    refine z_iconst C dL_law_427 428 rfl 1 (by decide) ?_
    refine z_iadd C dL_law_428 429 rfl ?_
    obtain ⟨v429, hv429, hf⟩ := x_bind hf
    refine z_sld C S hv429 dL_law_429 430 rfl ?_
    refine z_aload_n C dL_law_430 431 rfl 1 rfl rfl ?_
    refine z_iload C dL_law_431 433 rfl 5 rfl ?_
    refine z_iconst C dL_law_433 434 rfl 2 (by decide) ?_
    refine z_iadd C dL_law_434 435 rfl ?_
    obtain ⟨v435, hv435, hf⟩ := x_bind hf
    refine z_sld C S hv435 dL_law_435 436 rfl ?_
    refine z_if_eq C dL_law_436 443 (by decide) 439 rfl (fun hc => ?_) (fun hc => ?_)
    · have hf := (if_pos hc).symm.trans hf
      refine z_iconst C dL_law_443 444 rfl 0 (by decide) ?_
      refine z_aload_n C dL_law_444 445 rfl 1 rfl rfl ?_
      refine z_iload C dL_law_445 447 rfl 5 rfl ?_
      refine z_iconst C dL_law_447 448 rfl 3 (by decide) ?_
      refine z_iadd C dL_law_448 449 rfl ?_
      obtain ⟨v449, hv449, hf⟩ := x_bind hf
      refine z_sld C S hv449 dL_law_449 450 rfl ?_
      obtain ⟨o450, ho450, hf⟩ := x_bind hf
      obtain ⟨w450, hw450, hf⟩ := x_bind hf
      refine z_callVi C dL_law_450 453 rfl ho450 cl11.1 rfl (cX12_side_c hw450) kX12_side_ kvX12_side_ w1892 ⟨rfl, rfl⟩ ⟨Nat.le_of_ble_eq_true rfl, Nat.le_of_ble_eq_true rfl⟩ (kle hk 2 12 rfl rfl) rfl rfl (Nat.le_of_ble_eq_true rfl) ?_
      refine z_istore C dL_law_453 455 rfl rfl [(6, .int (w450.1)), (5, .int (w418.1)), (0, .ref (b)), (1, .ref (x)), (2, .ref (m)), (3, .ref (o)), (4, .int (i))] rfl ?_
      refine z_aload_n C dL_law_455 456 rfl 4 rfl rfl ?_
      obtain ⟨o456, ho456, hf⟩ := x_bind hf
      obtain ⟨w456, hw456, hf⟩ := x_bind hf
      refine z_callVi C dL_law_456 459 rfl ho456 cl11.1 rfl (cX12_thrownc hw456) kX12_thrown kvX12_thrown w1430 ⟨rfl, rfl⟩ ⟨Nat.le_of_ble_eq_true rfl, Nat.le_of_ble_eq_true rfl⟩ (kle hk 2 12 rfl rfl) rfl rfl (Nat.le_of_ble_eq_true rfl) ?_
      refine z_iload C dL_law_459 461 rfl 1 rfl ?_
      refine z_icmp_eq C dL_law_461 466 (by decide) 464 rfl (fun hc => ?_) (fun hc => ?_)
      · have hf := (if_pos hc).symm.trans hf
        refine z_iload C dL_law_466 468 rfl 1 rfl ?_
        refine z_if_ne C dL_law_468 483 (by decide) 471 rfl (fun hc => ?_) (fun hc => ?_)
        · have hf := (if_neg hc).symm.trans hf
          refine z_goto C dL_law_483 2168 (by decide) ?_
          refine z_lv [2, 3, 4, 5, 6] (lv' := [(0, .ref (b)), (1, .ref (x)), (2, .ref (m)), (3, .ref (o)), (4, .int (i))]) rfl ?_
          have e9 := Option.some.inj hf
          subst e9
          exact kk (k.1 + 2, k.2 + 12) ⟨Nat.add_le_add_left (by decide) _, Nat.add_le_add_left (by decide) _⟩
        · have hf := (if_pos hc).symm.trans hf
          refine z_aload_n C dL_law_471 472 rfl 5 rfl rfl ?_
          refine z_iconst C dL_law_472 473 rfl 0 (by decide) ?_
          obtain ⟨v473, hv473, hf⟩ := x_bind hf
          refine z_laload C dL_law_473 474 rfl hv473 ?_
          refine z_iload C dL_law_474 476 rfl 0 rfl ?_
          refine z_i2l C dL_law_476 477 rfl ?_
          refine z_lcmp C dL_law_477 478 rfl ?_
          refine z_if_eq C dL_law_478 483 (by decide) 481 rfl (fun hc => ?_) (fun hc => ?_)
          · have hf := (if_pos hc).symm.trans hf
            refine z_goto C dL_law_483 2168 (by decide) ?_
            refine z_lv [2, 3, 4, 5, 6] (lv' := [(0, .ref (b)), (1, .ref (x)), (2, .ref (m)), (3, .ref (o)), (4, .int (i))]) rfl ?_
            have e9 := Option.some.inj hf
            subst e9
            exact kk (k.1 + 2, k.2 + 12) ⟨Nat.add_le_add_left (by decide) _, Nat.add_le_add_left (by decide) _⟩
          · have hf := (if_neg hc).symm.trans hf
            cases hf
      · have hf := (if_neg hc).symm.trans hf
        cases hf
    · have hf := (if_neg hc).symm.trans hf
      refine z_iconst C dL_law_439 440 rfl 1 (by decide) ?_
      refine z_goto C dL_law_440 444 (by decide) ?_
      refine z_aload_n C dL_law_444 445 rfl 1 rfl rfl ?_
      refine z_iload C dL_law_445 447 rfl 5 rfl ?_
      refine z_iconst C dL_law_447 448 rfl 3 (by decide) ?_
      refine z_iadd C dL_law_448 449 rfl ?_
      obtain ⟨v449, hv449, hf⟩ := x_bind hf
      refine z_sld C S hv449 dL_law_449 450 rfl ?_
      obtain ⟨o450, ho450, hf⟩ := x_bind hf
      obtain ⟨w450, hw450, hf⟩ := x_bind hf
      refine z_callVi C dL_law_450 453 rfl ho450 cl11.1 rfl (cX12_side_c hw450) kX12_side_ kvX12_side_ w1892 ⟨rfl, rfl⟩ ⟨Nat.le_of_ble_eq_true rfl, Nat.le_of_ble_eq_true rfl⟩ (kle hk 2 12 rfl rfl) rfl rfl (Nat.le_of_ble_eq_true rfl) ?_
      refine z_istore C dL_law_453 455 rfl rfl [(6, .int (w450.1)), (5, .int (w418.1)), (0, .ref (b)), (1, .ref (x)), (2, .ref (m)), (3, .ref (o)), (4, .int (i))] rfl ?_
      refine z_aload_n C dL_law_455 456 rfl 4 rfl rfl ?_
      obtain ⟨o456, ho456, hf⟩ := x_bind hf
      obtain ⟨w456, hw456, hf⟩ := x_bind hf
      refine z_callVi C dL_law_456 459 rfl ho456 cl11.1 rfl (cX12_thrownc hw456) kX12_thrown kvX12_thrown w1430 ⟨rfl, rfl⟩ ⟨Nat.le_of_ble_eq_true rfl, Nat.le_of_ble_eq_true rfl⟩ (kle hk 2 12 rfl rfl) rfl rfl (Nat.le_of_ble_eq_true rfl) ?_
      refine z_iload C dL_law_459 461 rfl 1 rfl ?_
      refine z_icmp_eq C dL_law_461 466 (by decide) 464 rfl (fun hc => ?_) (fun hc => ?_)
      · have hf := (if_pos hc).symm.trans hf
        refine z_iload C dL_law_466 468 rfl 1 rfl ?_
        refine z_if_ne C dL_law_468 483 (by decide) 471 rfl (fun hc => ?_) (fun hc => ?_)
        · have hf := (if_neg hc).symm.trans hf
          refine z_goto C dL_law_483 2168 (by decide) ?_
          refine z_lv [2, 3, 4, 5, 6] (lv' := [(0, .ref (b)), (1, .ref (x)), (2, .ref (m)), (3, .ref (o)), (4, .int (i))]) rfl ?_
          have e9 := Option.some.inj hf
          subst e9
          exact kk (k.1 + 2, k.2 + 12) ⟨Nat.add_le_add_left (by decide) _, Nat.add_le_add_left (by decide) _⟩
        · have hf := (if_pos hc).symm.trans hf
          refine z_aload_n C dL_law_471 472 rfl 5 rfl rfl ?_
          refine z_iconst C dL_law_472 473 rfl 0 (by decide) ?_
          obtain ⟨v473, hv473, hf⟩ := x_bind hf
          refine z_laload C dL_law_473 474 rfl hv473 ?_
          refine z_iload C dL_law_474 476 rfl 0 rfl ?_
          refine z_i2l C dL_law_476 477 rfl ?_
          refine z_lcmp C dL_law_477 478 rfl ?_
          refine z_if_eq C dL_law_478 483 (by decide) 481 rfl (fun hc => ?_) (fun hc => ?_)
          · have hf := (if_pos hc).symm.trans hf
            refine z_goto C dL_law_483 2168 (by decide) ?_
            refine z_lv [2, 3, 4, 5, 6] (lv' := [(0, .ref (b)), (1, .ref (x)), (2, .ref (m)), (3, .ref (o)), (4, .int (i))]) rfl ?_
            have e9 := Option.some.inj hf
            subst e9
            exact kk (k.1 + 2, k.2 + 12) ⟨Nat.add_le_add_left (by decide) _, Nat.add_le_add_left (by decide) _⟩
          · have hf := (if_neg hc).symm.trans hf
            cases hf
      · have hf := (if_neg hc).symm.trans hf
        cases hf
  · have hf := (if_neg hc).symm.trans hf
    refine z_iconst C dL_law_406 407 rfl 1 (by decide) ?_
    refine z_goto C dL_law_407 411 (by decide) ?_
    refine z_aload_n C dL_law_411 412 rfl 0 rfl rfl ?_
    refine z_iload C dL_law_412 414 rfl 4 rfl ?_
    refine z_iconst C dL_law_414 415 rfl 3 (by decide) ?_
    refine z_iadd C dL_law_415 416 rfl ?_
    obtain ⟨v416, hv416, hf⟩ := x_bind hf
    refine z_sld C S hv416 dL_law_416 417 rfl ?_
    refine z_aload_n C dL_law_417 418 rfl 3 rfl rfl ?_
    obtain ⟨w418, hw418, hf⟩ := x_bind hf
    refine e_cS C Ev dL_law_418 421 rfl (cL_sidec hst hw418) kwL_side w1042 ⟨rfl, rfl⟩ ⟨Nat.le_of_ble_eq_true rfl, Nat.le_of_ble_eq_true rfl⟩ (kle hk 2 12 rfl rfl) rfl rfl (Nat.le_of_ble_eq_true rfl) ?_
    refine z_istore C dL_law_421 423 rfl rfl [(5, .int (w418.1)), (0, .ref (b)), (1, .ref (x)), (2, .ref (m)), (3, .ref (o)), (4, .int (i))] rfl ?_
    refine z_aload_n C dL_law_423 424 rfl 3 rfl rfl ?_
    refine z_aload_n C dL_law_424 425 rfl 1 rfl rfl ?_
    refine z_iload C dL_law_425 427 rfl 5 rfl ?_
    refine z_iconst C dL_law_427 428 rfl 1 (by decide) ?_
    refine z_iadd C dL_law_428 429 rfl ?_
    obtain ⟨v429, hv429, hf⟩ := x_bind hf
    refine z_sld C S hv429 dL_law_429 430 rfl ?_
    refine z_aload_n C dL_law_430 431 rfl 1 rfl rfl ?_
    refine z_iload C dL_law_431 433 rfl 5 rfl ?_
    refine z_iconst C dL_law_433 434 rfl 2 (by decide) ?_
    refine z_iadd C dL_law_434 435 rfl ?_
    obtain ⟨v435, hv435, hf⟩ := x_bind hf
    refine z_sld C S hv435 dL_law_435 436 rfl ?_
    refine z_if_eq C dL_law_436 443 (by decide) 439 rfl (fun hc => ?_) (fun hc => ?_)
    · have hf := (if_pos hc).symm.trans hf
      refine z_iconst C dL_law_443 444 rfl 0 (by decide) ?_
      refine z_aload_n C dL_law_444 445 rfl 1 rfl rfl ?_
      refine z_iload C dL_law_445 447 rfl 5 rfl ?_
      refine z_iconst C dL_law_447 448 rfl 3 (by decide) ?_
      refine z_iadd C dL_law_448 449 rfl ?_
      obtain ⟨v449, hv449, hf⟩ := x_bind hf
      refine z_sld C S hv449 dL_law_449 450 rfl ?_
      obtain ⟨o450, ho450, hf⟩ := x_bind hf
      obtain ⟨w450, hw450, hf⟩ := x_bind hf
      refine z_callVi C dL_law_450 453 rfl ho450 cl11.1 rfl (cX12_side_c hw450) kX12_side_ kvX12_side_ w1892 ⟨rfl, rfl⟩ ⟨Nat.le_of_ble_eq_true rfl, Nat.le_of_ble_eq_true rfl⟩ (kle hk 2 12 rfl rfl) rfl rfl (Nat.le_of_ble_eq_true rfl) ?_
      refine z_istore C dL_law_453 455 rfl rfl [(6, .int (w450.1)), (5, .int (w418.1)), (0, .ref (b)), (1, .ref (x)), (2, .ref (m)), (3, .ref (o)), (4, .int (i))] rfl ?_
      refine z_aload_n C dL_law_455 456 rfl 4 rfl rfl ?_
      obtain ⟨o456, ho456, hf⟩ := x_bind hf
      obtain ⟨w456, hw456, hf⟩ := x_bind hf
      refine z_callVi C dL_law_456 459 rfl ho456 cl11.1 rfl (cX12_thrownc hw456) kX12_thrown kvX12_thrown w1430 ⟨rfl, rfl⟩ ⟨Nat.le_of_ble_eq_true rfl, Nat.le_of_ble_eq_true rfl⟩ (kle hk 2 12 rfl rfl) rfl rfl (Nat.le_of_ble_eq_true rfl) ?_
      refine z_iload C dL_law_459 461 rfl 1 rfl ?_
      refine z_icmp_eq C dL_law_461 466 (by decide) 464 rfl (fun hc => ?_) (fun hc => ?_)
      · have hf := (if_pos hc).symm.trans hf
        refine z_iload C dL_law_466 468 rfl 1 rfl ?_
        refine z_if_ne C dL_law_468 483 (by decide) 471 rfl (fun hc => ?_) (fun hc => ?_)
        · have hf := (if_neg hc).symm.trans hf
          refine z_goto C dL_law_483 2168 (by decide) ?_
          refine z_lv [2, 3, 4, 5, 6] (lv' := [(0, .ref (b)), (1, .ref (x)), (2, .ref (m)), (3, .ref (o)), (4, .int (i))]) rfl ?_
          have e9 := Option.some.inj hf
          subst e9
          exact kk (k.1 + 2, k.2 + 12) ⟨Nat.add_le_add_left (by decide) _, Nat.add_le_add_left (by decide) _⟩
        · have hf := (if_pos hc).symm.trans hf
          refine z_aload_n C dL_law_471 472 rfl 5 rfl rfl ?_
          refine z_iconst C dL_law_472 473 rfl 0 (by decide) ?_
          obtain ⟨v473, hv473, hf⟩ := x_bind hf
          refine z_laload C dL_law_473 474 rfl hv473 ?_
          refine z_iload C dL_law_474 476 rfl 0 rfl ?_
          refine z_i2l C dL_law_476 477 rfl ?_
          refine z_lcmp C dL_law_477 478 rfl ?_
          refine z_if_eq C dL_law_478 483 (by decide) 481 rfl (fun hc => ?_) (fun hc => ?_)
          · have hf := (if_pos hc).symm.trans hf
            refine z_goto C dL_law_483 2168 (by decide) ?_
            refine z_lv [2, 3, 4, 5, 6] (lv' := [(0, .ref (b)), (1, .ref (x)), (2, .ref (m)), (3, .ref (o)), (4, .int (i))]) rfl ?_
            have e9 := Option.some.inj hf
            subst e9
            exact kk (k.1 + 2, k.2 + 12) ⟨Nat.add_le_add_left (by decide) _, Nat.add_le_add_left (by decide) _⟩
          · have hf := (if_neg hc).symm.trans hf
            cases hf
      · have hf := (if_neg hc).symm.trans hf
        cases hf
    · have hf := (if_neg hc).symm.trans hf
      refine z_iconst C dL_law_439 440 rfl 1 (by decide) ?_
      refine z_goto C dL_law_440 444 (by decide) ?_
      refine z_aload_n C dL_law_444 445 rfl 1 rfl rfl ?_
      refine z_iload C dL_law_445 447 rfl 5 rfl ?_
      refine z_iconst C dL_law_447 448 rfl 3 (by decide) ?_
      refine z_iadd C dL_law_448 449 rfl ?_
      obtain ⟨v449, hv449, hf⟩ := x_bind hf
      refine z_sld C S hv449 dL_law_449 450 rfl ?_
      obtain ⟨o450, ho450, hf⟩ := x_bind hf
      obtain ⟨w450, hw450, hf⟩ := x_bind hf
      refine z_callVi C dL_law_450 453 rfl ho450 cl11.1 rfl (cX12_side_c hw450) kX12_side_ kvX12_side_ w1892 ⟨rfl, rfl⟩ ⟨Nat.le_of_ble_eq_true rfl, Nat.le_of_ble_eq_true rfl⟩ (kle hk 2 12 rfl rfl) rfl rfl (Nat.le_of_ble_eq_true rfl) ?_
      refine z_istore C dL_law_453 455 rfl rfl [(6, .int (w450.1)), (5, .int (w418.1)), (0, .ref (b)), (1, .ref (x)), (2, .ref (m)), (3, .ref (o)), (4, .int (i))] rfl ?_
      refine z_aload_n C dL_law_455 456 rfl 4 rfl rfl ?_
      obtain ⟨o456, ho456, hf⟩ := x_bind hf
      obtain ⟨w456, hw456, hf⟩ := x_bind hf
      refine z_callVi C dL_law_456 459 rfl ho456 cl11.1 rfl (cX12_thrownc hw456) kX12_thrown kvX12_thrown w1430 ⟨rfl, rfl⟩ ⟨Nat.le_of_ble_eq_true rfl, Nat.le_of_ble_eq_true rfl⟩ (kle hk 2 12 rfl rfl) rfl rfl (Nat.le_of_ble_eq_true rfl) ?_
      refine z_iload C dL_law_459 461 rfl 1 rfl ?_
      refine z_icmp_eq C dL_law_461 466 (by decide) 464 rfl (fun hc => ?_) (fun hc => ?_)
      · have hf := (if_pos hc).symm.trans hf
        refine z_iload C dL_law_466 468 rfl 1 rfl ?_
        refine z_if_ne C dL_law_468 483 (by decide) 471 rfl (fun hc => ?_) (fun hc => ?_)
        · have hf := (if_neg hc).symm.trans hf
          refine z_goto C dL_law_483 2168 (by decide) ?_
          refine z_lv [2, 3, 4, 5, 6] (lv' := [(0, .ref (b)), (1, .ref (x)), (2, .ref (m)), (3, .ref (o)), (4, .int (i))]) rfl ?_
          have e9 := Option.some.inj hf
          subst e9
          exact kk (k.1 + 2, k.2 + 12) ⟨Nat.add_le_add_left (by decide) _, Nat.add_le_add_left (by decide) _⟩
        · have hf := (if_pos hc).symm.trans hf
          refine z_aload_n C dL_law_471 472 rfl 5 rfl rfl ?_
          refine z_iconst C dL_law_472 473 rfl 0 (by decide) ?_
          obtain ⟨v473, hv473, hf⟩ := x_bind hf
          refine z_laload C dL_law_473 474 rfl hv473 ?_
          refine z_iload C dL_law_474 476 rfl 0 rfl ?_
          refine z_i2l C dL_law_476 477 rfl ?_
          refine z_lcmp C dL_law_477 478 rfl ?_
          refine z_if_eq C dL_law_478 483 (by decide) 481 rfl (fun hc => ?_) (fun hc => ?_)
          · have hf := (if_pos hc).symm.trans hf
            refine z_goto C dL_law_483 2168 (by decide) ?_
            refine z_lv [2, 3, 4, 5, 6] (lv' := [(0, .ref (b)), (1, .ref (x)), (2, .ref (m)), (3, .ref (o)), (4, .int (i))]) rfl ?_
            have e9 := Option.some.inj hf
            subst e9
            exact kk (k.1 + 2, k.2 + 12) ⟨Nat.add_le_add_left (by decide) _, Nat.add_le_add_left (by decide) _⟩
          · have hf := (if_neg hc).symm.trans hf
            cases hf
      · have hf := (if_neg hc).symm.trans hf
        cases hf
noncomputable def fK5 (sx : Nat → Int32) (L : Nat) (x m o : Nat) (i : Int32) (σ : St) : Option St :=
(sc sx L (i + 1)).bind fun v492 =>
(sc sx L (i + 2)).bind fun v498 =>
(fL_letter σ x v492 v498 o).bind fun w500 =>
(sc sx L (i + 1)).bind fun v511 =>
(sc sx L (i + 2)).bind fun v517 =>
(isO w500.2 m 11).bind fun _ =>
(fX12_letter w500.2 m v511 v517).bind fun w518 =>
(isO w518.2 m 11).bind fun _ =>
(fX12_thrown w518.2 m).bind fun w524 =>
if w524 = w500.1 then
(if w500.1 = 0 then
((aL w518.2 o 0).bind fun v541 =>
if (lg_cmp v541 w518.1.toInt64) = 0 then
(some w518.2)
else
(none))
else
(some w518.2))
else
(none)
set_option maxHeartbeats 4000000 in
set_option maxRecDepth 100000 in
theorem lK5 {X : xX} {adK adV : Nat → Nat} {b L : Nat} {sx : Nat → Int32} {x m o : Nat} {i : Int32} {σ σ' : St} {k : Nat × Nat} (C : Ok X code 7 RL room_1 (some .boolean)) (hst : (xl X).stackTraces = false) (Ev : xEnv adK adV (xA X) (xs X)) (S : Scr X b L sx) (hk : k.1 + 10 ≤ room_1.cells ∧ k.2 + 60 ≤ room_1.slots) (hf : fK5 sx L x m o i σ = some σ') (kk : ∀ k' : Nat × Nat, k'.1 ≤ k.1 + 10 ∧ k'.2 ≤ k.2 + 60 → Vz X k' σ' 2168 [(0, .ref (b)), (1, .ref (x)), (2, .ref (m)), (3, .ref (o)), (4, .int (i))] []) : Vz X k σ 486 [(0, .ref (b)), (1, .ref (x)), (2, .ref (m)), (3, .ref (o)), (4, .int (i))] [] := by
  unfold fK5 at hf
  refine z_aload_n C dL_law_486 487 rfl 1 rfl rfl ?_
  refine z_aload_n C dL_law_487 488 rfl 0 rfl rfl ?_
  refine z_iload C dL_law_488 490 rfl 4 rfl ?_
  refine z_iconst C dL_law_490 491 rfl 1 (by decide) ?_
  refine z_iadd C dL_law_491 492 rfl ?_
  obtain ⟨v492, hv492, hf⟩ := x_bind hf
  refine z_sld C S hv492 dL_law_492 493 rfl ?_
  refine z_aload_n C dL_law_493 494 rfl 0 rfl rfl ?_
  refine z_iload C dL_law_494 496 rfl 4 rfl ?_
  refine z_iconst C dL_law_496 497 rfl 2 (by decide) ?_
  refine z_iadd C dL_law_497 498 rfl ?_
  obtain ⟨v498, hv498, hf⟩ := x_bind hf
  refine z_sld C S hv498 dL_law_498 499 rfl ?_
  refine z_aload_n C dL_law_499 500 rfl 3 rfl rfl ?_
  obtain ⟨w500, hw500, hf⟩ := x_bind hf
  refine e_cS C Ev dL_law_500 503 rfl (cL_letterc hst hw500) kwL_letter w1058 ⟨rfl, rfl⟩ ⟨Nat.le_of_ble_eq_true rfl, Nat.le_of_ble_eq_true rfl⟩ (kle hk 1 6 rfl rfl) rfl rfl (Nat.le_of_ble_eq_true rfl) ?_
  refine z_istore C dL_law_503 505 rfl rfl [(5, .int (w500.1)), (0, .ref (b)), (1, .ref (x)), (2, .ref (m)), (3, .ref (o)), (4, .int (i))] rfl ?_
  refine z_aload_n C dL_law_505 506 rfl 3 rfl rfl ?_
  refine z_aload_n C dL_law_506 507 rfl 1 rfl rfl ?_
  refine z_iload C dL_law_507 509 rfl 5 rfl ?_
  refine z_iconst C dL_law_509 510 rfl 1 (by decide) ?_
  refine z_iadd C dL_law_510 511 rfl ?_
  obtain ⟨v511, hv511, hf⟩ := x_bind hf
  refine z_sld C S hv511 dL_law_511 512 rfl ?_
  refine z_aload_n C dL_law_512 513 rfl 1 rfl rfl ?_
  refine z_iload C dL_law_513 515 rfl 5 rfl ?_
  refine z_iconst C dL_law_515 516 rfl 2 (by decide) ?_
  refine z_iadd C dL_law_516 517 rfl ?_
  obtain ⟨v517, hv517, hf⟩ := x_bind hf
  refine z_sld C S hv517 dL_law_517 518 rfl ?_
  obtain ⟨o518, ho518, hf⟩ := x_bind hf
  obtain ⟨w518, hw518, hf⟩ := x_bind hf
  refine z_callVi C dL_law_518 521 rfl ho518 cl11.1 rfl (cX12_letterc hw518) kX12_letter kvX12_letter w1896 ⟨rfl, rfl⟩ ⟨Nat.le_of_ble_eq_true rfl, Nat.le_of_ble_eq_true rfl⟩ (kle hk 1 6 rfl rfl) rfl rfl (Nat.le_of_ble_eq_true rfl) ?_
  refine z_istore C dL_law_521 523 rfl rfl [(6, .int (w518.1)), (5, .int (w500.1)), (0, .ref (b)), (1, .ref (x)), (2, .ref (m)), (3, .ref (o)), (4, .int (i))] rfl ?_
  refine z_aload_n C dL_law_523 524 rfl 4 rfl rfl ?_
  obtain ⟨o524, ho524, hf⟩ := x_bind hf
  obtain ⟨w524, hw524, hf⟩ := x_bind hf
  refine z_callVi C dL_law_524 527 rfl ho524 cl11.1 rfl (cX12_thrownc hw524) kX12_thrown kvX12_thrown w1430 ⟨rfl, rfl⟩ ⟨Nat.le_of_ble_eq_true rfl, Nat.le_of_ble_eq_true rfl⟩ (kle hk 1 6 rfl rfl) rfl rfl (Nat.le_of_ble_eq_true rfl) ?_
  refine z_iload C dL_law_527 529 rfl 1 rfl ?_
  refine z_icmp_eq C dL_law_529 534 (by decide) 532 rfl (fun hc => ?_) (fun hc => ?_)
  · have hf := (if_pos hc).symm.trans hf
    refine z_iload C dL_law_534 536 rfl 1 rfl ?_
    refine z_if_ne C dL_law_536 551 (by decide) 539 rfl (fun hc => ?_) (fun hc => ?_)
    · have hf := (if_neg hc).symm.trans hf
      refine z_goto C dL_law_551 2168 (by decide) ?_
      refine z_lv [2, 3, 4, 5, 6] (lv' := [(0, .ref (b)), (1, .ref (x)), (2, .ref (m)), (3, .ref (o)), (4, .int (i))]) rfl ?_
      have e9 := Option.some.inj hf
      subst e9
      exact kk (k.1 + 1, k.2 + 6) ⟨Nat.add_le_add_left (by decide) _, Nat.add_le_add_left (by decide) _⟩
    · have hf := (if_pos hc).symm.trans hf
      refine z_aload_n C dL_law_539 540 rfl 5 rfl rfl ?_
      refine z_iconst C dL_law_540 541 rfl 0 (by decide) ?_
      obtain ⟨v541, hv541, hf⟩ := x_bind hf
      refine z_laload C dL_law_541 542 rfl hv541 ?_
      refine z_iload C dL_law_542 544 rfl 0 rfl ?_
      refine z_i2l C dL_law_544 545 rfl ?_
      refine z_lcmp C dL_law_545 546 rfl ?_
      refine z_if_eq C dL_law_546 551 (by decide) 549 rfl (fun hc => ?_) (fun hc => ?_)
      · have hf := (if_pos hc).symm.trans hf
        refine z_goto C dL_law_551 2168 (by decide) ?_
        refine z_lv [2, 3, 4, 5, 6] (lv' := [(0, .ref (b)), (1, .ref (x)), (2, .ref (m)), (3, .ref (o)), (4, .int (i))]) rfl ?_
        have e9 := Option.some.inj hf
        subst e9
        exact kk (k.1 + 1, k.2 + 6) ⟨Nat.add_le_add_left (by decide) _, Nat.add_le_add_left (by decide) _⟩
      · have hf := (if_neg hc).symm.trans hf
        cases hf
  · have hf := (if_neg hc).symm.trans hf
    cases hf
noncomputable def fK6 (sx : Nat → Int32) (L : Nat) (x m o : Nat) (i : Int32) (σ : St) : Option St :=
(sc sx L (i + 1)).bind fun v560 =>
(sc sx L (i + 2)).bind fun v566 =>
(fL_tell σ x v560 v566 o).bind fun w568 =>
(sc sx L (i + 1)).bind fun v579 =>
(sc sx L (i + 2)).bind fun v585 =>
(isO w568.2 m 11).bind fun _ =>
(fX12_tell w568.2 m v579 v585).bind fun w586 =>
(isO w586.2 m 11).bind fun _ =>
(fX12_thrown w586.2 m).bind fun w592 =>
if w592 = w568.1 then
(if w568.1 = 0 then
((aL w586.2 o 0).bind fun v609 =>
if (lg_cmp v609 w586.1.toInt64) = 0 then
(some w586.2)
else
(none))
else
(some w586.2))
else
(none)
set_option maxHeartbeats 4000000 in
set_option maxRecDepth 100000 in
theorem lK6 {X : xX} {adK adV : Nat → Nat} {b L : Nat} {sx : Nat → Int32} {x m o : Nat} {i : Int32} {σ σ' : St} {k : Nat × Nat} (C : Ok X code 7 RL room_1 (some .boolean)) (hst : (xl X).stackTraces = false) (Ev : xEnv adK adV (xA X) (xs X)) (S : Scr X b L sx) (hk : k.1 + 10 ≤ room_1.cells ∧ k.2 + 60 ≤ room_1.slots) (hf : fK6 sx L x m o i σ = some σ') (kk : ∀ k' : Nat × Nat, k'.1 ≤ k.1 + 10 ∧ k'.2 ≤ k.2 + 60 → Vz X k' σ' 2168 [(0, .ref (b)), (1, .ref (x)), (2, .ref (m)), (3, .ref (o)), (4, .int (i))] []) : Vz X k σ 554 [(0, .ref (b)), (1, .ref (x)), (2, .ref (m)), (3, .ref (o)), (4, .int (i))] [] := by
  unfold fK6 at hf
  refine z_aload_n C dL_law_554 555 rfl 1 rfl rfl ?_
  refine z_aload_n C dL_law_555 556 rfl 0 rfl rfl ?_
  refine z_iload C dL_law_556 558 rfl 4 rfl ?_
  refine z_iconst C dL_law_558 559 rfl 1 (by decide) ?_
  refine z_iadd C dL_law_559 560 rfl ?_
  obtain ⟨v560, hv560, hf⟩ := x_bind hf
  refine z_sld C S hv560 dL_law_560 561 rfl ?_
  refine z_aload_n C dL_law_561 562 rfl 0 rfl rfl ?_
  refine z_iload C dL_law_562 564 rfl 4 rfl ?_
  refine z_iconst C dL_law_564 565 rfl 2 (by decide) ?_
  refine z_iadd C dL_law_565 566 rfl ?_
  obtain ⟨v566, hv566, hf⟩ := x_bind hf
  refine z_sld C S hv566 dL_law_566 567 rfl ?_
  refine z_aload_n C dL_law_567 568 rfl 3 rfl rfl ?_
  obtain ⟨w568, hw568, hf⟩ := x_bind hf
  refine e_cS C Ev dL_law_568 571 rfl (cL_tellc hst hw568) kwL_tell w1089 ⟨rfl, rfl⟩ ⟨Nat.le_of_ble_eq_true rfl, Nat.le_of_ble_eq_true rfl⟩ (kle hk 1 6 rfl rfl) rfl rfl (Nat.le_of_ble_eq_true rfl) ?_
  refine z_istore C dL_law_571 573 rfl rfl [(5, .int (w568.1)), (0, .ref (b)), (1, .ref (x)), (2, .ref (m)), (3, .ref (o)), (4, .int (i))] rfl ?_
  refine z_aload_n C dL_law_573 574 rfl 3 rfl rfl ?_
  refine z_aload_n C dL_law_574 575 rfl 1 rfl rfl ?_
  refine z_iload C dL_law_575 577 rfl 5 rfl ?_
  refine z_iconst C dL_law_577 578 rfl 1 (by decide) ?_
  refine z_iadd C dL_law_578 579 rfl ?_
  obtain ⟨v579, hv579, hf⟩ := x_bind hf
  refine z_sld C S hv579 dL_law_579 580 rfl ?_
  refine z_aload_n C dL_law_580 581 rfl 1 rfl rfl ?_
  refine z_iload C dL_law_581 583 rfl 5 rfl ?_
  refine z_iconst C dL_law_583 584 rfl 2 (by decide) ?_
  refine z_iadd C dL_law_584 585 rfl ?_
  obtain ⟨v585, hv585, hf⟩ := x_bind hf
  refine z_sld C S hv585 dL_law_585 586 rfl ?_
  obtain ⟨o586, ho586, hf⟩ := x_bind hf
  obtain ⟨w586, hw586, hf⟩ := x_bind hf
  refine z_callVi C dL_law_586 589 rfl ho586 cl11.1 rfl (cX12_tellc hw586) kX12_tell kvX12_tell w1938 ⟨rfl, rfl⟩ ⟨Nat.le_of_ble_eq_true rfl, Nat.le_of_ble_eq_true rfl⟩ (kle hk 1 6 rfl rfl) rfl rfl (Nat.le_of_ble_eq_true rfl) ?_
  refine z_istore C dL_law_589 591 rfl rfl [(6, .int (w586.1)), (5, .int (w568.1)), (0, .ref (b)), (1, .ref (x)), (2, .ref (m)), (3, .ref (o)), (4, .int (i))] rfl ?_
  refine z_aload_n C dL_law_591 592 rfl 4 rfl rfl ?_
  obtain ⟨o592, ho592, hf⟩ := x_bind hf
  obtain ⟨w592, hw592, hf⟩ := x_bind hf
  refine z_callVi C dL_law_592 595 rfl ho592 cl11.1 rfl (cX12_thrownc hw592) kX12_thrown kvX12_thrown w1430 ⟨rfl, rfl⟩ ⟨Nat.le_of_ble_eq_true rfl, Nat.le_of_ble_eq_true rfl⟩ (kle hk 1 6 rfl rfl) rfl rfl (Nat.le_of_ble_eq_true rfl) ?_
  refine z_iload C dL_law_595 597 rfl 1 rfl ?_
  refine z_icmp_eq C dL_law_597 602 (by decide) 600 rfl (fun hc => ?_) (fun hc => ?_)
  · have hf := (if_pos hc).symm.trans hf
    refine z_iload C dL_law_602 604 rfl 1 rfl ?_
    refine z_if_ne C dL_law_604 619 (by decide) 607 rfl (fun hc => ?_) (fun hc => ?_)
    · have hf := (if_neg hc).symm.trans hf
      refine z_goto C dL_law_619 2168 (by decide) ?_
      refine z_lv [2, 3, 4, 5, 6] (lv' := [(0, .ref (b)), (1, .ref (x)), (2, .ref (m)), (3, .ref (o)), (4, .int (i))]) rfl ?_
      have e9 := Option.some.inj hf
      subst e9
      exact kk (k.1 + 1, k.2 + 6) ⟨Nat.add_le_add_left (by decide) _, Nat.add_le_add_left (by decide) _⟩
    · have hf := (if_pos hc).symm.trans hf
      refine z_aload_n C dL_law_607 608 rfl 5 rfl rfl ?_
      refine z_iconst C dL_law_608 609 rfl 0 (by decide) ?_
      obtain ⟨v609, hv609, hf⟩ := x_bind hf
      refine z_laload C dL_law_609 610 rfl hv609 ?_
      refine z_iload C dL_law_610 612 rfl 0 rfl ?_
      refine z_i2l C dL_law_612 613 rfl ?_
      refine z_lcmp C dL_law_613 614 rfl ?_
      refine z_if_eq C dL_law_614 619 (by decide) 617 rfl (fun hc => ?_) (fun hc => ?_)
      · have hf := (if_pos hc).symm.trans hf
        refine z_goto C dL_law_619 2168 (by decide) ?_
        refine z_lv [2, 3, 4, 5, 6] (lv' := [(0, .ref (b)), (1, .ref (x)), (2, .ref (m)), (3, .ref (o)), (4, .int (i))]) rfl ?_
        have e9 := Option.some.inj hf
        subst e9
        exact kk (k.1 + 1, k.2 + 6) ⟨Nat.add_le_add_left (by decide) _, Nat.add_le_add_left (by decide) _⟩
      · have hf := (if_neg hc).symm.trans hf
        cases hf
  · have hf := (if_neg hc).symm.trans hf
    cases hf
noncomputable def fK7 (sx : Nat → Int32) (L : Nat) (x m o : Nat) (i : Int32) (σ : St) : Option St :=
(sc sx L (i + 1)).bind fun v628 =>
(sc sx L (i + 2)).bind fun v634 =>
(fL_word σ x v628 v634 o).bind fun w636 =>
(sc sx L (i + 1)).bind fun v647 =>
(sc sx L (i + 2)).bind fun v653 =>
(isO w636.2 m 11).bind fun _ =>
(fX12_word w636.2 m v647 v653).bind fun w654 =>
(isO w654.2 m 11).bind fun _ =>
(fX12_thrown w654.2 m).bind fun w660 =>
if w660 = w636.1 then
(if w636.1 = 0 then
((aL w654.2 o 0).bind fun v677 =>
if (lg_cmp v677 w654.1.toInt64) = 0 then
(some w654.2)
else
(none))
else
(some w654.2))
else
(none)
set_option maxHeartbeats 4000000 in
set_option maxRecDepth 100000 in
theorem lK7 {X : xX} {adK adV : Nat → Nat} {b L : Nat} {sx : Nat → Int32} {x m o : Nat} {i : Int32} {σ σ' : St} {k : Nat × Nat} (C : Ok X code 7 RL room_1 (some .boolean)) (hst : (xl X).stackTraces = false) (Ev : xEnv adK adV (xA X) (xs X)) (S : Scr X b L sx) (hk : k.1 + 10 ≤ room_1.cells ∧ k.2 + 60 ≤ room_1.slots) (hf : fK7 sx L x m o i σ = some σ') (kk : ∀ k' : Nat × Nat, k'.1 ≤ k.1 + 10 ∧ k'.2 ≤ k.2 + 60 → Vz X k' σ' 2168 [(0, .ref (b)), (1, .ref (x)), (2, .ref (m)), (3, .ref (o)), (4, .int (i))] []) : Vz X k σ 622 [(0, .ref (b)), (1, .ref (x)), (2, .ref (m)), (3, .ref (o)), (4, .int (i))] [] := by
  unfold fK7 at hf
  refine z_aload_n C dL_law_622 623 rfl 1 rfl rfl ?_
  refine z_aload_n C dL_law_623 624 rfl 0 rfl rfl ?_
  refine z_iload C dL_law_624 626 rfl 4 rfl ?_
  refine z_iconst C dL_law_626 627 rfl 1 (by decide) ?_
  refine z_iadd C dL_law_627 628 rfl ?_
  obtain ⟨v628, hv628, hf⟩ := x_bind hf
  refine z_sld C S hv628 dL_law_628 629 rfl ?_
  refine z_aload_n C dL_law_629 630 rfl 0 rfl rfl ?_
  refine z_iload C dL_law_630 632 rfl 4 rfl ?_
  refine z_iconst C dL_law_632 633 rfl 2 (by decide) ?_
  refine z_iadd C dL_law_633 634 rfl ?_
  obtain ⟨v634, hv634, hf⟩ := x_bind hf
  refine z_sld C S hv634 dL_law_634 635 rfl ?_
  refine z_aload_n C dL_law_635 636 rfl 3 rfl rfl ?_
  obtain ⟨w636, hw636, hf⟩ := x_bind hf
  refine e_cS C Ev dL_law_636 639 rfl (cL_wordc hst hw636) kwL_word w1104 ⟨rfl, rfl⟩ ⟨Nat.le_of_ble_eq_true rfl, Nat.le_of_ble_eq_true rfl⟩ (kle hk 2 12 rfl rfl) rfl rfl (Nat.le_of_ble_eq_true rfl) ?_
  refine z_istore C dL_law_639 641 rfl rfl [(5, .int (w636.1)), (0, .ref (b)), (1, .ref (x)), (2, .ref (m)), (3, .ref (o)), (4, .int (i))] rfl ?_
  refine z_aload_n C dL_law_641 642 rfl 3 rfl rfl ?_
  refine z_aload_n C dL_law_642 643 rfl 1 rfl rfl ?_
  refine z_iload C dL_law_643 645 rfl 5 rfl ?_
  refine z_iconst C dL_law_645 646 rfl 1 (by decide) ?_
  refine z_iadd C dL_law_646 647 rfl ?_
  obtain ⟨v647, hv647, hf⟩ := x_bind hf
  refine z_sld C S hv647 dL_law_647 648 rfl ?_
  refine z_aload_n C dL_law_648 649 rfl 1 rfl rfl ?_
  refine z_iload C dL_law_649 651 rfl 5 rfl ?_
  refine z_iconst C dL_law_651 652 rfl 2 (by decide) ?_
  refine z_iadd C dL_law_652 653 rfl ?_
  obtain ⟨v653, hv653, hf⟩ := x_bind hf
  refine z_sld C S hv653 dL_law_653 654 rfl ?_
  obtain ⟨o654, ho654, hf⟩ := x_bind hf
  obtain ⟨w654, hw654, hf⟩ := x_bind hf
  refine z_callVi C dL_law_654 657 rfl ho654 cl11.1 rfl (cX12_wordc hw654) kX12_word kvX12_word w1946 ⟨rfl, rfl⟩ ⟨Nat.le_of_ble_eq_true rfl, Nat.le_of_ble_eq_true rfl⟩ (kle hk 2 12 rfl rfl) rfl rfl (Nat.le_of_ble_eq_true rfl) ?_
  refine z_istore C dL_law_657 659 rfl rfl [(6, .int (w654.1)), (5, .int (w636.1)), (0, .ref (b)), (1, .ref (x)), (2, .ref (m)), (3, .ref (o)), (4, .int (i))] rfl ?_
  refine z_aload_n C dL_law_659 660 rfl 4 rfl rfl ?_
  obtain ⟨o660, ho660, hf⟩ := x_bind hf
  obtain ⟨w660, hw660, hf⟩ := x_bind hf
  refine z_callVi C dL_law_660 663 rfl ho660 cl11.1 rfl (cX12_thrownc hw660) kX12_thrown kvX12_thrown w1430 ⟨rfl, rfl⟩ ⟨Nat.le_of_ble_eq_true rfl, Nat.le_of_ble_eq_true rfl⟩ (kle hk 2 12 rfl rfl) rfl rfl (Nat.le_of_ble_eq_true rfl) ?_
  refine z_iload C dL_law_663 665 rfl 1 rfl ?_
  refine z_icmp_eq C dL_law_665 670 (by decide) 668 rfl (fun hc => ?_) (fun hc => ?_)
  · have hf := (if_pos hc).symm.trans hf
    refine z_iload C dL_law_670 672 rfl 1 rfl ?_
    refine z_if_ne C dL_law_672 687 (by decide) 675 rfl (fun hc => ?_) (fun hc => ?_)
    · have hf := (if_neg hc).symm.trans hf
      refine z_goto C dL_law_687 2168 (by decide) ?_
      refine z_lv [2, 3, 4, 5, 6] (lv' := [(0, .ref (b)), (1, .ref (x)), (2, .ref (m)), (3, .ref (o)), (4, .int (i))]) rfl ?_
      have e9 := Option.some.inj hf
      subst e9
      exact kk (k.1 + 2, k.2 + 12) ⟨Nat.add_le_add_left (by decide) _, Nat.add_le_add_left (by decide) _⟩
    · have hf := (if_pos hc).symm.trans hf
      refine z_aload_n C dL_law_675 676 rfl 5 rfl rfl ?_
      refine z_iconst C dL_law_676 677 rfl 0 (by decide) ?_
      obtain ⟨v677, hv677, hf⟩ := x_bind hf
      refine z_laload C dL_law_677 678 rfl hv677 ?_
      refine z_iload C dL_law_678 680 rfl 0 rfl ?_
      refine z_i2l C dL_law_680 681 rfl ?_
      refine z_lcmp C dL_law_681 682 rfl ?_
      refine z_if_eq C dL_law_682 687 (by decide) 685 rfl (fun hc => ?_) (fun hc => ?_)
      · have hf := (if_pos hc).symm.trans hf
        refine z_goto C dL_law_687 2168 (by decide) ?_
        refine z_lv [2, 3, 4, 5, 6] (lv' := [(0, .ref (b)), (1, .ref (x)), (2, .ref (m)), (3, .ref (o)), (4, .int (i))]) rfl ?_
        have e9 := Option.some.inj hf
        subst e9
        exact kk (k.1 + 2, k.2 + 12) ⟨Nat.add_le_add_left (by decide) _, Nat.add_le_add_left (by decide) _⟩
      · have hf := (if_neg hc).symm.trans hf
        cases hf
  · have hf := (if_neg hc).symm.trans hf
    cases hf
noncomputable def fK8 (sx : Nat → Int32) (L : Nat) (x m o : Nat) (i : Int32) (σ : St) : Option St :=
(sc sx L (i + 1)).bind fun v696 =>
(sc sx L (i + 2)).bind fun v702 =>
(fL_at σ x v696 v702 o).bind fun w704 =>
(sc sx L (i + 1)).bind fun v715 =>
(sc sx L (i + 2)).bind fun v721 =>
(isO w704.2 m 11).bind fun _ =>
(fX12_at w704.2 m v715 v721).bind fun w722 =>
(isO w722.2 m 11).bind fun _ =>
(fX12_thrown w722.2 m).bind fun w728 =>
if w728 = w704.1 then
(if w704.1 = 0 then
((aL w722.2 o 0).bind fun v745 =>
if (lg_cmp v745 w722.1.toInt64) = 0 then
(some w722.2)
else
(none))
else
(some w722.2))
else
(none)
set_option maxHeartbeats 4000000 in
set_option maxRecDepth 100000 in
theorem lK8 {X : xX} {adK adV : Nat → Nat} {b L : Nat} {sx : Nat → Int32} {x m o : Nat} {i : Int32} {σ σ' : St} {k : Nat × Nat} (C : Ok X code 7 RL room_1 (some .boolean)) (hst : (xl X).stackTraces = false) (Ev : xEnv adK adV (xA X) (xs X)) (S : Scr X b L sx) (hk : k.1 + 10 ≤ room_1.cells ∧ k.2 + 60 ≤ room_1.slots) (hf : fK8 sx L x m o i σ = some σ') (kk : ∀ k' : Nat × Nat, k'.1 ≤ k.1 + 10 ∧ k'.2 ≤ k.2 + 60 → Vz X k' σ' 2168 [(0, .ref (b)), (1, .ref (x)), (2, .ref (m)), (3, .ref (o)), (4, .int (i))] []) : Vz X k σ 690 [(0, .ref (b)), (1, .ref (x)), (2, .ref (m)), (3, .ref (o)), (4, .int (i))] [] := by
  unfold fK8 at hf
  refine z_aload_n C dL_law_690 691 rfl 1 rfl rfl ?_
  refine z_aload_n C dL_law_691 692 rfl 0 rfl rfl ?_
  refine z_iload C dL_law_692 694 rfl 4 rfl ?_
  refine z_iconst C dL_law_694 695 rfl 1 (by decide) ?_
  refine z_iadd C dL_law_695 696 rfl ?_
  obtain ⟨v696, hv696, hf⟩ := x_bind hf
  refine z_sld C S hv696 dL_law_696 697 rfl ?_
  refine z_aload_n C dL_law_697 698 rfl 0 rfl rfl ?_
  refine z_iload C dL_law_698 700 rfl 4 rfl ?_
  refine z_iconst C dL_law_700 701 rfl 2 (by decide) ?_
  refine z_iadd C dL_law_701 702 rfl ?_
  obtain ⟨v702, hv702, hf⟩ := x_bind hf
  refine z_sld C S hv702 dL_law_702 703 rfl ?_
  refine z_aload_n C dL_law_703 704 rfl 3 rfl rfl ?_
  obtain ⟨w704, hw704, hf⟩ := x_bind hf
  refine e_cS C Ev dL_law_704 707 rfl (cL_atc hst hw704) kwL_at w1196 ⟨rfl, rfl⟩ ⟨Nat.le_of_ble_eq_true rfl, Nat.le_of_ble_eq_true rfl⟩ (kle hk 2 12 rfl rfl) rfl rfl (Nat.le_of_ble_eq_true rfl) ?_
  refine z_istore C dL_law_707 709 rfl rfl [(5, .int (w704.1)), (0, .ref (b)), (1, .ref (x)), (2, .ref (m)), (3, .ref (o)), (4, .int (i))] rfl ?_
  refine z_aload_n C dL_law_709 710 rfl 3 rfl rfl ?_
  refine z_aload_n C dL_law_710 711 rfl 1 rfl rfl ?_
  refine z_iload C dL_law_711 713 rfl 5 rfl ?_
  refine z_iconst C dL_law_713 714 rfl 1 (by decide) ?_
  refine z_iadd C dL_law_714 715 rfl ?_
  obtain ⟨v715, hv715, hf⟩ := x_bind hf
  refine z_sld C S hv715 dL_law_715 716 rfl ?_
  refine z_aload_n C dL_law_716 717 rfl 1 rfl rfl ?_
  refine z_iload C dL_law_717 719 rfl 5 rfl ?_
  refine z_iconst C dL_law_719 720 rfl 2 (by decide) ?_
  refine z_iadd C dL_law_720 721 rfl ?_
  obtain ⟨v721, hv721, hf⟩ := x_bind hf
  refine z_sld C S hv721 dL_law_721 722 rfl ?_
  obtain ⟨o722, ho722, hf⟩ := x_bind hf
  obtain ⟨w722, hw722, hf⟩ := x_bind hf
  refine z_callVi C dL_law_722 725 rfl ho722 cl11.1 rfl (cX12_atc hw722) kX12_at kvX12_at w2026 ⟨rfl, rfl⟩ ⟨Nat.le_of_ble_eq_true rfl, Nat.le_of_ble_eq_true rfl⟩ (kle hk 2 12 rfl rfl) rfl rfl (Nat.le_of_ble_eq_true rfl) ?_
  refine z_istore C dL_law_725 727 rfl rfl [(6, .int (w722.1)), (5, .int (w704.1)), (0, .ref (b)), (1, .ref (x)), (2, .ref (m)), (3, .ref (o)), (4, .int (i))] rfl ?_
  refine z_aload_n C dL_law_727 728 rfl 4 rfl rfl ?_
  obtain ⟨o728, ho728, hf⟩ := x_bind hf
  obtain ⟨w728, hw728, hf⟩ := x_bind hf
  refine z_callVi C dL_law_728 731 rfl ho728 cl11.1 rfl (cX12_thrownc hw728) kX12_thrown kvX12_thrown w1430 ⟨rfl, rfl⟩ ⟨Nat.le_of_ble_eq_true rfl, Nat.le_of_ble_eq_true rfl⟩ (kle hk 2 12 rfl rfl) rfl rfl (Nat.le_of_ble_eq_true rfl) ?_
  refine z_iload C dL_law_731 733 rfl 1 rfl ?_
  refine z_icmp_eq C dL_law_733 738 (by decide) 736 rfl (fun hc => ?_) (fun hc => ?_)
  · have hf := (if_pos hc).symm.trans hf
    refine z_iload C dL_law_738 740 rfl 1 rfl ?_
    refine z_if_ne C dL_law_740 755 (by decide) 743 rfl (fun hc => ?_) (fun hc => ?_)
    · have hf := (if_neg hc).symm.trans hf
      refine z_goto C dL_law_755 2168 (by decide) ?_
      refine z_lv [2, 3, 4, 5, 6] (lv' := [(0, .ref (b)), (1, .ref (x)), (2, .ref (m)), (3, .ref (o)), (4, .int (i))]) rfl ?_
      have e9 := Option.some.inj hf
      subst e9
      exact kk (k.1 + 2, k.2 + 12) ⟨Nat.add_le_add_left (by decide) _, Nat.add_le_add_left (by decide) _⟩
    · have hf := (if_pos hc).symm.trans hf
      refine z_aload_n C dL_law_743 744 rfl 5 rfl rfl ?_
      refine z_iconst C dL_law_744 745 rfl 0 (by decide) ?_
      obtain ⟨v745, hv745, hf⟩ := x_bind hf
      refine z_laload C dL_law_745 746 rfl hv745 ?_
      refine z_iload C dL_law_746 748 rfl 0 rfl ?_
      refine z_i2l C dL_law_748 749 rfl ?_
      refine z_lcmp C dL_law_749 750 rfl ?_
      refine z_if_eq C dL_law_750 755 (by decide) 753 rfl (fun hc => ?_) (fun hc => ?_)
      · have hf := (if_pos hc).symm.trans hf
        refine z_goto C dL_law_755 2168 (by decide) ?_
        refine z_lv [2, 3, 4, 5, 6] (lv' := [(0, .ref (b)), (1, .ref (x)), (2, .ref (m)), (3, .ref (o)), (4, .int (i))]) rfl ?_
        have e9 := Option.some.inj hf
        subst e9
        exact kk (k.1 + 2, k.2 + 12) ⟨Nat.add_le_add_left (by decide) _, Nat.add_le_add_left (by decide) _⟩
      · have hf := (if_neg hc).symm.trans hf
        cases hf
  · have hf := (if_neg hc).symm.trans hf
    cases hf
