/-! The law's loop: the script, one call of each kind. -/
theorem lgc (x : Int64) : lg_cmp x x = 0 := by
  unfold lg_cmp
  simp
def Sc (X : XT) (g : GT) (b L : Nat) (xs : Nat → Int32) : Prop := va_X b L xs (xS X) (xS X).heap ∧ b < (xS X).heap.size ∧ ¬ gA g b ∧ L ≤ 2048
section RULES6
variable {X : XT} {g : GT} {l : Launch} {cc : ByteArray} {mL : Nat} {own : String} {ret : Option FieldType} {rm : Room} {kc ks pc : Nat} {lo lo' : List (Nat × Value)} {st st0 : List Value} {M M' : Mem}
theorem x_sc (C : Cx X g l cc mL own ret rm) {b L : Nat} {xs : Nat → Int32} (S : Sc X g b L xs) {i : Int32} {j : Nat} (hi : i = nI j) (hj : j < L) (d : decode cc pc = .ok (.iaload, 1)) (kk : V X g kc ks (pc + 1) lo (.int (xs j) :: st) M) : V X g kc ks pc lo (.int i :: .ref b :: st) M := by
  intro H locs ls h1 h2 h3
  obtain ⟨s1, s2, s3, s4⟩ := S
  subst hi
  refine va_sld C.1 C.2.1 s1 s2 s3 h2 (vp_in_nI hj (by omega)) d ?_
  rw [nI_clamp (by omega)]
  exact kk H locs ls h1 h2 h3
theorem x_sl (C : Cx X g l cc mL own ret rm) {b L : Nat} {xs : Nat → Int32} (S : Sc X g b L xs) (d : decode cc pc = .ok (.arraylength, 1)) (kk : V X g kc ks (pc + 1) lo (.int (nI L) :: st) M) : V X g kc ks pc lo (.ref b :: st) M := by
  intro H locs ls h1 h2 h3
  obtain ⟨s1, s2, s3, s4⟩ := S
  exact va_slen C.1 C.2.1 s1 s2 s3 h2 d (kk H locs ls h1 h2 h3)
end RULES6
abbrev loL (g : GT) (b i : Nat) : List (Nat × Value) := [(4, .int (nI i)), (3, .ref (ga g 37)), (2, .ref (ga g 29)), (1, .ref (ga g 0)), (0, .ref b)]
theorem rm_1 {kc ks mL : Nat} {rm : Room} (h : (rm.frames + 1 ≤ room_1.frames ∧ 8 + (mL + 11) + rm.locals ≤ room_1.locals) ∧ rm.cells ≤ 1 ∧ rm.slots ≤ 6) (hk : kc ≤ 600 ∧ ks ≤ 10000) : Rm rm room_1 mL kc ks := by
  obtain ⟨h1, h2, h3⟩ := h
  refine ⟨h1, ?_, ?_⟩
  · show _ ≤ 601024
    omega
  · show _ ≤ 7293034
    omega
theorem rm_0 {kc ks mL : Nat} {rm : Room} (h : rm.frames + 1 ≤ room_1.frames ∧ 8 + (mL + 11) + rm.locals ≤ room_1.locals) (h2 : rm.cells ≤ 1 ∧ rm.slots ≤ 8) (hk : kc ≤ 600 ∧ ks ≤ 10000) : Rm rm room_1 mL kc ks := by
  refine ⟨h, ?_, ?_⟩
  · show _ ≤ 601024
    omega
  · show _ ≤ 7293034
    omega

set_option maxHeartbeats 1000000 in
set_option maxRecDepth 100000 in
theorem lo_addWall {X : XT} {g : GT} {l : Launch} {b L i nb kc ks : Nat} {xs : Nat → Int32} {M : Mem} (hl : l.stackTraces = false) (C : Cx X g l cL_law 9 RL (some .boolean) room_1) (S : Sc X g b L xs) (hi : i + 4 ≤ L) (h : Inv nb M) (hnb : nb + 200 ≤ 100000) (hk : kc ≤ 590 ∧ ks ≤ 9000) (K : ∀ M', Inv (nb + 100) M' → V X g (kc + 1) (ks + 8) 1849 (loL g b i) [] M') : V X g kc ks 184 (loL g b i) [] M := by
  have hL := S.2.2.2
  obtain ⟨rm, k, v, M1, M2, c1, c2, e1, e2, e3, hr⟩ := oc_addWall (g := g) hl h (xs (i + 1)) (xs (i + 2)) (xs (i + 3))
  refine x_aload_n C dL_law_184 rfl ?_
  refine x_aload_n C dL_law_185 rfl ?_
  refine x_iload C dL_law_186 rfl ?_
  refine x_iconst C (v := 1) dL_law_188 (by decide) ?_
  refine x_iadd C dL_law_189 ?_
  refine x_sc C S (nI_add i 1) (by omega) dL_law_190 ?_
  refine x_aload_n C dL_law_191 rfl ?_
  refine x_iload C dL_law_192 rfl ?_
  refine x_iconst C (v := 2) dL_law_194 (by decide) ?_
  refine x_iadd C dL_law_195 ?_
  refine x_sc C S (nI_add i 2) (by omega) dL_law_196 ?_
  refine x_aload_n C dL_law_197 rfl ?_
  refine x_iload C dL_law_198 rfl ?_
  refine x_iconst C (v := 3) dL_law_200 (by decide) ?_
  refine x_iadd C dL_law_201 ?_
  refine x_sc C S (nI_add i 3) (by omega) dL_law_202 ?_
  refine x_aload_n C dL_law_203 rfl ?_
  refine x_callSW C c1 cwL_addWall kl_L_97 (as := [_, _, _, _, _]) rfl rfl (rm_1 hr (by omega)) (Nat.le_of_ble_eq_true rfl) dL_law_204 ?_
  refine x_widen (kc' := kc + 1) (ks' := ks + 8) (by have := hr.2.1; omega) (by have := hr.2.2; omega) ?_
  refine x_istore C (lo' := [(5, _), (4, _), (3, _), (2, _), (1, _), (0, _)]) dL_law_207 (by decide) rfl ?_
  refine x_aload_n C dL_law_209 rfl ?_
  refine x_aload_n C dL_law_210 rfl ?_
  refine x_iload C dL_law_211 rfl ?_
  refine x_iconst C (v := 1) dL_law_213 (by decide) ?_
  refine x_iadd C dL_law_214 ?_
  refine x_sc C S (nI_add i 1) (by omega) dL_law_215 ?_
  refine x_aload_n C dL_law_216 rfl ?_
  refine x_iload C dL_law_217 rfl ?_
  refine x_iconst C (v := 2) dL_law_219 (by decide) ?_
  refine x_iadd C dL_law_220 ?_
  refine x_sc C S (nI_add i 2) (by omega) dL_law_221 ?_
  refine x_aload_n C dL_law_222 rfl ?_
  refine x_iload C dL_law_223 rfl ?_
  refine x_iconst C (v := 3) dL_law_225 (by decide) ?_
  refine x_iadd C dL_law_226 ?_
  refine x_sc C S (nI_add i 3) (by omega) dL_law_227 ?_
  refine x_callV0r C c2 cd_X2_addWall kl_L_102 ci2 rfl (by decide) (as := [_, _, _]) rfl rfl (rm_0 ⟨by decide, by decide⟩ ⟨by decide, by decide⟩ (by omega)) ⟨rfl, rfl⟩ (Nat.le_of_ble_eq_true rfl) dL_law_228 ?_
  refine x_istore C (lo' := [(6, _), (5, _), (4, _), (3, _), (2, _), (1, _), (0, _)]) dL_law_231 (by decide) rfl ?_
  refine x_aload_n C dL_law_233 rfl ?_
  refine x_callV0r C (q2_thrown l g _) cd_X2_thrown kl_L_103 ci2 rfl (by decide) (as := []) rfl rfl (rm_0 ⟨by decide, by decide⟩ ⟨by decide, by decide⟩ (by omega)) ⟨rfl, rfl⟩ (Nat.le_of_ble_eq_true rfl) dL_law_234 ?_
  refine x_iload C dL_law_237 rfl ?_
  refine x_icmp_eq C (tgt := 244) dL_law_239 (by decide) (fun _ => ?_) (fun c => absurd e1 c)
  refine x_iload C dL_law_244 rfl ?_
  refine x_if_ne C (tgt := 261) dL_law_246 (by decide) (fun _ => ?_) (fun c0 => ?_)
  · refine x_goto C (tgt := 1849) dL_law_261 (by decide) ?_
    exact x_lsub [2, 3, 4, 5, 6] rfl (K _ e3)
  have e37 := e2 c0
  refine x_aload_n C dL_law_249 rfl ?_
  refine x_iconst C (v := 0) dL_law_250 (by decide) ?_
  refine x_lald C (n := 1) rfl (by decide) rfl rfl (by decide : 0 < 1) dL_law_251 ?_
  refine x_iload C dL_law_252 rfl ?_
  refine x_i2l C dL_law_254 ?_
  refine x_lcmp C dL_law_255 ?_
  refine x_if_eq C (tgt := 261) dL_law_256 (by decide) (fun _ => ?_) (fun c => absurd (by rw [e37]; exact lgc _) c)
  refine x_goto C (tgt := 1849) dL_law_261 (by decide) ?_
  exact x_lsub [2, 3, 4, 5, 6] rfl (K _ e3)
set_option maxHeartbeats 1000000 in
set_option maxRecDepth 100000 in
theorem lo_hand {X : XT} {g : GT} {l : Launch} {b L i nb kc ks : Nat} {xs : Nat → Int32} {M : Mem} (hl : l.stackTraces = false) (C : Cx X g l cL_law 9 RL (some .boolean) room_1) (S : Sc X g b L xs) (hi : i + 4 ≤ L) (h : Inv nb M) (hnb : nb + 200 ≤ 100000) (hk : kc ≤ 590 ∧ ks ≤ 9000) (K : ∀ M', Inv (nb + 100) M' → V X g (kc + 1) (ks + 8) 1849 (loL g b i) [] M') : V X g kc ks 264 (loL g b i) [] M := by
  have hL := S.2.2.2
  obtain ⟨rm, k, v, M1, M2, c1, c2, e1, e2, e3, hr⟩ := oc_hand (g := g) hl h (xs (i + 1))
  refine x_aload_n C dL_law_264 rfl ?_
  refine x_aload_n C dL_law_265 rfl ?_
  refine x_iload C dL_law_266 rfl ?_
  refine x_iconst C (v := 1) dL_law_268 (by decide) ?_
  refine x_iadd C dL_law_269 ?_
  refine x_sc C S (nI_add i 1) (by omega) dL_law_270 ?_
  refine x_aload_n C dL_law_271 rfl ?_
  refine x_callSW C c1 cwL_hand kl_L_107 (as := [_, _, _]) rfl rfl (rm_1 hr (by omega)) (Nat.le_of_ble_eq_true rfl) dL_law_272 ?_
  refine x_widen (kc' := kc + 1) (ks' := ks + 8) (by have := hr.2.1; omega) (by have := hr.2.2; omega) ?_
  refine x_istore C (lo' := [(5, _), (4, _), (3, _), (2, _), (1, _), (0, _)]) dL_law_275 (by decide) rfl ?_
  refine x_aload_n C dL_law_277 rfl ?_
  refine x_aload_n C dL_law_278 rfl ?_
  refine x_iload C dL_law_279 rfl ?_
  refine x_iconst C (v := 1) dL_law_281 (by decide) ?_
  refine x_iadd C dL_law_282 ?_
  refine x_sc C S (nI_add i 1) (by omega) dL_law_283 ?_
  refine x_callV0r C c2 cd_X2_hand kl_L_110 ci2 rfl (by decide) (as := [_]) rfl rfl (rm_0 ⟨by decide, by decide⟩ ⟨by decide, by decide⟩ (by omega)) ⟨rfl, rfl⟩ (Nat.le_of_ble_eq_true rfl) dL_law_284 ?_
  refine x_istore C (lo' := [(6, _), (5, _), (4, _), (3, _), (2, _), (1, _), (0, _)]) dL_law_287 (by decide) rfl ?_
  refine x_aload_n C dL_law_289 rfl ?_
  refine x_callV0r C (q2_thrown l g _) cd_X2_thrown kl_L_103 ci2 rfl (by decide) (as := []) rfl rfl (rm_0 ⟨by decide, by decide⟩ ⟨by decide, by decide⟩ (by omega)) ⟨rfl, rfl⟩ (Nat.le_of_ble_eq_true rfl) dL_law_290 ?_
  refine x_iload C dL_law_293 rfl ?_
  refine x_icmp_eq C (tgt := 300) dL_law_295 (by decide) (fun _ => ?_) (fun c => absurd e1 c)
  refine x_iload C dL_law_300 rfl ?_
  refine x_if_ne C (tgt := 317) dL_law_302 (by decide) (fun _ => ?_) (fun c0 => ?_)
  · refine x_goto C (tgt := 1849) dL_law_317 (by decide) ?_
    exact x_lsub [2, 3, 4, 5, 6] rfl (K _ e3)
  have e37 := e2 c0
  refine x_aload_n C dL_law_305 rfl ?_
  refine x_iconst C (v := 0) dL_law_306 (by decide) ?_
  refine x_lald C (n := 1) rfl (by decide) rfl rfl (by decide : 0 < 1) dL_law_307 ?_
  refine x_iload C dL_law_308 rfl ?_
  refine x_i2l C dL_law_310 ?_
  refine x_lcmp C dL_law_311 ?_
  refine x_if_eq C (tgt := 317) dL_law_312 (by decide) (fun _ => ?_) (fun c => absurd (by rw [e37]; exact lgc _) c)
  refine x_goto C (tgt := 1849) dL_law_317 (by decide) ?_
  exact x_lsub [2, 3, 4, 5, 6] rfl (K _ e3)
set_option maxHeartbeats 1000000 in
set_option maxRecDepth 100000 in
theorem lo_setSnow {X : XT} {g : GT} {l : Launch} {b L i nb kc ks : Nat} {xs : Nat → Int32} {M : Mem} (hl : l.stackTraces = false) (C : Cx X g l cL_law 9 RL (some .boolean) room_1) (S : Sc X g b L xs) (hi : i + 4 ≤ L) (h : Inv nb M) (hnb : nb + 200 ≤ 100000) (hk : kc ≤ 590 ∧ ks ≤ 9000) (K : ∀ M', Inv (nb + 100) M' → V X g (kc + 1) (ks + 8) 1849 (loL g b i) [] M') : V X g kc ks 320 (loL g b i) [] M := by
  have hL := S.2.2.2
  obtain ⟨rm, k, v, M1, M2, c1, c2, e1, e2, e3, hr⟩ := oc_setSnow (g := g) hl h (xs (i + 1)) (xs (i + 2))
  refine x_aload_n C dL_law_320 rfl ?_
  refine x_aload_n C dL_law_321 rfl ?_
  refine x_iload C dL_law_322 rfl ?_
  refine x_iconst C (v := 1) dL_law_324 (by decide) ?_
  refine x_iadd C dL_law_325 ?_
  refine x_sc C S (nI_add i 1) (by omega) dL_law_326 ?_
  refine x_aload_n C dL_law_327 rfl ?_
  refine x_iload C dL_law_328 rfl ?_
  refine x_iconst C (v := 2) dL_law_330 (by decide) ?_
  refine x_iadd C dL_law_331 ?_
  refine x_sc C S (nI_add i 2) (by omega) dL_law_332 ?_
  refine x_aload_n C dL_law_333 rfl ?_
  refine x_callSW C c1 cwL_setSnow kl_L_111 (as := [_, _, _, _]) rfl rfl (rm_1 hr (by omega)) (Nat.le_of_ble_eq_true rfl) dL_law_334 ?_
  refine x_widen (kc' := kc + 1) (ks' := ks + 8) (by have := hr.2.1; omega) (by have := hr.2.2; omega) ?_
  refine x_istore C (lo' := [(5, _), (4, _), (3, _), (2, _), (1, _), (0, _)]) dL_law_337 (by decide) rfl ?_
  refine x_aload_n C dL_law_339 rfl ?_
  refine x_aload_n C dL_law_340 rfl ?_
  refine x_iload C dL_law_341 rfl ?_
  refine x_iconst C (v := 1) dL_law_343 (by decide) ?_
  refine x_iadd C dL_law_344 ?_
  refine x_sc C S (nI_add i 1) (by omega) dL_law_345 ?_
  refine x_aload_n C dL_law_346 rfl ?_
  refine x_iload C dL_law_347 rfl ?_
  refine x_iconst C (v := 2) dL_law_349 (by decide) ?_
  refine x_iadd C dL_law_350 ?_
  refine x_sc C S (nI_add i 2) (by omega) dL_law_351 ?_
  refine x_callV0r C c2 cd_X2_setSnow kl_L_114 ci2 rfl (by decide) (as := [_, _]) rfl rfl (rm_0 ⟨by decide, by decide⟩ ⟨by decide, by decide⟩ (by omega)) ⟨rfl, rfl⟩ (Nat.le_of_ble_eq_true rfl) dL_law_352 ?_
  refine x_istore C (lo' := [(6, _), (5, _), (4, _), (3, _), (2, _), (1, _), (0, _)]) dL_law_355 (by decide) rfl ?_
  refine x_aload_n C dL_law_357 rfl ?_
  refine x_callV0r C (q2_thrown l g _) cd_X2_thrown kl_L_103 ci2 rfl (by decide) (as := []) rfl rfl (rm_0 ⟨by decide, by decide⟩ ⟨by decide, by decide⟩ (by omega)) ⟨rfl, rfl⟩ (Nat.le_of_ble_eq_true rfl) dL_law_358 ?_
  refine x_iload C dL_law_361 rfl ?_
  refine x_icmp_eq C (tgt := 368) dL_law_363 (by decide) (fun _ => ?_) (fun c => absurd e1 c)
  refine x_iload C dL_law_368 rfl ?_
  refine x_if_ne C (tgt := 385) dL_law_370 (by decide) (fun _ => ?_) (fun c0 => ?_)
  · refine x_goto C (tgt := 1849) dL_law_385 (by decide) ?_
    exact x_lsub [2, 3, 4, 5, 6] rfl (K _ e3)
  have e37 := e2 c0
  refine x_aload_n C dL_law_373 rfl ?_
  refine x_iconst C (v := 0) dL_law_374 (by decide) ?_
  refine x_lald C (n := 1) rfl (by decide) rfl rfl (by decide : 0 < 1) dL_law_375 ?_
  refine x_iload C dL_law_376 rfl ?_
  refine x_i2l C dL_law_378 ?_
  refine x_lcmp C dL_law_379 ?_
  refine x_if_eq C (tgt := 385) dL_law_380 (by decide) (fun _ => ?_) (fun c => absurd (by rw [e37]; exact lgc _) c)
  refine x_goto C (tgt := 1849) dL_law_385 (by decide) ?_
  exact x_lsub [2, 3, 4, 5, 6] rfl (K _ e3)
set_option maxHeartbeats 1000000 in
set_option maxRecDepth 100000 in
theorem lo_shout_0 {X : XT} {g : GT} {l : Launch} {b L i nb kc ks : Nat} {xs : Nat → Int32} {M : Mem} (hl : l.stackTraces = false) (C : Cx X g l cL_law 9 RL (some .boolean) room_1) (S : Sc X g b L xs) (hi : i + 4 ≤ L) (hz : xs (i + 2) = 0) (h : Inv nb M) (hnb : nb + 200 ≤ 100000) (hk : kc ≤ 590 ∧ ks ≤ 9000) (K : ∀ M', Inv (nb + 100) M' → V X g (kc + 1) (ks + 8) 1849 (loL g b i) [] M') : V X g kc ks 388 (loL g b i) [] M := by
  have hL := S.2.2.2
  obtain ⟨rm, k, v, M1, M2, c1, c2, e1, e2, e3, hr⟩ := oc_shout (g := g) hl h (xs (i + 1)) 0 (xs (i + 3))
  refine x_aload_n C dL_law_388 rfl ?_
  refine x_aload_n C dL_law_389 rfl ?_
  refine x_iload C dL_law_390 rfl ?_
  refine x_iconst C (v := 1) dL_law_392 (by decide) ?_
  refine x_iadd C dL_law_393 ?_
  refine x_sc C S (nI_add i 1) (by omega) dL_law_394 ?_
  refine x_aload_n C dL_law_395 rfl ?_
  refine x_iload C dL_law_396 rfl ?_
  refine x_iconst C (v := 2) dL_law_398 (by decide) ?_
  refine x_iadd C dL_law_399 ?_
  refine x_sc C S (nI_add i 2) (by omega) dL_law_400 ?_
  refine x_if_eq C (tgt := 408) dL_law_401 (by decide) (fun _ => ?_) (fun c => absurd hz c)
  refine x_iconst C (v := 0) dL_law_408 (by decide) ?_
  refine x_aload_n C dL_law_409 rfl ?_
  refine x_iload C dL_law_410 rfl ?_
  refine x_iconst C (v := 3) dL_law_412 (by decide) ?_
  refine x_iadd C dL_law_413 ?_
  refine x_sc C S (nI_add i 3) (by omega) dL_law_414 ?_
  refine x_aload_n C dL_law_415 rfl ?_
  refine x_callSW C c1 cwL_shout kl_L_115 (as := [_, _, _, _, _]) rfl rfl (rm_1 hr (by omega)) (Nat.le_of_ble_eq_true rfl) dL_law_416 ?_
  refine x_widen (kc' := kc + 1) (ks' := ks + 8) (by have := hr.2.1; omega) (by have := hr.2.2; omega) ?_
  refine x_istore C (lo' := [(5, _), (4, _), (3, _), (2, _), (1, _), (0, _)]) dL_law_419 (by decide) rfl ?_
  refine x_aload_n C dL_law_421 rfl ?_
  refine x_aload_n C dL_law_422 rfl ?_
  refine x_iload C dL_law_423 rfl ?_
  refine x_iconst C (v := 1) dL_law_425 (by decide) ?_
  refine x_iadd C dL_law_426 ?_
  refine x_sc C S (nI_add i 1) (by omega) dL_law_427 ?_
  refine x_aload_n C dL_law_428 rfl ?_
  refine x_iload C dL_law_429 rfl ?_
  refine x_iconst C (v := 2) dL_law_431 (by decide) ?_
  refine x_iadd C dL_law_432 ?_
  refine x_sc C S (nI_add i 2) (by omega) dL_law_433 ?_
  refine x_if_eq C (tgt := 441) dL_law_434 (by decide) (fun _ => ?_) (fun c => absurd hz c)
  refine x_iconst C (v := 0) dL_law_441 (by decide) ?_
  refine x_aload_n C dL_law_442 rfl ?_
  refine x_iload C dL_law_443 rfl ?_
  refine x_iconst C (v := 3) dL_law_445 (by decide) ?_
  refine x_iadd C dL_law_446 ?_
  refine x_sc C S (nI_add i 3) (by omega) dL_law_447 ?_
  refine x_callV0r C c2 cd_X2_shout kl_L_118 ci2 rfl (by decide) (as := [_, _, _]) rfl rfl (rm_0 ⟨by decide, by decide⟩ ⟨by decide, by decide⟩ (by omega)) ⟨rfl, rfl⟩ (Nat.le_of_ble_eq_true rfl) dL_law_448 ?_
  refine x_istore C (lo' := [(6, _), (5, _), (4, _), (3, _), (2, _), (1, _), (0, _)]) dL_law_451 (by decide) rfl ?_
  refine x_aload_n C dL_law_453 rfl ?_
  refine x_callV0r C (q2_thrown l g _) cd_X2_thrown kl_L_103 ci2 rfl (by decide) (as := []) rfl rfl (rm_0 ⟨by decide, by decide⟩ ⟨by decide, by decide⟩ (by omega)) ⟨rfl, rfl⟩ (Nat.le_of_ble_eq_true rfl) dL_law_454 ?_
  refine x_iload C dL_law_457 rfl ?_
  refine x_icmp_eq C (tgt := 464) dL_law_459 (by decide) (fun _ => ?_) (fun c => absurd e1 c)
  refine x_iload C dL_law_464 rfl ?_
  refine x_if_ne C (tgt := 481) dL_law_466 (by decide) (fun _ => ?_) (fun c0 => ?_)
  · refine x_goto C (tgt := 1849) dL_law_481 (by decide) ?_
    exact x_lsub [2, 3, 4, 5, 6] rfl (K _ e3)
  have e37 := e2 c0
  refine x_aload_n C dL_law_469 rfl ?_
  refine x_iconst C (v := 0) dL_law_470 (by decide) ?_
  refine x_lald C (n := 1) rfl (by decide) rfl rfl (by decide : 0 < 1) dL_law_471 ?_
  refine x_iload C dL_law_472 rfl ?_
  refine x_i2l C dL_law_474 ?_
  refine x_lcmp C dL_law_475 ?_
  refine x_if_eq C (tgt := 481) dL_law_476 (by decide) (fun _ => ?_) (fun c => absurd (by rw [e37]; exact lgc _) c)
  refine x_goto C (tgt := 1849) dL_law_481 (by decide) ?_
  exact x_lsub [2, 3, 4, 5, 6] rfl (K _ e3)
set_option maxHeartbeats 1000000 in
set_option maxRecDepth 100000 in
theorem lo_shout_1 {X : XT} {g : GT} {l : Launch} {b L i nb kc ks : Nat} {xs : Nat → Int32} {M : Mem} (hl : l.stackTraces = false) (C : Cx X g l cL_law 9 RL (some .boolean) room_1) (S : Sc X g b L xs) (hi : i + 4 ≤ L) (hz : xs (i + 2) ≠ 0) (h : Inv nb M) (hnb : nb + 200 ≤ 100000) (hk : kc ≤ 590 ∧ ks ≤ 9000) (K : ∀ M', Inv (nb + 100) M' → V X g (kc + 1) (ks + 8) 1849 (loL g b i) [] M') : V X g kc ks 388 (loL g b i) [] M := by
  have hL := S.2.2.2
  obtain ⟨rm, k, v, M1, M2, c1, c2, e1, e2, e3, hr⟩ := oc_shout (g := g) hl h (xs (i + 1)) 1 (xs (i + 3))
  refine x_aload_n C dL_law_388 rfl ?_
  refine x_aload_n C dL_law_389 rfl ?_
  refine x_iload C dL_law_390 rfl ?_
  refine x_iconst C (v := 1) dL_law_392 (by decide) ?_
  refine x_iadd C dL_law_393 ?_
  refine x_sc C S (nI_add i 1) (by omega) dL_law_394 ?_
  refine x_aload_n C dL_law_395 rfl ?_
  refine x_iload C dL_law_396 rfl ?_
  refine x_iconst C (v := 2) dL_law_398 (by decide) ?_
  refine x_iadd C dL_law_399 ?_
  refine x_sc C S (nI_add i 2) (by omega) dL_law_400 ?_
  refine x_if_eq C (tgt := 408) dL_law_401 (by decide) (fun c => absurd c hz) (fun _ => ?_)
  refine x_iconst C (v := 1) dL_law_404 (by decide) ?_
  refine x_goto C (tgt := 409) dL_law_405 (by decide) ?_
  refine x_aload_n C dL_law_409 rfl ?_
  refine x_iload C dL_law_410 rfl ?_
  refine x_iconst C (v := 3) dL_law_412 (by decide) ?_
  refine x_iadd C dL_law_413 ?_
  refine x_sc C S (nI_add i 3) (by omega) dL_law_414 ?_
  refine x_aload_n C dL_law_415 rfl ?_
  refine x_callSW C c1 cwL_shout kl_L_115 (as := [_, _, _, _, _]) rfl rfl (rm_1 hr (by omega)) (Nat.le_of_ble_eq_true rfl) dL_law_416 ?_
  refine x_widen (kc' := kc + 1) (ks' := ks + 8) (by have := hr.2.1; omega) (by have := hr.2.2; omega) ?_
  refine x_istore C (lo' := [(5, _), (4, _), (3, _), (2, _), (1, _), (0, _)]) dL_law_419 (by decide) rfl ?_
  refine x_aload_n C dL_law_421 rfl ?_
  refine x_aload_n C dL_law_422 rfl ?_
  refine x_iload C dL_law_423 rfl ?_
  refine x_iconst C (v := 1) dL_law_425 (by decide) ?_
  refine x_iadd C dL_law_426 ?_
  refine x_sc C S (nI_add i 1) (by omega) dL_law_427 ?_
  refine x_aload_n C dL_law_428 rfl ?_
  refine x_iload C dL_law_429 rfl ?_
  refine x_iconst C (v := 2) dL_law_431 (by decide) ?_
  refine x_iadd C dL_law_432 ?_
  refine x_sc C S (nI_add i 2) (by omega) dL_law_433 ?_
  refine x_if_eq C (tgt := 441) dL_law_434 (by decide) (fun c => absurd c hz) (fun _ => ?_)
  refine x_iconst C (v := 1) dL_law_437 (by decide) ?_
  refine x_goto C (tgt := 442) dL_law_438 (by decide) ?_
  refine x_aload_n C dL_law_442 rfl ?_
  refine x_iload C dL_law_443 rfl ?_
  refine x_iconst C (v := 3) dL_law_445 (by decide) ?_
  refine x_iadd C dL_law_446 ?_
  refine x_sc C S (nI_add i 3) (by omega) dL_law_447 ?_
  refine x_callV0r C c2 cd_X2_shout kl_L_118 ci2 rfl (by decide) (as := [_, _, _]) rfl rfl (rm_0 ⟨by decide, by decide⟩ ⟨by decide, by decide⟩ (by omega)) ⟨rfl, rfl⟩ (Nat.le_of_ble_eq_true rfl) dL_law_448 ?_
  refine x_istore C (lo' := [(6, _), (5, _), (4, _), (3, _), (2, _), (1, _), (0, _)]) dL_law_451 (by decide) rfl ?_
  refine x_aload_n C dL_law_453 rfl ?_
  refine x_callV0r C (q2_thrown l g _) cd_X2_thrown kl_L_103 ci2 rfl (by decide) (as := []) rfl rfl (rm_0 ⟨by decide, by decide⟩ ⟨by decide, by decide⟩ (by omega)) ⟨rfl, rfl⟩ (Nat.le_of_ble_eq_true rfl) dL_law_454 ?_
  refine x_iload C dL_law_457 rfl ?_
  refine x_icmp_eq C (tgt := 464) dL_law_459 (by decide) (fun _ => ?_) (fun c => absurd e1 c)
  refine x_iload C dL_law_464 rfl ?_
  refine x_if_ne C (tgt := 481) dL_law_466 (by decide) (fun _ => ?_) (fun c0 => ?_)
  · refine x_goto C (tgt := 1849) dL_law_481 (by decide) ?_
    exact x_lsub [2, 3, 4, 5, 6] rfl (K _ e3)
  have e37 := e2 c0
  refine x_aload_n C dL_law_469 rfl ?_
  refine x_iconst C (v := 0) dL_law_470 (by decide) ?_
  refine x_lald C (n := 1) rfl (by decide) rfl rfl (by decide : 0 < 1) dL_law_471 ?_
  refine x_iload C dL_law_472 rfl ?_
  refine x_i2l C dL_law_474 ?_
  refine x_lcmp C dL_law_475 ?_
  refine x_if_eq C (tgt := 481) dL_law_476 (by decide) (fun _ => ?_) (fun c => absurd (by rw [e37]; exact lgc _) c)
  refine x_goto C (tgt := 1849) dL_law_481 (by decide) ?_
  exact x_lsub [2, 3, 4, 5, 6] rfl (K _ e3)
set_option maxHeartbeats 1000000 in
set_option maxRecDepth 100000 in
theorem lo_pass {X : XT} {g : GT} {l : Launch} {b L i nb kc ks : Nat} {xs : Nat → Int32} {M : Mem} (hl : l.stackTraces = false) (C : Cx X g l cL_law 9 RL (some .boolean) room_1) (S : Sc X g b L xs) (hi : i + 4 ≤ L) (h : Inv nb M) (hnb : nb + 200 ≤ 100000) (hk : kc ≤ 590 ∧ ks ≤ 9000) (K : ∀ M', Inv (nb + 100) M' → V X g (kc + 1) (ks + 8) 1849 (loL g b i) [] M') : V X g kc ks 484 (loL g b i) [] M := by
  have hL := S.2.2.2
  obtain ⟨rm, k, v, M1, M2, c1, c2, e1, e2, e3, hr⟩ := oc_pass (g := g) hl h hnb (xs (i + 1))
  refine x_aload_n C dL_law_484 rfl ?_
  refine x_aload_n C dL_law_485 rfl ?_
  refine x_iload C dL_law_486 rfl ?_
  refine x_iconst C (v := 1) dL_law_488 (by decide) ?_
  refine x_iadd C dL_law_489 ?_
  refine x_sc C S (nI_add i 1) (by omega) dL_law_490 ?_
  refine x_aload_n C dL_law_491 rfl ?_
  refine x_callSW C c1 cwL_pass kl_L_119 (as := [_, _, _]) rfl rfl (rm_1 hr (by omega)) (Nat.le_of_ble_eq_true rfl) dL_law_492 ?_
  refine x_widen (kc' := kc + 1) (ks' := ks + 8) (by have := hr.2.1; omega) (by have := hr.2.2; omega) ?_
  refine x_istore C (lo' := [(5, _), (4, _), (3, _), (2, _), (1, _), (0, _)]) dL_law_495 (by decide) rfl ?_
  refine x_aload_n C dL_law_497 rfl ?_
  refine x_aload_n C dL_law_498 rfl ?_
  refine x_iload C dL_law_499 rfl ?_
  refine x_iconst C (v := 1) dL_law_501 (by decide) ?_
  refine x_iadd C dL_law_502 ?_
  refine x_sc C S (nI_add i 1) (by omega) dL_law_503 ?_
  refine x_callV0r C c2 cd_X2_pass kl_L_121 ci2 rfl (by decide) (as := [_]) rfl rfl (rm_0 ⟨by decide, by decide⟩ ⟨by decide, by decide⟩ (by omega)) ⟨rfl, rfl⟩ (Nat.le_of_ble_eq_true rfl) dL_law_504 ?_
  refine x_istore C (lo' := [(6, _), (5, _), (4, _), (3, _), (2, _), (1, _), (0, _)]) dL_law_507 (by decide) rfl ?_
  refine x_aload_n C dL_law_509 rfl ?_
  refine x_callV0r C (q2_thrown l g _) cd_X2_thrown kl_L_103 ci2 rfl (by decide) (as := []) rfl rfl (rm_0 ⟨by decide, by decide⟩ ⟨by decide, by decide⟩ (by omega)) ⟨rfl, rfl⟩ (Nat.le_of_ble_eq_true rfl) dL_law_510 ?_
  refine x_iload C dL_law_513 rfl ?_
  refine x_icmp_eq C (tgt := 520) dL_law_515 (by decide) (fun _ => ?_) (fun c => absurd e1 c)
  refine x_iload C dL_law_520 rfl ?_
  refine x_if_ne C (tgt := 537) dL_law_522 (by decide) (fun _ => ?_) (fun c0 => ?_)
  · refine x_goto C (tgt := 1849) dL_law_537 (by decide) ?_
    exact x_lsub [2, 3, 4, 5, 6] rfl (K _ e3)
  have e37 := e2 c0
  refine x_aload_n C dL_law_525 rfl ?_
  refine x_iconst C (v := 0) dL_law_526 (by decide) ?_
  refine x_lald C (n := 1) rfl (by decide) rfl rfl (by decide : 0 < 1) dL_law_527 ?_
  refine x_iload C dL_law_528 rfl ?_
  refine x_i2l C dL_law_530 ?_
  refine x_lcmp C dL_law_531 ?_
  refine x_if_eq C (tgt := 537) dL_law_532 (by decide) (fun _ => ?_) (fun c => absurd (by rw [e37]; exact lgc _) c)
  refine x_goto C (tgt := 1849) dL_law_537 (by decide) ?_
  exact x_lsub [2, 3, 4, 5, 6] rfl (K _ e3)
set_option maxHeartbeats 1000000 in
set_option maxRecDepth 100000 in
theorem lo_snowOn {X : XT} {g : GT} {l : Launch} {b L i nb kc ks : Nat} {xs : Nat → Int32} {M : Mem} (hl : l.stackTraces = false) (C : Cx X g l cL_law 9 RL (some .boolean) room_1) (S : Sc X g b L xs) (hi : i + 4 ≤ L) (h : Inv nb M) (hnb : nb + 200 ≤ 100000) (hk : kc ≤ 590 ∧ ks ≤ 9000) (K : ∀ M', Inv (nb + 100) M' → V X g (kc + 1) (ks + 8) 1849 (loL g b i) [] M') : V X g kc ks 605 (loL g b i) [] M := by
  have hL := S.2.2.2
  obtain ⟨rm, k, v, M1, M2, c1, c2, e1, e2, e3, hr⟩ := oc_snowOn (g := g) hl h (xs (i + 1))
  refine x_aload_n C dL_law_605 rfl ?_
  refine x_aload_n C dL_law_606 rfl ?_
  refine x_iload C dL_law_607 rfl ?_
  refine x_iconst C (v := 1) dL_law_609 (by decide) ?_
  refine x_iadd C dL_law_610 ?_
  refine x_sc C S (nI_add i 1) (by omega) dL_law_611 ?_
  refine x_aload_n C dL_law_612 rfl ?_
  refine x_callSW C c1 cwL_snowOn kl_L_142 (as := [_, _, _]) rfl rfl (rm_1 hr (by omega)) (Nat.le_of_ble_eq_true rfl) dL_law_613 ?_
  refine x_widen (kc' := kc + 1) (ks' := ks + 8) (by have := hr.2.1; omega) (by have := hr.2.2; omega) ?_
  refine x_istore C (lo' := [(5, _), (4, _), (3, _), (2, _), (1, _), (0, _)]) dL_law_616 (by decide) rfl ?_
  refine x_aload_n C dL_law_618 rfl ?_
  refine x_aload_n C dL_law_619 rfl ?_
  refine x_iload C dL_law_620 rfl ?_
  refine x_iconst C (v := 1) dL_law_622 (by decide) ?_
  refine x_iadd C dL_law_623 ?_
  refine x_sc C S (nI_add i 1) (by omega) dL_law_624 ?_
  refine x_callV0r C c2 cd_X2_snowOn kl_L_144 ci2 rfl (by decide) (as := [_]) rfl rfl (rm_0 ⟨by decide, by decide⟩ ⟨by decide, by decide⟩ (by omega)) ⟨rfl, rfl⟩ (Nat.le_of_ble_eq_true rfl) dL_law_625 ?_
  refine x_istore C (lo' := [(6, _), (5, _), (4, _), (3, _), (2, _), (1, _), (0, _)]) dL_law_628 (by decide) rfl ?_
  refine x_aload_n C dL_law_630 rfl ?_
  refine x_callV0r C (q2_thrown l g _) cd_X2_thrown kl_L_103 ci2 rfl (by decide) (as := []) rfl rfl (rm_0 ⟨by decide, by decide⟩ ⟨by decide, by decide⟩ (by omega)) ⟨rfl, rfl⟩ (Nat.le_of_ble_eq_true rfl) dL_law_631 ?_
  refine x_iload C dL_law_634 rfl ?_
  refine x_icmp_eq C (tgt := 641) dL_law_636 (by decide) (fun _ => ?_) (fun c => absurd e1 c)
  refine x_iload C dL_law_641 rfl ?_
  refine x_if_ne C (tgt := 658) dL_law_643 (by decide) (fun _ => ?_) (fun c0 => ?_)
  · refine x_goto C (tgt := 1849) dL_law_658 (by decide) ?_
    exact x_lsub [2, 3, 4, 5, 6] rfl (K _ e3)
  have e37 := e2 c0
  refine x_aload_n C dL_law_646 rfl ?_
  refine x_iconst C (v := 0) dL_law_647 (by decide) ?_
  refine x_lald C (n := 1) rfl (by decide) rfl rfl (by decide : 0 < 1) dL_law_648 ?_
  refine x_iload C dL_law_649 rfl ?_
  refine x_i2l C dL_law_651 ?_
  refine x_lcmp C dL_law_652 ?_
  refine x_if_eq C (tgt := 658) dL_law_653 (by decide) (fun _ => ?_) (fun c => absurd (by rw [e37]; exact lgc _) c)
  refine x_goto C (tgt := 1849) dL_law_658 (by decide) ?_
  exact x_lsub [2, 3, 4, 5, 6] rfl (K _ e3)
set_option maxHeartbeats 1000000 in
set_option maxRecDepth 100000 in
theorem lo_wallOn {X : XT} {g : GT} {l : Launch} {b L i nb kc ks : Nat} {xs : Nat → Int32} {M : Mem} (hl : l.stackTraces = false) (C : Cx X g l cL_law 9 RL (some .boolean) room_1) (S : Sc X g b L xs) (hi : i + 4 ≤ L) (h : Inv nb M) (hnb : nb + 200 ≤ 100000) (hk : kc ≤ 590 ∧ ks ≤ 9000) (K : ∀ M', Inv (nb + 100) M' → V X g (kc + 1) (ks + 8) 1849 (loL g b i) [] M') : V X g kc ks 661 (loL g b i) [] M := by
  have hL := S.2.2.2
  obtain ⟨rm, k, v, M1, M2, c1, c2, e1, e2, e3, hr⟩ := oc_wallOn (g := g) hl h hnb (xs (i + 1))
  refine x_aload_n C dL_law_661 rfl ?_
  refine x_aload_n C dL_law_662 rfl ?_
  refine x_iload C dL_law_663 rfl ?_
  refine x_iconst C (v := 1) dL_law_665 (by decide) ?_
  refine x_iadd C dL_law_666 ?_
  refine x_sc C S (nI_add i 1) (by omega) dL_law_667 ?_
  refine x_aload_n C dL_law_668 rfl ?_
  refine x_callSW C c1 cwL_wallOn kl_L_145 (as := [_, _, _]) rfl rfl (rm_1 hr (by omega)) (Nat.le_of_ble_eq_true rfl) dL_law_669 ?_
  refine x_widen (kc' := kc + 1) (ks' := ks + 8) (by have := hr.2.1; omega) (by have := hr.2.2; omega) ?_
  refine x_istore C (lo' := [(5, _), (4, _), (3, _), (2, _), (1, _), (0, _)]) dL_law_672 (by decide) rfl ?_
  refine x_aload_n C dL_law_674 rfl ?_
  refine x_aload_n C dL_law_675 rfl ?_
  refine x_iload C dL_law_676 rfl ?_
  refine x_iconst C (v := 1) dL_law_678 (by decide) ?_
  refine x_iadd C dL_law_679 ?_
  refine x_sc C S (nI_add i 1) (by omega) dL_law_680 ?_
  refine x_callV0r C c2 cd_X2_wallOn kl_L_147 ci2 rfl (by decide) (as := [_]) rfl rfl (rm_0 ⟨by decide, by decide⟩ ⟨by decide, by decide⟩ (by omega)) ⟨rfl, rfl⟩ (Nat.le_of_ble_eq_true rfl) dL_law_681 ?_
  refine x_istore C (lo' := [(6, _), (5, _), (4, _), (3, _), (2, _), (1, _), (0, _)]) dL_law_684 (by decide) rfl ?_
  refine x_aload_n C dL_law_686 rfl ?_
  refine x_callV0r C (q2_thrown l g _) cd_X2_thrown kl_L_103 ci2 rfl (by decide) (as := []) rfl rfl (rm_0 ⟨by decide, by decide⟩ ⟨by decide, by decide⟩ (by omega)) ⟨rfl, rfl⟩ (Nat.le_of_ble_eq_true rfl) dL_law_687 ?_
  refine x_iload C dL_law_690 rfl ?_
  refine x_icmp_eq C (tgt := 697) dL_law_692 (by decide) (fun _ => ?_) (fun c => absurd e1 c)
  refine x_iload C dL_law_697 rfl ?_
  refine x_if_ne C (tgt := 714) dL_law_699 (by decide) (fun _ => ?_) (fun c0 => ?_)
  · refine x_goto C (tgt := 1849) dL_law_714 (by decide) ?_
    exact x_lsub [2, 3, 4, 5, 6] rfl (K _ e3)
  have e37 := e2 c0
  refine x_aload_n C dL_law_702 rfl ?_
  refine x_iconst C (v := 0) dL_law_703 (by decide) ?_
  refine x_lald C (n := 1) rfl (by decide) rfl rfl (by decide : 0 < 1) dL_law_704 ?_
  refine x_iload C dL_law_705 rfl ?_
  refine x_i2l C dL_law_707 ?_
  refine x_lcmp C dL_law_708 ?_
  refine x_if_eq C (tgt := 714) dL_law_709 (by decide) (fun _ => ?_) (fun c => absurd (by rw [e37]; exact lgc _) c)
  refine x_goto C (tgt := 1849) dL_law_714 (by decide) ?_
  exact x_lsub [2, 3, 4, 5, 6] rfl (K _ e3)
set_option maxHeartbeats 1000000 in
set_option maxRecDepth 100000 in
theorem lo_loudOn {X : XT} {g : GT} {l : Launch} {b L i nb kc ks : Nat} {xs : Nat → Int32} {M : Mem} (hl : l.stackTraces = false) (C : Cx X g l cL_law 9 RL (some .boolean) room_1) (S : Sc X g b L xs) (hi : i + 4 ≤ L) (h : Inv nb M) (hnb : nb + 200 ≤ 100000) (hk : kc ≤ 590 ∧ ks ≤ 9000) (K : ∀ M', Inv (nb + 100) M' → V X g (kc + 1) (ks + 8) 1849 (loL g b i) [] M') : V X g kc ks 717 (loL g b i) [] M := by
  have hL := S.2.2.2
  obtain ⟨rm, k, v, M1, M2, c1, c2, e1, e2, e3, hr⟩ := oc_loudOn (g := g) hl h hnb (xs (i + 1))
  refine x_aload_n C dL_law_717 rfl ?_
  refine x_aload_n C dL_law_718 rfl ?_
  refine x_iload C dL_law_719 rfl ?_
  refine x_iconst C (v := 1) dL_law_721 (by decide) ?_
  refine x_iadd C dL_law_722 ?_
  refine x_sc C S (nI_add i 1) (by omega) dL_law_723 ?_
  refine x_aload_n C dL_law_724 rfl ?_
  refine x_callSW C c1 cwL_loudOn kl_L_148 (as := [_, _, _]) rfl rfl (rm_1 hr (by omega)) (Nat.le_of_ble_eq_true rfl) dL_law_725 ?_
  refine x_widen (kc' := kc + 1) (ks' := ks + 8) (by have := hr.2.1; omega) (by have := hr.2.2; omega) ?_
  refine x_istore C (lo' := [(5, _), (4, _), (3, _), (2, _), (1, _), (0, _)]) dL_law_728 (by decide) rfl ?_
  refine x_aload_n C dL_law_730 rfl ?_
  refine x_aload_n C dL_law_731 rfl ?_
  refine x_iload C dL_law_732 rfl ?_
  refine x_iconst C (v := 1) dL_law_734 (by decide) ?_
  refine x_iadd C dL_law_735 ?_
  refine x_sc C S (nI_add i 1) (by omega) dL_law_736 ?_
  refine x_callV0r C c2 cd_X2_loudOn kl_L_150 ci2 rfl (by decide) (as := [_]) rfl rfl (rm_0 ⟨by decide, by decide⟩ ⟨by decide, by decide⟩ (by omega)) ⟨rfl, rfl⟩ (Nat.le_of_ble_eq_true rfl) dL_law_737 ?_
  refine x_istore C (lo' := [(6, _), (5, _), (4, _), (3, _), (2, _), (1, _), (0, _)]) dL_law_740 (by decide) rfl ?_
  refine x_aload_n C dL_law_742 rfl ?_
  refine x_callV0r C (q2_thrown l g _) cd_X2_thrown kl_L_103 ci2 rfl (by decide) (as := []) rfl rfl (rm_0 ⟨by decide, by decide⟩ ⟨by decide, by decide⟩ (by omega)) ⟨rfl, rfl⟩ (Nat.le_of_ble_eq_true rfl) dL_law_743 ?_
  refine x_iload C dL_law_746 rfl ?_
  refine x_icmp_eq C (tgt := 753) dL_law_748 (by decide) (fun _ => ?_) (fun c => absurd e1 c)
  refine x_iload C dL_law_753 rfl ?_
  refine x_if_ne C (tgt := 770) dL_law_755 (by decide) (fun _ => ?_) (fun c0 => ?_)
  · refine x_goto C (tgt := 1849) dL_law_770 (by decide) ?_
    exact x_lsub [2, 3, 4, 5, 6] rfl (K _ e3)
  have e37 := e2 c0
  refine x_aload_n C dL_law_758 rfl ?_
  refine x_iconst C (v := 0) dL_law_759 (by decide) ?_
  refine x_lald C (n := 1) rfl (by decide) rfl rfl (by decide : 0 < 1) dL_law_760 ?_
  refine x_iload C dL_law_761 rfl ?_
  refine x_i2l C dL_law_763 ?_
  refine x_lcmp C dL_law_764 ?_
  refine x_if_eq C (tgt := 770) dL_law_765 (by decide) (fun _ => ?_) (fun c => absurd (by rw [e37]; exact lgc _) c)
  refine x_goto C (tgt := 1849) dL_law_770 (by decide) ?_
  exact x_lsub [2, 3, 4, 5, 6] rfl (K _ e3)
set_option maxHeartbeats 1000000 in
set_option maxRecDepth 100000 in
theorem lo_stoneOf {X : XT} {g : GT} {l : Launch} {b L i nb kc ks : Nat} {xs : Nat → Int32} {M : Mem} (hl : l.stackTraces = false) (C : Cx X g l cL_law 9 RL (some .boolean) room_1) (S : Sc X g b L xs) (hi : i + 4 ≤ L) (h : Inv nb M) (hnb : nb + 200 ≤ 100000) (hk : kc ≤ 590 ∧ ks ≤ 9000) (K : ∀ M', Inv (nb + 100) M' → V X g (kc + 1) (ks + 8) 1849 (loL g b i) [] M') : V X g kc ks 773 (loL g b i) [] M := by
  have hL := S.2.2.2
  obtain ⟨rm, k, v, M1, M2, c1, c2, e1, e2, e3, hr⟩ := oc_stoneOf (g := g) hl h hnb (xs (i + 1))
  refine x_aload_n C dL_law_773 rfl ?_
  refine x_aload_n C dL_law_774 rfl ?_
  refine x_iload C dL_law_775 rfl ?_
  refine x_iconst C (v := 1) dL_law_777 (by decide) ?_
  refine x_iadd C dL_law_778 ?_
  refine x_sc C S (nI_add i 1) (by omega) dL_law_779 ?_
  refine x_aload_n C dL_law_780 rfl ?_
  refine x_callSW C c1 cwL_stoneOf kl_L_151 (as := [_, _, _]) rfl rfl (rm_1 hr (by omega)) (Nat.le_of_ble_eq_true rfl) dL_law_781 ?_
  refine x_widen (kc' := kc + 1) (ks' := ks + 8) (by have := hr.2.1; omega) (by have := hr.2.2; omega) ?_
  refine x_istore C (lo' := [(5, _), (4, _), (3, _), (2, _), (1, _), (0, _)]) dL_law_784 (by decide) rfl ?_
  refine x_aload_n C dL_law_786 rfl ?_
  refine x_aload_n C dL_law_787 rfl ?_
  refine x_iload C dL_law_788 rfl ?_
  refine x_iconst C (v := 1) dL_law_790 (by decide) ?_
  refine x_iadd C dL_law_791 ?_
  refine x_sc C S (nI_add i 1) (by omega) dL_law_792 ?_
  refine x_callV0r C c2 cd_X2_stoneOf kl_L_153 ci2 rfl (by decide) (as := [_]) rfl rfl (rm_0 ⟨by decide, by decide⟩ ⟨by decide, by decide⟩ (by omega)) ⟨rfl, rfl⟩ (Nat.le_of_ble_eq_true rfl) dL_law_793 ?_
  refine x_istore C (lo' := [(6, _), (5, _), (4, _), (3, _), (2, _), (1, _), (0, _)]) dL_law_796 (by decide) rfl ?_
  refine x_aload_n C dL_law_798 rfl ?_
  refine x_callV0r C (q2_thrown l g _) cd_X2_thrown kl_L_103 ci2 rfl (by decide) (as := []) rfl rfl (rm_0 ⟨by decide, by decide⟩ ⟨by decide, by decide⟩ (by omega)) ⟨rfl, rfl⟩ (Nat.le_of_ble_eq_true rfl) dL_law_799 ?_
  refine x_iload C dL_law_802 rfl ?_
  refine x_icmp_eq C (tgt := 809) dL_law_804 (by decide) (fun _ => ?_) (fun c => absurd e1 c)
  refine x_iload C dL_law_809 rfl ?_
  refine x_if_ne C (tgt := 826) dL_law_811 (by decide) (fun _ => ?_) (fun c0 => ?_)
  · refine x_goto C (tgt := 1849) dL_law_826 (by decide) ?_
    exact x_lsub [2, 3, 4, 5, 6] rfl (K _ e3)
  have e37 := e2 c0
  refine x_aload_n C dL_law_814 rfl ?_
  refine x_iconst C (v := 0) dL_law_815 (by decide) ?_
  refine x_lald C (n := 1) rfl (by decide) rfl rfl (by decide : 0 < 1) dL_law_816 ?_
  refine x_iload C dL_law_817 rfl ?_
  refine x_i2l C dL_law_819 ?_
  refine x_lcmp C dL_law_820 ?_
  refine x_if_eq C (tgt := 826) dL_law_821 (by decide) (fun _ => ?_) (fun c => absurd (by rw [e37]; exact lgc _) c)
  refine x_goto C (tgt := 1849) dL_law_826 (by decide) ?_
  exact x_lsub [2, 3, 4, 5, 6] rfl (K _ e3)
set_option maxHeartbeats 1000000 in
set_option maxRecDepth 100000 in
theorem lo_ownerOf {X : XT} {g : GT} {l : Launch} {b L i nb kc ks : Nat} {xs : Nat → Int32} {M : Mem} (hl : l.stackTraces = false) (C : Cx X g l cL_law 9 RL (some .boolean) room_1) (S : Sc X g b L xs) (hi : i + 4 ≤ L) (h : Inv nb M) (hnb : nb + 200 ≤ 100000) (hk : kc ≤ 590 ∧ ks ≤ 9000) (K : ∀ M', Inv (nb + 100) M' → V X g (kc + 1) (ks + 8) 1849 (loL g b i) [] M') : V X g kc ks 829 (loL g b i) [] M := by
  have hL := S.2.2.2
  obtain ⟨rm, k, v, M1, M2, c1, c2, e1, e2, e3, hr⟩ := oc_ownerOf (g := g) hl h hnb (xs (i + 1))
  refine x_aload_n C dL_law_829 rfl ?_
  refine x_aload_n C dL_law_830 rfl ?_
  refine x_iload C dL_law_831 rfl ?_
  refine x_iconst C (v := 1) dL_law_833 (by decide) ?_
  refine x_iadd C dL_law_834 ?_
  refine x_sc C S (nI_add i 1) (by omega) dL_law_835 ?_
  refine x_aload_n C dL_law_836 rfl ?_
  refine x_callSW C c1 cwL_ownerOf kl_L_154 (as := [_, _, _]) rfl rfl (rm_1 hr (by omega)) (Nat.le_of_ble_eq_true rfl) dL_law_837 ?_
  refine x_widen (kc' := kc + 1) (ks' := ks + 8) (by have := hr.2.1; omega) (by have := hr.2.2; omega) ?_
  refine x_istore C (lo' := [(5, _), (4, _), (3, _), (2, _), (1, _), (0, _)]) dL_law_840 (by decide) rfl ?_
  refine x_aload_n C dL_law_842 rfl ?_
  refine x_aload_n C dL_law_843 rfl ?_
  refine x_iload C dL_law_844 rfl ?_
  refine x_iconst C (v := 1) dL_law_846 (by decide) ?_
  refine x_iadd C dL_law_847 ?_
  refine x_sc C S (nI_add i 1) (by omega) dL_law_848 ?_
  refine x_callV0r C c2 cd_X2_ownerOf kl_L_156 ci2 rfl (by decide) (as := [_]) rfl rfl (rm_0 ⟨by decide, by decide⟩ ⟨by decide, by decide⟩ (by omega)) ⟨rfl, rfl⟩ (Nat.le_of_ble_eq_true rfl) dL_law_849 ?_
  refine x_istore C (lo' := [(6, _), (5, _), (4, _), (3, _), (2, _), (1, _), (0, _)]) dL_law_852 (by decide) rfl ?_
  refine x_aload_n C dL_law_854 rfl ?_
  refine x_callV0r C (q2_thrown l g _) cd_X2_thrown kl_L_103 ci2 rfl (by decide) (as := []) rfl rfl (rm_0 ⟨by decide, by decide⟩ ⟨by decide, by decide⟩ (by omega)) ⟨rfl, rfl⟩ (Nat.le_of_ble_eq_true rfl) dL_law_855 ?_
  refine x_iload C dL_law_858 rfl ?_
  refine x_icmp_eq C (tgt := 865) dL_law_860 (by decide) (fun _ => ?_) (fun c => absurd e1 c)
  refine x_iload C dL_law_865 rfl ?_
  refine x_if_ne C (tgt := 882) dL_law_867 (by decide) (fun _ => ?_) (fun c0 => ?_)
  · refine x_goto C (tgt := 1849) dL_law_882 (by decide) ?_
    exact x_lsub [2, 3, 4, 5, 6] rfl (K _ e3)
  have e37 := e2 c0
  refine x_aload_n C dL_law_870 rfl ?_
  refine x_iconst C (v := 0) dL_law_871 (by decide) ?_
  refine x_lald C (n := 1) rfl (by decide) rfl rfl (by decide : 0 < 1) dL_law_872 ?_
  refine x_iload C dL_law_873 rfl ?_
  refine x_i2l C dL_law_875 ?_
  refine x_lcmp C dL_law_876 ?_
  refine x_if_eq C (tgt := 882) dL_law_877 (by decide) (fun _ => ?_) (fun c => absurd (by rw [e37]; exact lgc _) c)
  refine x_goto C (tgt := 1849) dL_law_882 (by decide) ?_
  exact x_lsub [2, 3, 4, 5, 6] rfl (K _ e3)
set_option maxHeartbeats 1000000 in
set_option maxRecDepth 100000 in
theorem lo_thrownBack {X : XT} {g : GT} {l : Launch} {b L i nb kc ks : Nat} {xs : Nat → Int32} {M : Mem} (hl : l.stackTraces = false) (C : Cx X g l cL_law 9 RL (some .boolean) room_1) (S : Sc X g b L xs) (hi : i + 4 ≤ L) (h : Inv nb M) (hnb : nb + 200 ≤ 100000) (hk : kc ≤ 590 ∧ ks ≤ 9000) (K : ∀ M', Inv (nb + 100) M' → V X g (kc + 1) (ks + 8) 1849 (loL g b i) [] M') : V X g kc ks 885 (loL g b i) [] M := by
  have hL := S.2.2.2
  obtain ⟨rm, k, v, M1, M2, c1, c2, e1, e2, e3, hr⟩ := oc_thrownBack (g := g) hl h hnb (xs (i + 1))
  refine x_aload_n C dL_law_885 rfl ?_
  refine x_aload_n C dL_law_886 rfl ?_
  refine x_iload C dL_law_887 rfl ?_
  refine x_iconst C (v := 1) dL_law_889 (by decide) ?_
  refine x_iadd C dL_law_890 ?_
  refine x_sc C S (nI_add i 1) (by omega) dL_law_891 ?_
  refine x_aload_n C dL_law_892 rfl ?_
  refine x_callSW C c1 cwL_thrownBack kl_L_157 (as := [_, _, _]) rfl rfl (rm_1 hr (by omega)) (Nat.le_of_ble_eq_true rfl) dL_law_893 ?_
  refine x_widen (kc' := kc + 1) (ks' := ks + 8) (by have := hr.2.1; omega) (by have := hr.2.2; omega) ?_
  refine x_istore C (lo' := [(5, _), (4, _), (3, _), (2, _), (1, _), (0, _)]) dL_law_896 (by decide) rfl ?_
  refine x_aload_n C dL_law_898 rfl ?_
  refine x_aload_n C dL_law_899 rfl ?_
  refine x_iload C dL_law_900 rfl ?_
  refine x_iconst C (v := 1) dL_law_902 (by decide) ?_
  refine x_iadd C dL_law_903 ?_
  refine x_sc C S (nI_add i 1) (by omega) dL_law_904 ?_
  refine x_callV0r C c2 cd_X2_thrownBack kl_L_159 ci2 rfl (by decide) (as := [_]) rfl rfl (rm_0 ⟨by decide, by decide⟩ ⟨by decide, by decide⟩ (by omega)) ⟨rfl, rfl⟩ (Nat.le_of_ble_eq_true rfl) dL_law_905 ?_
  refine x_istore C (lo' := [(6, _), (5, _), (4, _), (3, _), (2, _), (1, _), (0, _)]) dL_law_908 (by decide) rfl ?_
  refine x_aload_n C dL_law_910 rfl ?_
  refine x_callV0r C (q2_thrown l g _) cd_X2_thrown kl_L_103 ci2 rfl (by decide) (as := []) rfl rfl (rm_0 ⟨by decide, by decide⟩ ⟨by decide, by decide⟩ (by omega)) ⟨rfl, rfl⟩ (Nat.le_of_ble_eq_true rfl) dL_law_911 ?_
  refine x_iload C dL_law_914 rfl ?_
  refine x_icmp_eq C (tgt := 921) dL_law_916 (by decide) (fun _ => ?_) (fun c => absurd e1 c)
  refine x_iload C dL_law_921 rfl ?_
  refine x_if_ne C (tgt := 938) dL_law_923 (by decide) (fun _ => ?_) (fun c0 => ?_)
  · refine x_goto C (tgt := 1849) dL_law_938 (by decide) ?_
    exact x_lsub [2, 3, 4, 5, 6] rfl (K _ e3)
  have e37 := e2 c0
  refine x_aload_n C dL_law_926 rfl ?_
  refine x_iconst C (v := 0) dL_law_927 (by decide) ?_
  refine x_lald C (n := 1) rfl (by decide) rfl rfl (by decide : 0 < 1) dL_law_928 ?_
  refine x_iload C dL_law_929 rfl ?_
  refine x_i2l C dL_law_931 ?_
  refine x_lcmp C dL_law_932 ?_
  refine x_if_eq C (tgt := 938) dL_law_933 (by decide) (fun _ => ?_) (fun c => absurd (by rw [e37]; exact lgc _) c)
  refine x_goto C (tgt := 1849) dL_law_938 (by decide) ?_
  exact x_lsub [2, 3, 4, 5, 6] rfl (K _ e3)
set_option maxHeartbeats 1000000 in
set_option maxRecDepth 100000 in
theorem lo_coinsOf {X : XT} {g : GT} {l : Launch} {b L i nb kc ks : Nat} {xs : Nat → Int32} {M : Mem} (hl : l.stackTraces = false) (C : Cx X g l cL_law 9 RL (some .boolean) room_1) (S : Sc X g b L xs) (hi : i + 4 ≤ L) (h : Inv nb M) (hnb : nb + 200 ≤ 100000) (hk : kc ≤ 590 ∧ ks ≤ 9000) (K : ∀ M', Inv (nb + 100) M' → V X g (kc + 1) (ks + 8) 1849 (loL g b i) [] M') : V X g kc ks 941 (loL g b i) [] M := by
  have hL := S.2.2.2
  obtain ⟨rm, k, v, M1, M2, c1, c2, e1, e2, e3, hr⟩ := oc_coinsOf (g := g) hl h hnb (xs (i + 1))
  refine x_aload_n C dL_law_941 rfl ?_
  refine x_aload_n C dL_law_942 rfl ?_
  refine x_iload C dL_law_943 rfl ?_
  refine x_iconst C (v := 1) dL_law_945 (by decide) ?_
  refine x_iadd C dL_law_946 ?_
  refine x_sc C S (nI_add i 1) (by omega) dL_law_947 ?_
  refine x_aload_n C dL_law_948 rfl ?_
  refine x_callSW C c1 cwL_coinsOf kl_L_160 (as := [_, _, _]) rfl rfl (rm_1 hr (by omega)) (Nat.le_of_ble_eq_true rfl) dL_law_949 ?_
  refine x_widen (kc' := kc + 1) (ks' := ks + 8) (by have := hr.2.1; omega) (by have := hr.2.2; omega) ?_
  refine x_istore C (lo' := [(5, _), (4, _), (3, _), (2, _), (1, _), (0, _)]) dL_law_952 (by decide) rfl ?_
  refine x_aload_n C dL_law_954 rfl ?_
  refine x_aload_n C dL_law_955 rfl ?_
  refine x_iload C dL_law_956 rfl ?_
  refine x_iconst C (v := 1) dL_law_958 (by decide) ?_
  refine x_iadd C dL_law_959 ?_
  refine x_sc C S (nI_add i 1) (by omega) dL_law_960 ?_
  refine x_callV0r C c2 cd_X2_coinsOf kl_L_162 ci2 rfl (by decide) (as := [_]) rfl rfl (rm_0 ⟨by decide, by decide⟩ ⟨by decide, by decide⟩ (by omega)) ⟨rfl, rfl⟩ (Nat.le_of_ble_eq_true rfl) dL_law_961 ?_
  refine x_istore C (lo' := [(6, _), (5, _), (4, _), (3, _), (2, _), (1, _), (0, _)]) dL_law_964 (by decide) rfl ?_
  refine x_aload_n C dL_law_966 rfl ?_
  refine x_callV0r C (q2_thrown l g _) cd_X2_thrown kl_L_103 ci2 rfl (by decide) (as := []) rfl rfl (rm_0 ⟨by decide, by decide⟩ ⟨by decide, by decide⟩ (by omega)) ⟨rfl, rfl⟩ (Nat.le_of_ble_eq_true rfl) dL_law_967 ?_
  refine x_iload C dL_law_970 rfl ?_
  refine x_icmp_eq C (tgt := 977) dL_law_972 (by decide) (fun _ => ?_) (fun c => absurd e1 c)
  refine x_iload C dL_law_977 rfl ?_
  refine x_if_ne C (tgt := 994) dL_law_979 (by decide) (fun _ => ?_) (fun c0 => ?_)
  · refine x_goto C (tgt := 1849) dL_law_994 (by decide) ?_
    exact x_lsub [2, 3, 4, 5, 6] rfl (K _ e3)
  have e37 := e2 c0
  refine x_aload_n C dL_law_982 rfl ?_
  refine x_iconst C (v := 0) dL_law_983 (by decide) ?_
  refine x_lald C (n := 1) rfl (by decide) rfl rfl (by decide : 0 < 1) dL_law_984 ?_
  refine x_iload C dL_law_985 rfl ?_
  refine x_i2l C dL_law_987 ?_
  refine x_lcmp C dL_law_988 ?_
  refine x_if_eq C (tgt := 994) dL_law_989 (by decide) (fun _ => ?_) (fun c => absurd (by rw [e37]; exact lgc _) c)
  refine x_goto C (tgt := 1849) dL_law_994 (by decide) ?_
  exact x_lsub [2, 3, 4, 5, 6] rfl (K _ e3)
set_option maxHeartbeats 1000000 in
set_option maxRecDepth 100000 in
theorem lo_wallsOf {X : XT} {g : GT} {l : Launch} {b L i nb kc ks : Nat} {xs : Nat → Int32} {M : Mem} (hl : l.stackTraces = false) (C : Cx X g l cL_law 9 RL (some .boolean) room_1) (S : Sc X g b L xs) (hi : i + 4 ≤ L) (h : Inv nb M) (hnb : nb + 200 ≤ 100000) (hk : kc ≤ 590 ∧ ks ≤ 9000) (K : ∀ M', Inv (nb + 100) M' → V X g (kc + 1) (ks + 8) 1849 (loL g b i) [] M') : V X g kc ks 997 (loL g b i) [] M := by
  have hL := S.2.2.2
  obtain ⟨rm, k, v, M1, M2, c1, c2, e1, e2, e3, hr⟩ := oc_wallsOf (g := g) hl h hnb (xs (i + 1))
  refine x_aload_n C dL_law_997 rfl ?_
  refine x_aload_n C dL_law_998 rfl ?_
  refine x_iload C dL_law_999 rfl ?_
  refine x_iconst C (v := 1) dL_law_1001 (by decide) ?_
  refine x_iadd C dL_law_1002 ?_
  refine x_sc C S (nI_add i 1) (by omega) dL_law_1003 ?_
  refine x_aload_n C dL_law_1004 rfl ?_
  refine x_callSW C c1 cwL_wallsOf kl_L_163 (as := [_, _, _]) rfl rfl (rm_1 hr (by omega)) (Nat.le_of_ble_eq_true rfl) dL_law_1005 ?_
  refine x_widen (kc' := kc + 1) (ks' := ks + 8) (by have := hr.2.1; omega) (by have := hr.2.2; omega) ?_
  refine x_istore C (lo' := [(5, _), (4, _), (3, _), (2, _), (1, _), (0, _)]) dL_law_1008 (by decide) rfl ?_
  refine x_aload_n C dL_law_1010 rfl ?_
  refine x_aload_n C dL_law_1011 rfl ?_
  refine x_iload C dL_law_1012 rfl ?_
  refine x_iconst C (v := 1) dL_law_1014 (by decide) ?_
  refine x_iadd C dL_law_1015 ?_
  refine x_sc C S (nI_add i 1) (by omega) dL_law_1016 ?_
  refine x_callV0r C c2 cd_X2_wallsOf kl_L_165 ci2 rfl (by decide) (as := [_]) rfl rfl (rm_0 ⟨by decide, by decide⟩ ⟨by decide, by decide⟩ (by omega)) ⟨rfl, rfl⟩ (Nat.le_of_ble_eq_true rfl) dL_law_1017 ?_
  refine x_istore C (lo' := [(6, _), (5, _), (4, _), (3, _), (2, _), (1, _), (0, _)]) dL_law_1020 (by decide) rfl ?_
  refine x_aload_n C dL_law_1022 rfl ?_
  refine x_callV0r C (q2_thrown l g _) cd_X2_thrown kl_L_103 ci2 rfl (by decide) (as := []) rfl rfl (rm_0 ⟨by decide, by decide⟩ ⟨by decide, by decide⟩ (by omega)) ⟨rfl, rfl⟩ (Nat.le_of_ble_eq_true rfl) dL_law_1023 ?_
  refine x_iload C dL_law_1026 rfl ?_
  refine x_icmp_eq C (tgt := 1033) dL_law_1028 (by decide) (fun _ => ?_) (fun c => absurd e1 c)
  refine x_iload C dL_law_1033 rfl ?_
  refine x_if_ne C (tgt := 1050) dL_law_1035 (by decide) (fun _ => ?_) (fun c0 => ?_)
  · refine x_goto C (tgt := 1849) dL_law_1050 (by decide) ?_
    exact x_lsub [2, 3, 4, 5, 6] rfl (K _ e3)
  have e37 := e2 c0
  refine x_aload_n C dL_law_1038 rfl ?_
  refine x_iconst C (v := 0) dL_law_1039 (by decide) ?_
  refine x_lald C (n := 1) rfl (by decide) rfl rfl (by decide : 0 < 1) dL_law_1040 ?_
  refine x_iload C dL_law_1041 rfl ?_
  refine x_i2l C dL_law_1043 ?_
  refine x_lcmp C dL_law_1044 ?_
  refine x_if_eq C (tgt := 1050) dL_law_1045 (by decide) (fun _ => ?_) (fun c => absurd (by rw [e37]; exact lgc _) c)
  refine x_goto C (tgt := 1849) dL_law_1050 (by decide) ?_
  exact x_lsub [2, 3, 4, 5, 6] rfl (K _ e3)
set_option maxHeartbeats 1000000 in
set_option maxRecDepth 100000 in
theorem lo_silentFor {X : XT} {g : GT} {l : Launch} {b L i nb kc ks : Nat} {xs : Nat → Int32} {M : Mem} (hl : l.stackTraces = false) (C : Cx X g l cL_law 9 RL (some .boolean) room_1) (S : Sc X g b L xs) (hi : i + 4 ≤ L) (h : Inv nb M) (hnb : nb + 200 ≤ 100000) (hk : kc ≤ 590 ∧ ks ≤ 9000) (K : ∀ M', Inv (nb + 100) M' → V X g (kc + 1) (ks + 8) 1849 (loL g b i) [] M') : V X g kc ks 1053 (loL g b i) [] M := by
  have hL := S.2.2.2
  obtain ⟨rm, k, v, M1, M2, c1, c2, e1, e2, e3, hr⟩ := oc_silentFor (g := g) hl h hnb (xs (i + 1))
  refine x_aload_n C dL_law_1053 rfl ?_
  refine x_aload_n C dL_law_1054 rfl ?_
  refine x_iload C dL_law_1055 rfl ?_
  refine x_iconst C (v := 1) dL_law_1057 (by decide) ?_
  refine x_iadd C dL_law_1058 ?_
  refine x_sc C S (nI_add i 1) (by omega) dL_law_1059 ?_
  refine x_aload_n C dL_law_1060 rfl ?_
  refine x_callSW C c1 cwL_silentFor kl_L_166 (as := [_, _, _]) rfl rfl (rm_1 hr (by omega)) (Nat.le_of_ble_eq_true rfl) dL_law_1061 ?_
  refine x_widen (kc' := kc + 1) (ks' := ks + 8) (by have := hr.2.1; omega) (by have := hr.2.2; omega) ?_
  refine x_istore C (lo' := [(5, _), (4, _), (3, _), (2, _), (1, _), (0, _)]) dL_law_1064 (by decide) rfl ?_
  refine x_aload_n C dL_law_1066 rfl ?_
  refine x_aload_n C dL_law_1067 rfl ?_
  refine x_iload C dL_law_1068 rfl ?_
  refine x_iconst C (v := 1) dL_law_1070 (by decide) ?_
  refine x_iadd C dL_law_1071 ?_
  refine x_sc C S (nI_add i 1) (by omega) dL_law_1072 ?_
  refine x_callV0r C c2 cd_X2_silentFor kl_L_168 ci2 rfl (by decide) (as := [_]) rfl rfl (rm_0 ⟨by decide, by decide⟩ ⟨by decide, by decide⟩ (by omega)) ⟨rfl, rfl⟩ (Nat.le_of_ble_eq_true rfl) dL_law_1073 ?_
  refine x_istore C (lo' := [(6, _), (5, _), (4, _), (3, _), (2, _), (1, _), (0, _)]) dL_law_1076 (by decide) rfl ?_
  refine x_aload_n C dL_law_1078 rfl ?_
  refine x_callV0r C (q2_thrown l g _) cd_X2_thrown kl_L_103 ci2 rfl (by decide) (as := []) rfl rfl (rm_0 ⟨by decide, by decide⟩ ⟨by decide, by decide⟩ (by omega)) ⟨rfl, rfl⟩ (Nat.le_of_ble_eq_true rfl) dL_law_1079 ?_
  refine x_iload C dL_law_1082 rfl ?_
  refine x_icmp_eq C (tgt := 1089) dL_law_1084 (by decide) (fun _ => ?_) (fun c => absurd e1 c)
  refine x_iload C dL_law_1089 rfl ?_
  refine x_if_ne C (tgt := 1106) dL_law_1091 (by decide) (fun _ => ?_) (fun c0 => ?_)
  · refine x_goto C (tgt := 1849) dL_law_1106 (by decide) ?_
    exact x_lsub [2, 3, 4, 5, 6] rfl (K _ e3)
  have e37 := e2 c0
  refine x_aload_n C dL_law_1094 rfl ?_
  refine x_iconst C (v := 0) dL_law_1095 (by decide) ?_
  refine x_lald C (n := 1) rfl (by decide) rfl rfl (by decide : 0 < 1) dL_law_1096 ?_
  refine x_iload C dL_law_1097 rfl ?_
  refine x_i2l C dL_law_1099 ?_
  refine x_lcmp C dL_law_1100 ?_
  refine x_if_eq C (tgt := 1106) dL_law_1101 (by decide) (fun _ => ?_) (fun c => absurd (by rw [e37]; exact lgc _) c)
  refine x_goto C (tgt := 1849) dL_law_1106 (by decide) ?_
  exact x_lsub [2, 3, 4, 5, 6] rfl (K _ e3)
set_option maxHeartbeats 1000000 in
set_option maxRecDepth 100000 in
theorem lo_loudnessOf {X : XT} {g : GT} {l : Launch} {b L i nb kc ks : Nat} {xs : Nat → Int32} {M : Mem} (hl : l.stackTraces = false) (C : Cx X g l cL_law 9 RL (some .boolean) room_1) (S : Sc X g b L xs) (hi : i + 4 ≤ L) (h : Inv nb M) (hnb : nb + 200 ≤ 100000) (hk : kc ≤ 590 ∧ ks ≤ 9000) (K : ∀ M', Inv (nb + 100) M' → V X g (kc + 1) (ks + 8) 1849 (loL g b i) [] M') : V X g kc ks 1122 (loL g b i) [] M := by
  have hL := S.2.2.2
  obtain ⟨rm, k, v, M1, M2, c1, c2, e1, e2, e3, hr⟩ := oc_loudnessOf (g := g) hl h hnb (xs (i + 1))
  refine x_aload_n C dL_law_1122 rfl ?_
  refine x_aload_n C dL_law_1123 rfl ?_
  refine x_iload C dL_law_1124 rfl ?_
  refine x_iconst C (v := 1) dL_law_1126 (by decide) ?_
  refine x_iadd C dL_law_1127 ?_
  refine x_sc C S (nI_add i 1) (by omega) dL_law_1128 ?_
  refine x_aload_n C dL_law_1129 rfl ?_
  refine x_callSW C c1 cwL_loudnessOf kl_L_173 (as := [_, _, _]) rfl rfl (rm_1 hr (by omega)) (Nat.le_of_ble_eq_true rfl) dL_law_1130 ?_
  refine x_widen (kc' := kc + 1) (ks' := ks + 8) (by have := hr.2.1; omega) (by have := hr.2.2; omega) ?_
  refine x_istore C (lo' := [(5, _), (4, _), (3, _), (2, _), (1, _), (0, _)]) dL_law_1133 (by decide) rfl ?_
  refine x_aload_n C dL_law_1135 rfl ?_
  refine x_aload_n C dL_law_1136 rfl ?_
  refine x_iload C dL_law_1137 rfl ?_
  refine x_iconst C (v := 1) dL_law_1139 (by decide) ?_
  refine x_iadd C dL_law_1140 ?_
  refine x_sc C S (nI_add i 1) (by omega) dL_law_1141 ?_
  refine x_callV0r C c2 cd_X2_loudnessOf kl_L_175 ci2 rfl (by decide) (as := [_]) rfl rfl (rm_0 ⟨by decide, by decide⟩ ⟨by decide, by decide⟩ (by omega)) ⟨rfl, rfl⟩ (Nat.le_of_ble_eq_true rfl) dL_law_1142 ?_
  refine x_istore C (lo' := [(6, _), (5, _), (4, _), (3, _), (2, _), (1, _), (0, _)]) dL_law_1145 (by decide) rfl ?_
  refine x_aload_n C dL_law_1147 rfl ?_
  refine x_callV0r C (q2_thrown l g _) cd_X2_thrown kl_L_103 ci2 rfl (by decide) (as := []) rfl rfl (rm_0 ⟨by decide, by decide⟩ ⟨by decide, by decide⟩ (by omega)) ⟨rfl, rfl⟩ (Nat.le_of_ble_eq_true rfl) dL_law_1148 ?_
  refine x_iload C dL_law_1151 rfl ?_
  refine x_icmp_eq C (tgt := 1158) dL_law_1153 (by decide) (fun _ => ?_) (fun c => absurd e1 c)
  refine x_iload C dL_law_1158 rfl ?_
  refine x_if_ne C (tgt := 1175) dL_law_1160 (by decide) (fun _ => ?_) (fun c0 => ?_)
  · refine x_goto C (tgt := 1849) dL_law_1175 (by decide) ?_
    exact x_lsub [2, 3, 4, 5, 6] rfl (K _ e3)
  have e37 := e2 c0
  refine x_aload_n C dL_law_1163 rfl ?_
  refine x_iconst C (v := 0) dL_law_1164 (by decide) ?_
  refine x_lald C (n := 1) rfl (by decide) rfl rfl (by decide : 0 < 1) dL_law_1165 ?_
  refine x_iload C dL_law_1166 rfl ?_
  refine x_i2l C dL_law_1168 ?_
  refine x_lcmp C dL_law_1169 ?_
  refine x_if_eq C (tgt := 1175) dL_law_1170 (by decide) (fun _ => ?_) (fun c => absurd (by rw [e37]; exact lgc _) c)
  refine x_goto C (tgt := 1849) dL_law_1175 (by decide) ?_
  exact x_lsub [2, 3, 4, 5, 6] rfl (K _ e3)
set_option maxHeartbeats 1000000 in
set_option maxRecDepth 100000 in
theorem lo_placeOf {X : XT} {g : GT} {l : Launch} {b L i nb kc ks : Nat} {xs : Nat → Int32} {M : Mem} (hl : l.stackTraces = false) (C : Cx X g l cL_law 9 RL (some .boolean) room_1) (S : Sc X g b L xs) (hi : i + 4 ≤ L) (h : Inv nb M) (hnb : nb + 200 ≤ 100000) (hk : kc ≤ 590 ∧ ks ≤ 9000) (K : ∀ M', Inv (nb + 100) M' → V X g (kc + 1) (ks + 8) 1849 (loL g b i) [] M') : V X g kc ks 1178 (loL g b i) [] M := by
  have hL := S.2.2.2
  obtain ⟨rm, k, v, M1, M2, c1, c2, e1, e2, e3, hr⟩ := oc_placeOf (g := g) hl h hnb (xs (i + 1))
  refine x_aload_n C dL_law_1178 rfl ?_
  refine x_aload_n C dL_law_1179 rfl ?_
  refine x_iload C dL_law_1180 rfl ?_
  refine x_iconst C (v := 1) dL_law_1182 (by decide) ?_
  refine x_iadd C dL_law_1183 ?_
  refine x_sc C S (nI_add i 1) (by omega) dL_law_1184 ?_
  refine x_aload_n C dL_law_1185 rfl ?_
  refine x_callSW C c1 cwL_placeOf kl_L_176 (as := [_, _, _]) rfl rfl (rm_1 hr (by omega)) (Nat.le_of_ble_eq_true rfl) dL_law_1186 ?_
  refine x_widen (kc' := kc + 1) (ks' := ks + 8) (by have := hr.2.1; omega) (by have := hr.2.2; omega) ?_
  refine x_istore C (lo' := [(5, _), (4, _), (3, _), (2, _), (1, _), (0, _)]) dL_law_1189 (by decide) rfl ?_
  refine x_aload_n C dL_law_1191 rfl ?_
  refine x_aload_n C dL_law_1192 rfl ?_
  refine x_iload C dL_law_1193 rfl ?_
  refine x_iconst C (v := 1) dL_law_1195 (by decide) ?_
  refine x_iadd C dL_law_1196 ?_
  refine x_sc C S (nI_add i 1) (by omega) dL_law_1197 ?_
  refine x_callV0r C c2 cd_X2_placeOf kl_L_178 ci2 rfl (by decide) (as := [_]) rfl rfl (rm_0 ⟨by decide, by decide⟩ ⟨by decide, by decide⟩ (by omega)) ⟨rfl, rfl⟩ (Nat.le_of_ble_eq_true rfl) dL_law_1198 ?_
  refine x_istore C (lo' := [(6, _), (5, _), (4, _), (3, _), (2, _), (1, _), (0, _)]) dL_law_1201 (by decide) rfl ?_
  refine x_aload_n C dL_law_1203 rfl ?_
  refine x_callV0r C (q2_thrown l g _) cd_X2_thrown kl_L_103 ci2 rfl (by decide) (as := []) rfl rfl (rm_0 ⟨by decide, by decide⟩ ⟨by decide, by decide⟩ (by omega)) ⟨rfl, rfl⟩ (Nat.le_of_ble_eq_true rfl) dL_law_1204 ?_
  refine x_iload C dL_law_1207 rfl ?_
  refine x_icmp_eq C (tgt := 1214) dL_law_1209 (by decide) (fun _ => ?_) (fun c => absurd e1 c)
  refine x_iload C dL_law_1214 rfl ?_
  refine x_if_ne C (tgt := 1231) dL_law_1216 (by decide) (fun _ => ?_) (fun c0 => ?_)
  · refine x_goto C (tgt := 1849) dL_law_1231 (by decide) ?_
    exact x_lsub [2, 3, 4, 5, 6] rfl (K _ e3)
  have e37 := e2 c0
  refine x_aload_n C dL_law_1219 rfl ?_
  refine x_iconst C (v := 0) dL_law_1220 (by decide) ?_
  refine x_lald C (n := 1) rfl (by decide) rfl rfl (by decide : 0 < 1) dL_law_1221 ?_
  refine x_iload C dL_law_1222 rfl ?_
  refine x_i2l C dL_law_1224 ?_
  refine x_lcmp C dL_law_1225 ?_
  refine x_if_eq C (tgt := 1231) dL_law_1226 (by decide) (fun _ => ?_) (fun c => absurd (by rw [e37]; exact lgc _) c)
  refine x_goto C (tgt := 1849) dL_law_1231 (by decide) ?_
  exact x_lsub [2, 3, 4, 5, 6] rfl (K _ e3)
set_option maxHeartbeats 1000000 in
set_option maxRecDepth 100000 in
theorem lo_turnsOf {X : XT} {g : GT} {l : Launch} {b L i nb kc ks : Nat} {xs : Nat → Int32} {M : Mem} (hl : l.stackTraces = false) (C : Cx X g l cL_law 9 RL (some .boolean) room_1) (S : Sc X g b L xs) (hi : i + 4 ≤ L) (h : Inv nb M) (hnb : nb + 200 ≤ 100000) (hk : kc ≤ 590 ∧ ks ≤ 9000) (K : ∀ M', Inv (nb + 100) M' → V X g (kc + 1) (ks + 8) 1849 (loL g b i) [] M') : V X g kc ks 1297 (loL g b i) [] M := by
  have hL := S.2.2.2
  obtain ⟨rm, k, v, M1, M2, c1, c2, e1, e2, e3, hr⟩ := oc_turnsOf (g := g) hl h hnb (xs (i + 1))
  refine x_aload_n C dL_law_1297 rfl ?_
  refine x_aload_n C dL_law_1298 rfl ?_
  refine x_iload C dL_law_1299 rfl ?_
  refine x_iconst C (v := 1) dL_law_1301 (by decide) ?_
  refine x_iadd C dL_law_1302 ?_
  refine x_sc C S (nI_add i 1) (by omega) dL_law_1303 ?_
  refine x_aload_n C dL_law_1304 rfl ?_
  refine x_callSW C c1 cwL_turnsOf kl_L_182 (as := [_, _, _]) rfl rfl (rm_1 hr (by omega)) (Nat.le_of_ble_eq_true rfl) dL_law_1305 ?_
  refine x_widen (kc' := kc + 1) (ks' := ks + 8) (by have := hr.2.1; omega) (by have := hr.2.2; omega) ?_
  refine x_istore C (lo' := [(5, _), (4, _), (3, _), (2, _), (1, _), (0, _)]) dL_law_1308 (by decide) rfl ?_
  refine x_aload_n C dL_law_1310 rfl ?_
  refine x_aload_n C dL_law_1311 rfl ?_
  refine x_iload C dL_law_1312 rfl ?_
  refine x_iconst C (v := 1) dL_law_1314 (by decide) ?_
  refine x_iadd C dL_law_1315 ?_
  refine x_sc C S (nI_add i 1) (by omega) dL_law_1316 ?_
  refine x_callV0r C c2 cd_X2_turnsOf kl_L_184 ci2 rfl (by decide) (as := [_]) rfl rfl (rm_0 ⟨by decide, by decide⟩ ⟨by decide, by decide⟩ (by omega)) ⟨rfl, rfl⟩ (Nat.le_of_ble_eq_true rfl) dL_law_1317 ?_
  refine x_istore C (lo' := [(6, _), (5, _), (4, _), (3, _), (2, _), (1, _), (0, _)]) dL_law_1320 (by decide) rfl ?_
  refine x_aload_n C dL_law_1322 rfl ?_
  refine x_callV0r C (q2_thrown l g _) cd_X2_thrown kl_L_103 ci2 rfl (by decide) (as := []) rfl rfl (rm_0 ⟨by decide, by decide⟩ ⟨by decide, by decide⟩ (by omega)) ⟨rfl, rfl⟩ (Nat.le_of_ble_eq_true rfl) dL_law_1323 ?_
  refine x_iload C dL_law_1326 rfl ?_
  refine x_icmp_eq C (tgt := 1333) dL_law_1328 (by decide) (fun _ => ?_) (fun c => absurd e1 c)
  refine x_iload C dL_law_1333 rfl ?_
  refine x_if_ne C (tgt := 1350) dL_law_1335 (by decide) (fun _ => ?_) (fun c0 => ?_)
  · refine x_goto C (tgt := 1849) dL_law_1350 (by decide) ?_
    exact x_lsub [2, 3, 4, 5, 6] rfl (K _ e3)
  have e37 := e2 c0
  refine x_aload_n C dL_law_1338 rfl ?_
  refine x_iconst C (v := 0) dL_law_1339 (by decide) ?_
  refine x_lald C (n := 1) rfl (by decide) rfl rfl (by decide : 0 < 1) dL_law_1340 ?_
  refine x_iload C dL_law_1341 rfl ?_
  refine x_i2l C dL_law_1343 ?_
  refine x_lcmp C dL_law_1344 ?_
  refine x_if_eq C (tgt := 1350) dL_law_1345 (by decide) (fun _ => ?_) (fun c => absurd (by rw [e37]; exact lgc _) c)
  refine x_goto C (tgt := 1849) dL_law_1350 (by decide) ?_
  exact x_lsub [2, 3, 4, 5, 6] rfl (K _ e3)
set_option maxHeartbeats 1000000 in
set_option maxRecDepth 100000 in
theorem lo_nextWall_0 {X : XT} {g : GT} {l : Launch} {b L i nb kc ks : Nat} {xs : Nat → Int32} {M : Mem} (hl : l.stackTraces = false) (C : Cx X g l cL_law 9 RL (some .boolean) room_1) (S : Sc X g b L xs) (hi : i + 4 ≤ L) (hz : xs (i + 2) = 0) (h : Inv nb M) (hnb : nb + 200 ≤ 100000) (hk : kc ≤ 590 ∧ ks ≤ 9000) (K : ∀ M', Inv (nb + 100) M' → V X g (kc + 1) (ks + 8) 1849 (loL g b i) [] M') : V X g kc ks 1353 (loL g b i) [] M := by
  have hL := S.2.2.2
  obtain ⟨rm, k, v, M1, M2, c1, c2, e1, e2, e3, hr⟩ := oc_nextWall (g := g) hl h hnb (xs (i + 1)) 0
  refine x_aload_n C dL_law_1353 rfl ?_
  refine x_aload_n C dL_law_1354 rfl ?_
  refine x_iload C dL_law_1355 rfl ?_
  refine x_iconst C (v := 1) dL_law_1357 (by decide) ?_
  refine x_iadd C dL_law_1358 ?_
  refine x_sc C S (nI_add i 1) (by omega) dL_law_1359 ?_
  refine x_aload_n C dL_law_1360 rfl ?_
  refine x_iload C dL_law_1361 rfl ?_
  refine x_iconst C (v := 2) dL_law_1363 (by decide) ?_
  refine x_iadd C dL_law_1364 ?_
  refine x_sc C S (nI_add i 2) (by omega) dL_law_1365 ?_
  refine x_if_eq C (tgt := 1373) dL_law_1366 (by decide) (fun _ => ?_) (fun c => absurd hz c)
  refine x_iconst C (v := 0) dL_law_1373 (by decide) ?_
  refine x_aload_n C dL_law_1374 rfl ?_
  refine x_callSW C c1 cwL_nextWall kl_L_185 (as := [_, _, _, _]) rfl rfl (rm_1 hr (by omega)) (Nat.le_of_ble_eq_true rfl) dL_law_1375 ?_
  refine x_widen (kc' := kc + 1) (ks' := ks + 8) (by have := hr.2.1; omega) (by have := hr.2.2; omega) ?_
  refine x_istore C (lo' := [(5, _), (4, _), (3, _), (2, _), (1, _), (0, _)]) dL_law_1378 (by decide) rfl ?_
  refine x_aload_n C dL_law_1380 rfl ?_
  refine x_aload_n C dL_law_1381 rfl ?_
  refine x_iload C dL_law_1382 rfl ?_
  refine x_iconst C (v := 1) dL_law_1384 (by decide) ?_
  refine x_iadd C dL_law_1385 ?_
  refine x_sc C S (nI_add i 1) (by omega) dL_law_1386 ?_
  refine x_aload_n C dL_law_1387 rfl ?_
  refine x_iload C dL_law_1388 rfl ?_
  refine x_iconst C (v := 2) dL_law_1390 (by decide) ?_
  refine x_iadd C dL_law_1391 ?_
  refine x_sc C S (nI_add i 2) (by omega) dL_law_1392 ?_
  refine x_if_eq C (tgt := 1400) dL_law_1393 (by decide) (fun _ => ?_) (fun c => absurd hz c)
  refine x_iconst C (v := 0) dL_law_1400 (by decide) ?_
  refine x_callV0r C c2 cd_X2_nextWall kl_L_188 ci2 rfl (by decide) (as := [_, _]) rfl rfl (rm_0 ⟨by decide, by decide⟩ ⟨by decide, by decide⟩ (by omega)) ⟨rfl, rfl⟩ (Nat.le_of_ble_eq_true rfl) dL_law_1401 ?_
  refine x_istore C (lo' := [(6, _), (5, _), (4, _), (3, _), (2, _), (1, _), (0, _)]) dL_law_1404 (by decide) rfl ?_
  refine x_aload_n C dL_law_1406 rfl ?_
  refine x_callV0r C (q2_thrown l g _) cd_X2_thrown kl_L_103 ci2 rfl (by decide) (as := []) rfl rfl (rm_0 ⟨by decide, by decide⟩ ⟨by decide, by decide⟩ (by omega)) ⟨rfl, rfl⟩ (Nat.le_of_ble_eq_true rfl) dL_law_1407 ?_
  refine x_iload C dL_law_1410 rfl ?_
  refine x_icmp_eq C (tgt := 1417) dL_law_1412 (by decide) (fun _ => ?_) (fun c => absurd e1 c)
  refine x_iload C dL_law_1417 rfl ?_
  refine x_if_ne C (tgt := 1434) dL_law_1419 (by decide) (fun _ => ?_) (fun c0 => ?_)
  · refine x_goto C (tgt := 1849) dL_law_1434 (by decide) ?_
    exact x_lsub [2, 3, 4, 5, 6] rfl (K _ e3)
  have e37 := e2 c0
  refine x_aload_n C dL_law_1422 rfl ?_
  refine x_iconst C (v := 0) dL_law_1423 (by decide) ?_
  refine x_lald C (n := 1) rfl (by decide) rfl rfl (by decide : 0 < 1) dL_law_1424 ?_
  refine x_iload C dL_law_1425 rfl ?_
  refine x_i2l C dL_law_1427 ?_
  refine x_lcmp C dL_law_1428 ?_
  refine x_if_eq C (tgt := 1434) dL_law_1429 (by decide) (fun _ => ?_) (fun c => absurd (by rw [e37]; exact lgc _) c)
  refine x_goto C (tgt := 1849) dL_law_1434 (by decide) ?_
  exact x_lsub [2, 3, 4, 5, 6] rfl (K _ e3)
set_option maxHeartbeats 1000000 in
set_option maxRecDepth 100000 in
theorem lo_nextWall_1 {X : XT} {g : GT} {l : Launch} {b L i nb kc ks : Nat} {xs : Nat → Int32} {M : Mem} (hl : l.stackTraces = false) (C : Cx X g l cL_law 9 RL (some .boolean) room_1) (S : Sc X g b L xs) (hi : i + 4 ≤ L) (hz : xs (i + 2) ≠ 0) (h : Inv nb M) (hnb : nb + 200 ≤ 100000) (hk : kc ≤ 590 ∧ ks ≤ 9000) (K : ∀ M', Inv (nb + 100) M' → V X g (kc + 1) (ks + 8) 1849 (loL g b i) [] M') : V X g kc ks 1353 (loL g b i) [] M := by
  have hL := S.2.2.2
  obtain ⟨rm, k, v, M1, M2, c1, c2, e1, e2, e3, hr⟩ := oc_nextWall (g := g) hl h hnb (xs (i + 1)) 1
  refine x_aload_n C dL_law_1353 rfl ?_
  refine x_aload_n C dL_law_1354 rfl ?_
  refine x_iload C dL_law_1355 rfl ?_
  refine x_iconst C (v := 1) dL_law_1357 (by decide) ?_
  refine x_iadd C dL_law_1358 ?_
  refine x_sc C S (nI_add i 1) (by omega) dL_law_1359 ?_
  refine x_aload_n C dL_law_1360 rfl ?_
  refine x_iload C dL_law_1361 rfl ?_
  refine x_iconst C (v := 2) dL_law_1363 (by decide) ?_
  refine x_iadd C dL_law_1364 ?_
  refine x_sc C S (nI_add i 2) (by omega) dL_law_1365 ?_
  refine x_if_eq C (tgt := 1373) dL_law_1366 (by decide) (fun c => absurd c hz) (fun _ => ?_)
  refine x_iconst C (v := 1) dL_law_1369 (by decide) ?_
  refine x_goto C (tgt := 1374) dL_law_1370 (by decide) ?_
  refine x_aload_n C dL_law_1374 rfl ?_
  refine x_callSW C c1 cwL_nextWall kl_L_185 (as := [_, _, _, _]) rfl rfl (rm_1 hr (by omega)) (Nat.le_of_ble_eq_true rfl) dL_law_1375 ?_
  refine x_widen (kc' := kc + 1) (ks' := ks + 8) (by have := hr.2.1; omega) (by have := hr.2.2; omega) ?_
  refine x_istore C (lo' := [(5, _), (4, _), (3, _), (2, _), (1, _), (0, _)]) dL_law_1378 (by decide) rfl ?_
  refine x_aload_n C dL_law_1380 rfl ?_
  refine x_aload_n C dL_law_1381 rfl ?_
  refine x_iload C dL_law_1382 rfl ?_
  refine x_iconst C (v := 1) dL_law_1384 (by decide) ?_
  refine x_iadd C dL_law_1385 ?_
  refine x_sc C S (nI_add i 1) (by omega) dL_law_1386 ?_
  refine x_aload_n C dL_law_1387 rfl ?_
  refine x_iload C dL_law_1388 rfl ?_
  refine x_iconst C (v := 2) dL_law_1390 (by decide) ?_
  refine x_iadd C dL_law_1391 ?_
  refine x_sc C S (nI_add i 2) (by omega) dL_law_1392 ?_
  refine x_if_eq C (tgt := 1400) dL_law_1393 (by decide) (fun c => absurd c hz) (fun _ => ?_)
  refine x_iconst C (v := 1) dL_law_1396 (by decide) ?_
  refine x_goto C (tgt := 1401) dL_law_1397 (by decide) ?_
  refine x_callV0r C c2 cd_X2_nextWall kl_L_188 ci2 rfl (by decide) (as := [_, _]) rfl rfl (rm_0 ⟨by decide, by decide⟩ ⟨by decide, by decide⟩ (by omega)) ⟨rfl, rfl⟩ (Nat.le_of_ble_eq_true rfl) dL_law_1401 ?_
  refine x_istore C (lo' := [(6, _), (5, _), (4, _), (3, _), (2, _), (1, _), (0, _)]) dL_law_1404 (by decide) rfl ?_
  refine x_aload_n C dL_law_1406 rfl ?_
  refine x_callV0r C (q2_thrown l g _) cd_X2_thrown kl_L_103 ci2 rfl (by decide) (as := []) rfl rfl (rm_0 ⟨by decide, by decide⟩ ⟨by decide, by decide⟩ (by omega)) ⟨rfl, rfl⟩ (Nat.le_of_ble_eq_true rfl) dL_law_1407 ?_
  refine x_iload C dL_law_1410 rfl ?_
  refine x_icmp_eq C (tgt := 1417) dL_law_1412 (by decide) (fun _ => ?_) (fun c => absurd e1 c)
  refine x_iload C dL_law_1417 rfl ?_
  refine x_if_ne C (tgt := 1434) dL_law_1419 (by decide) (fun _ => ?_) (fun c0 => ?_)
  · refine x_goto C (tgt := 1849) dL_law_1434 (by decide) ?_
    exact x_lsub [2, 3, 4, 5, 6] rfl (K _ e3)
  have e37 := e2 c0
  refine x_aload_n C dL_law_1422 rfl ?_
  refine x_iconst C (v := 0) dL_law_1423 (by decide) ?_
  refine x_lald C (n := 1) rfl (by decide) rfl rfl (by decide : 0 < 1) dL_law_1424 ?_
  refine x_iload C dL_law_1425 rfl ?_
  refine x_i2l C dL_law_1427 ?_
  refine x_lcmp C dL_law_1428 ?_
  refine x_if_eq C (tgt := 1434) dL_law_1429 (by decide) (fun _ => ?_) (fun c => absurd (by rw [e37]; exact lgc _) c)
  refine x_goto C (tgt := 1849) dL_law_1434 (by decide) ?_
  exact x_lsub [2, 3, 4, 5, 6] rfl (K _ e3)
set_option maxHeartbeats 1000000 in
set_option maxRecDepth 100000 in
theorem lo_beatsUntilGone {X : XT} {g : GT} {l : Launch} {b L i nb kc ks : Nat} {xs : Nat → Int32} {M : Mem} (hl : l.stackTraces = false) (C : Cx X g l cL_law 9 RL (some .boolean) room_1) (S : Sc X g b L xs) (hi : i + 4 ≤ L) (h : Inv nb M) (hnb : nb + 200 ≤ 100000) (hk : kc ≤ 590 ∧ ks ≤ 9000) (K : ∀ M', Inv (nb + 100) M' → V X g (kc + 1) (ks + 8) 1849 (loL g b i) [] M') : V X g kc ks 1437 (loL g b i) [] M := by
  have hL := S.2.2.2
  obtain ⟨rm, k, v, M1, M2, c1, c2, e1, e2, e3, hr⟩ := oc_beatsUntilGone (g := g) hl h hnb (xs (i + 1))
  refine x_aload_n C dL_law_1437 rfl ?_
  refine x_aload_n C dL_law_1438 rfl ?_
  refine x_iload C dL_law_1439 rfl ?_
  refine x_iconst C (v := 1) dL_law_1441 (by decide) ?_
  refine x_iadd C dL_law_1442 ?_
  refine x_sc C S (nI_add i 1) (by omega) dL_law_1443 ?_
  refine x_aload_n C dL_law_1444 rfl ?_
  refine x_callSW C c1 cwL_beatsUntilGone kl_L_189 (as := [_, _, _]) rfl rfl (rm_1 hr (by omega)) (Nat.le_of_ble_eq_true rfl) dL_law_1445 ?_
  refine x_widen (kc' := kc + 1) (ks' := ks + 8) (by have := hr.2.1; omega) (by have := hr.2.2; omega) ?_
  refine x_istore C (lo' := [(5, _), (4, _), (3, _), (2, _), (1, _), (0, _)]) dL_law_1448 (by decide) rfl ?_
  refine x_aload_n C dL_law_1450 rfl ?_
  refine x_aload_n C dL_law_1451 rfl ?_
  refine x_iload C dL_law_1452 rfl ?_
  refine x_iconst C (v := 1) dL_law_1454 (by decide) ?_
  refine x_iadd C dL_law_1455 ?_
  refine x_sc C S (nI_add i 1) (by omega) dL_law_1456 ?_
  refine x_callV0r C c2 cd_X2_beatsUntilGone kl_L_191 ci2 rfl (by decide) (as := [_]) rfl rfl (rm_0 ⟨by decide, by decide⟩ ⟨by decide, by decide⟩ (by omega)) ⟨rfl, rfl⟩ (Nat.le_of_ble_eq_true rfl) dL_law_1457 ?_
  refine x_istore C (lo' := [(6, _), (5, _), (4, _), (3, _), (2, _), (1, _), (0, _)]) dL_law_1460 (by decide) rfl ?_
  refine x_aload_n C dL_law_1462 rfl ?_
  refine x_callV0r C (q2_thrown l g _) cd_X2_thrown kl_L_103 ci2 rfl (by decide) (as := []) rfl rfl (rm_0 ⟨by decide, by decide⟩ ⟨by decide, by decide⟩ (by omega)) ⟨rfl, rfl⟩ (Nat.le_of_ble_eq_true rfl) dL_law_1463 ?_
  refine x_iload C dL_law_1466 rfl ?_
  refine x_icmp_eq C (tgt := 1473) dL_law_1468 (by decide) (fun _ => ?_) (fun c => absurd e1 c)
  refine x_iload C dL_law_1473 rfl ?_
  refine x_if_ne C (tgt := 1490) dL_law_1475 (by decide) (fun _ => ?_) (fun c0 => ?_)
  · refine x_goto C (tgt := 1849) dL_law_1490 (by decide) ?_
    exact x_lsub [2, 3, 4, 5, 6] rfl (K _ e3)
  have e37 := e2 c0
  refine x_aload_n C dL_law_1478 rfl ?_
  refine x_iconst C (v := 0) dL_law_1479 (by decide) ?_
  refine x_lald C (n := 1) rfl (by decide) rfl rfl (by decide : 0 < 1) dL_law_1480 ?_
  refine x_iload C dL_law_1481 rfl ?_
  refine x_i2l C dL_law_1483 ?_
  refine x_lcmp C dL_law_1484 ?_
  refine x_if_eq C (tgt := 1490) dL_law_1485 (by decide) (fun _ => ?_) (fun c => absurd (by rw [e37]; exact lgc _) c)
  refine x_goto C (tgt := 1849) dL_law_1490 (by decide) ?_
  exact x_lsub [2, 3, 4, 5, 6] rfl (K _ e3)
set_option maxHeartbeats 1000000 in
set_option maxRecDepth 100000 in
theorem lo_coinsIn {X : XT} {g : GT} {l : Launch} {b L i nb kc ks : Nat} {xs : Nat → Int32} {M : Mem} (hl : l.stackTraces = false) (C : Cx X g l cL_law 9 RL (some .boolean) room_1) (S : Sc X g b L xs) (hi : i + 4 ≤ L) (h : Inv nb M) (hnb : nb + 200 ≤ 100000) (hk : kc ≤ 590 ∧ ks ≤ 9000) (K : ∀ M', Inv (nb + 100) M' → V X g (kc + 1) (ks + 8) 1849 (loL g b i) [] M') : V X g kc ks 1506 (loL g b i) [] M := by
  have hL := S.2.2.2
  obtain ⟨rm, k, v, M1, M2, c1, c2, e1, e2, e3, hr⟩ := oc_coinsIn (g := g) hl h hnb (xs (i + 1)) (xs (i + 2))
  refine x_aload_n C dL_law_1506 rfl ?_
  refine x_aload_n C dL_law_1507 rfl ?_
  refine x_iload C dL_law_1508 rfl ?_
  refine x_iconst C (v := 1) dL_law_1510 (by decide) ?_
  refine x_iadd C dL_law_1511 ?_
  refine x_sc C S (nI_add i 1) (by omega) dL_law_1512 ?_
  refine x_aload_n C dL_law_1513 rfl ?_
  refine x_iload C dL_law_1514 rfl ?_
  refine x_iconst C (v := 2) dL_law_1516 (by decide) ?_
  refine x_iadd C dL_law_1517 ?_
  refine x_sc C S (nI_add i 2) (by omega) dL_law_1518 ?_
  refine x_aload_n C dL_law_1519 rfl ?_
  refine x_callSW C c1 cwL_coinsIn kl_L_196 (as := [_, _, _, _]) rfl rfl (rm_1 hr (by omega)) (Nat.le_of_ble_eq_true rfl) dL_law_1520 ?_
  refine x_widen (kc' := kc + 1) (ks' := ks + 8) (by have := hr.2.1; omega) (by have := hr.2.2; omega) ?_
  refine x_istore C (lo' := [(5, _), (4, _), (3, _), (2, _), (1, _), (0, _)]) dL_law_1523 (by decide) rfl ?_
  refine x_aload_n C dL_law_1525 rfl ?_
  refine x_aload_n C dL_law_1526 rfl ?_
  refine x_iload C dL_law_1527 rfl ?_
  refine x_iconst C (v := 1) dL_law_1529 (by decide) ?_
  refine x_iadd C dL_law_1530 ?_
  refine x_sc C S (nI_add i 1) (by omega) dL_law_1531 ?_
  refine x_aload_n C dL_law_1532 rfl ?_
  refine x_iload C dL_law_1533 rfl ?_
  refine x_iconst C (v := 2) dL_law_1535 (by decide) ?_
  refine x_iadd C dL_law_1536 ?_
  refine x_sc C S (nI_add i 2) (by omega) dL_law_1537 ?_
  refine x_callV0r C c2 cd_X2_coinsIn kl_L_198 ci2 rfl (by decide) (as := [_, _]) rfl rfl (rm_0 ⟨by decide, by decide⟩ ⟨by decide, by decide⟩ (by omega)) ⟨rfl, rfl⟩ (Nat.le_of_ble_eq_true rfl) dL_law_1538 ?_
  refine x_istore C (lo' := [(6, _), (5, _), (4, _), (3, _), (2, _), (1, _), (0, _)]) dL_law_1541 (by decide) rfl ?_
  refine x_aload_n C dL_law_1543 rfl ?_
  refine x_callV0r C (q2_thrown l g _) cd_X2_thrown kl_L_103 ci2 rfl (by decide) (as := []) rfl rfl (rm_0 ⟨by decide, by decide⟩ ⟨by decide, by decide⟩ (by omega)) ⟨rfl, rfl⟩ (Nat.le_of_ble_eq_true rfl) dL_law_1544 ?_
  refine x_iload C dL_law_1547 rfl ?_
  refine x_icmp_eq C (tgt := 1554) dL_law_1549 (by decide) (fun _ => ?_) (fun c => absurd e1 c)
  refine x_iload C dL_law_1554 rfl ?_
  refine x_if_ne C (tgt := 1571) dL_law_1556 (by decide) (fun _ => ?_) (fun c0 => ?_)
  · refine x_goto C (tgt := 1849) dL_law_1571 (by decide) ?_
    exact x_lsub [2, 3, 4, 5, 6] rfl (K _ e3)
  have e37 := e2 c0
  refine x_aload_n C dL_law_1559 rfl ?_
  refine x_iconst C (v := 0) dL_law_1560 (by decide) ?_
  refine x_lald C (n := 1) rfl (by decide) rfl rfl (by decide : 0 < 1) dL_law_1561 ?_
  refine x_iload C dL_law_1562 rfl ?_
  refine x_i2l C dL_law_1564 ?_
  refine x_lcmp C dL_law_1565 ?_
  refine x_if_eq C (tgt := 1571) dL_law_1566 (by decide) (fun _ => ?_) (fun c => absurd (by rw [e37]; exact lgc _) c)
  refine x_goto C (tgt := 1849) dL_law_1571 (by decide) ?_
  exact x_lsub [2, 3, 4, 5, 6] rfl (K _ e3)
set_option maxHeartbeats 1000000 in
set_option maxRecDepth 100000 in
theorem lo_loudestOn {X : XT} {g : GT} {l : Launch} {b L i nb kc ks : Nat} {xs : Nat → Int32} {M : Mem} (hl : l.stackTraces = false) (C : Cx X g l cL_law 9 RL (some .boolean) room_1) (S : Sc X g b L xs) (hi : i + 4 ≤ L) (h : Inv nb M) (hnb : nb + 200 ≤ 100000) (hk : kc ≤ 590 ∧ ks ≤ 9000) (K : ∀ M', Inv (nb + 100) M' → V X g (kc + 1) (ks + 8) 1849 (loL g b i) [] M') : V X g kc ks 1574 (loL g b i) [] M := by
  have hL := S.2.2.2
  obtain ⟨rm, k, v, M1, M2, c1, c2, e1, e2, e3, hr⟩ := oc_loudestOn (g := g) hl h hnb (xs (i + 1)) (xs (i + 2))
  refine x_aload_n C dL_law_1574 rfl ?_
  refine x_aload_n C dL_law_1575 rfl ?_
  refine x_iload C dL_law_1576 rfl ?_
  refine x_iconst C (v := 1) dL_law_1578 (by decide) ?_
  refine x_iadd C dL_law_1579 ?_
  refine x_sc C S (nI_add i 1) (by omega) dL_law_1580 ?_
  refine x_aload_n C dL_law_1581 rfl ?_
  refine x_iload C dL_law_1582 rfl ?_
  refine x_iconst C (v := 2) dL_law_1584 (by decide) ?_
  refine x_iadd C dL_law_1585 ?_
  refine x_sc C S (nI_add i 2) (by omega) dL_law_1586 ?_
  refine x_aload_n C dL_law_1587 rfl ?_
  refine x_callSW C c1 cwL_loudestOn kl_L_199 (as := [_, _, _, _]) rfl rfl (rm_1 hr (by omega)) (Nat.le_of_ble_eq_true rfl) dL_law_1588 ?_
  refine x_widen (kc' := kc + 1) (ks' := ks + 8) (by have := hr.2.1; omega) (by have := hr.2.2; omega) ?_
  refine x_istore C (lo' := [(5, _), (4, _), (3, _), (2, _), (1, _), (0, _)]) dL_law_1591 (by decide) rfl ?_
  refine x_aload_n C dL_law_1593 rfl ?_
  refine x_aload_n C dL_law_1594 rfl ?_
  refine x_iload C dL_law_1595 rfl ?_
  refine x_iconst C (v := 1) dL_law_1597 (by decide) ?_
  refine x_iadd C dL_law_1598 ?_
  refine x_sc C S (nI_add i 1) (by omega) dL_law_1599 ?_
  refine x_aload_n C dL_law_1600 rfl ?_
  refine x_iload C dL_law_1601 rfl ?_
  refine x_iconst C (v := 2) dL_law_1603 (by decide) ?_
  refine x_iadd C dL_law_1604 ?_
  refine x_sc C S (nI_add i 2) (by omega) dL_law_1605 ?_
  refine x_callV0r C c2 cd_X2_loudestOn kl_L_201 ci2 rfl (by decide) (as := [_, _]) rfl rfl (rm_0 ⟨by decide, by decide⟩ ⟨by decide, by decide⟩ (by omega)) ⟨rfl, rfl⟩ (Nat.le_of_ble_eq_true rfl) dL_law_1606 ?_
  refine x_istore C (lo' := [(6, _), (5, _), (4, _), (3, _), (2, _), (1, _), (0, _)]) dL_law_1609 (by decide) rfl ?_
  refine x_aload_n C dL_law_1611 rfl ?_
  refine x_callV0r C (q2_thrown l g _) cd_X2_thrown kl_L_103 ci2 rfl (by decide) (as := []) rfl rfl (rm_0 ⟨by decide, by decide⟩ ⟨by decide, by decide⟩ (by omega)) ⟨rfl, rfl⟩ (Nat.le_of_ble_eq_true rfl) dL_law_1612 ?_
  refine x_iload C dL_law_1615 rfl ?_
  refine x_icmp_eq C (tgt := 1622) dL_law_1617 (by decide) (fun _ => ?_) (fun c => absurd e1 c)
  refine x_iload C dL_law_1622 rfl ?_
  refine x_if_ne C (tgt := 1639) dL_law_1624 (by decide) (fun _ => ?_) (fun c0 => ?_)
  · refine x_goto C (tgt := 1849) dL_law_1639 (by decide) ?_
    exact x_lsub [2, 3, 4, 5, 6] rfl (K _ e3)
  have e37 := e2 c0
  refine x_aload_n C dL_law_1627 rfl ?_
  refine x_iconst C (v := 0) dL_law_1628 (by decide) ?_
  refine x_lald C (n := 1) rfl (by decide) rfl rfl (by decide : 0 < 1) dL_law_1629 ?_
  refine x_iload C dL_law_1630 rfl ?_
  refine x_i2l C dL_law_1632 ?_
  refine x_lcmp C dL_law_1633 ?_
  refine x_if_eq C (tgt := 1639) dL_law_1634 (by decide) (fun _ => ?_) (fun c => absurd (by rw [e37]; exact lgc _) c)
  refine x_goto C (tgt := 1849) dL_law_1639 (by decide) ?_
  exact x_lsub [2, 3, 4, 5, 6] rfl (K _ e3)
set_option maxHeartbeats 1000000 in
set_option maxRecDepth 100000 in
theorem lo_loudnessWanted_0 {X : XT} {g : GT} {l : Launch} {b L i nb kc ks : Nat} {xs : Nat → Int32} {M : Mem} (hl : l.stackTraces = false) (C : Cx X g l cL_law 9 RL (some .boolean) room_1) (S : Sc X g b L xs) (hi : i + 4 ≤ L) (hz : xs (i + 2) = 0) (h : Inv nb M) (hnb : nb + 200 ≤ 100000) (hk : kc ≤ 590 ∧ ks ≤ 9000) (K : ∀ M', Inv (nb + 100) M' → V X g (kc + 1) (ks + 8) 1849 (loL g b i) [] M') : V X g kc ks 1642 (loL g b i) [] M := by
  have hL := S.2.2.2
  obtain ⟨rm, k, v, M1, M2, c1, c2, e1, e2, e3, hr⟩ := oc_loudnessWanted (g := g) hl h hnb (xs (i + 1)) 0 (xs (i + 3))
  refine x_aload_n C dL_law_1642 rfl ?_
  refine x_aload_n C dL_law_1643 rfl ?_
  refine x_iload C dL_law_1644 rfl ?_
  refine x_iconst C (v := 1) dL_law_1646 (by decide) ?_
  refine x_iadd C dL_law_1647 ?_
  refine x_sc C S (nI_add i 1) (by omega) dL_law_1648 ?_
  refine x_aload_n C dL_law_1649 rfl ?_
  refine x_iload C dL_law_1650 rfl ?_
  refine x_iconst C (v := 2) dL_law_1652 (by decide) ?_
  refine x_iadd C dL_law_1653 ?_
  refine x_sc C S (nI_add i 2) (by omega) dL_law_1654 ?_
  refine x_if_eq C (tgt := 1662) dL_law_1655 (by decide) (fun _ => ?_) (fun c => absurd hz c)
  refine x_iconst C (v := 0) dL_law_1662 (by decide) ?_
  refine x_aload_n C dL_law_1663 rfl ?_
  refine x_iload C dL_law_1664 rfl ?_
  refine x_iconst C (v := 3) dL_law_1666 (by decide) ?_
  refine x_iadd C dL_law_1667 ?_
  refine x_sc C S (nI_add i 3) (by omega) dL_law_1668 ?_
  refine x_aload_n C dL_law_1669 rfl ?_
  refine x_callSW C c1 cwL_loudnessWanted kl_L_202 (as := [_, _, _, _, _]) rfl rfl (rm_1 hr (by omega)) (Nat.le_of_ble_eq_true rfl) dL_law_1670 ?_
  refine x_widen (kc' := kc + 1) (ks' := ks + 8) (by have := hr.2.1; omega) (by have := hr.2.2; omega) ?_
  refine x_istore C (lo' := [(5, _), (4, _), (3, _), (2, _), (1, _), (0, _)]) dL_law_1673 (by decide) rfl ?_
  refine x_aload_n C dL_law_1675 rfl ?_
  refine x_aload_n C dL_law_1676 rfl ?_
  refine x_iload C dL_law_1677 rfl ?_
  refine x_iconst C (v := 1) dL_law_1679 (by decide) ?_
  refine x_iadd C dL_law_1680 ?_
  refine x_sc C S (nI_add i 1) (by omega) dL_law_1681 ?_
  refine x_aload_n C dL_law_1682 rfl ?_
  refine x_iload C dL_law_1683 rfl ?_
  refine x_iconst C (v := 2) dL_law_1685 (by decide) ?_
  refine x_iadd C dL_law_1686 ?_
  refine x_sc C S (nI_add i 2) (by omega) dL_law_1687 ?_
  refine x_if_eq C (tgt := 1695) dL_law_1688 (by decide) (fun _ => ?_) (fun c => absurd hz c)
  refine x_iconst C (v := 0) dL_law_1695 (by decide) ?_
  refine x_aload_n C dL_law_1696 rfl ?_
  refine x_iload C dL_law_1697 rfl ?_
  refine x_iconst C (v := 3) dL_law_1699 (by decide) ?_
  refine x_iadd C dL_law_1700 ?_
  refine x_sc C S (nI_add i 3) (by omega) dL_law_1701 ?_
  refine x_callV0r C c2 cd_X2_loudnessWanted kl_L_204 ci2 rfl (by decide) (as := [_, _, _]) rfl rfl (rm_0 ⟨by decide, by decide⟩ ⟨by decide, by decide⟩ (by omega)) ⟨rfl, rfl⟩ (Nat.le_of_ble_eq_true rfl) dL_law_1702 ?_
  refine x_istore C (lo' := [(6, _), (5, _), (4, _), (3, _), (2, _), (1, _), (0, _)]) dL_law_1705 (by decide) rfl ?_
  refine x_aload_n C dL_law_1707 rfl ?_
  refine x_callV0r C (q2_thrown l g _) cd_X2_thrown kl_L_103 ci2 rfl (by decide) (as := []) rfl rfl (rm_0 ⟨by decide, by decide⟩ ⟨by decide, by decide⟩ (by omega)) ⟨rfl, rfl⟩ (Nat.le_of_ble_eq_true rfl) dL_law_1708 ?_
  refine x_iload C dL_law_1711 rfl ?_
  refine x_icmp_eq C (tgt := 1718) dL_law_1713 (by decide) (fun _ => ?_) (fun c => absurd e1 c)
  refine x_iload C dL_law_1718 rfl ?_
  refine x_if_ne C (tgt := 1735) dL_law_1720 (by decide) (fun _ => ?_) (fun c0 => ?_)
  · refine x_goto C (tgt := 1849) dL_law_1735 (by decide) ?_
    exact x_lsub [2, 3, 4, 5, 6] rfl (K _ e3)
  have e37 := e2 c0
  refine x_aload_n C dL_law_1723 rfl ?_
  refine x_iconst C (v := 0) dL_law_1724 (by decide) ?_
  refine x_lald C (n := 1) rfl (by decide) rfl rfl (by decide : 0 < 1) dL_law_1725 ?_
  refine x_iload C dL_law_1726 rfl ?_
  refine x_i2l C dL_law_1728 ?_
  refine x_lcmp C dL_law_1729 ?_
  refine x_if_eq C (tgt := 1735) dL_law_1730 (by decide) (fun _ => ?_) (fun c => absurd (by rw [e37]; exact lgc _) c)
  refine x_goto C (tgt := 1849) dL_law_1735 (by decide) ?_
  exact x_lsub [2, 3, 4, 5, 6] rfl (K _ e3)
set_option maxHeartbeats 1000000 in
set_option maxRecDepth 100000 in
theorem lo_loudnessWanted_1 {X : XT} {g : GT} {l : Launch} {b L i nb kc ks : Nat} {xs : Nat → Int32} {M : Mem} (hl : l.stackTraces = false) (C : Cx X g l cL_law 9 RL (some .boolean) room_1) (S : Sc X g b L xs) (hi : i + 4 ≤ L) (hz : xs (i + 2) ≠ 0) (h : Inv nb M) (hnb : nb + 200 ≤ 100000) (hk : kc ≤ 590 ∧ ks ≤ 9000) (K : ∀ M', Inv (nb + 100) M' → V X g (kc + 1) (ks + 8) 1849 (loL g b i) [] M') : V X g kc ks 1642 (loL g b i) [] M := by
  have hL := S.2.2.2
  obtain ⟨rm, k, v, M1, M2, c1, c2, e1, e2, e3, hr⟩ := oc_loudnessWanted (g := g) hl h hnb (xs (i + 1)) 1 (xs (i + 3))
  refine x_aload_n C dL_law_1642 rfl ?_
  refine x_aload_n C dL_law_1643 rfl ?_
  refine x_iload C dL_law_1644 rfl ?_
  refine x_iconst C (v := 1) dL_law_1646 (by decide) ?_
  refine x_iadd C dL_law_1647 ?_
  refine x_sc C S (nI_add i 1) (by omega) dL_law_1648 ?_
  refine x_aload_n C dL_law_1649 rfl ?_
  refine x_iload C dL_law_1650 rfl ?_
  refine x_iconst C (v := 2) dL_law_1652 (by decide) ?_
  refine x_iadd C dL_law_1653 ?_
  refine x_sc C S (nI_add i 2) (by omega) dL_law_1654 ?_
  refine x_if_eq C (tgt := 1662) dL_law_1655 (by decide) (fun c => absurd c hz) (fun _ => ?_)
  refine x_iconst C (v := 1) dL_law_1658 (by decide) ?_
  refine x_goto C (tgt := 1663) dL_law_1659 (by decide) ?_
  refine x_aload_n C dL_law_1663 rfl ?_
  refine x_iload C dL_law_1664 rfl ?_
  refine x_iconst C (v := 3) dL_law_1666 (by decide) ?_
  refine x_iadd C dL_law_1667 ?_
  refine x_sc C S (nI_add i 3) (by omega) dL_law_1668 ?_
  refine x_aload_n C dL_law_1669 rfl ?_
  refine x_callSW C c1 cwL_loudnessWanted kl_L_202 (as := [_, _, _, _, _]) rfl rfl (rm_1 hr (by omega)) (Nat.le_of_ble_eq_true rfl) dL_law_1670 ?_
  refine x_widen (kc' := kc + 1) (ks' := ks + 8) (by have := hr.2.1; omega) (by have := hr.2.2; omega) ?_
  refine x_istore C (lo' := [(5, _), (4, _), (3, _), (2, _), (1, _), (0, _)]) dL_law_1673 (by decide) rfl ?_
  refine x_aload_n C dL_law_1675 rfl ?_
  refine x_aload_n C dL_law_1676 rfl ?_
  refine x_iload C dL_law_1677 rfl ?_
  refine x_iconst C (v := 1) dL_law_1679 (by decide) ?_
  refine x_iadd C dL_law_1680 ?_
  refine x_sc C S (nI_add i 1) (by omega) dL_law_1681 ?_
  refine x_aload_n C dL_law_1682 rfl ?_
  refine x_iload C dL_law_1683 rfl ?_
  refine x_iconst C (v := 2) dL_law_1685 (by decide) ?_
  refine x_iadd C dL_law_1686 ?_
  refine x_sc C S (nI_add i 2) (by omega) dL_law_1687 ?_
  refine x_if_eq C (tgt := 1695) dL_law_1688 (by decide) (fun c => absurd c hz) (fun _ => ?_)
  refine x_iconst C (v := 1) dL_law_1691 (by decide) ?_
  refine x_goto C (tgt := 1696) dL_law_1692 (by decide) ?_
  refine x_aload_n C dL_law_1696 rfl ?_
  refine x_iload C dL_law_1697 rfl ?_
  refine x_iconst C (v := 3) dL_law_1699 (by decide) ?_
  refine x_iadd C dL_law_1700 ?_
  refine x_sc C S (nI_add i 3) (by omega) dL_law_1701 ?_
  refine x_callV0r C c2 cd_X2_loudnessWanted kl_L_204 ci2 rfl (by decide) (as := [_, _, _]) rfl rfl (rm_0 ⟨by decide, by decide⟩ ⟨by decide, by decide⟩ (by omega)) ⟨rfl, rfl⟩ (Nat.le_of_ble_eq_true rfl) dL_law_1702 ?_
  refine x_istore C (lo' := [(6, _), (5, _), (4, _), (3, _), (2, _), (1, _), (0, _)]) dL_law_1705 (by decide) rfl ?_
  refine x_aload_n C dL_law_1707 rfl ?_
  refine x_callV0r C (q2_thrown l g _) cd_X2_thrown kl_L_103 ci2 rfl (by decide) (as := []) rfl rfl (rm_0 ⟨by decide, by decide⟩ ⟨by decide, by decide⟩ (by omega)) ⟨rfl, rfl⟩ (Nat.le_of_ble_eq_true rfl) dL_law_1708 ?_
  refine x_iload C dL_law_1711 rfl ?_
  refine x_icmp_eq C (tgt := 1718) dL_law_1713 (by decide) (fun _ => ?_) (fun c => absurd e1 c)
  refine x_iload C dL_law_1718 rfl ?_
  refine x_if_ne C (tgt := 1735) dL_law_1720 (by decide) (fun _ => ?_) (fun c0 => ?_)
  · refine x_goto C (tgt := 1849) dL_law_1735 (by decide) ?_
    exact x_lsub [2, 3, 4, 5, 6] rfl (K _ e3)
  have e37 := e2 c0
  refine x_aload_n C dL_law_1723 rfl ?_
  refine x_iconst C (v := 0) dL_law_1724 (by decide) ?_
  refine x_lald C (n := 1) rfl (by decide) rfl rfl (by decide : 0 < 1) dL_law_1725 ?_
  refine x_iload C dL_law_1726 rfl ?_
  refine x_i2l C dL_law_1728 ?_
  refine x_lcmp C dL_law_1729 ?_
  refine x_if_eq C (tgt := 1735) dL_law_1730 (by decide) (fun _ => ?_) (fun c => absurd (by rw [e37]; exact lgc _) c)
  refine x_goto C (tgt := 1849) dL_law_1735 (by decide) ?_
  exact x_lsub [2, 3, 4, 5, 6] rfl (K _ e3)
set_option maxHeartbeats 1000000 in
set_option maxRecDepth 100000 in
theorem lo_bestStone {X : XT} {g : GT} {l : Launch} {b L i nb kc ks : Nat} {xs : Nat → Int32} {M : Mem} (hl : l.stackTraces = false) (C : Cx X g l cL_law 9 RL (some .boolean) room_1) (S : Sc X g b L xs) (hi : i + 4 ≤ L) (h : Inv nb M) (hnb : nb + 200 ≤ 100000) (hk : kc ≤ 590 ∧ ks ≤ 9000) (K : ∀ M', Inv (nb + 100) M' → V X g (kc + 1) (ks + 8) 1849 (loL g b i) [] M') : V X g kc ks 1738 (loL g b i) [] M := by
  have hL := S.2.2.2
  obtain ⟨rm, k, v, M1, M2, c1, c2, e1, e2, e3, hr⟩ := oc_bestStone (g := g) hl h hnb (xs (i + 1))
  refine x_aload_n C dL_law_1738 rfl ?_
  refine x_aload_n C dL_law_1739 rfl ?_
  refine x_iload C dL_law_1740 rfl ?_
  refine x_iconst C (v := 1) dL_law_1742 (by decide) ?_
  refine x_iadd C dL_law_1743 ?_
  refine x_sc C S (nI_add i 1) (by omega) dL_law_1744 ?_
  refine x_aload_n C dL_law_1745 rfl ?_
  refine x_callSW C c1 cwL_bestStone kl_L_205 (as := [_, _, _]) rfl rfl (rm_1 hr (by omega)) (Nat.le_of_ble_eq_true rfl) dL_law_1746 ?_
  refine x_widen (kc' := kc + 1) (ks' := ks + 8) (by have := hr.2.1; omega) (by have := hr.2.2; omega) ?_
  refine x_istore C (lo' := [(5, _), (4, _), (3, _), (2, _), (1, _), (0, _)]) dL_law_1749 (by decide) rfl ?_
  refine x_aload_n C dL_law_1751 rfl ?_
  refine x_aload_n C dL_law_1752 rfl ?_
  refine x_iload C dL_law_1753 rfl ?_
  refine x_iconst C (v := 1) dL_law_1755 (by decide) ?_
  refine x_iadd C dL_law_1756 ?_
  refine x_sc C S (nI_add i 1) (by omega) dL_law_1757 ?_
  refine x_callV0r C c2 cd_X2_bestStone kl_L_207 ci2 rfl (by decide) (as := [_]) rfl rfl (rm_0 ⟨by decide, by decide⟩ ⟨by decide, by decide⟩ (by omega)) ⟨rfl, rfl⟩ (Nat.le_of_ble_eq_true rfl) dL_law_1758 ?_
  refine x_istore C (lo' := [(6, _), (5, _), (4, _), (3, _), (2, _), (1, _), (0, _)]) dL_law_1761 (by decide) rfl ?_
  refine x_aload_n C dL_law_1763 rfl ?_
  refine x_callV0r C (q2_thrown l g _) cd_X2_thrown kl_L_103 ci2 rfl (by decide) (as := []) rfl rfl (rm_0 ⟨by decide, by decide⟩ ⟨by decide, by decide⟩ (by omega)) ⟨rfl, rfl⟩ (Nat.le_of_ble_eq_true rfl) dL_law_1764 ?_
  refine x_iload C dL_law_1767 rfl ?_
  refine x_icmp_eq C (tgt := 1774) dL_law_1769 (by decide) (fun _ => ?_) (fun c => absurd e1 c)
  refine x_iload C dL_law_1774 rfl ?_
  refine x_if_ne C (tgt := 1791) dL_law_1776 (by decide) (fun _ => ?_) (fun c0 => ?_)
  · refine x_goto C (tgt := 1849) dL_law_1791 (by decide) ?_
    exact x_lsub [2, 3, 4, 5, 6] rfl (K _ e3)
  have e37 := e2 c0
  refine x_aload_n C dL_law_1779 rfl ?_
  refine x_iconst C (v := 0) dL_law_1780 (by decide) ?_
  refine x_lald C (n := 1) rfl (by decide) rfl rfl (by decide : 0 < 1) dL_law_1781 ?_
  refine x_iload C dL_law_1782 rfl ?_
  refine x_i2l C dL_law_1784 ?_
  refine x_lcmp C dL_law_1785 ?_
  refine x_if_eq C (tgt := 1791) dL_law_1786 (by decide) (fun _ => ?_) (fun c => absurd (by rw [e37]; exact lgc _) c)
  refine x_goto C (tgt := 1849) dL_law_1791 (by decide) ?_
  exact x_lsub [2, 3, 4, 5, 6] rfl (K _ e3)
