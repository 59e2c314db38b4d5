/-! The law's body: walls, checks, what is wanted, the best stone. -/
theorem lgc (x : Int64) : lg_cmp x x = 0 := by
  unfold lg_cmp
  simp
set_option maxHeartbeats 1000000 in
set_option maxRecDepth 100000 in
theorem q_free {X : XT} {l : Launch} {g : GT} {b t : Nat} {x : Int32}  {ad : Nat → Nat} {nb : Nat} {P : Mem} {kc ks : Nat} (hk : kc ≤ 50000 ∧ ks ≤ 800000) {M : Mem} {D : DM} (li : LI nb M P) (h : SP g D ad P) {q9 : Nat} {f : Nat → Int32} (A : AR g D (mWs P) (mSh P) ad [(q9, 32, .inr f)]) (htk : TK P f (mSh P)) {d : Int64} (hK : UX X g (kc) (ks) 477 [(0, .ref b), (1, .ref (ga g 0)), (2, .ref (ad 0)), (3, .int (nI t)), (4, .int x), (5, .long d), (7, .int (nI (mSh P))), (8, .int (nI (mWs P)))] [] M D) (C : Cx X g l cL_law 39 RL (some .boolean) room_1) : ∀ (n s : Nat), s ≤ 32 → 33 ≤ s + n → UX X g (kc) (ks) 445 [(0, .ref b), (1, .ref (ga g 0)), (2, .ref (ad 0)), (3, .int (nI t)), (4, .int x), (5, .long d), (7, .int (nI (mSh P))), (8, .int (nI (mWs P))), (9, .ref q9), (13, .int (nI s))] [] M D := by
  intro n
  induction n with
  | zero =>
    intro s h1 h2; omega
  | succ n ih =>
    intro s h1 h2
    have hn := h.n
    refine u_iload C dL_law_445 rfl ?_
    refine u_bipush C (v := 32) dL_law_447 (by decide) ?_
    refine u_icmp_ge C (tgt := 477) dL_law_449 (by decide) (fun c449 => ?_) (fun c449 => ?_)
    · have he : s = 32 := Nat.le_antisymm h1 ((nI_leI (a := 32) (b := s) (by omega) (by omega)).mp c449)
      exact u_lsub [0, 1, 2, 3, 4, 5, 6, 7] rfl (hK)
    · have hlt : s < 32 := Nat.lt_of_not_le (fun z => c449 ((nI_leI (a := 32) (b := s) (by omega) (by omega)).mpr z))
      refine u_aload C dL_law_452 rfl ?_
      refine u_iload C dL_law_454 rfl ?_
      refine u_zald C (A.z (k := 0) rfl) rfl hlt (by decide) dL_law_456 ?_
      refine u_if_ne C (tgt := 471) dL_law_457 (by decide) (fun c457 => ?_) (fun c457 => ?_)
      · refine u_iinc C (v := nI (s + 1)) (lo' := [(13, _), (0, _), (1, _), (2, _), (3, _), (4, _), (5, _), (7, _), (8, _), (9, _)]) dL_law_471 rfl (nI_inc _) (by decide) rfl ?_
        refine u_goto C (tgt := 445) dL_law_474 (by decide) ?_
        exact u_lsub [1, 2, 3, 4, 5, 6, 7, 8, 9, 0] rfl (ih (s + 1) (by omega) (by omega))
      · have ea : mLA P (nI s) = 0 := li.none_on (fun k hk hl e => (htk s hlt).mpr ⟨k, hk, hl, e⟩ c457)
        refine u_aload_n C dL_law_460 rfl ?_
        refine u_iload C dL_law_461 rfl ?_
        refine u_callC0 C (fun B => k_loudOn li hlt B) cd_X1_loudOn kl_L_111 ci1 rfl (by decide) (as := [_]) rfl rfl (rm_l ⟨by decide, by decide⟩ ⟨by decide, by decide⟩ (by omega)) ⟨rfl, rfl⟩ (Nat.le_of_ble_eq_true rfl) dL_law_463 ?_
        refine u_if_eq C (tgt := 471) dL_law_466 (by decide) (fun c466 => ?_) (fun c466 => absurd ea c466)
        refine u_iinc C (v := nI (s + 1)) (lo' := [(13, _), (0, _), (1, _), (2, _), (3, _), (4, _), (5, _), (7, _), (8, _), (9, _)]) dL_law_471 rfl (nI_inc _) (by decide) rfl ?_
        refine u_goto C (tgt := 445) dL_law_474 (by decide) ?_
        exact u_lsub [1, 2, 3, 4, 5, 6, 7, 8, 9, 0] rfl (ih (s + 1) (by omega) (by omega))
set_option maxHeartbeats 1000000 in
set_option maxRecDepth 100000 in
theorem q_checks {X : XT} {l : Launch} {g : GT} {b t : Nat} {x : Int32}  {ad : Nat → Nat} {nb : Nat} {P : Mem} {kc ks : Nat} (hk : kc ≤ 50000 ∧ ks ≤ 800000) {M : Mem} {D : DM} (li : LI nb M P) (h : SP g D ad P) {q9 : Nat} {f : Nat → Int32} (A : AR g D (mWs P) (mSh P) ad [(q9, 32, .inr f)]) (htk : TK P f (mSh P)) {d : Int64} (hK : UX X g (kc) (ks) 477 [(0, .ref b), (1, .ref (ga g 0)), (2, .ref (ad 0)), (3, .int (nI t)), (4, .int x), (5, .long d), (7, .int (nI (mSh P))), (8, .int (nI (mWs P)))] [] M D) (C : Cx X g l cL_law 39 RL (some .boolean) room_1) : UX X g (kc) (ks) 349 [(0, .ref b), (1, .ref (ga g 0)), (2, .ref (ad 0)), (3, .int (nI t)), (4, .int x), (5, .long d), (7, .int (nI (mSh P))), (8, .int (nI (mWs P))), (9, .ref q9), (10, .int (mMany P)), (11, .int (uS P (mSh P))), (12, .int (tS P (mWs P)))] [] M D := by
  have hn := h.n
  refine u_iload C dL_law_349 rfl ?_
  refine u_aload_n C dL_law_351 rfl ?_
  refine u_callC0 C (fun B => k_underWay li  B) cd_X1_underWay kl_L_121 ci1 rfl (by decide) (as := []) rfl rfl (rm_l ⟨by decide, by decide⟩ ⟨by decide, by decide⟩ (by omega)) ⟨rfl, rfl⟩ (Nat.le_of_ble_eq_true rfl) dL_law_352 ?_
  refine u_icmp_ne C (tgt := 440) dL_law_355 (by decide) (fun c355 => absurd rfl c355) (fun c355 => ?_)
  refine u_iload C dL_law_358 rfl ?_
  refine u_bipush C (v := 8) dL_law_360 (by decide) ?_
  refine u_icmp_gt C (tgt := 440) dL_law_362 (by decide) (fun c362 => absurd c362 (Int32.not_lt.mpr li.many8)) (fun c362 => ?_)
  refine u_aload_n C dL_law_365 rfl ?_
  refine u_iconst C (v := 0) dL_law_366 (by decide) ?_
  refine u_callC0 C (fun B => k_coinsOf li (e := 0) (by decide) B) cd_X1_coinsOf kl_L_122 ci1 rfl (by decide) (as := [_]) rfl rfl (rm_l ⟨by decide, by decide⟩ ⟨by decide, by decide⟩ (by omega)) ⟨rfl, rfl⟩ (Nat.le_of_ble_eq_true rfl) dL_law_367 ?_
  refine u_aload_n C dL_law_370 rfl ?_
  refine u_iconst C (v := 1) dL_law_371 (by decide) ?_
  refine u_callC0 C (fun B => k_coinsOf li (e := 1) (by decide) B) cd_X1_coinsOf kl_L_122 ci1 rfl (by decide) (as := [_]) rfl rfl (rm_l ⟨by decide, by decide⟩ ⟨by decide, by decide⟩ (by omega)) ⟨rfl, rfl⟩ (Nat.le_of_ble_eq_true rfl) dL_law_372 ?_
  refine u_iadd C dL_law_375 ?_
  refine u_iload C dL_law_376 rfl ?_
  refine u_icmp_ne C (tgt := 440) dL_law_378 (by decide) (fun c378 => absurd li.2.2.2.2.1.1 c378) (fun c378 => ?_)
  refine u_iload C dL_law_381 rfl ?_
  refine u_iload C dL_law_383 rfl ?_
  refine u_icmp_ne C (tgt := 440) dL_law_385 (by decide) (fun c385 => absurd li.2.2.2.2.1.2 c385) (fun c385 => ?_)
  refine u_aload_n C dL_law_388 rfl ?_
  refine u_iconst C (v := 0) dL_law_389 (by decide) ?_
  refine u_callC0 C (fun B => k_wallsOf li (e := 0) (by decide) B) cd_X1_wallsOf kl_L_125 ci1 rfl (by decide) (as := [_]) rfl rfl (rm_l ⟨by decide, by decide⟩ ⟨by decide, by decide⟩ (by omega)) ⟨rfl, rfl⟩ (Nat.le_of_ble_eq_true rfl) dL_law_390 ?_
  refine u_aload_n C dL_law_393 rfl ?_
  refine u_iconst C (v := 1) dL_law_394 (by decide) ?_
  refine u_callC0 C (fun B => k_wallsOf li (e := 1) (by decide) B) cd_X1_wallsOf kl_L_125 ci1 rfl (by decide) (as := [_]) rfl rfl (rm_l ⟨by decide, by decide⟩ ⟨by decide, by decide⟩ (by omega)) ⟨rfl, rfl⟩ (Nat.le_of_ble_eq_true rfl) dL_law_395 ?_
  refine u_iadd C dL_law_398 ?_
  refine u_iload C dL_law_399 rfl ?_
  refine u_icmp_ne C (tgt := 440) dL_law_401 (by decide) (fun c401 => absurd (wol_sum li.pk.1 _ hn.1) c401) (fun c401 => ?_)
  refine u_aload_n C dL_law_404 rfl ?_
  refine u_iconst C (v := 0) dL_law_405 (by decide) ?_
  refine u_callC0 C (fun B => k_silentFor li (e := 0) (by decide) B) cd_X1_silentFor kl_L_128 ci1 rfl (by decide) (as := [_]) rfl rfl (rm_l ⟨by decide, by decide⟩ ⟨by decide, by decide⟩ (by omega)) ⟨rfl, rfl⟩ (Nat.le_of_ble_eq_true rfl) dL_law_406 ?_
  refine u_if_lt C (tgt := 440) dL_law_409 (by decide) (fun c409 => absurd c409 (Int32.not_lt.mpr (li.sil (e := 0) (by decide)).1)) (fun c409 => ?_)
  refine u_aload_n C dL_law_412 rfl ?_
  refine u_iconst C (v := 0) dL_law_413 (by decide) ?_
  refine u_callC0 C (fun B => k_silentFor li (e := 0) (by decide) B) cd_X1_silentFor kl_L_128 ci1 rfl (by decide) (as := [_]) rfl rfl (rm_l ⟨by decide, by decide⟩ ⟨by decide, by decide⟩ (by omega)) ⟨rfl, rfl⟩ (Nat.le_of_ble_eq_true rfl) dL_law_414 ?_
  refine u_bipush C (v := 11) dL_law_417 (by decide) ?_
  refine u_icmp_gt C (tgt := 440) dL_law_419 (by decide) (fun c419 => absurd c419 (Int32.not_lt.mpr (li.sil (e := 0) (by decide)).2)) (fun c419 => ?_)
  refine u_aload_n C dL_law_422 rfl ?_
  refine u_iconst C (v := 1) dL_law_423 (by decide) ?_
  refine u_callC0 C (fun B => k_silentFor li (e := 1) (by decide) B) cd_X1_silentFor kl_L_128 ci1 rfl (by decide) (as := [_]) rfl rfl (rm_l ⟨by decide, by decide⟩ ⟨by decide, by decide⟩ (by omega)) ⟨rfl, rfl⟩ (Nat.le_of_ble_eq_true rfl) dL_law_424 ?_
  refine u_if_lt C (tgt := 440) dL_law_427 (by decide) (fun c427 => absurd c427 (Int32.not_lt.mpr (li.sil (e := 1) (by decide)).1)) (fun c427 => ?_)
  refine u_aload_n C dL_law_430 rfl ?_
  refine u_iconst C (v := 1) dL_law_431 (by decide) ?_
  refine u_callC0 C (fun B => k_silentFor li (e := 1) (by decide) B) cd_X1_silentFor kl_L_128 ci1 rfl (by decide) (as := [_]) rfl rfl (rm_l ⟨by decide, by decide⟩ ⟨by decide, by decide⟩ (by omega)) ⟨rfl, rfl⟩ (Nat.le_of_ble_eq_true rfl) dL_law_432 ?_
  refine u_bipush C (v := 11) dL_law_435 (by decide) ?_
  refine u_icmp_le C (tgt := 442) dL_law_437 (by decide) (fun c437 => ?_) (fun c437 => absurd (li.sil (e := 1) (by decide)).2 c437)
  refine u_iconst C (v := 0) dL_law_442 (by decide) ?_
  refine u_istore C (lo' := [(13, _), (0, _), (1, _), (2, _), (3, _), (4, _), (5, _), (7, _), (8, _), (9, _), (10, _), (11, _), (12, _)]) dL_law_443 (by decide) rfl ?_
  exact u_lsub [1, 2, 3, 4, 5, 6, 7, 8, 9, 0] rfl (q_free hk li h A htk hK C 33 0 (by omega) (by omega))
set_option maxHeartbeats 1000000 in
set_option maxRecDepth 100000 in
theorem q_walls {X : XT} {l : Launch} {g : GT} {b t : Nat} {x : Int32}  {ad : Nat → Nat} {nb : Nat} {P : Mem} {kc ks : Nat} (hk : kc ≤ 50000 ∧ ks ≤ 800000) {M : Mem} {D : DM} (li : LI nb M P) (h : SP g D ad P) {q9 : Nat} {f : Nat → Int32} (A : AR g D (mWs P) (mSh P) ad [(q9, 32, .inr f)]) (htk : TK P f (mSh P)) {d : Int64} (hK : UX X g (kc) (ks) 477 [(0, .ref b), (1, .ref (ga g 0)), (2, .ref (ad 0)), (3, .int (nI t)), (4, .int x), (5, .long d), (7, .int (nI (mSh P))), (8, .int (nI (mWs P)))] [] M D) (C : Cx X g l cL_law 39 RL (some .boolean) room_1) : ∀ (n w : Nat), w ≤ mWs P → mWs P + 1 ≤ w + n → UX X g (kc) (ks) 308 [(0, .ref b), (1, .ref (ga g 0)), (2, .ref (ad 0)), (3, .int (nI t)), (4, .int x), (5, .long d), (7, .int (nI (mSh P))), (8, .int (nI (mWs P))), (9, .ref q9), (10, .int (mMany P)), (11, .int (uS P (mSh P))), (12, .int (tS P w)), (13, .int (nI w))] [] M D := by
  intro n
  induction n with
  | zero =>
    intro w h1 h2; omega
  | succ n ih =>
    intro w h1 h2
    have hn := h.n
    refine u_iload C dL_law_308 rfl ?_
    refine u_iload C dL_law_310 rfl ?_
    refine u_icmp_ge C (tgt := 349) dL_law_312 (by decide) (fun c312 => ?_) (fun c312 => ?_)
    · have he : w = mWs P := Nat.le_antisymm h1 ((nI_leI (a := mWs P) (b := w) (by omega) (by omega)).mp c312)
      rw [he]
      exact u_lsub [0, 1, 2, 3, 4, 5, 6, 7, 8, 9, 10, 11] rfl (q_checks hk li h A htk hK C)
    · have hlt : w < mWs P := Nat.lt_of_not_le (fun z => c312 ((nI_leI (a := mWs P) (b := w) (by omega) (by omega)).mpr z))
      obtain ⟨s, ls, es⟩ : ∃ s, s < 32 ∧ P 32 w = nI s := ⟨_, tn31 (li.pk.2.2.1.1 w hlt).1, nI_tn (li.pk.2.2.1.1 w hlt).1.1⟩
      have ew : P 31 s = nI w := by
        have := (li.pk.2.2.1.1 w hlt).2
        rw [es, tn_nI (by omega)] at this
        exact this
      refine u_iload C dL_law_315 rfl ?_
      refine u_aload_n C dL_law_317 rfl ?_
      refine u_iload C dL_law_318 rfl ?_
      refine u_callC0 C (fun B => k_thrownBack li hlt B) cd_X1_thrownBack kl_L_114 ci1 rfl (by decide) (as := [_]) rfl rfl (rm_l ⟨by decide, by decide⟩ ⟨by decide, by decide⟩ (by omega)) ⟨rfl, rfl⟩ (Nat.le_of_ble_eq_true rfl) dL_law_320 ?_
      refine u_iadd C dL_law_323 ?_
      refine u_istore C (lo' := [(12, _), (0, _), (1, _), (2, _), (3, _), (4, _), (5, _), (7, _), (8, _), (9, _), (10, _), (11, _), (13, _)]) dL_law_324 (by decide) rfl ?_
      refine u_aload_n C dL_law_326 rfl ?_
      refine u_aload_n C dL_law_327 rfl ?_
      refine u_iload C dL_law_328 rfl ?_
      refine u_callC0 C (fun B => k_stoneOf li hlt B) cd_X1_stoneOf kl_L_117 ci1 rfl (by decide) (as := [_]) rfl rfl (rm_l ⟨by decide, by decide⟩ ⟨by decide, by decide⟩ (by omega)) ⟨rfl, rfl⟩ (Nat.le_of_ble_eq_true rfl) dL_law_330 ?_
      rw [es]
      refine u_callC0 C (fun B => k_wallOn li ls B) cd_X1_wallOn kl_L_120 ci1 rfl (by decide) (as := [_]) rfl rfl (rm_l ⟨by decide, by decide⟩ ⟨by decide, by decide⟩ (by omega)) ⟨rfl, rfl⟩ (Nat.le_of_ble_eq_true rfl) dL_law_333 ?_
      refine u_iload C dL_law_336 rfl ?_
      refine u_icmp_eq C (tgt := 343) dL_law_338 (by decide) (fun c338 => ?_) (fun c338 => absurd ew c338)
      refine u_iinc C (v := nI (w + 1)) (lo' := [(13, _), (12, _), (0, _), (1, _), (2, _), (3, _), (4, _), (5, _), (7, _), (8, _), (9, _), (10, _), (11, _)]) dL_law_343 rfl (nI_inc _) (by decide) rfl ?_
      refine u_goto C (tgt := 308) dL_law_346 (by decide) ?_
      exact u_lsub [2, 3, 4, 5, 6, 7, 8, 9, 10, 11, 12, 1, 0] rfl (ih (w + 1) hlt (by omega))
set_option maxHeartbeats 1000000 in
set_option maxRecDepth 100000 in
theorem q_walls0 {X : XT} {l : Launch} {g : GT} {b t : Nat} {x : Int32}  {ad : Nat → Nat} {nb : Nat} {P : Mem} {kc ks : Nat} (hk : kc ≤ 50000 ∧ ks ≤ 800000) {M : Mem} {D : DM} (li : LI nb M P) (h : SP g D ad P) {q9 : Nat} {f : Nat → Int32} (A : AR g D (mWs P) (mSh P) ad [(q9, 32, .inr f)]) (htk : TK P f (mSh P)) {d : Int64} (hK : UX X g (kc) (ks) 477 [(0, .ref b), (1, .ref (ga g 0)), (2, .ref (ad 0)), (3, .int (nI t)), (4, .int x), (5, .long d), (7, .int (nI (mSh P))), (8, .int (nI (mWs P)))] [] M D) (C : Cx X g l cL_law 39 RL (some .boolean) room_1) : UX X g (kc) (ks) 302 [(0, .ref b), (1, .ref (ga g 0)), (2, .ref (ad 0)), (3, .int (nI t)), (4, .int x), (5, .long d), (7, .int (nI (mSh P))), (8, .int (nI (mWs P))), (9, .ref q9), (10, .int (mMany P)), (11, .int (uS P (mSh P)))] [] M D := by
  have hn := h.n
  refine u_iconst C (v := 0) dL_law_302 (by decide) ?_
  refine u_istore C (lo' := [(12, _), (0, _), (1, _), (2, _), (3, _), (4, _), (5, _), (7, _), (8, _), (9, _), (10, _), (11, _)]) dL_law_303 (by decide) rfl ?_
  refine u_iconst C (v := 0) dL_law_305 (by decide) ?_
  refine u_istore C (lo' := [(13, _), (12, _), (0, _), (1, _), (2, _), (3, _), (4, _), (5, _), (7, _), (8, _), (9, _), (10, _), (11, _)]) dL_law_306 (by decide) rfl ?_
  exact u_lsub [2, 3, 4, 5, 6, 7, 8, 9, 10, 11, 12, 1, 0] rfl (q_walls hk li h A htk hK C (mWs P + 1) 0 (by omega) (by omega))
set_option maxHeartbeats 1000000 in
set_option maxRecDepth 100000 in
theorem q_wantA {X : XT} {l : Launch} {g : GT} {b t : Nat} {x : Int32}  {ad : Nat → Nat} {nb : Nat} {P : Mem} {kc ks : Nat} (hk : kc ≤ 50000 ∧ ks ≤ 800000) {M : Mem} {D : DM} (li : LI nb M P) (h : SP g D ad P) {s1 th : Nat} (ls1 : s1 < 32) (lth : th < 32) {r0 : Int32} {d : Int64} (hno : ¬ Cms (mAl P (nI s1) (if r0 = 0 then -1 else 1) 99) (nI th)) (hK : ∀ (M : Mem) (D : DM), LI nb M P → SP g D ad P → UX X g (kc + 540) (ks + 9600) 613 [(0, .ref b), (1, .ref (ga g 0)), (2, .ref (ad 0)), (3, .int (nI t)), (4, .int x), (5, .long d), (7, .int (nI (mSh P))), (8, .int (nI (mWs P))), (13, .int (nI s1)), (14, .int (nI th))] [] M D) (C : Cx X g l cL_law 39 RL (some .boolean) room_1) : UX X g (kc) (ks) 528 [(0, .ref b), (1, .ref (ga g 0)), (2, .ref (ad 0)), (3, .int (nI t)), (4, .int x), (5, .long d), (7, .int (nI (mSh P))), (8, .int (nI (mWs P))), (13, .int (nI s1)), (14, .int (nI th)), (15, .int r0)] [.int (-1)] M D := by
  have hn := h.n
  refine u_istore C (lo' := [(16, _), (0, _), (1, _), (2, _), (3, _), (4, _), (5, _), (7, _), (8, _), (13, _), (14, _), (15, _)]) dL_law_528 (by decide) rfl ?_
  refine u_iload C dL_law_530 rfl ?_
  refine u_iconst C (v := (-1)) dL_law_532 (by decide) ?_
  refine u_icmp_lt C (tgt := 611) dL_law_533 (by decide) (fun c533 => absurd c533 (by decide)) (fun c533 => ?_)
  refine u_iload C dL_law_536 rfl ?_
  refine u_if_eq C (tgt := 611) dL_law_538 (by decide) (fun c => absurd c (by decide)) (fun _ => ?_)
  refine u_iload C dL_law_541 rfl ?_
  refine u_iconst C (v := 1) dL_law_543 (by decide) ?_
  refine u_icmp_eq C (tgt := 611) dL_law_544 (by decide) (fun c544 => absurd c544 (by decide)) (fun c544 => ?_)
  refine u_iload C dL_law_547 rfl ?_
  refine u_bipush C (v := 99) dL_law_549 (by decide) ?_
  refine u_icmp_gt C (tgt := 611) dL_law_551 (by decide) (fun c551 => absurd c551 (by decide)) (fun c551 => ?_)
  refine u_aload_n C dL_law_554 rfl ?_
  refine u_iload C dL_law_555 rfl ?_
  refine u_iload C dL_law_557 rfl ?_
  refine u_iload C dL_law_559 rfl ?_
  refine u_iload C dL_law_561 rfl ?_
  refine u_if_ge C (tgt := 571) dL_law_563 (by decide) (fun c => absurd c (by decide)) (fun _ => ?_)
  refine u_bipush C (v := 99) dL_law_566 (by decide) ?_
  refine u_goto C (tgt := 573) dL_law_568 (by decide) ?_
  refine u_callS C (qL_comes l g M _ li.pk h (s := nI s1) (ld := 99) r0 (nI th) (in_s ls1) ⟨by decide, by decide⟩) cd_L_comes kl_L_134 (as := [_, _, _, _, _]) rfl rfl (rm_l ⟨by decide, by decide⟩ ⟨by decide, by decide⟩ (by omega)) (Nat.le_of_ble_eq_true rfl) dL_law_573 (fun v9 M9 D9 e9 => ?_)
  obtain ⟨em, le, r⟩ := e9
  have em := em.symm
  subst em
  have h := h.le le
  obtain ⟨rfl, hc⟩ := r.resolve_left (fun z => hno z.2)
  refine u_widen (kc' := kc + 540) (ks' := ks + 9600) (by show _ + 270 ≤ _; omega) (by show _ + 4800 ≤ _; omega) ?_
  rw [show Option.toList (some (Value.int 0)) = [Value.int 0] from rfl]
  refine u_iload C dL_law_576 rfl ?_
  refine u_if_le C (tgt := 585) dL_law_578 (by decide) (fun _ => ?_) (fun c => absurd (by decide) c)
  refine u_iconst C (v := 0) dL_law_585 (by decide) ?_
  refine u_icmp_ne C (tgt := 611) dL_law_586 (by decide) (fun c586 => absurd rfl c586) (fun c586 => ?_)
  refine u_iload C dL_law_589 rfl ?_
  refine u_if_le C (tgt := 613) dL_law_591 (by decide) (fun _ => ?_) (fun c => absurd (by decide) c)
  exact u_lsub [1, 2, 3, 4, 5, 6, 7, 8, 9, 10] rfl (hK M _ li h)
set_option maxHeartbeats 1000000 in
set_option maxRecDepth 100000 in
theorem q_wantB {X : XT} {l : Launch} {g : GT} {b t : Nat} {x : Int32}  {ad : Nat → Nat} {nb : Nat} {P : Mem} {kc ks : Nat} (hk : kc ≤ 50000 ∧ ks ≤ 800000) {M : Mem} {D : DM} (li : LI nb M P) (h : SP g D ad P) {s1 th : Nat} (ls1 : s1 < 32) (lth : th < 32) {r0 : Int32} {d : Int64} {lw : Int32} (hl : 2 ≤ lw ∧ lw ≤ 99) (hy : Cms (mAl P (nI s1) (if r0 = 0 then -1 else 1) lw) (nI th)) (hno : ¬ Cms (mAl P (nI s1) (if r0 = 0 then -1 else 1) (lw - 1)) (nI th)) (hK : ∀ (M : Mem) (D : DM), LI nb M P → SP g D ad P → UX X g (kc + 540) (ks + 9600) 613 [(0, .ref b), (1, .ref (ga g 0)), (2, .ref (ad 0)), (3, .int (nI t)), (4, .int x), (5, .long d), (7, .int (nI (mSh P))), (8, .int (nI (mWs P))), (13, .int (nI s1)), (14, .int (nI th))] [] M D) (C : Cx X g l cL_law 39 RL (some .boolean) room_1) : UX X g (kc) (ks) 528 [(0, .ref b), (1, .ref (ga g 0)), (2, .ref (ad 0)), (3, .int (nI t)), (4, .int x), (5, .long d), (7, .int (nI (mSh P))), (8, .int (nI (mWs P))), (13, .int (nI s1)), (14, .int (nI th)), (15, .int r0)] [.int lw] M D := by
  have hn := h.n
  have a1 := i_le.mp hl.1
  have a2 := i_le.mp hl.2
  have e2 : (2 : Int32).toInt = 2 := rfl
  rw [e2] at a1
  rw [i_c99] at a2
  have e1 : (lw - 1).toInt = lw.toInt - 1 := by rw [i_sub] <;> rw [i_c1] <;> omega
  refine u_istore C (lo' := [(16, _), (0, _), (1, _), (2, _), (3, _), (4, _), (5, _), (7, _), (8, _), (13, _), (14, _), (15, _)]) dL_law_528 (by decide) rfl ?_
  refine u_iload C dL_law_530 rfl ?_
  refine u_iconst C (v := (-1)) dL_law_532 (by decide) ?_
  refine u_icmp_lt C (tgt := 611) dL_law_533 (by decide) (fun c533 => absurd (i_lt.mp c533) (by rw [i_cm]; omega)) (fun c533 => ?_)
  refine u_iload C dL_law_536 rfl ?_
  refine u_if_eq C (tgt := 611) dL_law_538 (by decide) (fun c538 => absurd (congrArg Int32.toInt c538) (by rw [i_c0]; omega)) (fun c538 => ?_)
  refine u_iload C dL_law_541 rfl ?_
  refine u_iconst C (v := 1) dL_law_543 (by decide) ?_
  refine u_icmp_eq C (tgt := 611) dL_law_544 (by decide) (fun c544 => absurd (congrArg Int32.toInt c544) (by rw [i_c1]; omega)) (fun c544 => ?_)
  refine u_iload C dL_law_547 rfl ?_
  refine u_bipush C (v := 99) dL_law_549 (by decide) ?_
  refine u_icmp_gt C (tgt := 611) dL_law_551 (by decide) (fun c551 => absurd (i_lt.mp c551) (by rw [i_c99]; omega)) (fun c551 => ?_)
  refine u_aload_n C dL_law_554 rfl ?_
  refine u_iload C dL_law_555 rfl ?_
  refine u_iload C dL_law_557 rfl ?_
  refine u_iload C dL_law_559 rfl ?_
  refine u_iload C dL_law_561 rfl ?_
  refine u_if_ge C (tgt := 571) dL_law_563 (by decide) (fun c563 => ?_) (fun c563 => absurd (i_le.mpr (by rw [i_c0]; omega)) c563)
  refine u_iload C dL_law_571 rfl ?_
  refine u_callS C (qL_comes l g M _ li.pk h (s := nI s1) (ld := lw) r0 (nI th) (in_s ls1) ⟨i_le.mpr (by rw [i_c1]; omega), hl.2⟩) cd_L_comes kl_L_134 (as := [_, _, _, _, _]) rfl rfl (rm_l ⟨by decide, by decide⟩ ⟨by decide, by decide⟩ (by omega)) (Nat.le_of_ble_eq_true rfl) dL_law_573 (fun v9 M9 D9 e9 => ?_)
  obtain ⟨em, le, r⟩ := e9
  have em := em.symm
  subst em
  have h := h.le le
  obtain ⟨rfl, hc⟩ := r.resolve_right (fun z => z.2 hy)
  refine u_widen (kc' := kc + 270) (ks' := ks + 4800) (by show _ + 270 ≤ _; omega) (by show _ + 4800 ≤ _; omega) ?_
  rw [show Option.toList (some (Value.int 1)) = [Value.int 1] from rfl]
  refine u_iload C dL_law_576 rfl ?_
  refine u_if_le C (tgt := 585) dL_law_578 (by decide) (fun c578 => absurd (i_le.mp c578) (by rw [i_c0]; omega)) (fun c578 => ?_)
  refine u_iconst C (v := 1) dL_law_581 (by decide) ?_
  refine u_goto C (tgt := 586) dL_law_582 (by decide) ?_
  refine u_icmp_ne C (tgt := 611) dL_law_586 (by decide) (fun c586 => absurd rfl c586) (fun c586 => ?_)
  refine u_iload C dL_law_589 rfl ?_
  refine u_if_le C (tgt := 613) dL_law_591 (by decide) (fun c591 => absurd (i_le.mp c591) (by rw [i_c0]; omega)) (fun c591 => ?_)
  refine u_aload_n C dL_law_594 rfl ?_
  refine u_iload C dL_law_595 rfl ?_
  refine u_iload C dL_law_597 rfl ?_
  refine u_iload C dL_law_599 rfl ?_
  refine u_iload C dL_law_601 rfl ?_
  refine u_iconst C (v := 1) dL_law_603 (by decide) ?_
  refine u_isub C dL_law_604 ?_
  refine u_callS C (qL_comes l g M _ li.pk h (s := nI s1) (ld := lw - 1) r0 (nI th) (in_s ls1) ⟨i_le.mpr (by rw [i_c1, e1]; omega), i_le.mpr (by rw [i_c99, e1]; omega)⟩) cd_L_comes kl_L_134 (as := [_, _, _, _, _]) rfl rfl (rm_l ⟨by decide, by decide⟩ ⟨by decide, by decide⟩ (by omega)) (Nat.le_of_ble_eq_true rfl) dL_law_605 (fun v9 M9 D9 e9 => ?_)
  obtain ⟨em, le, r⟩ := e9
  have em := em.symm
  subst em
  have h := h.le le
  obtain ⟨rfl, hc⟩ := r.resolve_left (fun z => hno z.2)
  refine u_widen (kc' := kc + 540) (ks' := ks + 9600) (by show _ + 270 ≤ _; omega) (by show _ + 4800 ≤ _; omega) ?_
  rw [show Option.toList (some (Value.int 0)) = [Value.int 0] from rfl]
  refine u_if_eq C (tgt := 613) dL_law_608 (by decide) (fun _ => ?_) (fun c => absurd (by decide) c)
  exact u_lsub [1, 2, 3, 4, 5, 6, 7, 8, 9, 10] rfl (hK M _ li h)
set_option maxHeartbeats 1000000 in
set_option maxRecDepth 100000 in
theorem q_want {X : XT} {l : Launch} {g : GT} {b t : Nat} {x : Int32}  {ad : Nat → Nat} {nb : Nat} {P : Mem} {kc ks : Nat} (hk : kc ≤ 50000 ∧ ks ≤ 800000) {M : Mem} {D : DM} (li : LI nb M P) (h : SP g D ad P) {s1 th : Nat} (ls1 : s1 < 32) (lth : th < 32) {r0 : Int32} {d : Int64} (hK : ∀ (M : Mem) (D : DM), LI nb M P → SP g D ad P → UX X g (kc + 540) (ks + 9600) 613 [(0, .ref b), (1, .ref (ga g 0)), (2, .ref (ad 0)), (3, .int (nI t)), (4, .int x), (5, .long d), (7, .int (nI (mSh P))), (8, .int (nI (mWs P))), (13, .int (nI s1)), (14, .int (nI th))] [] M D) (C : Cx X g l cL_law 39 RL (some .boolean) room_1) : UX X g (kc) (ks) 516 [(0, .ref b), (1, .ref (ga g 0)), (2, .ref (ad 0)), (3, .int (nI t)), (4, .int x), (5, .long d), (7, .int (nI (mSh P))), (8, .int (nI (mWs P))), (13, .int (nI s1)), (14, .int (nI th))] [.int r0] M D := by
  have hn := h.n
  refine u_istore C (lo' := [(15, _), (0, _), (1, _), (2, _), (3, _), (4, _), (5, _), (7, _), (8, _), (13, _), (14, _)]) dL_law_516 (by decide) rfl ?_
  refine u_aload_n C dL_law_518 rfl ?_
  refine u_iload C dL_law_519 rfl ?_
  refine u_iload C dL_law_521 rfl ?_
  refine u_iload C dL_law_523 rfl ?_
  refine u_callC0 C (fun B => k_loudnessWanted li ls1 r0 lth B) cd_X1_loudnessWanted kl_L_131 ci1 rfl (by decide) (as := [_, _, _]) rfl rfl (rm_l ⟨by decide, by decide⟩ ⟨by decide, by decide⟩ (by omega)) ⟨rfl, rfl⟩ (Nat.le_of_ble_eq_true rfl) dL_law_525 ?_
  have hlw := lw_two li.pk (s := nI s1) (w := (if r0 = 0 then -1 else 1)) (th := nI th) (in_s ls1) (by by_cases z : r0 = 0; exact Or.inr (if_pos z); exact Or.inl (if_neg z))
  obtain ⟨lw, hlwE⟩ : ∃ lw, lw = mLW P (nI s1) (if r0 = 0 then -1 else 1) (nI th) := ⟨_, rfl⟩
  rw [← hlwE] at hlw ⊢
  have li := li.fr (show cFr 15 M (cLWm (nI th) 99 (cAlone (cCopy M) (nI s1) (if r0 = 0 then -1 else 1) 99)) from ((cCopy_fr M).tr ((cAlone_fr _ _ _ _).tr (cLWm_fr _ _ _))))
  obtain ⟨M1, hM1⟩ : ∃ M1, M1 = cLWm (nI th) 99 (cAlone (cCopy M) (nI s1) (if r0 = 0 then -1 else 1) 99) := ⟨_, rfl⟩
  rw [← hM1] at li ⊢
  rcases hlw with ⟨e1, e2⟩ | ⟨e1, e2, e3⟩
  · rw [e1]
    exact u_lsub [1, 2, 3, 4, 5, 6, 7, 8, 9, 10, 0] rfl (q_wantA hk li h ls1 lth e2 hK C)
  · exact u_lsub [1, 2, 3, 4, 5, 6, 7, 8, 9, 10, 0] rfl (q_wantB hk li h ls1 lth e1 e2 e3 hK C)
set_option maxHeartbeats 1000000 in
set_option maxRecDepth 100000 in
theorem q_want0 {X : XT} {l : Launch} {g : GT} {b t : Nat} {x : Int32}  {ad : Nat → Nat} {nb : Nat} {P : Mem} {kc ks : Nat} (hk : kc ≤ 50000 ∧ ks ≤ 800000) {M : Mem} {D : DM} (li : LI nb M P) (h : SP g D ad P) {d : Int64} (hK : ∀ (s1 th : Nat) (M : Mem) (D : DM), s1 < 32 → th < 32 → LI nb M P → SP g D ad P → UX X g (kc + 540) (ks + 9600) 613 [(0, .ref b), (1, .ref (ga g 0)), (2, .ref (ad 0)), (3, .int (nI t)), (4, .int x), (5, .long d), (7, .int (nI (mSh P))), (8, .int (nI (mWs P))), (13, .int (nI s1)), (14, .int (nI th))] [] M D) (C : Cx X g l cL_law 39 RL (some .boolean) room_1) : UX X g (kc) (ks) 477 [(0, .ref b), (1, .ref (ga g 0)), (2, .ref (ad 0)), (3, .int (nI t)), (4, .int x), (5, .long d), (7, .int (nI (mSh P))), (8, .int (nI (mWs P)))] [] M D := by
  have hn := h.n
  refine u_iload C dL_law_477 rfl ?_
  refine u_iconst C (v := 3) dL_law_479 (by decide) ?_
  refine u_ishr C dL_law_480 ?_
  refine u_bipush C (v := 32) dL_law_481 (by decide) ?_
  refine u_callS0 C (qL_below l g M _ (v := x >>> (3 &&& 31)) (n := 32) (by omega) (by omega)) cd_L_below kl_L_9 (as := [_, _]) rfl rfl (rm_l ⟨by decide, by decide⟩ ⟨by decide, by decide⟩ (by omega)) ⟨rfl, rfl⟩ (Nat.le_of_ble_eq_true rfl) dL_law_483 ?_
  obtain ⟨s1, hs1⟩ : ∃ s1, s1 = bl (x >>> (3 &&& 31)) 32 := ⟨_, rfl⟩
  have ls1 : s1 < 32 := by rw [hs1]; exact (bl_lt _ (by omega) (by omega)).1
  rw [← hs1]
  refine u_istore C (lo' := [(13, _), (0, _), (1, _), (2, _), (3, _), (4, _), (5, _), (7, _), (8, _)]) dL_law_486 (by decide) rfl ?_
  refine u_iload C dL_law_488 rfl ?_
  refine u_iconst C (v := 5) dL_law_490 (by decide) ?_
  refine u_ishr C dL_law_491 ?_
  refine u_bipush C (v := 32) dL_law_492 (by decide) ?_
  refine u_callS0 C (qL_below l g M _ (v := x >>> (5 &&& 31)) (n := 32) (by omega) (by omega)) cd_L_below kl_L_9 (as := [_, _]) rfl rfl (rm_l ⟨by decide, by decide⟩ ⟨by decide, by decide⟩ (by omega)) ⟨rfl, rfl⟩ (Nat.le_of_ble_eq_true rfl) dL_law_494 ?_
  obtain ⟨th, hth⟩ : ∃ th, th = bl (x >>> (5 &&& 31)) 32 := ⟨_, rfl⟩
  have lth : th < 32 := by rw [hth]; exact (bl_lt _ (by omega) (by omega)).1
  rw [← hth]
  refine u_istore C (lo' := [(14, _), (13, _), (0, _), (1, _), (2, _), (3, _), (4, _), (5, _), (7, _), (8, _)]) dL_law_497 (by decide) rfl ?_
  refine u_iload C dL_law_499 rfl ?_
  refine u_bipush C (v := 7) dL_law_501 (by decide) ?_
  refine u_ishr C dL_law_503 ?_
  refine u_iconst C (v := 2) dL_law_504 (by decide) ?_
  refine u_callS0 C (qL_below l g M _ (v := x >>> (7 &&& 31)) (n := 2) (by omega) (by omega)) cd_L_below kl_L_9 (as := [_, _]) rfl rfl (rm_l ⟨by decide, by decide⟩ ⟨by decide, by decide⟩ (by omega)) ⟨rfl, rfl⟩ (Nat.le_of_ble_eq_true rfl) dL_law_505 ?_
  obtain ⟨rr, hrr⟩ : ∃ rr, rr = bl (x >>> (7 &&& 31)) 2 := ⟨_, rfl⟩
  have lrr : rr < 2 := by rw [hrr]; exact (bl_lt _ (by omega) (by omega)).1
  rw [← hrr]
  refine u_if_ne C (tgt := 515) dL_law_508 (by decide) (fun c508 => ?_) (fun c508 => ?_)
  · refine u_iconst C (v := 0) dL_law_515 (by decide) ?_
    exact u_lsub [2, 3, 4, 5, 6, 7, 8, 9, 1, 0] rfl (q_want hk li h ls1 lth (r0 := 0) (fun M D => hK s1 th M D ls1 lth) C)
  · refine u_iconst C (v := 1) dL_law_511 (by decide) ?_
    refine u_goto C (tgt := 516) dL_law_512 (by decide) ?_
    exact u_lsub [2, 3, 4, 5, 6, 7, 8, 9, 1, 0] rfl (q_want hk li h ls1 lth (r0 := 1) (fun M D => hK s1 th M D ls1 lth) C)
set_option maxHeartbeats 1000000 in
set_option maxRecDepth 100000 in
theorem q_best {X : XT} {l : Launch} {g : GT} {b t : Nat} {x : Int32}  {ad : Nat → Nat} {nb : Nat} {P : Mem} {kc ks : Nat} (hk : kc ≤ 50000 ∧ ks ≤ 800000) {M : Mem} {D : DM} (li : LI nb M P) (h : SP g D ad P) {s1 th : Nat} (ls1 : s1 < 32) {d : Int64} (hK : ∀ (M : Mem) (D : DM), LI nb M P → SP g D ad P → UX X g (kc + 1080) (ks + 19200) 681 [(0, .ref b), (1, .ref (ga g 0)), (2, .ref (ad 0)), (3, .int (nI t)), (4, .int x), (5, .long d), (7, .int (nI (mSh P))), (8, .int (nI (mWs P))), (14, .int (nI th))] [] M D) (C : Cx X g l cL_law 39 RL (some .boolean) room_1) : UX X g (kc) (ks) 613 [(0, .ref b), (1, .ref (ga g 0)), (2, .ref (ad 0)), (3, .int (nI t)), (4, .int x), (5, .long d), (7, .int (nI (mSh P))), (8, .int (nI (mWs P))), (13, .int (nI s1)), (14, .int (nI th))] [] M D := by
  have hn := h.n
  refine u_iconst C (v := 1) dL_law_613 (by decide) ?_
  refine u_iload C dL_law_614 rfl ?_
  refine u_iconst C (v := 4) dL_law_616 (by decide) ?_
  refine u_ishr C dL_law_617 ?_
  refine u_bipush C (v := 99) dL_law_618 (by decide) ?_
  refine u_callS0 C (qL_below l g M _ (v := x >>> (4 &&& 31)) (n := 99) (by omega) (by omega)) cd_L_below kl_L_9 (as := [_, _]) rfl rfl (rm_l ⟨by decide, by decide⟩ ⟨by decide, by decide⟩ (by omega)) ⟨rfl, rfl⟩ (Nat.le_of_ble_eq_true rfl) dL_law_620 ?_
  obtain ⟨bb, hbb⟩ : ∃ bb, bb = bl (x >>> (4 &&& 31)) 99 := ⟨_, rfl⟩
  have lbb : bb < 99 := by rw [hbb]; exact (bl_lt _ (by omega) (by omega)).1
  rw [← hbb]
  refine u_iadd C dL_law_623 ?_
  refine u_ttop (v' := .int (nI (1 + bb))) (congrArg Value.int (nI_add 1 bb)) ?_
  have hlb : 1 ≤ nI (1 + bb) ∧ nI (1 + bb) ≤ 99 := ⟨nI_le (a := 1) (by omega) (by omega), nI_le (b := 99) (by omega) (by decide)⟩
  refine u_istore C (lo' := [(17, _), (0, _), (1, _), (2, _), (3, _), (4, _), (5, _), (7, _), (8, _), (13, _), (14, _)]) dL_law_624 (by decide) rfl ?_
  refine u_aload_n C dL_law_626 rfl ?_
  refine u_iload C dL_law_627 rfl ?_
  refine u_callC0 C (fun B => k_bestStone li hlb B) cd_X1_bestStone kl_L_138 ci1 rfl (by decide) (as := [_]) rfl rfl (rm_l ⟨by decide, by decide⟩ ⟨by decide, by decide⟩ (by omega)) ⟨rfl, rfl⟩ (Nat.le_of_ble_eq_true rfl) dL_law_629 ?_
  obtain ⟨bs9, hbs9⟩ : ∃ bs9, bs9 = mBest P (nI (1 + bb)) := ⟨_, rfl⟩
  rw [← hbs9]
  have li := li.fr (show cFr 15 M (cBM (cCopy M) (nI (1 + bb)) 32) from ((cCopy_fr M).tr (cBM_fr _ _ _)))
  obtain ⟨M1, hM1⟩ : ∃ M1, M1 = cBM (cCopy M) (nI (1 + bb)) 32 := ⟨_, rfl⟩
  rw [← hM1] at li ⊢
  obtain ⟨bs, lbs, ebs, hbs⟩ := best_two P (nI (1 + bb))
  rw [hbs9, ebs]
  refine u_istore C (lo' := [(18, _), (17, _), (0, _), (1, _), (2, _), (3, _), (4, _), (5, _), (7, _), (8, _), (13, _), (14, _)]) dL_law_632 (by decide) rfl ?_
  refine u_aload_n C dL_law_634 rfl ?_
  refine u_iload C dL_law_635 rfl ?_
  refine u_iload C dL_law_637 rfl ?_
  refine u_callV C (qs_turns l g _ _ li.pk h (s := nI bs) (ld := nI (1 + bb)) (in_s lbs) hlb) cd_X2_turns kl_L_141 ci2 (h.ob nm0) (as := [_, _]) rfl rfl (rm_l ⟨by decide, by decide⟩ ⟨by decide, by decide⟩ (by omega)) (Nat.le_of_ble_eq_true rfl) dL_law_639 (fun v9 M9 D9 e9 => ?_)
  obtain ⟨em, le, tt, rfl, -, hd9⟩ := e9
  have em := em.symm
  subst em
  have h := h.le le
  rw [al_turns li.pk (in_s lbs) hlb hd9]
  refine u_widen (kc' := kc + 270) (ks' := ks + 4800) (by show _ + 270 ≤ _; omega) (by show _ + 4800 ≤ _; omega) ?_
  rw [show Option.toList (some (Value.int (mTurns P (nI bs) (nI (1 + bb))))) = [Value.int (mTurns P (nI bs) (nI (1 + bb)))] from rfl]
  refine u_aload_n C dL_law_642 rfl ?_
  refine u_iload C dL_law_643 rfl ?_
  refine u_iload C dL_law_645 rfl ?_
  refine u_callV C (qs_turns l g _ _ li.pk h (s := nI s1) (ld := nI (1 + bb)) (in_s ls1) hlb) cd_X2_turns kl_L_141 ci2 (h.ob nm0) (as := [_, _]) rfl rfl (rm_l ⟨by decide, by decide⟩ ⟨by decide, by decide⟩ (by omega)) (Nat.le_of_ble_eq_true rfl) dL_law_647 (fun v9 M9 D9 e9 => ?_)
  obtain ⟨em, le, tt, rfl, -, hd9⟩ := e9
  have em := em.symm
  subst em
  have h := h.le le
  rw [al_turns li.pk (in_s ls1) hlb hd9]
  refine u_widen (kc' := kc + 540) (ks' := ks + 9600) (by show _ + 270 ≤ _; omega) (by show _ + 4800 ≤ _; omega) ?_
  rw [show Option.toList (some (Value.int (mTurns P (nI s1) (nI (1 + bb))))) = [Value.int (mTurns P (nI s1) (nI (1 + bb)))] from rfl]
  refine u_icmp_lt C (tgt := 679) dL_law_650 (by decide) (fun c650 => absurd c650 (Int32.not_lt.mpr (hbs s1 ls1).1)) (fun c650 => ?_)
  refine u_iload C dL_law_653 rfl ?_
  refine u_iload C dL_law_655 rfl ?_
  refine u_icmp_ge C (tgt := 681) dL_law_657 (by decide) (fun c657 => ?_) (fun c657 => ?_)
  · refine u_widen (kc' := kc + 1080) (ks' := ks + 19200) (by omega) (by omega) ?_
    exact u_lsub [2, 3, 4, 5, 6, 7, 8, 9, 11] rfl (hK _ _ li h)
  · have hst := (hbs s1 ls1).2 (Nat.lt_of_not_le (fun z => c657 ((nI_leI (a := bs) (b := s1) (by omega) (by omega)).mpr z)))
    refine u_aload_n C dL_law_660 rfl ?_
    refine u_iload C dL_law_661 rfl ?_
    refine u_iload C dL_law_663 rfl ?_
    refine u_callV C (qs_turns l g _ _ li.pk h (s := nI bs) (ld := nI (1 + bb)) (in_s lbs) hlb) cd_X2_turns kl_L_141 ci2 (h.ob nm0) (as := [_, _]) rfl rfl (rm_l ⟨by decide, by decide⟩ ⟨by decide, by decide⟩ (by omega)) (Nat.le_of_ble_eq_true rfl) dL_law_665 (fun v9 M9 D9 e9 => ?_)
    obtain ⟨em, le, tt, rfl, -, hd9⟩ := e9
    have em := em.symm
    subst em
    have h := h.le le
    rw [al_turns li.pk (in_s lbs) hlb hd9]
    refine u_widen (kc' := kc + 810) (ks' := ks + 14400) (by show _ + 270 ≤ _; omega) (by show _ + 4800 ≤ _; omega) ?_
    rw [show Option.toList (some (Value.int (mTurns P (nI bs) (nI (1 + bb))))) = [Value.int (mTurns P (nI bs) (nI (1 + bb)))] from rfl]
    refine u_aload_n C dL_law_668 rfl ?_
    refine u_iload C dL_law_669 rfl ?_
    refine u_iload C dL_law_671 rfl ?_
    refine u_callV C (qs_turns l g _ _ li.pk h (s := nI s1) (ld := nI (1 + bb)) (in_s ls1) hlb) cd_X2_turns kl_L_141 ci2 (h.ob nm0) (as := [_, _]) rfl rfl (rm_l ⟨by decide, by decide⟩ ⟨by decide, by decide⟩ (by omega)) (Nat.le_of_ble_eq_true rfl) dL_law_673 (fun v9 M9 D9 e9 => ?_)
    obtain ⟨em, le, tt, rfl, -, hd9⟩ := e9
    have em := em.symm
    subst em
    have h := h.le le
    rw [al_turns li.pk (in_s ls1) hlb hd9]
    refine u_widen (kc' := kc + 1080) (ks' := ks + 19200) (by show _ + 270 ≤ _; omega) (by show _ + 4800 ≤ _; omega) ?_
    rw [show Option.toList (some (Value.int (mTurns P (nI s1) (nI (1 + bb))))) = [Value.int (mTurns P (nI s1) (nI (1 + bb)))] from rfl]
    refine u_icmp_ne C (tgt := 681) dL_law_676 (by decide) (fun c676 => ?_) (fun c676 => absurd hst (by rw [c676]; exact fun z => Int32.lt_irrefl z))
    refine u_widen (kc' := kc + 1080) (ks' := ks + 19200) (by omega) (by omega) ?_
    exact u_lsub [2, 3, 4, 5, 6, 7, 8, 9, 11] rfl (hK _ _ li h)
