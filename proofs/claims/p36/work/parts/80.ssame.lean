/-! At the end all is as by hand. -/
theorem nx_r {P : Mem} {i : Nat} (hi : i ≤ 32) (hs : i = 32 ∨ ¬ P 31 i = -1) : ∀ (m f a : Nat), a + m = i → m < f → (∀ j, a ≤ j → j < i → P 31 j = -1) → mNx P 1 f (nI a) = if i = 32 then -1 else nI i
  | m, 0, a, _, h, _ => absurd h (Nat.not_lt_zero _)
  | 0, f + 1, a, e, _, _ => by
    obtain rfl : a = i := by omega
    unfold mNx
    rcases hs with rfl | hs
    · rw [if_neg (fun z => absurd z.2 (by decide)), if_pos rfl]
    · by_cases e32 : a = 32
      · subst e32
        rw [if_neg (fun z => absurd z.2 (by decide)), if_pos rfl]
      · rw [if_pos (in_s (by omega)), tn_nI (by omega), if_neg hs, if_neg e32]
  | m + 1, f + 1, a, e, hf, hj => by
    unfold mNx
    rw [if_pos (in_s (by omega)), tn_nI (by omega), if_pos (hj a (Nat.le_refl _) (by omega)), nI_1]
    exact nx_r hi hs m f (a + 1) (by omega) (by omega) (fun j h1 h2 => hj j (by omega) h2)
theorem nx_l {P : Mem} {b : Nat} (hb : b ≤ 32) (hs : b = 0 ∨ ¬ P 31 (b - 1) = -1) : ∀ (m f a : Nat), b + m = a → a ≤ 32 → m < f → (∀ j, b ≤ j → j < a → P 31 j = -1) → mNx P (-1) f (nI a - 1) = nI b - 1
  | m, 0, a, _, _, h, _ => absurd h (Nat.not_lt_zero _)
  | 0, f + 1, a, e, ha, _, _ => by
    obtain rfl : a = b := by omega
    unfold mNx
    rcases hs with rfl | hs
    · rw [if_neg (fun z => absurd z.1 (by decide))]
      decide
    · rcases a with _ | a
      · rw [if_neg (fun z => absurd z.1 (by decide))]
        decide
      · have hs : ¬ P 31 a = -1 := hs
        rw [nI_prd, if_pos (in_s (by omega)), tn_nI (by omega), if_neg hs]
  | m + 1, f + 1, a, e, ha, hf, hj => by
    rcases a with _ | a
    · omega
    · unfold mNx
      rw [nI_prd, if_pos (in_s (by omega)), tn_nI (by omega), if_pos (hj a (by omega) (by omega)), show nI a + (-1) = nI a - 1 by grind]
      exact nx_l hb hs m f a (by omega) (by omega) (by omega) (fun j h1 h2 => hj j h1 (by omega))
theorem bits_nn {x : UInt64} (h : vf_n64 x) : x.toNat % 2 ^ 63 ≤ 9218868437227405312 := by
  have e1 : (0x7fffffffffffffff : UInt64).toNat = 2 ^ 63 - 1 := by decide +kernel
  have e2 : (0x7ff0000000000000 : UInt64).toNat = 9218868437227405312 := by decide +kernel
  unfold vf_n64 at h
  rw [UInt64.le_iff_toNat_le, UInt64.toNat_and, e1, e2, Nat.and_two_pow_sub_one_eq_mod] at h
  exact h
theorem dsame {x : UInt64} (h : vf_n64 x) : Op.cmpValue (FP.dcmp x x) .l = 0 := by
  have e : FP.dcmp x x = some .eq := by
    rw [FP.dcmp_core]
    exact FP.Core.dcmp_self ((FP.Core.ne_nan x).mpr (bits_nn h))
  rw [e]
  rfl
theorem okWn {P : Mem} : okW P [] := ⟨nm0, nm0, fun _ _ => nm0⟩
theorem okSn {P : Mem} : okS P [] := ⟨nm0, nm0, fun _ _ => nm0⟩
abbrev rmX2_isSame : Room := { frames := 4, cells := 0, slots := 0, locals := 100 }
set_option maxHeartbeats 1000000 in
set_option maxRecDepth 100000 in
theorem qs_is_end {X : XT} {l : Launch} {g : GT} {R : Option Value → Mem → DM → Prop} {M : Mem} {D : DM} {ad : Nat → Nat} {nb : Nat} {P : Mem} (li : LI nb M P) (h : SP g D ad P) (hR : R (some (.int 1)) M D) (C : Cx X g l cX2_isSame 9 RX2 (some .boolean) rmX2_isSame) (hq : RU X g rmX2_isSame R) : UX X g 0 0 446 [(0, .ref (ad 0)), (1, .ref (ga g 0)), (2, .int (mSumL P (mSh P)))] [] M D := by
  have hn := h.n
  have hp := li.pk
  refine u_aload_n C dX2_isSame_446 rfl ?_
  refine u_callC0 C (fun B => k_beat li  B) cd_X1_beat kl_X2_111 ci1 rfl (by decide) (as := []) rfl rfl ⟨⟨by decide, by decide⟩, by decide, by decide⟩ ⟨rfl, rfl⟩ (Nat.le_of_ble_eq_true rfl) dX2_isSame_447 ?_
  refine u_aload_n C dX2_isSame_450 rfl ?_
  refine u_getF C (fl_X2_32.fl) (h.ob nm0) rfl dX2_isSame_451 ?_
  refine u_icmp_ne C (tgt := 545) dX2_isSame_454 (by decide) (fun c454 => absurd rfl c454) (fun c454 => ?_)
  refine u_aload_n C dX2_isSame_457 rfl ?_
  refine u_callC0 C (fun B => k_walls li  B) cd_X1_walls kl_X2_113 ci1 rfl (by decide) (as := []) rfl rfl ⟨⟨by decide, by decide⟩, by decide, by decide⟩ ⟨rfl, rfl⟩ (Nat.le_of_ble_eq_true rfl) dX2_isSame_458 ?_
  refine u_aload_n C dX2_isSame_461 rfl ?_
  refine u_getF C fl_X2_14 (h.ob nm0) rfl dX2_isSame_462 ?_
  refine u_ralen C (h.walls nm0) dX2_isSame_465 ?_
  refine u_icmp_ne C (tgt := 545) dX2_isSame_466 (by decide) (fun c466 => absurd rfl c466) (fun c466 => ?_)
  refine u_aload_n C dX2_isSame_469 rfl ?_
  refine u_callC0 C (fun B => k_shouts li  B) cd_X1_shouts kl_X2_115 ci1 rfl (by decide) (as := []) rfl rfl ⟨⟨by decide, by decide⟩, by decide, by decide⟩ ⟨rfl, rfl⟩ (Nat.le_of_ble_eq_true rfl) dX2_isSame_470 ?_
  refine u_aload_n C dX2_isSame_473 rfl ?_
  refine u_getF C fl_X2_18 (h.ob nm0) rfl dX2_isSame_474 ?_
  refine u_ralen C (h.shouts nm0) dX2_isSame_477 ?_
  refine u_icmp_ne C (tgt := 545) dX2_isSame_478 (by decide) (fun c478 => absurd rfl c478) (fun c478 => ?_)
  refine u_aload_n C dX2_isSame_481 rfl ?_
  refine u_callC0 C (fun B => k_underWay li  B) cd_X1_underWay kl_X2_117 ci1 rfl (by decide) (as := []) rfl rfl ⟨⟨by decide, by decide⟩, by decide, by decide⟩ ⟨rfl, rfl⟩ (Nat.le_of_ble_eq_true rfl) dX2_isSame_482 ?_
  refine u_aload_n C dX2_isSame_485 rfl ?_
  refine u_callV0 C (qs_underWay l g M _ h okSn) cd_X2_underWay kl_X2_120 ci2 (h.ob nm0) (as := []) rfl rfl ⟨⟨by decide, by decide⟩, by decide, by decide⟩ ⟨rfl, rfl⟩ (Nat.le_of_ble_eq_true rfl) dX2_isSame_486 ?_
  refine u_icmp_ne C (tgt := 545) dX2_isSame_489 (by decide) (fun c489 => absurd rfl c489) (fun c489 => ?_)
  refine u_aload_n C dX2_isSame_492 rfl ?_
  refine u_callC0 C (fun B => k_overlaps li  B) cd_X1_overlaps kl_X2_121 ci1 rfl (by decide) (as := []) rfl rfl ⟨⟨by decide, by decide⟩, by decide, by decide⟩ ⟨rfl, rfl⟩ (Nat.le_of_ble_eq_true rfl) dX2_isSame_493 ?_
  refine u_aload_n C dX2_isSame_496 rfl ?_
  refine u_getF C (fl_X2_36.fl) (h.ob nm0) rfl dX2_isSame_497 ?_
  refine u_icmp_ne C (tgt := 545) dX2_isSame_500 (by decide) (fun c500 => absurd rfl c500) (fun c500 => ?_)
  refine u_aload_n C dX2_isSame_503 rfl ?_
  refine u_callC0 C (fun B => k_inherited li  B) cd_X1_inherited kl_X2_123 ci1 rfl (by decide) (as := []) rfl rfl ⟨⟨by decide, by decide⟩, by decide, by decide⟩ ⟨rfl, rfl⟩ (Nat.le_of_ble_eq_true rfl) dX2_isSame_504 ?_
  refine u_aload_n C dX2_isSame_507 rfl ?_
  refine u_getF C (fl_X2_39.fl) (h.ob nm0) rfl dX2_isSame_508 ?_
  refine u_icmp_ne C (tgt := 545) dX2_isSame_511 (by decide) (fun c511 => absurd rfl c511) (fun c511 => ?_)
  refine u_aload_n C dX2_isSame_514 rfl ?_
  refine u_callC0 C (fun B => k_meanLoudness li  B) cd_X1_meanLoudness kl_X2_126 ci1 rfl (by decide) (as := []) rfl rfl ⟨⟨by decide, by decide⟩, by decide, by decide⟩ ⟨rfl, rfl⟩ (Nat.le_of_ble_eq_true rfl) dX2_isSame_515 ?_
  refine u_aload_n C dX2_isSame_518 rfl ?_
  refine u_callV0 C (qs_underWay l g M _ h okSn) cd_X2_underWay kl_X2_120 ci2 (h.ob nm0) (as := []) rfl rfl ⟨⟨by decide, by decide⟩, by decide, by decide⟩ ⟨rfl, rfl⟩ (Nat.le_of_ble_eq_true rfl) dX2_isSame_519 ?_
  refine u_if_ne C (tgt := 529) dX2_isSame_522 (by decide) (fun c522 => ?_) (fun c522 => ?_)
  · have em : mMean P = FP.ddiv (FP.i2d (mSumL P (mSh P))) (FP.i2d (mMany P)) := if_neg c522
    have hnn : vf_n64 (FP.ddiv (FP.i2d (mSumL P (mSh P))) (FP.i2d (mMany P))) := nn_div _ c522
    rw [em]
    refine u_iload_n C dX2_isSame_529 rfl ?_
    refine u_i2d C dX2_isSame_530 ?_
    refine u_aload_n C dX2_isSame_531 rfl ?_
    refine u_callV0 C (qs_underWay l g M _ h okSn) cd_X2_underWay kl_X2_120 ci2 (h.ob nm0) (as := []) rfl rfl ⟨⟨by decide, by decide⟩, by decide, by decide⟩ ⟨rfl, rfl⟩ (Nat.le_of_ble_eq_true rfl) dX2_isSame_532 ?_
    refine u_i2d C dX2_isSame_535 ?_
    refine u_ddiv C dX2_isSame_536 (hnn) ?_
    refine u_dcmp C dX2_isSame_537 ?_
    refine u_if_ne C (tgt := 545) dX2_isSame_538 (by decide) (fun c538 => absurd (dsame hnn) c538) (fun c538 => ?_)
    refine u_iconst C (v := 1) dX2_isSame_541 (by decide) ?_
    refine u_goto C (tgt := 546) dX2_isSame_542 (by decide) ?_
    exact u_zret C hq (by decide) ⟨by decide, by decide⟩ dX2_isSame_546 (hR)
  · have em : mMean P = 0 := if_pos c522
    have hnn : vf_n64 (0 : UInt64) := nn_bits 0 (by decide +kernel)
    rw [em]
    refine u_dconst0 C dX2_isSame_525 ?_
    refine u_goto C (tgt := 537) dX2_isSame_526 (by decide) ?_
    refine u_dcmp C dX2_isSame_537 ?_
    refine u_if_ne C (tgt := 545) dX2_isSame_538 (by decide) (fun c538 => absurd (dsame hnn) c538) (fun c538 => ?_)
    refine u_iconst C (v := 1) dX2_isSame_541 (by decide) ?_
    refine u_goto C (tgt := 546) dX2_isSame_542 (by decide) ?_
    exact u_zret C hq (by decide) ⟨by decide, by decide⟩ dX2_isSame_546 (hR)
set_option maxHeartbeats 1000000 in
set_option maxRecDepth 100000 in
theorem qs_is_right {X : XT} {l : Launch} {g : GT} {R : Option Value → Mem → DM → Prop} {M : Mem} {D : DM} {ad : Nat → Nat} {nb : Nat} {P : Mem} (li : LI nb M P) (h : SP g D ad P) {s : Nat} (ls : s < 32) (hK : ∀ i, s < i → i ≤ 32 → (i = 32 ∨ ¬ P 31 i = -1) → (∀ j, s < j → j < i → P 31 j = -1) → UX X g 0 0 327 [(0, .ref (ad 0)), (1, .ref (ga g 0)), (5, .int (nI i)), (2, .int (mSumL P (mSh P))), (3, .int (nI s)), (4, .int (mLoudest P (nI s)))] [] M D) (C : Cx X g l cX2_isSame 9 RX2 (some .boolean) rmX2_isSame) (hq : RU X g rmX2_isSame R) : ∀ (n i : Nat), s < i → i ≤ 32 → 33 ≤ i + n → (∀ j, s < j → j < i → P 31 j = -1) → UX X g 0 0 305 [(0, .ref (ad 0)), (1, .ref (ga g 0)), (5, .int (nI i)), (2, .int (mSumL P (mSh P))), (3, .int (nI s)), (4, .int (mLoudest P (nI s)))] [] M D := by
  intro n
  induction n with
  | zero =>
    intro i h0 h1 h2; omega
  | succ n ih =>
    intro i h0 h1 h2 h3
    have hp := li.pk
    refine u_iload C dX2_isSame_305 rfl ?_
    refine u_bipush C (v := 32) dX2_isSame_307 (by decide) ?_
    refine u_icmp_ge C (tgt := 327) dX2_isSame_309 (by decide) (fun c309 => ?_) (fun c309 => ?_)
    · have he : i = 32 := Nat.le_antisymm h1 ((nI_leI (a := 32) (b := i) (by omega) (by omega)).mp c309)
      exact u_lsub [0, 1, 2, 3, 4, 5] rfl (hK i h0 h1 (by first | exact Or.inl he | exact Or.inr hw) h3)
    · have hlt : i < 32 := Nat.lt_of_not_le (fun z => c309 ((nI_leI (a := 32) (b := i) (by omega) (by omega)).mpr z))
      refine u_aload_n C dX2_isSame_312 rfl ?_
      refine u_iload C dX2_isSame_313 rfl ?_
      refine u_callV0 C (qs_wallOn l g M _ h okWn (nI i)) cd_X2_wallOn kl_X2_48 ci2 (h.ob nm0) (as := [_]) rfl rfl ⟨⟨by decide, by decide⟩, by decide, by decide⟩ ⟨rfl, rfl⟩ (Nat.le_of_ble_eq_true rfl) dX2_isSame_315 ?_
      rw [sWO_is hp.2.2.1 (in_s (by omega)), tn_nI (by omega)]
      refine u_if_ge C (tgt := 327) dX2_isSame_318 (by decide) (fun c318 => ?_) (fun c318 => ?_)
      · have hw : ¬ P 31 i = -1 := fun z => by rw [z] at c318; exact absurd c318 (by decide)
        exact u_lsub [0, 1, 2, 3, 4, 5] rfl (hK i h0 h1 (by first | exact Or.inl he | exact Or.inr hw) h3)
      · have hw : P 31 i = -1 := (hp.2.2.1.2 i hlt).resolve_right (fun ⟨w, a1, a2, _⟩ => c318 (by rw [a2]; exact nI_pos' (by have := li.pk.1.ws; omega)))
        refine u_iinc C (v := nI (i + 1)) (lo' := [(5, _), (0, _), (1, _), (2, _), (3, _), (4, _)]) dX2_isSame_321 rfl (nI_inc _) (by decide) rfl ?_
        refine u_goto C (tgt := 305) dX2_isSame_324 (by decide) ?_
        exact u_lsub [1, 2, 0, 3, 4, 5] rfl (ih (i + 1) (by omega) (by omega) (by omega) (fun j a b => by
          by_cases e : j = i
          · subst e; exact hw
          · exact h3 j a (by omega)))
set_option maxHeartbeats 1000000 in
set_option maxRecDepth 100000 in
theorem qs_is_left {X : XT} {l : Launch} {g : GT} {R : Option Value → Mem → DM → Prop} {M : Mem} {D : DM} {ad : Nat → Nat} {nb : Nat} {P : Mem} (li : LI nb M P) (h : SP g D ad P) {s : Nat} (ls : s < 32) {r : Int32} (hK : ∀ b, b ≤ s → (b = 0 ∨ ¬ P 31 (b - 1) = -1) → (∀ j, b ≤ j → j < s → P 31 j = -1) → UX X g 0 0 352 [(0, .ref (ad 0)), (1, .ref (ga g 0)), (6, .int (nI b - 1)), (5, .int (r)), (2, .int (mSumL P (mSh P))), (3, .int (nI s)), (4, .int (mLoudest P (nI s)))] [] M D) (C : Cx X g l cX2_isSame 9 RX2 (some .boolean) rmX2_isSame) (hq : RU X g rmX2_isSame R) : ∀ (b : Nat), b ≤ s → (∀ j, b ≤ j → j < s → P 31 j = -1) → UX X g 0 0 332 [(0, .ref (ad 0)), (1, .ref (ga g 0)), (6, .int (nI b - 1)), (5, .int (r)), (2, .int (mSumL P (mSh P))), (3, .int (nI s)), (4, .int (mLoudest P (nI s)))] [] M D := by
  intro b
  induction b with
  | zero =>
    intro h1 h3
    refine u_iload C dX2_isSame_332 rfl ?_
    refine u_if_lt C (tgt := 352) dX2_isSame_334 (by decide) (fun c334 => ?_) (fun c334 => absurd (by decide) c334)
    exact hK 0 h1 (Or.inl rfl) h3
  | succ b ih =>
    intro h1 h3
    have hp := li.pk
    rw [nI_prd]
    refine u_iload C dX2_isSame_332 rfl ?_
    refine u_if_lt C (tgt := 352) dX2_isSame_334 (by decide) (fun c334 => absurd c334 (nI_pos (by omega))) (fun c334 => ?_)
    refine u_aload_n C dX2_isSame_337 rfl ?_
    refine u_iload C dX2_isSame_338 rfl ?_
    refine u_callV0 C (qs_wallOn l g M _ h okWn (nI b)) cd_X2_wallOn kl_X2_48 ci2 (h.ob nm0) (as := [_]) rfl rfl ⟨⟨by decide, by decide⟩, by decide, by decide⟩ ⟨rfl, rfl⟩ (Nat.le_of_ble_eq_true rfl) dX2_isSame_340 ?_
    rw [sWO_is hp.2.2.1 (in_s (by omega)), tn_nI (by omega)]
    refine u_if_ge C (tgt := 352) dX2_isSame_343 (by decide) (fun c343 => ?_) (fun c343 => ?_)
    · have hw : ¬ P 31 b = -1 := fun z => by rw [z] at c343; exact absurd c343 (by decide)
      exact u_lsub [0, 1, 2, 3, 4, 5, 6] rfl (by
        have z := hK (b + 1) h1 (Or.inr hw) h3
        rw [nI_prd] at z
        exact z)
    · have hw : P 31 b = -1 := (hp.2.2.1.2 b (by omega)).resolve_right (fun ⟨w, a1, a2, _⟩ => c343 (by rw [a2]; exact nI_pos' (by have := li.pk.1.ws; omega)))
      refine u_iinc C (v := nI b - 1) (lo' := [(6, _), (0, _), (1, _), (5, _), (2, _), (3, _), (4, _)]) dX2_isSame_346 rfl (nI_dm _) (by decide) rfl ?_
      refine u_goto C (tgt := 332) dX2_isSame_349 (by decide) ?_
      exact u_lsub [1, 2, 0, 3, 4, 5, 6] rfl (ih (by omega) (fun j a c => by
        by_cases e : j = b
        · subst e; exact hw
        · exact h3 j (by omega) c))
set_option maxHeartbeats 1000000 in
set_option maxRecDepth 100000 in
theorem qs_is_stones {X : XT} {l : Launch} {g : GT} {R : Option Value → Mem → DM → Prop} {M : Mem} {D : DM} {ad : Nat → Nat} {nb : Nat} {P : Mem} (li : LI nb M P) (h : SP g D ad P) (hR : R (some (.int 1)) M D) (C : Cx X g l cX2_isSame 9 RX2 (some .boolean) rmX2_isSame) (hq : RU X g rmX2_isSame R) : ∀ (n s : Nat), s ≤ 32 → 33 ≤ s + n → UX X g 0 0 287 [(0, .ref (ad 0)), (1, .ref (ga g 0)), (3, .int (nI s)), (2, .int (mSumL P (mSh P)))] [] M D := by
  intro n
  induction n with
  | zero =>
    intro s h1 h2; omega
  | succ n ih =>
    intro s h1 h2
    have hp := li.pk
    have hn := h.n
    refine u_iload_n C dX2_isSame_287 rfl ?_
    refine u_bipush C (v := 32) dX2_isSame_288 (by decide) ?_
    refine u_icmp_ge C (tgt := 446) dX2_isSame_290 (by decide) (fun c290 => ?_) (fun c290 => ?_)
    · exact u_lsub [0, 1, 3] rfl (qs_is_end li h hR C hq)
    · have hlt : s < 32 := Nat.lt_of_not_le (fun z => c290 ((nI_leI (a := 32) (b := s) (by omega) (by omega)).mpr z))
      refine u_aload_n C dX2_isSame_293 rfl ?_
      refine u_iload_n C dX2_isSame_294 rfl ?_
      refine u_callV0 C (qs_loudestOn l g M _ h okSn (nI s)) cd_X2_loudestOn kl_X2_52 ci2 (h.ob nm0) (as := [_]) rfl rfl ⟨⟨by decide, by decide⟩, by decide, by decide⟩ ⟨rfl, rfl⟩ (Nat.le_of_ble_eq_true rfl) dX2_isSame_295 ?_
      refine u_istore C (lo' := [(4, _), (0, _), (1, _), (3, _), (2, _)]) dX2_isSame_298 (by decide) rfl ?_
      refine u_iload_n C dX2_isSame_300 rfl ?_
      refine u_iconst C (v := 1) dX2_isSame_301 (by decide) ?_
      refine u_iadd C dX2_isSame_302 ?_
      rw [nI_1]
      refine u_istore C (lo' := [(5, _), (4, _), (0, _), (1, _), (3, _), (2, _)]) dX2_isSame_303 (by decide) rfl ?_
      refine u_lsub [2, 3, 0, 5, 4, 1] rfl (qs_is_right li h hlt (fun i i0 i1 i2 i3 => ?_) C hq 33 (s + 1) (by omega) (by omega) (by omega) (fun j a c => absurd c (by omega)))
      refine u_iload_n C dX2_isSame_327 rfl ?_
      refine u_iconst C (v := 1) dX2_isSame_328 (by decide) ?_
      refine u_isub C dX2_isSame_329 ?_
      refine u_istore C (lo' := [(6, _), (0, _), (1, _), (5, _), (2, _), (3, _), (4, _)]) dX2_isSame_330 (by decide) rfl ?_
      refine u_lsub [1, 2, 0, 3, 4, 5, 6] rfl (qs_is_left li h hlt (fun b b1 b2 b3 => ?_) C hq s (Nat.le_refl _) (fun j a c => absurd c (by omega)))
      have enr := nx_r (P := P) i1 i2 (i - (s + 1)) 34 (s + 1) (by omega) (by omega) (fun j a c => i3 j (by omega) c)
      have enl := nx_l (P := P) (b := b) (by omega) b2 (s - b) 34 s (by omega) (by omega) (by omega) b3
      refine u_aload_n C dX2_isSame_352 rfl ?_
      refine u_iload_n C dX2_isSame_353 rfl ?_
      refine u_callC0 C (fun B => k_snowOn li hlt B) cd_X1_snowOn kl_X2_100 ci1 rfl (by decide) (as := [_]) rfl rfl ⟨⟨by decide, by decide⟩, by decide, by decide⟩ ⟨rfl, rfl⟩ (Nat.le_of_ble_eq_true rfl) dX2_isSame_354 ?_
      refine u_aload_n C dX2_isSame_357 rfl ?_
      refine u_getF C fl_X2_7 (h.ob nm0) rfl dX2_isSame_358 ?_
      refine u_iload_n C dX2_isSame_361 rfl ?_
      refine u_iald C (h.snow nm0) rfl hlt (by decide) dX2_isSame_362 ?_
      refine u_icmp_ne C (tgt := 438) dX2_isSame_363 (by decide) (fun c363 => absurd rfl c363) (fun c363 => ?_)
      refine u_aload_n C dX2_isSame_366 rfl ?_
      refine u_iload_n C dX2_isSame_367 rfl ?_
      refine u_callC0 C (fun B => k_wallOn li hlt B) cd_X1_wallOn kl_X2_103 ci1 rfl (by decide) (as := [_]) rfl rfl ⟨⟨by decide, by decide⟩, by decide, by decide⟩ ⟨rfl, rfl⟩ (Nat.le_of_ble_eq_true rfl) dX2_isSame_368 ?_
      refine u_aload_n C dX2_isSame_371 rfl ?_
      refine u_iload_n C dX2_isSame_372 rfl ?_
      refine u_callV0 C (qs_wallOn l g M _ h okWn (nI s)) cd_X2_wallOn kl_X2_48 ci2 (h.ob nm0) (as := [_]) rfl rfl ⟨⟨by decide, by decide⟩, by decide, by decide⟩ ⟨rfl, rfl⟩ (Nat.le_of_ble_eq_true rfl) dX2_isSame_373 ?_
      rw [sWO_is hp.2.2.1 (in_s (by omega)), tn_nI (by omega)]
      refine u_icmp_ne C (tgt := 438) dX2_isSame_376 (by decide) (fun c376 => absurd rfl c376) (fun c376 => ?_)
      refine u_aload_n C dX2_isSame_379 rfl ?_
      refine u_iload_n C dX2_isSame_380 rfl ?_
      refine u_callC0 C (fun B => k_loudOn li hlt B) cd_X1_loudOn kl_X2_104 ci1 rfl (by decide) (as := [_]) rfl rfl ⟨⟨by decide, by decide⟩, by decide, by decide⟩ ⟨rfl, rfl⟩ (Nat.le_of_ble_eq_true rfl) dX2_isSame_381 ?_
      refine u_iload C dX2_isSame_384 rfl ?_
      refine u_if_ge C (tgt := 393) dX2_isSame_386 (by decide) (fun c386 => ?_) (fun c386 => ?_)
      · have hbb := (mLdL_or P (nI s) (mSh P) (by omega)).resolve_left (fun z => by
          have z : mLoudest P (nI s) = -1 := z
          rw [z] at c386
          exact absurd c386 (by decide))
        obtain ⟨f, r0, s0, s3, s1⟩ := h.srow hbb.2 nm0
        have ela : mLA P (nI s) = f 0 := by
          rw [s0]
          exact if_neg (fun z => by rw [z] at c386; exact absurd c386 (by decide))
        refine u_aload_n C dX2_isSame_393 rfl ?_
        refine u_getF C fl_X2_18 (h.ob nm0) rfl dX2_isSame_394 ?_
        refine u_iload C dX2_isSame_397 rfl ?_
        refine u_aald C (h.shouts nm0) (nI_tn hbb.1) hbb.2 (by omega) rfl dX2_isSame_399 ?_
        refine u_iconst C (v := 0) dX2_isSame_400 (by decide) ?_
        refine u_iald C (r0) rfl (by decide : 0 < 4) (by decide) dX2_isSame_401 ?_
        refine u_icmp_ne C (tgt := 438) dX2_isSame_402 (by decide) (fun c402 => absurd ela c402) (fun c402 => ?_)
        refine u_aload_n C dX2_isSame_405 rfl ?_
        refine u_iload_n C dX2_isSame_406 rfl ?_
        refine u_iconst C (v := 1) dX2_isSame_407 (by decide) ?_
        refine u_callC0 C (fun B => (by
    have z := k_nextWall (l := l) (g := g) li hlt 1 B
    rw [if_neg (by decide), nI_1, enr] at z
    exact z)) cd_X1_nextWall kl_X2_107 ci1 rfl (by decide) (as := [_, _]) rfl rfl ⟨⟨by decide, by decide⟩, by decide, by decide⟩ ⟨rfl, rfl⟩ (Nat.le_of_ble_eq_true rfl) dX2_isSame_408 ?_
        refine u_iload C dX2_isSame_411 rfl ?_
        refine u_bipush C (v := 31) dX2_isSame_413 (by decide) ?_
        refine u_icmp_le C (tgt := 422) dX2_isSame_415 (by decide) (fun c415 => ?_) (fun c415 => ?_)
        · have e32 : ¬ i = 32 := fun z => by rw [z] at c415; exact absurd c415 (by decide)
          rw [if_neg e32]
          refine u_iload C dX2_isSame_422 rfl ?_
          refine u_icmp_ne C (tgt := 438) dX2_isSame_424 (by decide) (fun c424 => absurd rfl c424) (fun c424 => ?_)
          refine u_aload_n C dX2_isSame_427 rfl ?_
          refine u_iload_n C dX2_isSame_428 rfl ?_
          refine u_iconst C (v := 0) dX2_isSame_429 (by decide) ?_
          refine u_callC0 C (fun B => (by
    have z := k_nextWall (l := l) (g := g) li hlt 0 B
    rw [if_pos rfl, show nI s + (-1) = nI s - 1 by grind, enl] at z
    exact z)) cd_X1_nextWall kl_X2_107 ci1 rfl (by decide) (as := [_, _]) rfl rfl ⟨⟨by decide, by decide⟩, by decide, by decide⟩ ⟨rfl, rfl⟩ (Nat.le_of_ble_eq_true rfl) dX2_isSame_430 ?_
          refine u_iload C dX2_isSame_433 rfl ?_
          refine u_icmp_eq C (tgt := 440) dX2_isSame_435 (by decide) (fun c435 => ?_) (fun c435 => absurd rfl c435)
          refine u_iinc C (v := nI (s + 1)) (lo' := [(3, _), (0, _), (1, _), (6, _), (5, _), (2, _), (4, _)]) dX2_isSame_440 rfl (nI_inc _) (by decide) rfl ?_
          refine u_goto C (tgt := 287) dX2_isSame_443 (by decide) ?_
          exact u_lsub [1, 2, 0, 5] rfl (ih (s + 1) (by omega) (by omega))
        · have e32 : i = 32 := by
            have : ¬ i ≤ 31 := fun z => c415 ((nI_leI (a := i) (b := 31) (by omega) (by omega)).mpr z)
            omega
          rw [if_pos e32]
          refine u_iconst C (v := (-1)) dX2_isSame_418 (by decide) ?_
          refine u_goto C (tgt := 424) dX2_isSame_419 (by decide) ?_
          refine u_icmp_ne C (tgt := 438) dX2_isSame_424 (by decide) (fun c424 => absurd rfl c424) (fun c424 => ?_)
          refine u_aload_n C dX2_isSame_427 rfl ?_
          refine u_iload_n C dX2_isSame_428 rfl ?_
          refine u_iconst C (v := 0) dX2_isSame_429 (by decide) ?_
          refine u_callC0 C (fun B => (by
    have z := k_nextWall (l := l) (g := g) li hlt 0 B
    rw [if_pos rfl, show nI s + (-1) = nI s - 1 by grind, enl] at z
    exact z)) cd_X1_nextWall kl_X2_107 ci1 rfl (by decide) (as := [_, _]) rfl rfl ⟨⟨by decide, by decide⟩, by decide, by decide⟩ ⟨rfl, rfl⟩ (Nat.le_of_ble_eq_true rfl) dX2_isSame_430 ?_
          refine u_iload C dX2_isSame_433 rfl ?_
          refine u_icmp_eq C (tgt := 440) dX2_isSame_435 (by decide) (fun c435 => ?_) (fun c435 => absurd rfl c435)
          refine u_iinc C (v := nI (s + 1)) (lo' := [(3, _), (0, _), (1, _), (6, _), (5, _), (2, _), (4, _)]) dX2_isSame_440 rfl (nI_inc _) (by decide) rfl ?_
          refine u_goto C (tgt := 287) dX2_isSame_443 (by decide) ?_
          exact u_lsub [1, 2, 0, 5] rfl (ih (s + 1) (by omega) (by omega))
      · have ela : mLA P (nI s) = 0 := if_pos ((mLdL_or P (nI s) (mSh P) (by omega)).resolve_right (fun z => c386 z.1))
        refine u_iconst C (v := 0) dX2_isSame_389 (by decide) ?_
        refine u_goto C (tgt := 402) dX2_isSame_390 (by decide) ?_
        refine u_icmp_ne C (tgt := 438) dX2_isSame_402 (by decide) (fun c402 => absurd ela c402) (fun c402 => ?_)
        refine u_aload_n C dX2_isSame_405 rfl ?_
        refine u_iload_n C dX2_isSame_406 rfl ?_
        refine u_iconst C (v := 1) dX2_isSame_407 (by decide) ?_
        refine u_callC0 C (fun B => (by
    have z := k_nextWall (l := l) (g := g) li hlt 1 B
    rw [if_neg (by decide), nI_1, enr] at z
    exact z)) cd_X1_nextWall kl_X2_107 ci1 rfl (by decide) (as := [_, _]) rfl rfl ⟨⟨by decide, by decide⟩, by decide, by decide⟩ ⟨rfl, rfl⟩ (Nat.le_of_ble_eq_true rfl) dX2_isSame_408 ?_
        refine u_iload C dX2_isSame_411 rfl ?_
        refine u_bipush C (v := 31) dX2_isSame_413 (by decide) ?_
        refine u_icmp_le C (tgt := 422) dX2_isSame_415 (by decide) (fun c415 => ?_) (fun c415 => ?_)
        · have e32 : ¬ i = 32 := fun z => by rw [z] at c415; exact absurd c415 (by decide)
          rw [if_neg e32]
          refine u_iload C dX2_isSame_422 rfl ?_
          refine u_icmp_ne C (tgt := 438) dX2_isSame_424 (by decide) (fun c424 => absurd rfl c424) (fun c424 => ?_)
          refine u_aload_n C dX2_isSame_427 rfl ?_
          refine u_iload_n C dX2_isSame_428 rfl ?_
          refine u_iconst C (v := 0) dX2_isSame_429 (by decide) ?_
          refine u_callC0 C (fun B => (by
    have z := k_nextWall (l := l) (g := g) li hlt 0 B
    rw [if_pos rfl, show nI s + (-1) = nI s - 1 by grind, enl] at z
    exact z)) cd_X1_nextWall kl_X2_107 ci1 rfl (by decide) (as := [_, _]) rfl rfl ⟨⟨by decide, by decide⟩, by decide, by decide⟩ ⟨rfl, rfl⟩ (Nat.le_of_ble_eq_true rfl) dX2_isSame_430 ?_
          refine u_iload C dX2_isSame_433 rfl ?_
          refine u_icmp_eq C (tgt := 440) dX2_isSame_435 (by decide) (fun c435 => ?_) (fun c435 => absurd rfl c435)
          refine u_iinc C (v := nI (s + 1)) (lo' := [(3, _), (0, _), (1, _), (6, _), (5, _), (2, _), (4, _)]) dX2_isSame_440 rfl (nI_inc _) (by decide) rfl ?_
          refine u_goto C (tgt := 287) dX2_isSame_443 (by decide) ?_
          exact u_lsub [1, 2, 0, 5] rfl (ih (s + 1) (by omega) (by omega))
        · have e32 : i = 32 := by
            have : ¬ i ≤ 31 := fun z => c415 ((nI_leI (a := i) (b := 31) (by omega) (by omega)).mpr z)
            omega
          rw [if_pos e32]
          refine u_iconst C (v := (-1)) dX2_isSame_418 (by decide) ?_
          refine u_goto C (tgt := 424) dX2_isSame_419 (by decide) ?_
          refine u_icmp_ne C (tgt := 438) dX2_isSame_424 (by decide) (fun c424 => absurd rfl c424) (fun c424 => ?_)
          refine u_aload_n C dX2_isSame_427 rfl ?_
          refine u_iload_n C dX2_isSame_428 rfl ?_
          refine u_iconst C (v := 0) dX2_isSame_429 (by decide) ?_
          refine u_callC0 C (fun B => (by
    have z := k_nextWall (l := l) (g := g) li hlt 0 B
    rw [if_pos rfl, show nI s + (-1) = nI s - 1 by grind, enl] at z
    exact z)) cd_X1_nextWall kl_X2_107 ci1 rfl (by decide) (as := [_, _]) rfl rfl ⟨⟨by decide, by decide⟩, by decide, by decide⟩ ⟨rfl, rfl⟩ (Nat.le_of_ble_eq_true rfl) dX2_isSame_430 ?_
          refine u_iload C dX2_isSame_433 rfl ?_
          refine u_icmp_eq C (tgt := 440) dX2_isSame_435 (by decide) (fun c435 => ?_) (fun c435 => absurd rfl c435)
          refine u_iinc C (v := nI (s + 1)) (lo' := [(3, _), (0, _), (1, _), (6, _), (5, _), (2, _), (4, _)]) dX2_isSame_440 rfl (nI_inc _) (by decide) rfl ?_
          refine u_goto C (tgt := 287) dX2_isSame_443 (by decide) ?_
          exact u_lsub [1, 2, 0, 5] rfl (ih (s + 1) (by omega) (by omega))
set_option maxHeartbeats 1000000 in
set_option maxRecDepth 100000 in
theorem qs_is_shouts {X : XT} {l : Launch} {g : GT} {R : Option Value → Mem → DM → Prop} {M : Mem} {D : DM} {ad : Nat → Nat} {nb : Nat} {P : Mem} (li : LI nb M P) (h : SP g D ad P) (hR : R (some (.int 1)) M D) (C : Cx X g l cX2_isSame 9 RX2 (some .boolean) rmX2_isSame) (hq : RU X g rmX2_isSame R) : ∀ (n k : Nat), k ≤ mSh P → mSh P + 1 ≤ k + n → UX X g 0 0 179 [(0, .ref (ad 0)), (1, .ref (ga g 0)), (3, .int (nI k)), (2, .int (mSumL P k))] [] M D := by
  intro n
  induction n with
  | zero =>
    intro k h1 h2; omega
  | succ n ih =>
    intro k h1 h2
    have hp := li.pk
    have hn := h.n
    refine u_iload_n C dX2_isSame_179 rfl ?_
    refine u_aload_n C dX2_isSame_180 rfl ?_
    refine u_getF C fl_X2_18 (h.ob nm0) rfl dX2_isSame_181 ?_
    refine u_ralen C (h.shouts nm0) dX2_isSame_184 ?_
    refine u_icmp_ge C (tgt := 285) dX2_isSame_185 (by decide) (fun c185 => ?_) (fun c185 => ?_)
    · have he : k = mSh P := Nat.le_antisymm h1 ((nI_leI (a := mSh P) (b := k) (by omega) (by omega)).mp c185)
      rw [he]
      refine u_iconst C (v := 0) dX2_isSame_285 (by decide) ?_
      refine u_istore_n C (lo' := [(3, _), (0, _), (1, _), (2, _)]) dX2_isSame_286 (by decide) rfl ?_
      exact u_lsub [1, 2, 0, 3] rfl (qs_is_stones li h hR C hq 33 0 (by omega) (by omega))
    · have hlt : k < mSh P := Nat.lt_of_not_le (fun z => c185 ((nI_leI (a := mSh P) (b := k) (by omega) (by omega)).mpr z))
      obtain ⟨f, r0, s0, s3, s1⟩ := h.srow hlt nm0
      have r0 := r0.qq
      rw [s0, s3] at r0
      refine u_aload_n C dX2_isSame_188 rfl ?_
      refine u_getF C fl_X2_18 (h.ob nm0) rfl dX2_isSame_189 ?_
      refine u_iload_n C dX2_isSame_192 rfl ?_
      refine u_aald C (h.shouts nm0) rfl hlt (by omega) rfl dX2_isSame_193 ?_
      refine u_astore C (lo' := [(4, _), (0, _), (1, _), (3, _), (2, _)]) dX2_isSame_194 (by decide) rfl ?_
      refine u_iload_n C dX2_isSame_196 rfl ?_
      refine u_aload C dX2_isSame_197 rfl ?_
      refine u_iconst C (v := 0) dX2_isSame_199 (by decide) ?_
      refine u_ialv C (r0) rfl (by decide) (by decide) (v := P 34 (27 + k)) rfl dX2_isSame_200 ?_
      refine u_iadd C dX2_isSame_201 ?_
      refine u_istore_n C (lo' := [(2, _), (4, _), (0, _), (1, _), (3, _)]) dX2_isSame_202 (by decide) rfl ?_
      refine u_aload_n C dX2_isSame_203 rfl ?_
      refine u_iload_n C dX2_isSame_204 rfl ?_
      refine u_callC0 C (fun B => k_loudnessOf li hlt B) cd_X1_loudnessOf kl_X2_87 ci1 rfl (by decide) (as := [_]) rfl rfl ⟨⟨by decide, by decide⟩, by decide, by decide⟩ ⟨rfl, rfl⟩ (Nat.le_of_ble_eq_true rfl) dX2_isSame_205 ?_
      refine u_aload C dX2_isSame_208 rfl ?_
      refine u_iconst C (v := 0) dX2_isSame_210 (by decide) ?_
      refine u_ialv C (r0) rfl (by decide) (by decide) (v := P 34 (27 + k)) rfl dX2_isSame_211 ?_
      refine u_icmp_ne C (tgt := 277) dX2_isSame_212 (by decide) (fun c212 => absurd rfl c212) (fun c212 => ?_)
      refine u_aload_n C dX2_isSame_215 rfl ?_
      refine u_iload_n C dX2_isSame_216 rfl ?_
      refine u_callC0 C (fun B => k_placeOf li hlt B) cd_X1_placeOf kl_X2_90 ci1 rfl (by decide) (as := [_]) rfl rfl ⟨⟨by decide, by decide⟩, by decide, by decide⟩ ⟨rfl, rfl⟩ (Nat.le_of_ble_eq_true rfl) dX2_isSame_217 ?_
      refine u_aload C dX2_isSame_220 rfl ?_
      refine u_iconst C (v := 0) dX2_isSame_222 (by decide) ?_
      refine u_ialv C (r0) rfl (by decide) (by decide) (v := P 34 (27 + k)) rfl dX2_isSame_223 ?_
      refine u_if_le C (tgt := 234) dX2_isSame_224 (by decide) (fun c224 => ?_) (fun c224 => ?_)
      · have epl : mPl P k = -1 := if_neg (Int32.not_lt.mpr c224)
        refine u_iconst C (v := (-1)) dX2_isSame_234 (by decide) ?_
        refine u_icmp_ne C (tgt := 277) dX2_isSame_235 (by decide) (fun c235 => absurd epl c235) (fun c235 => ?_)
        refine u_aload_n C dX2_isSame_238 rfl ?_
        refine u_iload_n C dX2_isSame_239 rfl ?_
        refine u_callC0 C (fun B => k_goesRight li hlt B) cd_X1_goesRight kl_X2_93 ci1 rfl (by decide) (as := [_]) rfl rfl ⟨⟨by decide, by decide⟩, by decide, by decide⟩ ⟨rfl, rfl⟩ (Nat.le_of_ble_eq_true rfl) dX2_isSame_240 ?_
        refine u_aload C dX2_isSame_243 rfl ?_
        refine u_iconst C (v := 0) dX2_isSame_245 (by decide) ?_
        refine u_ialv C (r0) rfl (by decide) (by decide) (v := P 34 (27 + k)) rfl dX2_isSame_246 ?_
        refine u_if_le C (tgt := 261) dX2_isSame_247 (by decide) (fun c247 => ?_) (fun c247 => ?_)
        · have ert : b2i (mRt P k) = 0 := b2i_f (fun z => absurd z.1 (Int32.not_lt.mpr c247))
          refine u_iconst C (v := 0) dX2_isSame_261 (by decide) ?_
          refine u_icmp_ne C (tgt := 277) dX2_isSame_262 (by decide) (fun c262 => absurd ert c262) (fun c262 => ?_)
          refine u_aload_n C dX2_isSame_265 rfl ?_
          refine u_iload_n C dX2_isSame_266 rfl ?_
          refine u_callC0 C (fun B => k_turnsOf li hlt B) cd_X1_turnsOf kl_X2_97 ci1 rfl (by decide) (as := [_]) rfl rfl ⟨⟨by decide, by decide⟩, by decide, by decide⟩ ⟨rfl, rfl⟩ (Nat.le_of_ble_eq_true rfl) dX2_isSame_267 ?_
          refine u_aload C dX2_isSame_270 rfl ?_
          refine u_iconst C (v := 3) dX2_isSame_272 (by decide) ?_
          refine u_ialv C (r0) rfl (by decide) (by decide) (v := P 34 (147 + k)) rfl dX2_isSame_273 ?_
          refine u_icmp_eq C (tgt := 279) dX2_isSame_274 (by decide) (fun c274 => ?_) (fun c274 => absurd rfl c274)
          refine u_iinc C (v := nI (k + 1)) (lo' := [(3, _), (2, _), (4, _), (0, _), (1, _)]) dX2_isSame_279 rfl (nI_inc _) (by decide) rfl ?_
          refine u_goto C (tgt := 179) dX2_isSame_282 (by decide) ?_
          exact u_lsub [3, 4, 0, 1] rfl (ih (k + 1) hlt (by omega))
        · refine u_aload C dX2_isSame_250 rfl ?_
          refine u_iconst C (v := 2) dX2_isSame_252 (by decide) ?_
          refine u_ialv C (r0) rfl (by decide) (by decide) (v := f 2) rfl dX2_isSame_253 ?_
          refine u_if_le C (tgt := 261) dX2_isSame_254 (by decide) (fun c254 => ?_) (fun c254 => ?_)
          · have ert : b2i (mRt P k) = 0 := b2i_f (fun z => absurd z.2 (by rw [← (s1 (Int32.not_le.mp c247)).2]; exact Int32.not_lt.mpr c254))
            refine u_iconst C (v := 0) dX2_isSame_261 (by decide) ?_
            refine u_icmp_ne C (tgt := 277) dX2_isSame_262 (by decide) (fun c262 => absurd ert c262) (fun c262 => ?_)
            refine u_aload_n C dX2_isSame_265 rfl ?_
            refine u_iload_n C dX2_isSame_266 rfl ?_
            refine u_callC0 C (fun B => k_turnsOf li hlt B) cd_X1_turnsOf kl_X2_97 ci1 rfl (by decide) (as := [_]) rfl rfl ⟨⟨by decide, by decide⟩, by decide, by decide⟩ ⟨rfl, rfl⟩ (Nat.le_of_ble_eq_true rfl) dX2_isSame_267 ?_
            refine u_aload C dX2_isSame_270 rfl ?_
            refine u_iconst C (v := 3) dX2_isSame_272 (by decide) ?_
            refine u_ialv C (r0) rfl (by decide) (by decide) (v := P 34 (147 + k)) rfl dX2_isSame_273 ?_
            refine u_icmp_eq C (tgt := 279) dX2_isSame_274 (by decide) (fun c274 => ?_) (fun c274 => absurd rfl c274)
            refine u_iinc C (v := nI (k + 1)) (lo' := [(3, _), (2, _), (4, _), (0, _), (1, _)]) dX2_isSame_279 rfl (nI_inc _) (by decide) rfl ?_
            refine u_goto C (tgt := 179) dX2_isSame_282 (by decide) ?_
            exact u_lsub [3, 4, 0, 1] rfl (ih (k + 1) hlt (by omega))
          · have ert : b2i (mRt P k) = 1 := b2i_t ⟨Int32.not_le.mp c247, by rw [← (s1 (Int32.not_le.mp c247)).2]; exact Int32.not_le.mp c254⟩
            refine u_iconst C (v := 1) dX2_isSame_257 (by decide) ?_
            refine u_goto C (tgt := 262) dX2_isSame_258 (by decide) ?_
            refine u_icmp_ne C (tgt := 277) dX2_isSame_262 (by decide) (fun c262 => absurd ert c262) (fun c262 => ?_)
            refine u_aload_n C dX2_isSame_265 rfl ?_
            refine u_iload_n C dX2_isSame_266 rfl ?_
            refine u_callC0 C (fun B => k_turnsOf li hlt B) cd_X1_turnsOf kl_X2_97 ci1 rfl (by decide) (as := [_]) rfl rfl ⟨⟨by decide, by decide⟩, by decide, by decide⟩ ⟨rfl, rfl⟩ (Nat.le_of_ble_eq_true rfl) dX2_isSame_267 ?_
            refine u_aload C dX2_isSame_270 rfl ?_
            refine u_iconst C (v := 3) dX2_isSame_272 (by decide) ?_
            refine u_ialv C (r0) rfl (by decide) (by decide) (v := P 34 (147 + k)) rfl dX2_isSame_273 ?_
            refine u_icmp_eq C (tgt := 279) dX2_isSame_274 (by decide) (fun c274 => ?_) (fun c274 => absurd rfl c274)
            refine u_iinc C (v := nI (k + 1)) (lo' := [(3, _), (2, _), (4, _), (0, _), (1, _)]) dX2_isSame_279 rfl (nI_inc _) (by decide) rfl ?_
            refine u_goto C (tgt := 179) dX2_isSame_282 (by decide) ?_
            exact u_lsub [3, 4, 0, 1] rfl (ih (k + 1) hlt (by omega))
      · have epl : mPl P k = f 1 := by rw [(s1 (Int32.not_le.mp c224)).1]; exact if_pos (Int32.not_le.mp c224)
        refine u_aload C dX2_isSame_227 rfl ?_
        refine u_iconst C (v := 1) dX2_isSame_229 (by decide) ?_
        refine u_ialv C (r0) rfl (by decide) (by decide) (v := f 1) rfl dX2_isSame_230 ?_
        refine u_goto C (tgt := 235) dX2_isSame_231 (by decide) ?_
        refine u_icmp_ne C (tgt := 277) dX2_isSame_235 (by decide) (fun c235 => absurd epl c235) (fun c235 => ?_)
        refine u_aload_n C dX2_isSame_238 rfl ?_
        refine u_iload_n C dX2_isSame_239 rfl ?_
        refine u_callC0 C (fun B => k_goesRight li hlt B) cd_X1_goesRight kl_X2_93 ci1 rfl (by decide) (as := [_]) rfl rfl ⟨⟨by decide, by decide⟩, by decide, by decide⟩ ⟨rfl, rfl⟩ (Nat.le_of_ble_eq_true rfl) dX2_isSame_240 ?_
        refine u_aload C dX2_isSame_243 rfl ?_
        refine u_iconst C (v := 0) dX2_isSame_245 (by decide) ?_
        refine u_ialv C (r0) rfl (by decide) (by decide) (v := P 34 (27 + k)) rfl dX2_isSame_246 ?_
        refine u_if_le C (tgt := 261) dX2_isSame_247 (by decide) (fun c247 => ?_) (fun c247 => ?_)
        · have ert : b2i (mRt P k) = 0 := b2i_f (fun z => absurd z.1 (Int32.not_lt.mpr c247))
          refine u_iconst C (v := 0) dX2_isSame_261 (by decide) ?_
          refine u_icmp_ne C (tgt := 277) dX2_isSame_262 (by decide) (fun c262 => absurd ert c262) (fun c262 => ?_)
          refine u_aload_n C dX2_isSame_265 rfl ?_
          refine u_iload_n C dX2_isSame_266 rfl ?_
          refine u_callC0 C (fun B => k_turnsOf li hlt B) cd_X1_turnsOf kl_X2_97 ci1 rfl (by decide) (as := [_]) rfl rfl ⟨⟨by decide, by decide⟩, by decide, by decide⟩ ⟨rfl, rfl⟩ (Nat.le_of_ble_eq_true rfl) dX2_isSame_267 ?_
          refine u_aload C dX2_isSame_270 rfl ?_
          refine u_iconst C (v := 3) dX2_isSame_272 (by decide) ?_
          refine u_ialv C (r0) rfl (by decide) (by decide) (v := P 34 (147 + k)) rfl dX2_isSame_273 ?_
          refine u_icmp_eq C (tgt := 279) dX2_isSame_274 (by decide) (fun c274 => ?_) (fun c274 => absurd rfl c274)
          refine u_iinc C (v := nI (k + 1)) (lo' := [(3, _), (2, _), (4, _), (0, _), (1, _)]) dX2_isSame_279 rfl (nI_inc _) (by decide) rfl ?_
          refine u_goto C (tgt := 179) dX2_isSame_282 (by decide) ?_
          exact u_lsub [3, 4, 0, 1] rfl (ih (k + 1) hlt (by omega))
        · refine u_aload C dX2_isSame_250 rfl ?_
          refine u_iconst C (v := 2) dX2_isSame_252 (by decide) ?_
          refine u_ialv C (r0) rfl (by decide) (by decide) (v := f 2) rfl dX2_isSame_253 ?_
          refine u_if_le C (tgt := 261) dX2_isSame_254 (by decide) (fun c254 => ?_) (fun c254 => ?_)
          · have ert : b2i (mRt P k) = 0 := b2i_f (fun z => absurd z.2 (by rw [← (s1 (Int32.not_le.mp c247)).2]; exact Int32.not_lt.mpr c254))
            refine u_iconst C (v := 0) dX2_isSame_261 (by decide) ?_
            refine u_icmp_ne C (tgt := 277) dX2_isSame_262 (by decide) (fun c262 => absurd ert c262) (fun c262 => ?_)
            refine u_aload_n C dX2_isSame_265 rfl ?_
            refine u_iload_n C dX2_isSame_266 rfl ?_
            refine u_callC0 C (fun B => k_turnsOf li hlt B) cd_X1_turnsOf kl_X2_97 ci1 rfl (by decide) (as := [_]) rfl rfl ⟨⟨by decide, by decide⟩, by decide, by decide⟩ ⟨rfl, rfl⟩ (Nat.le_of_ble_eq_true rfl) dX2_isSame_267 ?_
            refine u_aload C dX2_isSame_270 rfl ?_
            refine u_iconst C (v := 3) dX2_isSame_272 (by decide) ?_
            refine u_ialv C (r0) rfl (by decide) (by decide) (v := P 34 (147 + k)) rfl dX2_isSame_273 ?_
            refine u_icmp_eq C (tgt := 279) dX2_isSame_274 (by decide) (fun c274 => ?_) (fun c274 => absurd rfl c274)
            refine u_iinc C (v := nI (k + 1)) (lo' := [(3, _), (2, _), (4, _), (0, _), (1, _)]) dX2_isSame_279 rfl (nI_inc _) (by decide) rfl ?_
            refine u_goto C (tgt := 179) dX2_isSame_282 (by decide) ?_
            exact u_lsub [3, 4, 0, 1] rfl (ih (k + 1) hlt (by omega))
          · have ert : b2i (mRt P k) = 1 := b2i_t ⟨Int32.not_le.mp c247, by rw [← (s1 (Int32.not_le.mp c247)).2]; exact Int32.not_le.mp c254⟩
            refine u_iconst C (v := 1) dX2_isSame_257 (by decide) ?_
            refine u_goto C (tgt := 262) dX2_isSame_258 (by decide) ?_
            refine u_icmp_ne C (tgt := 277) dX2_isSame_262 (by decide) (fun c262 => absurd ert c262) (fun c262 => ?_)
            refine u_aload_n C dX2_isSame_265 rfl ?_
            refine u_iload_n C dX2_isSame_266 rfl ?_
            refine u_callC0 C (fun B => k_turnsOf li hlt B) cd_X1_turnsOf kl_X2_97 ci1 rfl (by decide) (as := [_]) rfl rfl ⟨⟨by decide, by decide⟩, by decide, by decide⟩ ⟨rfl, rfl⟩ (Nat.le_of_ble_eq_true rfl) dX2_isSame_267 ?_
            refine u_aload C dX2_isSame_270 rfl ?_
            refine u_iconst C (v := 3) dX2_isSame_272 (by decide) ?_
            refine u_ialv C (r0) rfl (by decide) (by decide) (v := P 34 (147 + k)) rfl dX2_isSame_273 ?_
            refine u_icmp_eq C (tgt := 279) dX2_isSame_274 (by decide) (fun c274 => ?_) (fun c274 => absurd rfl c274)
            refine u_iinc C (v := nI (k + 1)) (lo' := [(3, _), (2, _), (4, _), (0, _), (1, _)]) dX2_isSame_279 rfl (nI_inc _) (by decide) rfl ?_
            refine u_goto C (tgt := 179) dX2_isSame_282 (by decide) ?_
            exact u_lsub [3, 4, 0, 1] rfl (ih (k + 1) hlt (by omega))
set_option maxHeartbeats 1000000 in
set_option maxRecDepth 100000 in
theorem qs_is_cnt {X : XT} {l : Launch} {g : GT} {R : Option Value → Mem → DM → Prop} {M : Mem} {D : DM} {ad : Nat → Nat} {nb : Nat} {P : Mem} (li : LI nb M P) (h : SP g D ad P) {e : Nat} (hK : UX X g 0 0 131 [(0, .ref (ad 0)), (1, .ref (ga g 0)), (2, .int (0)), (3, .int (nI e)), (4, .int (mWOL P (nI e) (mWs P)))] [] M D) (C : Cx X g l cX2_isSame 9 RX2 (some .boolean) rmX2_isSame) (hq : RU X g rmX2_isSame R) : ∀ (n i : Nat), i ≤ mWs P → mWs P + 1 ≤ i + n → UX X g 0 0 93 [(0, .ref (ad 0)), (1, .ref (ga g 0)), (2, .int 0), (3, .int (nI e)), (4, .int (mWOL P (nI e) i)), (5, .ref (ad 2)), (6, .int (nI (mWs P))), (7, .int (nI i))] [] M D := by
  intro n
  induction n with
  | zero =>
    intro i h1 h2; omega
  | succ n ih =>
    intro i h1 h2
    have hn := h.n
    refine u_iload C dX2_isSame_93 rfl ?_
    refine u_iload C dX2_isSame_95 rfl ?_
    refine u_icmp_ge C (tgt := 131) dX2_isSame_97 (by decide) (fun c97 => ?_) (fun c97 => ?_)
    · have he : i = mWs P := Nat.le_antisymm h1 ((nI_leI (a := mWs P) (b := i) (by omega) (by omega)).mp c97)
      rw [he]
      exact u_lsub [0, 1, 2, 3, 4] rfl (hK)
    · have hlt : i < mWs P := Nat.lt_of_not_le (fun z => c97 ((nI_leI (a := mWs P) (b := i) (by omega) (by omega)).mpr z))
      refine u_aload C dX2_isSame_100 rfl ?_
      refine u_iload C dX2_isSame_102 rfl ?_
      refine u_aald C (h.walls nm0) rfl hlt (by omega) rfl dX2_isSame_104 ?_
      refine u_astore C (lo' := [(8, _), (0, _), (1, _), (2, _), (3, _), (4, _), (5, _), (6, _), (7, _)]) dX2_isSame_105 (by decide) rfl ?_
      refine u_iload C dX2_isSame_107 rfl ?_
      refine u_aload C dX2_isSame_109 rfl ?_
      refine u_iconst C (v := 1) dX2_isSame_111 (by decide) ?_
      refine u_ialv C (h.wrow hlt nm0) rfl (by decide) (by decide) (v := P 34 (7 + i)) rfl dX2_isSame_112 ?_
      refine u_iload_n C dX2_isSame_113 rfl ?_
      refine u_icmp_ne C (tgt := 121) dX2_isSame_114 (by decide) (fun c114 => ?_) (fun c114 => ?_)
      · have ee : mWOL P (nI e) i + 0 = mWOL P (nI e) (i + 1) := by conv => rhs; unfold mWOL; rw [if_neg c114]
        refine u_iconst C (v := 0) dX2_isSame_121 (by decide) ?_
        refine u_iadd C dX2_isSame_122 ?_
        rw [ee]
        refine u_istore C (lo' := [(4, _), (8, _), (0, _), (1, _), (2, _), (3, _), (5, _), (6, _), (7, _)]) dX2_isSame_123 (by decide) rfl ?_
        refine u_iinc C (v := nI (i + 1)) (lo' := [(7, _), (4, _), (8, _), (0, _), (1, _), (2, _), (3, _), (5, _), (6, _)]) dX2_isSame_125 rfl (nI_inc _) (by decide) rfl ?_
        refine u_goto C (tgt := 93) dX2_isSame_128 (by decide) ?_
        exact u_lsub [3, 4, 5, 6, 1, 7, 8, 0] rfl (ih (i + 1) hlt (by omega))
      · have ee : mWOL P (nI e) i + 1 = mWOL P (nI e) (i + 1) := by conv => rhs; unfold mWOL; rw [if_pos c114]
        refine u_iconst C (v := 1) dX2_isSame_117 (by decide) ?_
        refine u_goto C (tgt := 122) dX2_isSame_118 (by decide) ?_
        refine u_iadd C dX2_isSame_122 ?_
        rw [ee]
        refine u_istore C (lo' := [(4, _), (8, _), (0, _), (1, _), (2, _), (3, _), (5, _), (6, _), (7, _)]) dX2_isSame_123 (by decide) rfl ?_
        refine u_iinc C (v := nI (i + 1)) (lo' := [(7, _), (4, _), (8, _), (0, _), (1, _), (2, _), (3, _), (5, _), (6, _)]) dX2_isSame_125 rfl (nI_inc _) (by decide) rfl ?_
        refine u_goto C (tgt := 93) dX2_isSame_128 (by decide) ?_
        exact u_lsub [3, 4, 5, 6, 1, 7, 8, 0] rfl (ih (i + 1) hlt (by omega))
set_option maxHeartbeats 1000000 in
set_option maxRecDepth 100000 in
theorem qs_is_echoes {X : XT} {l : Launch} {g : GT} {R : Option Value → Mem → DM → Prop} {M : Mem} {D : DM} {ad : Nat → Nat} {nb : Nat} {P : Mem} (li : LI nb M P) (h : SP g D ad P) (hR : R (some (.int 1)) M D) (C : Cx X g l cX2_isSame 9 RX2 (some .boolean) rmX2_isSame) (hq : RU X g rmX2_isSame R) : ∀ (n e : Nat), e ≤ 2 → 3 ≤ e + n → UX X g 0 0 71 [(0, .ref (ad 0)), (1, .ref (ga g 0)), (2, .int (0)), (3, .int (nI e))] [] M D := by
  intro n
  induction n with
  | zero =>
    intro e h1 h2; omega
  | succ n ih =>
    intro e h1 h2
    have hp := li.pk
    have hn := h.n
    refine u_iload_n C dX2_isSame_71 rfl ?_
    refine u_iconst C (v := 2) dX2_isSame_72 (by decide) ?_
    refine u_icmp_ge C (tgt := 177) dX2_isSame_73 (by decide) (fun c73 => ?_) (fun c73 => ?_)
    · refine u_iconst C (v := 0) dX2_isSame_177 (by decide) ?_
      refine u_istore_n C (lo' := [(3, _), (0, _), (1, _), (2, _)]) dX2_isSame_178 (by decide) rfl ?_
      exact u_lsub [1, 2, 0, 3] rfl (qs_is_shouts li h hR C hq (mSh P + 1) 0 (by omega) (by omega))
    · have hlt : e < 2 := Nat.lt_of_not_le (fun z => c73 ((nI_leI (a := 2) (b := e) (by omega) (by omega)).mpr z))
      refine u_iconst C (v := 0) dX2_isSame_76 (by decide) ?_
      refine u_istore C (lo' := [(4, _), (0, _), (1, _), (2, _), (3, _)]) dX2_isSame_77 (by decide) rfl ?_
      refine u_aload_n C dX2_isSame_79 rfl ?_
      refine u_getF C fl_X2_14 (h.ob nm0) rfl dX2_isSame_80 ?_
      refine u_astore C (lo' := [(5, _), (4, _), (0, _), (1, _), (2, _), (3, _)]) dX2_isSame_83 (by decide) rfl ?_
      refine u_aload C dX2_isSame_85 rfl ?_
      refine u_ralen C (h.walls nm0) dX2_isSame_87 ?_
      refine u_istore C (lo' := [(6, _), (5, _), (4, _), (0, _), (1, _), (2, _), (3, _)]) dX2_isSame_88 (by decide) rfl ?_
      refine u_iconst C (v := 0) dX2_isSame_90 (by decide) ?_
      refine u_istore C (lo' := [(7, _), (6, _), (5, _), (4, _), (0, _), (1, _), (2, _), (3, _)]) dX2_isSame_91 (by decide) rfl ?_
      refine u_lsub [4, 5, 6, 7, 3, 2, 1, 0] rfl (qs_is_cnt li h ?_ C hq (mWs P + 1) 0 (by omega) (by omega))
      refine u_aload_n C dX2_isSame_131 rfl ?_
      refine u_iload_n C dX2_isSame_132 rfl ?_
      refine u_callC0 C (fun B => k_coinsOf li hlt B) cd_X1_coinsOf kl_X2_78 ci1 rfl (by decide) (as := [_]) rfl rfl ⟨⟨by decide, by decide⟩, by decide, by decide⟩ ⟨rfl, rfl⟩ (Nat.le_of_ble_eq_true rfl) dX2_isSame_133 ?_
      refine u_aload_n C dX2_isSame_136 rfl ?_
      refine u_getF C fl_X2_21 (h.ob nm0) rfl dX2_isSame_137 ?_
      refine u_iload_n C dX2_isSame_140 rfl ?_
      refine u_iald C (h.coins nm0) rfl hlt (by decide) dX2_isSame_141 ?_
      refine u_icmp_ne C (tgt := 169) dX2_isSame_142 (by decide) (fun c142 => absurd rfl c142) (fun c142 => ?_)
      refine u_aload_n C dX2_isSame_145 rfl ?_
      refine u_iload_n C dX2_isSame_146 rfl ?_
      refine u_callC0 C (fun B => k_wallsOf li hlt B) cd_X1_wallsOf kl_X2_81 ci1 rfl (by decide) (as := [_]) rfl rfl ⟨⟨by decide, by decide⟩, by decide, by decide⟩ ⟨rfl, rfl⟩ (Nat.le_of_ble_eq_true rfl) dX2_isSame_147 ?_
      refine u_iload C dX2_isSame_150 rfl ?_
      refine u_icmp_ne C (tgt := 169) dX2_isSame_152 (by decide) (fun c152 => absurd rfl c152) (fun c152 => ?_)
      refine u_aload_n C dX2_isSame_155 rfl ?_
      refine u_iload_n C dX2_isSame_156 rfl ?_
      refine u_callC0 C (fun B => k_silentFor li hlt B) cd_X1_silentFor kl_X2_84 ci1 rfl (by decide) (as := [_]) rfl rfl ⟨⟨by decide, by decide⟩, by decide, by decide⟩ ⟨rfl, rfl⟩ (Nat.le_of_ble_eq_true rfl) dX2_isSame_157 ?_
      refine u_aload_n C dX2_isSame_160 rfl ?_
      refine u_getF C fl_X2_24 (h.ob nm0) rfl dX2_isSame_161 ?_
      refine u_iload_n C dX2_isSame_164 rfl ?_
      refine u_iald C (h.silent nm0) rfl hlt (by decide) dX2_isSame_165 ?_
      refine u_icmp_eq C (tgt := 171) dX2_isSame_166 (by decide) (fun c166 => ?_) (fun c166 => absurd rfl c166)
      refine u_iinc C (v := nI (e + 1)) (lo' := [(3, _), (0, _), (1, _), (2, _), (4, _)]) dX2_isSame_171 rfl (nI_inc _) (by decide) rfl ?_
      refine u_goto C (tgt := 71) dX2_isSame_174 (by decide) ?_
      exact u_lsub [1, 2, 3, 0] rfl (ih (e + 1) (by omega) (by omega))
set_option maxHeartbeats 1000000 in
set_option maxRecDepth 100000 in
theorem qs_is_walls {X : XT} {l : Launch} {g : GT} {R : Option Value → Mem → DM → Prop} {M : Mem} {D : DM} {ad : Nat → Nat} {nb : Nat} {P : Mem} (li : LI nb M P) (h : SP g D ad P) (hR : R (some (.int 1)) M D) (C : Cx X g l cX2_isSame 9 RX2 (some .boolean) rmX2_isSame) (hq : RU X g rmX2_isSame R) : ∀ (n w : Nat), w ≤ mWs P → mWs P + 1 ≤ w + n → UX X g 0 0 4 [(0, .ref (ad 0)), (1, .ref (ga g 0)), (2, .int (0)), (3, .int (nI w))] [] M D := by
  intro n
  induction n with
  | zero =>
    intro w h1 h2; omega
  | succ n ih =>
    intro w h1 h2
    have hp := li.pk
    have hn := h.n
    refine u_iload_n C dX2_isSame_4 rfl ?_
    refine u_aload_n C dX2_isSame_5 rfl ?_
    refine u_getF C fl_X2_14 (h.ob nm0) rfl dX2_isSame_6 ?_
    refine u_ralen C (h.walls nm0) dX2_isSame_9 ?_
    refine u_icmp_ge C (tgt := 69) dX2_isSame_10 (by decide) (fun c10 => ?_) (fun c10 => ?_)
    · refine u_iconst C (v := 0) dX2_isSame_69 (by decide) ?_
      refine u_istore_n C (lo' := [(3, _), (0, _), (1, _), (2, _)]) dX2_isSame_70 (by decide) rfl ?_
      exact u_lsub [1, 2, 3, 0] rfl (qs_is_echoes li h hR C hq 3 0 (by omega) (by omega))
    · have hlt : w < mWs P := Nat.lt_of_not_le (fun z => c10 ((nI_leI (a := mWs P) (b := w) (by omega) (by omega)).mpr z))
      refine u_aload_n C dX2_isSame_13 rfl ?_
      refine u_iload_n C dX2_isSame_14 rfl ?_
      refine u_callC0 C (fun B => k_stoneOf li hlt B) cd_X1_stoneOf kl_X2_67 ci1 rfl (by decide) (as := [_]) rfl rfl ⟨⟨by decide, by decide⟩, by decide, by decide⟩ ⟨rfl, rfl⟩ (Nat.le_of_ble_eq_true rfl) dX2_isSame_15 ?_
      refine u_aload_n C dX2_isSame_18 rfl ?_
      refine u_getF C fl_X2_14 (h.ob nm0) rfl dX2_isSame_19 ?_
      refine u_iload_n C dX2_isSame_22 rfl ?_
      refine u_aald C (h.walls nm0) rfl hlt (by omega) rfl dX2_isSame_23 ?_
      refine u_iconst C (v := 0) dX2_isSame_24 (by decide) ?_
      refine u_ialv C (h.wrow hlt nm0) rfl (by decide) (by decide) (v := P 32 w) rfl dX2_isSame_25 ?_
      refine u_icmp_ne C (tgt := 61) dX2_isSame_26 (by decide) (fun c26 => absurd rfl c26) (fun c26 => ?_)
      refine u_aload_n C dX2_isSame_29 rfl ?_
      refine u_iload_n C dX2_isSame_30 rfl ?_
      refine u_callC0 C (fun B => k_ownerOf li hlt B) cd_X1_ownerOf kl_X2_72 ci1 rfl (by decide) (as := [_]) rfl rfl ⟨⟨by decide, by decide⟩, by decide, by decide⟩ ⟨rfl, rfl⟩ (Nat.le_of_ble_eq_true rfl) dX2_isSame_31 ?_
      refine u_aload_n C dX2_isSame_34 rfl ?_
      refine u_getF C fl_X2_14 (h.ob nm0) rfl dX2_isSame_35 ?_
      refine u_iload_n C dX2_isSame_38 rfl ?_
      refine u_aald C (h.walls nm0) rfl hlt (by omega) rfl dX2_isSame_39 ?_
      refine u_iconst C (v := 1) dX2_isSame_40 (by decide) ?_
      refine u_ialv C (h.wrow hlt nm0) rfl (by decide) (by decide) (v := P 34 (7 + w)) rfl dX2_isSame_41 ?_
      refine u_icmp_ne C (tgt := 61) dX2_isSame_42 (by decide) (fun c42 => absurd rfl c42) (fun c42 => ?_)
      refine u_aload_n C dX2_isSame_45 rfl ?_
      refine u_iload_n C dX2_isSame_46 rfl ?_
      refine u_callC0 C (fun B => k_thrownBack li hlt B) cd_X1_thrownBack kl_X2_75 ci1 rfl (by decide) (as := [_]) rfl rfl ⟨⟨by decide, by decide⟩, by decide, by decide⟩ ⟨rfl, rfl⟩ (Nat.le_of_ble_eq_true rfl) dX2_isSame_47 ?_
      refine u_aload_n C dX2_isSame_50 rfl ?_
      refine u_getF C fl_X2_14 (h.ob nm0) rfl dX2_isSame_51 ?_
      refine u_iload_n C dX2_isSame_54 rfl ?_
      refine u_aald C (h.walls nm0) rfl hlt (by omega) rfl dX2_isSame_55 ?_
      refine u_iconst C (v := 3) dX2_isSame_56 (by decide) ?_
      refine u_ialv C (h.wrow hlt nm0) rfl (by decide) (by decide) (v := P 34 (17 + w)) rfl dX2_isSame_57 ?_
      refine u_icmp_eq C (tgt := 63) dX2_isSame_58 (by decide) (fun c58 => ?_) (fun c58 => absurd rfl c58)
      refine u_iinc C (v := nI (w + 1)) (lo' := [(3, _), (0, _), (1, _), (2, _)]) dX2_isSame_63 rfl (nI_inc _) (by decide) rfl ?_
      refine u_goto C (tgt := 4) dX2_isSame_66 (by decide) ?_
      exact u_lsub [1, 2, 3, 0] rfl (ih (w + 1) hlt (by omega))
set_option maxHeartbeats 1000000 in
set_option maxRecDepth 100000 in
theorem qs_isSame (l : Launch) (g : GT) (M : Mem) (D : DM) {ad : Nat → Nat} {nb : Nat} {P : Mem} (li : LI nb M P) (h : SP g D ad P) : CU l yX2_isSame cX2_isSame 9 (some .boolean) rmX2_isSame g M D [.ref (ad 0), .ref (ga g 0)] (fun r M1 D1 => r = some (.int 1) ∧ M1 = M ∧ D1 = D) := by
  refine CU.of (by decide) (Nat.le_of_ble_eq_true rfl) (fun X C hq => ?_)
  have C : Cx X g l cX2_isSame 9 RX2 (some .boolean) rmX2_isSame := C
  show UX X g 0 0 0 [(0, .ref (ad 0)), (1, .ref (ga g 0))] [] M D
  refine u_iconst C (v := 0) dX2_isSame_0 (by decide) ?_
  refine u_istore_n C (lo' := [(2, _), (0, _), (1, _)]) dX2_isSame_1 (by decide) rfl ?_
  refine u_iconst C (v := 0) dX2_isSame_2 (by decide) ?_
  refine u_istore_n C (lo' := [(3, _), (2, _), (0, _), (1, _)]) dX2_isSame_3 (by decide) rfl ?_
  exact u_lsub [2, 3, 1, 0] rfl (qs_is_walls li h ⟨rfl, rfl, rfl⟩ C hq (mWs P + 1) 0 (by omega) (by omega))
