/-! The model's looks, walked. -/
theorem sh_in {M : Mem} (h : mOK M) {k : Nat} (hk : k < mSh M) : 0 ≤ nI k ∧ nI k ≤ M 29 2 - 1 := by
  have hs := h.sh
  have hk : k < tn (M 29 2) := hk
  have hs : tn (M 29 2) ≤ 40 := hs
  refine ⟨nI_pos' (by omega), i_le.mpr ?_⟩
  have a := i_le.mp h.2.1.1
  have e := i_tn h.2.1.1
  have z := Int32.toInt_lt (M 29 2)
  rw [i_c0] at a
  rw [Int32.toInt_sub, i_c1, Int.bmod_eq_of_le (by omega) (by omega), i_nI (by omega)]
  omega
section TOP
variable {X : XT} {g : GT} {kc ks pc : Nat} {lo : List (Nat × Value)} {st : List Value} {M : Mem}
theorem x_top {v v' : Value} (h : v = v') (k : V X g kc ks pc lo (v' :: st) M) : V X g kc ks pc lo (v :: st) M := h ▸ k
end TOP
abbrev rmX2_placeOf : Room := { frames := 2, cells := 0, slots := 0, locals := 43 }
set_option maxHeartbeats 1000000 in
set_option maxRecDepth 100000 in
theorem q2_placeOf_b (l : Launch) (g : GT) (M : Mem) (w : Int32) (hb : ¬ (0 ≤ w ∧ w ≤ M 29 2 - 1)) : CM l yX2_placeOf cX2_placeOf 2 (some .int) rmX2_placeOf g M [.ref (ga g 29), .int w] (some (.int 0)) (wr M 29 0 1) := by
  refine CM.of (by decide) (Nat.le_of_ble_eq_true rfl) (fun X C hq => ?_)
  have C : Cx X g l cX2_placeOf 2 RX2 (some .int) rmX2_placeOf := C
  show V X g 0 0 0 [(0, .ref (ga g 29)), (1, .int w)] [] M
  refine x_aload_n C dX2_placeOf_0 rfl ?_
  refine x_aload_n C dX2_placeOf_1 rfl ?_
  refine x_iload_n C dX2_placeOf_2 rfl ?_
  refine x_callV0r C (q2_isShout l g _ w) cd_X2_isShout kl_X2_121 ci2 rfl (by decide) (as := [_]) rfl rfl ⟨⟨by decide, by decide⟩, by decide, by decide⟩ ⟨rfl, rfl⟩ (Nat.le_of_ble_eq_true rfl) dX2_placeOf_3 ?_
  refine x_callV0r C (q2_isKnown_f l g _ _ hb) cd_X2_isKnown kl_X2_111 ci2 rfl (by decide) (as := [_]) rfl rfl ⟨⟨by decide, by decide⟩, by decide, by decide⟩ ⟨rfl, rfl⟩ (Nat.le_of_ble_eq_true rfl) dX2_placeOf_6 ?_
  refine x_bif_eq C (tgt := 20) dX2_placeOf_9 (by decide) (fun c9 => ?_) (fun c9 => absurd c9 hb)
  refine x_iconst C (v := 0) dX2_placeOf_20 (by decide) ?_
  exact x_iret C hq ⟨by decide, by decide⟩ dX2_placeOf_21 (rfl) (rfl)
set_option maxHeartbeats 1000000 in
set_option maxRecDepth 100000 in
theorem q2_placeOf (l : Launch) (g : GT) (M : Mem) (h : mOK M) (k : Nat) (hk : k < mSh M) : CM l yX2_placeOf cX2_placeOf 2 (some .int) rmX2_placeOf g M [.ref (ga g 29), .int (nI k)] (some (.int (mPl (wr M 29 0 0) k))) ((wr M 29 0 0)) := by
  refine CM.of (by decide) (Nat.le_of_ble_eq_true rfl) (fun X C hq => ?_)
  have C : Cx X g l cX2_placeOf 2 RX2 (some .int) rmX2_placeOf := C
  show V X g 0 0 0 [(0, .ref (ga g 29)), (1, .int (nI k))] [] M
  have hk9 : k < 40 := by have := h.sh; omega
  have hc : 0 ≤ nI k ∧ nI k ≤ M 29 2 - 1 := sh_in h hk
  refine x_aload_n C dX2_placeOf_0 rfl ?_
  refine x_aload_n C dX2_placeOf_1 rfl ?_
  refine x_iload_n C dX2_placeOf_2 rfl ?_
  refine x_callV0r C (q2_isShout l g _ (nI k)) cd_X2_isShout kl_X2_121 ci2 rfl (by decide) (as := [_]) rfl rfl ⟨⟨by decide, by decide⟩, by decide, by decide⟩ ⟨rfl, rfl⟩ (Nat.le_of_ble_eq_true rfl) dX2_placeOf_3 ?_
  refine x_callV0r C (q2_isKnown_t l g _ _ hc) cd_X2_isKnown kl_X2_111 ci2 rfl (by decide) (as := [_]) rfl rfl ⟨⟨by decide, by decide⟩, by decide, by decide⟩ ⟨rfl, rfl⟩ (Nat.le_of_ble_eq_true rfl) dX2_placeOf_6 ?_
  refine x_bif_eq C (tgt := 20) dX2_placeOf_9 (by decide) (fun c9 => absurd hc c9) (fun c9 => ?_)
  refine x_aload_n C dX2_placeOf_12 rfl ?_
  refine x_iload_n C dX2_placeOf_13 rfl ?_
  refine x_callV0r C (q2_place l g _ k hk9) cd_X2_place kl_X2_124 ci2 rfl (by decide) (as := [_]) rfl rfl ⟨⟨by decide, by decide⟩, by decide, by decide⟩ ⟨rfl, rfl⟩ (Nat.le_of_ble_eq_true rfl) dX2_placeOf_14 ?_
  refine x_goto C (tgt := 21) dX2_placeOf_17 (by decide) ?_
  exact x_iret C hq ⟨by decide, by decide⟩ dX2_placeOf_21 (rfl) (rfl)
abbrev rmX2_goesRight : Room := { frames := 2, cells := 0, slots := 0, locals := 43 }
set_option maxHeartbeats 1000000 in
set_option maxRecDepth 100000 in
theorem q2_goesRight_b (l : Launch) (g : GT) (M : Mem) (w : Int32) (hb : ¬ (0 ≤ w ∧ w ≤ M 29 2 - 1)) : CM l yX2_goesRight cX2_goesRight 2 (some .boolean) rmX2_goesRight g M [.ref (ga g 29), .int w] (some (.int 0)) (wr M 29 0 1) := by
  refine CM.of (by decide) (Nat.le_of_ble_eq_true rfl) (fun X C hq => ?_)
  have C : Cx X g l cX2_goesRight 2 RX2 (some .boolean) rmX2_goesRight := C
  show V X g 0 0 0 [(0, .ref (ga g 29)), (1, .int w)] [] M
  refine x_aload_n C dX2_goesRight_0 rfl ?_
  refine x_aload_n C dX2_goesRight_1 rfl ?_
  refine x_iload_n C dX2_goesRight_2 rfl ?_
  refine x_callV0r C (q2_isShout l g _ w) cd_X2_isShout kl_X2_121 ci2 rfl (by decide) (as := [_]) rfl rfl ⟨⟨by decide, by decide⟩, by decide, by decide⟩ ⟨rfl, rfl⟩ (Nat.le_of_ble_eq_true rfl) dX2_goesRight_3 ?_
  refine x_callV0r C (q2_isKnown_f l g _ _ hb) cd_X2_isKnown kl_X2_111 ci2 rfl (by decide) (as := [_]) rfl rfl ⟨⟨by decide, by decide⟩, by decide, by decide⟩ ⟨rfl, rfl⟩ (Nat.le_of_ble_eq_true rfl) dX2_goesRight_6 ?_
  refine x_bif_eq C (tgt := 24) dX2_goesRight_9 (by decide) (fun c9 => ?_) (fun c9 => absurd c9 hb)
  refine x_iconst C (v := 0) dX2_goesRight_24 (by decide) ?_
  exact x_zret C hq (by decide) ⟨by decide, by decide⟩ dX2_goesRight_25 (rfl) (rfl)
set_option maxHeartbeats 1000000 in
set_option maxRecDepth 100000 in
theorem q2_goesRight (l : Launch) (g : GT) (M : Mem) (h : mOK M) (k : Nat) (hk : k < mSh M) : CM l yX2_goesRight cX2_goesRight 2 (some .boolean) rmX2_goesRight g M [.ref (ga g 29), .int (nI k)] (some (.int (b2i (mRt (wr M 29 0 0) k)))) ((wr M 29 0 0)) := by
  refine CM.of (by decide) (Nat.le_of_ble_eq_true rfl) (fun X C hq => ?_)
  have C : Cx X g l cX2_goesRight 2 RX2 (some .boolean) rmX2_goesRight := C
  show V X g 0 0 0 [(0, .ref (ga g 29)), (1, .int (nI k))] [] M
  have hk9 : k < 40 := by have := h.sh; omega
  have hc : 0 ≤ nI k ∧ nI k ≤ M 29 2 - 1 := sh_in h hk
  refine x_aload_n C dX2_goesRight_0 rfl ?_
  refine x_aload_n C dX2_goesRight_1 rfl ?_
  refine x_iload_n C dX2_goesRight_2 rfl ?_
  refine x_callV0r C (q2_isShout l g _ (nI k)) cd_X2_isShout kl_X2_121 ci2 rfl (by decide) (as := [_]) rfl rfl ⟨⟨by decide, by decide⟩, by decide, by decide⟩ ⟨rfl, rfl⟩ (Nat.le_of_ble_eq_true rfl) dX2_goesRight_3 ?_
  refine x_callV0r C (q2_isKnown_t l g _ _ hc) cd_X2_isKnown kl_X2_111 ci2 rfl (by decide) (as := [_]) rfl rfl ⟨⟨by decide, by decide⟩, by decide, by decide⟩ ⟨rfl, rfl⟩ (Nat.le_of_ble_eq_true rfl) dX2_goesRight_6 ?_
  refine x_bif_eq C (tgt := 24) dX2_goesRight_9 (by decide) (fun c9 => absurd hc c9) (fun c9 => ?_)
  refine x_aload_n C dX2_goesRight_12 rfl ?_
  refine x_iload_n C dX2_goesRight_13 rfl ?_
  refine x_callV0r C (q2_isRight l g _ k hk9) cd_X2_isRight kl_X2_127 ci2 rfl (by decide) (as := [_]) rfl rfl ⟨⟨by decide, by decide⟩, by decide, by decide⟩ ⟨rfl, rfl⟩ (Nat.le_of_ble_eq_true rfl) dX2_goesRight_14 ?_
  refine x_bif_eq C (tgt := 24) dX2_goesRight_17 (by decide) (fun c17 => ?_) (fun c17 => ?_)
  · refine x_iconst C (v := 0) dX2_goesRight_24 (by decide) ?_
    exact x_zret C hq (by decide) ⟨by decide, by decide⟩ dX2_goesRight_25 (by first | exact rb_t c17 | exact rb_f c17) (rfl)
  · refine x_iconst C (v := 1) dX2_goesRight_20 (by decide) ?_
    refine x_goto C (tgt := 25) dX2_goesRight_21 (by decide) ?_
    exact x_zret C hq (by decide) ⟨by decide, by decide⟩ dX2_goesRight_25 (by first | exact rb_t c17 | exact rb_f c17) (rfl)
abbrev rmX2_nextWall : Room := { frames := 3, cells := 0, slots := 0, locals := 65 }
set_option maxHeartbeats 1000000 in
set_option maxRecDepth 100000 in
theorem q2_nextWall_b (l : Launch) (g : GT) (M : Mem) (a r : Int32) (hb : ¬ (0 ≤ a ∧ a ≤ 31)) : CM l yX2_nextWall cX2_nextWall 3 (some .int) rmX2_nextWall g M [.ref (ga g 29), .int a, .int r] (some (.int 0)) (wr M 29 0 1) := by
  refine CM.of (by decide) (Nat.le_of_ble_eq_true rfl) (fun X C hq => ?_)
  have C : Cx X g l cX2_nextWall 3 RX2 (some .int) rmX2_nextWall := C
  show V X g 0 0 0 [(0, .ref (ga g 29)), (1, .int a), (2, .int r)] [] M
  refine x_aload_n C dX2_nextWall_0 rfl ?_
  refine x_iload_n C dX2_nextWall_1 rfl ?_
  refine x_callS0r C (q2_isStone l g _ a) cd_X2_isStone kl_X2_58 (as := [_]) rfl rfl ⟨⟨by decide, by decide⟩, by decide, by decide⟩ ⟨rfl, rfl⟩ (Nat.le_of_ble_eq_true rfl) dX2_nextWall_2 ?_
  refine x_callV0r C (q2_isKnown_f l g _ _ hb) cd_X2_isKnown kl_X2_111 ci2 rfl (by decide) (as := [_]) rfl rfl ⟨⟨by decide, by decide⟩, by decide, by decide⟩ ⟨rfl, rfl⟩ (Nat.le_of_ble_eq_true rfl) dX2_nextWall_5 ?_
  refine x_bif_eq C (tgt := 28) dX2_nextWall_8 (by decide) (fun c8 => ?_) (fun c8 => absurd c8 hb)
  refine x_iconst C (v := 0) dX2_nextWall_28 (by decide) ?_
  exact x_iret C hq ⟨by decide, by decide⟩ dX2_nextWall_29 (rfl) (rfl)
set_option maxHeartbeats 1000000 in
set_option maxRecDepth 100000 in
theorem q2_nextWall (l : Launch) (g : GT) (M : Mem) (h : mOK M) (a r : Int32) (hc : (0 ≤ a ∧ a ≤ 31)) : CM l yX2_nextWall cX2_nextWall 3 (some .int) rmX2_nextWall g M [.ref (ga g 29), .int a, .int r] (some (.int (mNx M (if r = 0 then -1 else 1) 34 (a + (if r = 0 then -1 else 1))))) ((wr M 29 0 0)) := by
  refine CM.of (by decide) (Nat.le_of_ble_eq_true rfl) (fun X C hq => ?_)
  have C : Cx X g l cX2_nextWall 3 RX2 (some .int) rmX2_nextWall := C
  show V X g 0 0 0 [(0, .ref (ga g 29)), (1, .int a), (2, .int r)] [] M
  refine x_aload_n C dX2_nextWall_0 rfl ?_
  refine x_iload_n C dX2_nextWall_1 rfl ?_
  refine x_callS0r C (q2_isStone l g _ a) cd_X2_isStone kl_X2_58 (as := [_]) rfl rfl ⟨⟨by decide, by decide⟩, by decide, by decide⟩ ⟨rfl, rfl⟩ (Nat.le_of_ble_eq_true rfl) dX2_nextWall_2 ?_
  refine x_callV0r C (q2_isKnown_t l g _ _ hc) cd_X2_isKnown kl_X2_111 ci2 rfl (by decide) (as := [_]) rfl rfl ⟨⟨by decide, by decide⟩, by decide, by decide⟩ ⟨rfl, rfl⟩ (Nat.le_of_ble_eq_true rfl) dX2_nextWall_5 ?_
  refine x_bif_eq C (tgt := 28) dX2_nextWall_8 (by decide) (fun c8 => absurd hc c8) (fun c8 => ?_)
  refine x_aload_n C dX2_nextWall_11 rfl ?_
  refine x_iload_n C dX2_nextWall_12 rfl ?_
  refine x_iload_n C dX2_nextWall_13 rfl ?_
  refine x_if_eq C (tgt := 21) dX2_nextWall_14 (by decide) (fun c14 => ?_) (fun c14 => ?_)
  · refine x_iconst C (v := (-1)) dX2_nextWall_21 (by decide) ?_
    refine x_callV0r C (q2_next l g _ h.thr a _ hc (by first | exact Or.inl rfl | exact Or.inr rfl)) cd_X2_next kl_X2_130 ci2 rfl (by decide) (as := [_, _]) rfl rfl ⟨⟨by decide, by decide⟩, by decide, by decide⟩ ⟨rfl, rfl⟩ (Nat.le_of_ble_eq_true rfl) dX2_nextWall_22 ?_
    refine x_goto C (tgt := 29) dX2_nextWall_25 (by decide) ?_
    exact x_iret C hq ⟨by decide, by decide⟩ dX2_nextWall_29 (by first | (rw [if_pos c14]; rfl) | (rw [if_neg c14]; rfl)) (rfl)
  · refine x_iconst C (v := 1) dX2_nextWall_17 (by decide) ?_
    refine x_goto C (tgt := 22) dX2_nextWall_18 (by decide) ?_
    refine x_callV0r C (q2_next l g _ h.thr a _ hc (by first | exact Or.inl rfl | exact Or.inr rfl)) cd_X2_next kl_X2_130 ci2 rfl (by decide) (as := [_, _]) rfl rfl ⟨⟨by decide, by decide⟩, by decide, by decide⟩ ⟨rfl, rfl⟩ (Nat.le_of_ble_eq_true rfl) dX2_nextWall_22 ?_
    refine x_goto C (tgt := 29) dX2_nextWall_25 (by decide) ?_
    exact x_iret C hq ⟨by decide, by decide⟩ dX2_nextWall_29 (by first | (rw [if_pos c14]; rfl) | (rw [if_neg c14]; rfl)) (rfl)
abbrev rmX2_beatsUntilGone : Room := { frames := 5, cells := 0, slots := 0, locals := 119 }
set_option maxHeartbeats 1000000 in
set_option maxRecDepth 100000 in
theorem q2_beatsUntilGone_b (l : Launch) (g : GT) (M : Mem) (w : Int32) (hb : ¬ (0 ≤ w ∧ w ≤ M 29 2 - 1)) : CM l yX2_beatsUntilGone cX2_beatsUntilGone 2 (some .int) rmX2_beatsUntilGone g M [.ref (ga g 29), .int w] (some (.int 0)) (wr M 29 0 1) := by
  refine CM.of (by decide) (Nat.le_of_ble_eq_true rfl) (fun X C hq => ?_)
  have C : Cx X g l cX2_beatsUntilGone 2 RX2 (some .int) rmX2_beatsUntilGone := C
  show V X g 0 0 0 [(0, .ref (ga g 29)), (1, .int w)] [] M
  refine x_aload_n C dX2_beatsUntilGone_0 rfl ?_
  refine x_aload_n C dX2_beatsUntilGone_1 rfl ?_
  refine x_iload_n C dX2_beatsUntilGone_2 rfl ?_
  refine x_callV0r C (q2_isShout l g _ w) cd_X2_isShout kl_X2_121 ci2 rfl (by decide) (as := [_]) rfl rfl ⟨⟨by decide, by decide⟩, by decide, by decide⟩ ⟨rfl, rfl⟩ (Nat.le_of_ble_eq_true rfl) dX2_beatsUntilGone_3 ?_
  refine x_callV0r C (q2_isKnown_f l g _ _ hb) cd_X2_isKnown kl_X2_111 ci2 rfl (by decide) (as := [_]) rfl rfl ⟨⟨by decide, by decide⟩, by decide, by decide⟩ ⟨rfl, rfl⟩ (Nat.le_of_ble_eq_true rfl) dX2_beatsUntilGone_6 ?_
  refine x_bif_eq C (tgt := 20) dX2_beatsUntilGone_9 (by decide) (fun c9 => ?_) (fun c9 => absurd c9 hb)
  refine x_iconst C (v := 0) dX2_beatsUntilGone_20 (by decide) ?_
  exact x_iret C hq ⟨by decide, by decide⟩ dX2_beatsUntilGone_21 (rfl) (rfl)
set_option maxHeartbeats 1000000 in
set_option maxRecDepth 100000 in
theorem q2_beatsUntilGone (l : Launch) (g : GT) (M : Mem) (h : mOK M) (k t : Nat) (hk : k < mSh M) (ht : ∀ j, j < t → 0 < mBeats (mKeep (wr M 29 0 0)) j 34 (27 + k)) (ht2 : ¬ 0 < mBeats (mKeep (wr M 29 0 0)) t 34 (27 + k)) : CM l yX2_beatsUntilGone cX2_beatsUntilGone 2 (some .int) rmX2_beatsUntilGone g M [.ref (ga g 29), .int (nI k)] (some (.int (nI t))) (mBack (mBeats (mKeep (wr M 29 0 0)) t)) := by
  refine CM.of (by decide) (Nat.le_of_ble_eq_true rfl) (fun X C hq => ?_)
  have C : Cx X g l cX2_beatsUntilGone 2 RX2 (some .int) rmX2_beatsUntilGone := C
  show V X g 0 0 0 [(0, .ref (ga g 29)), (1, .int (nI k))] [] M
  have hk9 : k < 40 := by have := h.sh; omega
  have hc : 0 ≤ nI k ∧ nI k ≤ M 29 2 - 1 := sh_in h hk
  refine x_aload_n C dX2_beatsUntilGone_0 rfl ?_
  refine x_aload_n C dX2_beatsUntilGone_1 rfl ?_
  refine x_iload_n C dX2_beatsUntilGone_2 rfl ?_
  refine x_callV0r C (q2_isShout l g _ (nI k)) cd_X2_isShout kl_X2_121 ci2 rfl (by decide) (as := [_]) rfl rfl ⟨⟨by decide, by decide⟩, by decide, by decide⟩ ⟨rfl, rfl⟩ (Nat.le_of_ble_eq_true rfl) dX2_beatsUntilGone_3 ?_
  refine x_callV0r C (q2_isKnown_t l g _ _ hc) cd_X2_isKnown kl_X2_111 ci2 rfl (by decide) (as := [_]) rfl rfl ⟨⟨by decide, by decide⟩, by decide, by decide⟩ ⟨rfl, rfl⟩ (Nat.le_of_ble_eq_true rfl) dX2_beatsUntilGone_6 ?_
  refine x_bif_eq C (tgt := 20) dX2_beatsUntilGone_9 (by decide) (fun c9 => absurd hc c9) (fun c9 => ?_)
  refine x_aload_n C dX2_beatsUntilGone_12 rfl ?_
  refine x_iload_n C dX2_beatsUntilGone_13 rfl ?_
  refine x_callV0r C (q2_untilGone l g _ h.thr k t hk9 ht ht2) cd_X2_untilGone kl_X2_139 ci2 rfl (by decide) (as := [_]) rfl rfl ⟨⟨by decide, by decide⟩, by decide, by decide⟩ ⟨rfl, rfl⟩ (Nat.le_of_ble_eq_true rfl) dX2_beatsUntilGone_14 ?_
  refine x_goto C (tgt := 21) dX2_beatsUntilGone_17 (by decide) ?_
  exact x_iret C hq ⟨by decide, by decide⟩ dX2_beatsUntilGone_21 (rfl) (rfl)
abbrev rmX2_beatsUntilQuiet : Room := { frames := 5, cells := 0, slots := 0, locals := 118 }
set_option maxHeartbeats 1000000 in
set_option maxRecDepth 100000 in
theorem q2_beatsUntilQuiet (l : Launch) (g : GT) (M : Mem) (h : mOK M) (t : Nat) (ht : ∀ j, j < t → 0 < mMany (mBeats (mKeep M) j)) (ht2 : ¬ 0 < mMany (mBeats (mKeep M) t)) : CM l yX2_beatsUntilQuiet cX2_beatsUntilQuiet 1 (some .int) rmX2_beatsUntilQuiet g M [.ref (ga g 29)] (some (.int (nI t))) (wr (mBack (mBeats (mKeep M) t)) 29 0 0) := by
  refine CM.of (by decide) (Nat.le_of_ble_eq_true rfl) (fun X C hq => ?_)
  have C : Cx X g l cX2_beatsUntilQuiet 1 RX2 (some .int) rmX2_beatsUntilQuiet := C
  show V X g 0 0 0 [(0, .ref (ga g 29))] [] M
  refine x_aload_n C dX2_beatsUntilQuiet_0 rfl ?_
  refine x_aload_n C dX2_beatsUntilQuiet_1 rfl ?_
  refine x_callV0r C (q2_untilQuiet l g _ h t ht ht2) cd_X2_untilQuiet kl_X2_142 ci2 rfl (by decide) (as := []) rfl rfl ⟨⟨by decide, by decide⟩, by decide, by decide⟩ ⟨rfl, rfl⟩ (Nat.le_of_ble_eq_true rfl) dX2_beatsUntilQuiet_2 ?_
  refine x_callV0r C (q2_ok l g _ _) cd_X2_ok kl_X2_108 ci2 rfl (by decide) (as := [_]) rfl rfl ⟨⟨by decide, by decide⟩, by decide, by decide⟩ ⟨rfl, rfl⟩ (Nat.le_of_ble_eq_true rfl) dX2_beatsUntilQuiet_5 ?_
  exact x_iret C hq ⟨by decide, by decide⟩ dX2_beatsUntilQuiet_8 (rfl) (rfl)
abbrev rmX2_coinsIn : Room := { frames := 6, cells := 0, slots := 0, locals := 142 }
set_option maxHeartbeats 1000000 in
set_option maxRecDepth 100000 in
theorem q2_coinsIn_b (l : Launch) (g : GT) (M : Mem) (e b : Int32) (hb : ¬ (0 ≤ e ∧ e ≤ 1)) : CM l yX2_coinsIn cX2_coinsIn 3 (some .int) rmX2_coinsIn g M [.ref (ga g 29), .int e, .int b] (some (.int 0)) (wr M 29 0 1) := by
  refine CM.of (by decide) (Nat.le_of_ble_eq_true rfl) (fun X C hq => ?_)
  have C : Cx X g l cX2_coinsIn 3 RX2 (some .int) rmX2_coinsIn := C
  show V X g 0 0 0 [(0, .ref (ga g 29)), (1, .int e), (2, .int b)] [] M
  refine x_aload_n C dX2_coinsIn_0 rfl ?_
  refine x_iload_n C dX2_coinsIn_1 rfl ?_
  refine x_callS0r C (q2_isEcho l g _ e) cd_X2_isEcho kl_X2_89 (as := [_]) rfl rfl ⟨⟨by decide, by decide⟩, by decide, by decide⟩ ⟨rfl, rfl⟩ (Nat.le_of_ble_eq_true rfl) dX2_coinsIn_2 ?_
  refine x_callV0r C (q2_isKnown_f l g _ _ hb) cd_X2_isKnown kl_X2_111 ci2 rfl (by decide) (as := [_]) rfl rfl ⟨⟨by decide, by decide⟩, by decide, by decide⟩ ⟨rfl, rfl⟩ (Nat.le_of_ble_eq_true rfl) dX2_coinsIn_5 ?_
  refine x_bif_ne C (tgt := 13) dX2_coinsIn_8 (by decide) (fun c8 => absurd c8 hb) (fun c8 => ?_)
  refine x_iconst C (v := 0) dX2_coinsIn_11 (by decide) ?_
  exact x_iret C hq ⟨by decide, by decide⟩ dX2_coinsIn_12 (rfl) (rfl)
set_option maxHeartbeats 1000000 in
set_option maxRecDepth 100000 in
theorem q2_coinsIn_b2 (l : Launch) (g : GT) (M : Mem) (e b : Int32) (hc : (0 ≤ e ∧ e ≤ 1)) (hb : ¬ (1 ≤ b ∧ b ≤ 100)) : CM l yX2_coinsIn cX2_coinsIn 3 (some .int) rmX2_coinsIn g M [.ref (ga g 29), .int e, .int b] (some (.int 0)) (wr (wr M 29 0 0) 29 0 2) := by
  refine CM.of (by decide) (Nat.le_of_ble_eq_true rfl) (fun X C hq => ?_)
  have C : Cx X g l cX2_coinsIn 3 RX2 (some .int) rmX2_coinsIn := C
  show V X g 0 0 0 [(0, .ref (ga g 29)), (1, .int e), (2, .int b)] [] M
  refine x_aload_n C dX2_coinsIn_0 rfl ?_
  refine x_iload_n C dX2_coinsIn_1 rfl ?_
  refine x_callS0r C (q2_isEcho l g _ e) cd_X2_isEcho kl_X2_89 (as := [_]) rfl rfl ⟨⟨by decide, by decide⟩, by decide, by decide⟩ ⟨rfl, rfl⟩ (Nat.le_of_ble_eq_true rfl) dX2_coinsIn_2 ?_
  refine x_callV0r C (q2_isKnown_t l g _ _ hc) cd_X2_isKnown kl_X2_111 ci2 rfl (by decide) (as := [_]) rfl rfl ⟨⟨by decide, by decide⟩, by decide, by decide⟩ ⟨rfl, rfl⟩ (Nat.le_of_ble_eq_true rfl) dX2_coinsIn_5 ?_
  refine x_bif_ne C (tgt := 13) dX2_coinsIn_8 (by decide) (fun c8 => ?_) (fun c8 => absurd hc c8)
  refine x_iload_n C dX2_coinsIn_13 rfl ?_
  refine x_iconst C (v := 1) dX2_coinsIn_14 (by decide) ?_
  refine x_bipush C (v := 100) dX2_coinsIn_15 (by decide) ?_
  refine x_callS0r C (q2_isIn l g _ b 1 100) cd_X2_isIn kl_X2_36 (as := [_, _, _]) rfl rfl ⟨⟨by decide, by decide⟩, by decide, by decide⟩ ⟨rfl, rfl⟩ (Nat.le_of_ble_eq_true rfl) dX2_coinsIn_17 ?_
  refine x_bif_eq C (tgt := 32) dX2_coinsIn_20 (by decide) (fun c20 => ?_) (fun c20 => absurd c20 hb)
  refine x_aload_n C dX2_coinsIn_32 rfl ?_
  refine x_iconst C (v := 2) dX2_coinsIn_33 (by decide) ?_
  refine x_callV0r C (q2_no l g _ 2) cd_X2_no kl_X2_92 ci2 rfl (by decide) (as := [_]) rfl rfl ⟨⟨by decide, by decide⟩, by decide, by decide⟩ ⟨rfl, rfl⟩ (Nat.le_of_ble_eq_true rfl) dX2_coinsIn_34 ?_
  exact x_iret C hq ⟨by decide, by decide⟩ dX2_coinsIn_37 (rfl) (rfl)
set_option maxHeartbeats 1000000 in
set_option maxRecDepth 100000 in
theorem q2_coinsIn (l : Launch) (g : GT) (M : Mem) (h : mOK M) (e : Nat) (he : e < 2) (b : Int32) (hb : (1 ≤ b ∧ b ≤ 100)) : CM l yX2_coinsIn cX2_coinsIn 3 (some .int) rmX2_coinsIn g M [.ref (ga g 29), .int (nI e), .int b] (some (.int (mBeats (mKeep (wr M 29 0 0)) (tn b) 34 (3 + e) - mBack (mBeats (mKeep (wr M 29 0 0)) (tn b)) 34 (3 + e)))) (mBack (mBeats (mKeep (wr M 29 0 0)) (tn b))) := by
  refine CM.of (by decide) (Nat.le_of_ble_eq_true rfl) (fun X C hq => ?_)
  have C : Cx X g l cX2_coinsIn 3 RX2 (some .int) rmX2_coinsIn := C
  show V X g 0 0 0 [(0, .ref (ga g 29)), (1, .int (nI e)), (2, .int b)] [] M
  have hc : (0 ≤ nI e ∧ nI e ≤ 1) := by rcases (show e = 0 ∨ e = 1 by omega) with rfl | rfl <;> decide
  refine x_aload_n C dX2_coinsIn_0 rfl ?_
  refine x_iload_n C dX2_coinsIn_1 rfl ?_
  refine x_callS0r C (q2_isEcho l g _ (nI e)) cd_X2_isEcho kl_X2_89 (as := [_]) rfl rfl ⟨⟨by decide, by decide⟩, by decide, by decide⟩ ⟨rfl, rfl⟩ (Nat.le_of_ble_eq_true rfl) dX2_coinsIn_2 ?_
  refine x_callV0r C (q2_isKnown_t l g _ _ hc) cd_X2_isKnown kl_X2_111 ci2 rfl (by decide) (as := [_]) rfl rfl ⟨⟨by decide, by decide⟩, by decide, by decide⟩ ⟨rfl, rfl⟩ (Nat.le_of_ble_eq_true rfl) dX2_coinsIn_5 ?_
  refine x_bif_ne C (tgt := 13) dX2_coinsIn_8 (by decide) (fun c8 => ?_) (fun c8 => absurd hc c8)
  refine x_iload_n C dX2_coinsIn_13 rfl ?_
  refine x_iconst C (v := 1) dX2_coinsIn_14 (by decide) ?_
  refine x_bipush C (v := 100) dX2_coinsIn_15 (by decide) ?_
  refine x_callS0r C (q2_isIn l g _ b 1 100) cd_X2_isIn kl_X2_36 (as := [_, _, _]) rfl rfl ⟨⟨by decide, by decide⟩, by decide, by decide⟩ ⟨rfl, rfl⟩ (Nat.le_of_ble_eq_true rfl) dX2_coinsIn_17 ?_
  refine x_bif_eq C (tgt := 32) dX2_coinsIn_20 (by decide) (fun c20 => absurd hb c20) (fun c20 => ?_)
  refine x_aload_n C dX2_coinsIn_23 rfl ?_
  refine x_iload_n C dX2_coinsIn_24 rfl ?_
  refine x_iload_n C dX2_coinsIn_25 rfl ?_
  refine x_callV0r C (q2_earns l g _ h.thr e he b (Int32.le_trans (by decide) hb.1)) cd_X2_earns kl_X2_145 ci2 rfl (by decide) (as := [_, _]) rfl rfl ⟨⟨by decide, by decide⟩, by decide, by decide⟩ ⟨rfl, rfl⟩ (Nat.le_of_ble_eq_true rfl) dX2_coinsIn_26 ?_
  refine x_goto C (tgt := 37) dX2_coinsIn_29 (by decide) ?_
  exact x_iret C hq ⟨by decide, by decide⟩ dX2_coinsIn_37 (rfl) (rfl)
abbrev rmX2_loudestOn : Room := { frames := 4, cells := 0, slots := 0, locals := 97 }
set_option maxHeartbeats 1000000 in
set_option maxRecDepth 100000 in
theorem q2_loudestOn_b (l : Launch) (g : GT) (M : Mem) (a b : Int32) (hb : ¬ (0 ≤ a ∧ a ≤ 31)) : CM l yX2_loudestOn cX2_loudestOn 5 (some .int) rmX2_loudestOn g M [.ref (ga g 29), .int a, .int b] (some (.int 0)) (wr M 29 0 1) := by
  refine CM.of (by decide) (Nat.le_of_ble_eq_true rfl) (fun X C hq => ?_)
  have C : Cx X g l cX2_loudestOn 5 RX2 (some .int) rmX2_loudestOn := C
  show V X g 0 0 0 [(0, .ref (ga g 29)), (1, .int a), (2, .int b)] [] M
  refine x_aload_n C dX2_loudestOn_0 rfl ?_
  refine x_iload_n C dX2_loudestOn_1 rfl ?_
  refine x_callS0r C (q2_isStone l g _ a) cd_X2_isStone kl_X2_58 (as := [_]) rfl rfl ⟨⟨by decide, by decide⟩, by decide, by decide⟩ ⟨rfl, rfl⟩ (Nat.le_of_ble_eq_true rfl) dX2_loudestOn_2 ?_
  refine x_callV0r C (q2_isKnown_f l g _ _ hb) cd_X2_isKnown kl_X2_111 ci2 rfl (by decide) (as := [_]) rfl rfl ⟨⟨by decide, by decide⟩, by decide, by decide⟩ ⟨rfl, rfl⟩ (Nat.le_of_ble_eq_true rfl) dX2_loudestOn_5 ?_
  refine x_bif_ne C (tgt := 13) dX2_loudestOn_8 (by decide) (fun c8 => absurd c8 hb) (fun c8 => ?_)
  refine x_iconst C (v := 0) dX2_loudestOn_11 (by decide) ?_
  exact x_iret C hq ⟨by decide, by decide⟩ dX2_loudestOn_12 (rfl) (rfl)
set_option maxHeartbeats 1000000 in
set_option maxRecDepth 100000 in
theorem q2_loudestOn_b2 (l : Launch) (g : GT) (M : Mem) (a b : Int32) (hc : (0 ≤ a ∧ a ≤ 31)) (hb : ¬ (1 ≤ b ∧ b ≤ 100)) : CM l yX2_loudestOn cX2_loudestOn 5 (some .int) rmX2_loudestOn g M [.ref (ga g 29), .int a, .int b] (some (.int 0)) (wr (wr M 29 0 0) 29 0 2) := by
  refine CM.of (by decide) (Nat.le_of_ble_eq_true rfl) (fun X C hq => ?_)
  have C : Cx X g l cX2_loudestOn 5 RX2 (some .int) rmX2_loudestOn := C
  show V X g 0 0 0 [(0, .ref (ga g 29)), (1, .int a), (2, .int b)] [] M
  refine x_aload_n C dX2_loudestOn_0 rfl ?_
  refine x_iload_n C dX2_loudestOn_1 rfl ?_
  refine x_callS0r C (q2_isStone l g _ a) cd_X2_isStone kl_X2_58 (as := [_]) rfl rfl ⟨⟨by decide, by decide⟩, by decide, by decide⟩ ⟨rfl, rfl⟩ (Nat.le_of_ble_eq_true rfl) dX2_loudestOn_2 ?_
  refine x_callV0r C (q2_isKnown_t l g _ _ hc) cd_X2_isKnown kl_X2_111 ci2 rfl (by decide) (as := [_]) rfl rfl ⟨⟨by decide, by decide⟩, by decide, by decide⟩ ⟨rfl, rfl⟩ (Nat.le_of_ble_eq_true rfl) dX2_loudestOn_5 ?_
  refine x_bif_ne C (tgt := 13) dX2_loudestOn_8 (by decide) (fun c8 => ?_) (fun c8 => absurd hc c8)
  refine x_iload_n C dX2_loudestOn_13 rfl ?_
  refine x_iconst C (v := 1) dX2_loudestOn_14 (by decide) ?_
  refine x_bipush C (v := 100) dX2_loudestOn_15 (by decide) ?_
  refine x_callS0r C (q2_isIn l g _ b 1 100) cd_X2_isIn kl_X2_36 (as := [_, _, _]) rfl rfl ⟨⟨by decide, by decide⟩, by decide, by decide⟩ ⟨rfl, rfl⟩ (Nat.le_of_ble_eq_true rfl) dX2_loudestOn_17 ?_
  refine x_bif_ne C (tgt := 29) dX2_loudestOn_20 (by decide) (fun c20 => absurd c20 hb) (fun c20 => ?_)
  refine x_aload_n C dX2_loudestOn_23 rfl ?_
  refine x_iconst C (v := 2) dX2_loudestOn_24 (by decide) ?_
  refine x_callV0r C (q2_no l g _ 2) cd_X2_no kl_X2_92 ci2 rfl (by decide) (as := [_]) rfl rfl ⟨⟨by decide, by decide⟩, by decide, by decide⟩ ⟨rfl, rfl⟩ (Nat.le_of_ble_eq_true rfl) dX2_loudestOn_25 ?_
  exact x_iret C hq ⟨by decide, by decide⟩ dX2_loudestOn_28 (rfl) (rfl)
def mLOL (M : Mem) (a : Int32) : Nat → Int32
  | 0 => 0
  | i + 1 => if mLOL M a i < mLA (mBeats M (i + 1)) a then mLA (mBeats M (i + 1)) a else mLOL M a i
set_option maxHeartbeats 1000000 in
set_option maxRecDepth 100000 in
theorem q2_loudestOn_lp {X : XT} {l : Launch} {g : GT} {M : Mem} {a b : Int32} (h : mOK M) (hb : 0 ≤ b) (C : Cx X g l cX2_loudestOn 5 RX2 (some .int) rmX2_loudestOn) (hq : Rt X g rmX2_loudestOn (some (.int (mLOL (mKeep M) a (tn b)))) (mBack (mBeats (mKeep M) (tn b)))) : ∀ (n i : Nat), i ≤ tn b → tn b + 1 ≤ i + n → V X g 0 0 38 [(4, .int (nI i)), (3, .int (mLOL (mKeep M) a i)), (0, .ref (ga g 29)), (1, .int a), (2, .int b)] [] (mBeats (mKeep M) i) := by
  intro n
  induction n with
  | zero =>
    intro i h1 h2; omega
  | succ n ih =>
    intro i h1 h2
    have hsm : tn b < 2 ^ 31 := tn_sm b
    refine x_iload C dX2_loudestOn_38 rfl ?_
    refine x_iload_n C dX2_loudestOn_40 rfl ?_
    refine x_icmp_ge C (tgt := 64) dX2_loudestOn_41 (by decide) (fun c41 => ?_) (fun c41 => ?_)
    · have he : i = tn b := Nat.le_antisymm h1 ((ge_tn hb (by omega)).mp c41)
      subst he
      refine x_aload_n C dX2_loudestOn_64 rfl ?_
      refine x_callV0v C (q2_bringBack l g _) cd_X2_bringBack kl_X2_136 ci2 rfl (by decide) (as := []) rfl rfl ⟨⟨by decide, by decide⟩, by decide, by decide⟩ ⟨rfl, rfl⟩ (Nat.le_of_ble_eq_true rfl) dX2_loudestOn_65 ?_
      refine x_iload_n C dX2_loudestOn_68 rfl ?_
      exact x_iret C hq ⟨by decide, by decide⟩ dX2_loudestOn_69 (rfl) (rfl)
    · have hlt : i < tn b := lt_of_nge hb (by omega) c41
      refine x_aload_n C dX2_loudestOn_44 rfl ?_
      refine x_callV0v C (q2_beatOn l g _ (mBeats_ok (mKeep_ok h) i).1) cd_X2_beatOn kl_X2_86 ci2 rfl (by decide) (as := []) rfl rfl ⟨⟨by decide, by decide⟩, by decide, by decide⟩ ⟨rfl, rfl⟩ (Nat.le_of_ble_eq_true rfl) dX2_loudestOn_45 ?_
      refine x_iload_n C dX2_loudestOn_48 rfl ?_
      refine x_aload_n C dX2_loudestOn_49 rfl ?_
      refine x_iload_n C dX2_loudestOn_50 rfl ?_
      refine x_callV0r C (q2_loudAt l g _ (mBeats_ok (mKeep_ok h) (i + 1)).1 a) cd_X2_loudAt kl_X2_115 ci2 rfl (by decide) (as := [_]) rfl rfl ⟨⟨by decide, by decide⟩, by decide, by decide⟩ ⟨rfl, rfl⟩ (Nat.le_of_ble_eq_true rfl) dX2_loudestOn_51 ?_
      refine x_max C (i := 730) (by decide +kernel) ⟨by decide, Nat.le_of_ble_eq_true rfl, Nat.le_of_ble_eq_true rfl, Nat.le_of_ble_eq_true rfl⟩ dX2_loudestOn_54 ?_
      refine x_istore_n C (lo' := [(3, _), (4, _), (0, _), (1, _), (2, _)]) dX2_loudestOn_57 (by decide) rfl ?_
      refine x_iinc C (v := nI (i + 1)) (lo' := [(4, _), (3, _), (0, _), (1, _), (2, _)]) dX2_loudestOn_58 rfl (nI_inc _) (by decide) rfl ?_
      refine x_goto C (tgt := 38) dX2_loudestOn_61 (by decide) ?_
      exact ih (i + 1) hlt (by omega)
set_option maxHeartbeats 1000000 in
set_option maxRecDepth 100000 in
theorem q2_loudestOn (l : Launch) (g : GT) (M : Mem) (h : mOK M) (a b : Int32) (hc : (0 ≤ a ∧ a ≤ 31)) (hb : (1 ≤ b ∧ b ≤ 100)) : CM l yX2_loudestOn cX2_loudestOn 5 (some .int) rmX2_loudestOn g M [.ref (ga g 29), .int a, .int b] (some (.int (mLOL (mKeep (wr M 29 0 0)) a (tn b)))) (mBack (mBeats (mKeep (wr M 29 0 0)) (tn b))) := by
  refine CM.of (by decide) (Nat.le_of_ble_eq_true rfl) (fun X C hq => ?_)
  have C : Cx X g l cX2_loudestOn 5 RX2 (some .int) rmX2_loudestOn := C
  show V X g 0 0 0 [(0, .ref (ga g 29)), (1, .int a), (2, .int b)] [] M
  refine x_aload_n C dX2_loudestOn_0 rfl ?_
  refine x_iload_n C dX2_loudestOn_1 rfl ?_
  refine x_callS0r C (q2_isStone l g _ a) cd_X2_isStone kl_X2_58 (as := [_]) rfl rfl ⟨⟨by decide, by decide⟩, by decide, by decide⟩ ⟨rfl, rfl⟩ (Nat.le_of_ble_eq_true rfl) dX2_loudestOn_2 ?_
  refine x_callV0r C (q2_isKnown_t l g _ _ hc) cd_X2_isKnown kl_X2_111 ci2 rfl (by decide) (as := [_]) rfl rfl ⟨⟨by decide, by decide⟩, by decide, by decide⟩ ⟨rfl, rfl⟩ (Nat.le_of_ble_eq_true rfl) dX2_loudestOn_5 ?_
  refine x_bif_ne C (tgt := 13) dX2_loudestOn_8 (by decide) (fun c8 => ?_) (fun c8 => absurd hc c8)
  refine x_iload_n C dX2_loudestOn_13 rfl ?_
  refine x_iconst C (v := 1) dX2_loudestOn_14 (by decide) ?_
  refine x_bipush C (v := 100) dX2_loudestOn_15 (by decide) ?_
  refine x_callS0r C (q2_isIn l g _ b 1 100) cd_X2_isIn kl_X2_36 (as := [_, _, _]) rfl rfl ⟨⟨by decide, by decide⟩, by decide, by decide⟩ ⟨rfl, rfl⟩ (Nat.le_of_ble_eq_true rfl) dX2_loudestOn_17 ?_
  refine x_bif_ne C (tgt := 29) dX2_loudestOn_20 (by decide) (fun c20 => ?_) (fun c20 => absurd hb c20)
  refine x_aload_n C dX2_loudestOn_29 rfl ?_
  refine x_callV0v C (q2_keep l g _) cd_X2_keep kl_X2_133 ci2 rfl (by decide) (as := []) rfl rfl ⟨⟨by decide, by decide⟩, by decide, by decide⟩ ⟨rfl, rfl⟩ (Nat.le_of_ble_eq_true rfl) dX2_loudestOn_30 ?_
  refine x_iconst C (v := 0) dX2_loudestOn_33 (by decide) ?_
  refine x_istore_n C (lo' := [(3, _), (0, _), (1, _), (2, _)]) dX2_loudestOn_34 (by decide) rfl ?_
  refine x_iconst C (v := 0) dX2_loudestOn_35 (by decide) ?_
  refine x_istore C (lo' := [(4, _), (3, _), (0, _), (1, _), (2, _)]) dX2_loudestOn_36 (by decide) rfl ?_
  exact x_mem (M' := mKeep (wr M 29 0 0)) rfl (x_lsub [0, 1, 2, 3, 4] rfl (q2_loudestOn_lp h.thr (Int32.le_trans (by decide) hb.1) C hq (tn b + 1) 0 (Nat.zero_le _) (by omega)))
abbrev rmX2_loudnessWanted : Room := { frames := 3, cells := 0, slots := 0, locals := 68 }
set_option maxHeartbeats 1000000 in
set_option maxRecDepth 100000 in
theorem q2_loudnessWanted_b (l : Launch) (g : GT) (M : Mem) (a r th : Int32) (hb : ¬ ((0 ≤ a ∧ a ≤ 31) ∧ (0 ≤ th ∧ th ≤ 31))) : CM l yX2_loudnessWanted cX2_loudnessWanted 5 (some .int) rmX2_loudnessWanted g M [.ref (ga g 29), .int a, .int r, .int th] (some (.int 0)) (wr M 29 0 1) := by
  refine CM.of (by decide) (Nat.le_of_ble_eq_true rfl) (fun X C hq => ?_)
  have C : Cx X g l cX2_loudnessWanted 5 RX2 (some .int) rmX2_loudnessWanted := C
  show V X g 0 0 0 [(0, .ref (ga g 29)), (1, .int a), (2, .int r), (3, .int th)] [] M
  refine x_aload_n C dX2_loudnessWanted_0 rfl ?_
  refine x_iload_n C dX2_loudnessWanted_1 rfl ?_
  refine x_callS0r C (q2_isStone l g _ a) cd_X2_isStone kl_X2_58 (as := [_]) rfl rfl ⟨⟨by decide, by decide⟩, by decide, by decide⟩ ⟨rfl, rfl⟩ (Nat.le_of_ble_eq_true rfl) dX2_loudnessWanted_2 ?_
  refine x_bif_eq C (tgt := 19) dX2_loudnessWanted_5 (by decide) (fun c5 => ?_) (fun c5 => ?_)
  · refine x_iconst C (v := 0) dX2_loudnessWanted_19 (by decide) ?_
    refine x_top (v' := .int (b2i ((0 ≤ a ∧ a ≤ 31) ∧ (0 ≤ th ∧ th ≤ 31)))) (by rw [b2i_f hb]) ?_
    refine x_callV0r C (q2_isKnown_f l g _ _ hb) cd_X2_isKnown kl_X2_111 ci2 rfl (by decide) (as := [_]) rfl rfl ⟨⟨by decide, by decide⟩, by decide, by decide⟩ ⟨rfl, rfl⟩ (Nat.le_of_ble_eq_true rfl) dX2_loudnessWanted_20 ?_
    refine x_bif_ne C (tgt := 28) dX2_loudnessWanted_23 (by decide) (fun c23 => absurd c23 hb) (fun c23 => ?_)
    refine x_iconst C (v := 0) dX2_loudnessWanted_26 (by decide) ?_
    exact x_iret C hq ⟨by decide, by decide⟩ dX2_loudnessWanted_27 (rfl) (rfl)
  · refine x_iload_n C dX2_loudnessWanted_8 rfl ?_
    refine x_callS0r C (q2_isStone l g _ th) cd_X2_isStone kl_X2_58 (as := [_]) rfl rfl ⟨⟨by decide, by decide⟩, by decide, by decide⟩ ⟨rfl, rfl⟩ (Nat.le_of_ble_eq_true rfl) dX2_loudnessWanted_9 ?_
    refine x_bif_eq C (tgt := 19) dX2_loudnessWanted_12 (by decide) (fun c12 => ?_) (fun c12 => absurd ⟨c5, c12⟩ hb)
    refine x_iconst C (v := 0) dX2_loudnessWanted_19 (by decide) ?_
    refine x_top (v' := .int (b2i ((0 ≤ a ∧ a ≤ 31) ∧ (0 ≤ th ∧ th ≤ 31)))) (by rw [b2i_f hb]) ?_
    refine x_callV0r C (q2_isKnown_f l g _ _ hb) cd_X2_isKnown kl_X2_111 ci2 rfl (by decide) (as := [_]) rfl rfl ⟨⟨by decide, by decide⟩, by decide, by decide⟩ ⟨rfl, rfl⟩ (Nat.le_of_ble_eq_true rfl) dX2_loudnessWanted_20 ?_
    refine x_bif_ne C (tgt := 28) dX2_loudnessWanted_23 (by decide) (fun c23 => absurd c23 hb) (fun c23 => ?_)
    refine x_iconst C (v := 0) dX2_loudnessWanted_26 (by decide) ?_
    exact x_iret C hq ⟨by decide, by decide⟩ dX2_loudnessWanted_27 (rfl) (rfl)
def mLW (M : Mem) (a wy th : Int32) : Int32 := if 99 < mLs M th 100 a wy 0 + 1 then -1 else mLs M th 100 a wy 0 + 1
set_option maxHeartbeats 1000000 in
set_option maxRecDepth 100000 in
theorem q2_loudnessWanted (l : Launch) (g : GT) (M : Mem) (h : mOK M) (h2 : mOK2 M) (a r th : Int32) (ha : (0 ≤ a ∧ a ≤ 31)) (ht : (0 ≤ th ∧ th ≤ 31)) : CM l yX2_loudnessWanted cX2_loudnessWanted 5 (some .int) rmX2_loudnessWanted g M [.ref (ga g 29), .int a, .int r, .int th] (some (.int (mLW (wr M 29 0 0) a (if r = 0 then -1 else 1) th))) ((wr M 29 0 0)) := by
  refine CM.of (by decide) (Nat.le_of_ble_eq_true rfl) (fun X C hq => ?_)
  have C : Cx X g l cX2_loudnessWanted 5 RX2 (some .int) rmX2_loudnessWanted := C
  show V X g 0 0 0 [(0, .ref (ga g 29)), (1, .int a), (2, .int r), (3, .int th)] [] M
  refine x_aload_n C dX2_loudnessWanted_0 rfl ?_
  refine x_iload_n C dX2_loudnessWanted_1 rfl ?_
  refine x_callS0r C (q2_isStone l g _ a) cd_X2_isStone kl_X2_58 (as := [_]) rfl rfl ⟨⟨by decide, by decide⟩, by decide, by decide⟩ ⟨rfl, rfl⟩ (Nat.le_of_ble_eq_true rfl) dX2_loudnessWanted_2 ?_
  refine x_bif_eq C (tgt := 19) dX2_loudnessWanted_5 (by decide) (fun c5 => absurd ha c5) (fun c5 => ?_)
  refine x_iload_n C dX2_loudnessWanted_8 rfl ?_
  refine x_callS0r C (q2_isStone l g _ th) cd_X2_isStone kl_X2_58 (as := [_]) rfl rfl ⟨⟨by decide, by decide⟩, by decide, by decide⟩ ⟨rfl, rfl⟩ (Nat.le_of_ble_eq_true rfl) dX2_loudnessWanted_9 ?_
  refine x_bif_eq C (tgt := 19) dX2_loudnessWanted_12 (by decide) (fun c12 => absurd ht c12) (fun c12 => ?_)
  refine x_iconst C (v := 1) dX2_loudnessWanted_15 (by decide) ?_
  refine x_goto C (tgt := 20) dX2_loudnessWanted_16 (by decide) ?_
  refine x_top (v' := .int (b2i ((0 ≤ a ∧ a ≤ 31) ∧ (0 ≤ th ∧ th ≤ 31)))) (by rw [b2i_t ⟨ha, ht⟩]) ?_
  refine x_callV0r C (q2_isKnown_t l g _ _ ⟨ha, ht⟩) cd_X2_isKnown kl_X2_111 ci2 rfl (by decide) (as := [_]) rfl rfl ⟨⟨by decide, by decide⟩, by decide, by decide⟩ ⟨rfl, rfl⟩ (Nat.le_of_ble_eq_true rfl) dX2_loudnessWanted_20 ?_
  refine x_bif_ne C (tgt := 28) dX2_loudnessWanted_23 (by decide) (fun c23 => ?_) (fun c23 => absurd ⟨ha, ht⟩ c23)
  refine x_aload_n C dX2_loudnessWanted_28 rfl ?_
  refine x_iload_n C dX2_loudnessWanted_29 rfl ?_
  refine x_iload_n C dX2_loudnessWanted_30 rfl ?_
  refine x_if_eq C (tgt := 38) dX2_loudnessWanted_31 (by decide) (fun c31 => ?_) (fun c31 => ?_)
  · refine x_iconst C (v := (-1)) dX2_loudnessWanted_38 (by decide) ?_
    refine x_iload_n C dX2_loudnessWanted_39 rfl ?_
    refine x_callV0r C (q2_loses l g _ h.thr h2 a _ th) cd_X2_loses kl_X2_148 ci2 rfl (by decide) (as := [_, _, _]) rfl rfl ⟨⟨by decide, by decide⟩, by decide, by decide⟩ ⟨rfl, rfl⟩ (Nat.le_of_ble_eq_true rfl) dX2_loudnessWanted_40 ?_
    refine x_iconst C (v := 1) dX2_loudnessWanted_43 (by decide) ?_
    refine x_iadd C dX2_loudnessWanted_44 ?_
    refine x_istore C (lo' := [(4, _), (0, _), (1, _), (2, _), (3, _)]) dX2_loudnessWanted_45 (by decide) rfl ?_
    refine x_iload C dX2_loudnessWanted_47 rfl ?_
    refine x_bipush C (v := 99) dX2_loudnessWanted_49 (by decide) ?_
    refine x_icmp_le C (tgt := 58) dX2_loudnessWanted_51 (by decide) (fun c51 => ?_) (fun c51 => ?_)
    · refine x_iload C dX2_loudnessWanted_58 rfl ?_
      exact x_iret C hq ⟨by decide, by decide⟩ dX2_loudnessWanted_60 (by
    first
      | (have e : (if r = 0 then (-1 : Int32) else 1) = -1 := if_pos c31
         rw [e]
         first
           | (have e2 := Int32.not_lt.mpr c51; exact congrArg (fun z => some (Value.int z)) (if_neg e2))
           | (have e2 := Int32.not_le.mp c51; exact congrArg (fun z => some (Value.int z)) (if_pos e2)))
      | (have e : (if r = 0 then (-1 : Int32) else 1) = 1 := if_neg c31
         rw [e]
         first
           | (have e2 := Int32.not_lt.mpr c51; exact congrArg (fun z => some (Value.int z)) (if_neg e2))
           | (have e2 := Int32.not_le.mp c51; exact congrArg (fun z => some (Value.int z)) (if_pos e2)))) (rfl)
    · refine x_iconst C (v := (-1)) dX2_loudnessWanted_54 (by decide) ?_
      refine x_goto C (tgt := 60) dX2_loudnessWanted_55 (by decide) ?_
      exact x_iret C hq ⟨by decide, by decide⟩ dX2_loudnessWanted_60 (by
    first
      | (have e : (if r = 0 then (-1 : Int32) else 1) = -1 := if_pos c31
         rw [e]
         first
           | (have e2 := Int32.not_lt.mpr c51; exact congrArg (fun z => some (Value.int z)) (if_neg e2))
           | (have e2 := Int32.not_le.mp c51; exact congrArg (fun z => some (Value.int z)) (if_pos e2)))
      | (have e : (if r = 0 then (-1 : Int32) else 1) = 1 := if_neg c31
         rw [e]
         first
           | (have e2 := Int32.not_lt.mpr c51; exact congrArg (fun z => some (Value.int z)) (if_neg e2))
           | (have e2 := Int32.not_le.mp c51; exact congrArg (fun z => some (Value.int z)) (if_pos e2)))) (rfl)
  · refine x_iconst C (v := 1) dX2_loudnessWanted_34 (by decide) ?_
    refine x_goto C (tgt := 39) dX2_loudnessWanted_35 (by decide) ?_
    refine x_iload_n C dX2_loudnessWanted_39 rfl ?_
    refine x_callV0r C (q2_loses l g _ h.thr h2 a _ th) cd_X2_loses kl_X2_148 ci2 rfl (by decide) (as := [_, _, _]) rfl rfl ⟨⟨by decide, by decide⟩, by decide, by decide⟩ ⟨rfl, rfl⟩ (Nat.le_of_ble_eq_true rfl) dX2_loudnessWanted_40 ?_
    refine x_iconst C (v := 1) dX2_loudnessWanted_43 (by decide) ?_
    refine x_iadd C dX2_loudnessWanted_44 ?_
    refine x_istore C (lo' := [(4, _), (0, _), (1, _), (2, _), (3, _)]) dX2_loudnessWanted_45 (by decide) rfl ?_
    refine x_iload C dX2_loudnessWanted_47 rfl ?_
    refine x_bipush C (v := 99) dX2_loudnessWanted_49 (by decide) ?_
    refine x_icmp_le C (tgt := 58) dX2_loudnessWanted_51 (by decide) (fun c51 => ?_) (fun c51 => ?_)
    · refine x_iload C dX2_loudnessWanted_58 rfl ?_
      exact x_iret C hq ⟨by decide, by decide⟩ dX2_loudnessWanted_60 (by
    first
      | (have e : (if r = 0 then (-1 : Int32) else 1) = -1 := if_pos c31
         rw [e]
         first
           | (have e2 := Int32.not_lt.mpr c51; exact congrArg (fun z => some (Value.int z)) (if_neg e2))
           | (have e2 := Int32.not_le.mp c51; exact congrArg (fun z => some (Value.int z)) (if_pos e2)))
      | (have e : (if r = 0 then (-1 : Int32) else 1) = 1 := if_neg c31
         rw [e]
         first
           | (have e2 := Int32.not_lt.mpr c51; exact congrArg (fun z => some (Value.int z)) (if_neg e2))
           | (have e2 := Int32.not_le.mp c51; exact congrArg (fun z => some (Value.int z)) (if_pos e2)))) (rfl)
    · refine x_iconst C (v := (-1)) dX2_loudnessWanted_54 (by decide) ?_
      refine x_goto C (tgt := 60) dX2_loudnessWanted_55 (by decide) ?_
      exact x_iret C hq ⟨by decide, by decide⟩ dX2_loudnessWanted_60 (by
    first
      | (have e : (if r = 0 then (-1 : Int32) else 1) = -1 := if_pos c31
         rw [e]
         first
           | (have e2 := Int32.not_lt.mpr c51; exact congrArg (fun z => some (Value.int z)) (if_neg e2))
           | (have e2 := Int32.not_le.mp c51; exact congrArg (fun z => some (Value.int z)) (if_pos e2)))
      | (have e : (if r = 0 then (-1 : Int32) else 1) = 1 := if_neg c31
         rw [e]
         first
           | (have e2 := Int32.not_lt.mpr c51; exact congrArg (fun z => some (Value.int z)) (if_neg e2))
           | (have e2 := Int32.not_le.mp c51; exact congrArg (fun z => some (Value.int z)) (if_pos e2)))) (rfl)
abbrev rmX2_bestStone : Room := { frames := 4, cells := 0, slots := 0, locals := 91 }
set_option maxHeartbeats 1000000 in
set_option maxRecDepth 100000 in
theorem q2_bestStone_b (l : Launch) (g : GT) (M : Mem) (ld : Int32) (hb : ¬ (1 ≤ ld ∧ ld ≤ 99)) : CM l yX2_bestStone cX2_bestStone 2 (some .int) rmX2_bestStone g M [.ref (ga g 29), .int ld] (some (.int 0)) (wr (wr M 29 0 0) 29 0 1) := by
  refine CM.of (by decide) (Nat.le_of_ble_eq_true rfl) (fun X C hq => ?_)
  have C : Cx X g l cX2_bestStone 2 RX2 (some .int) rmX2_bestStone := C
  show V X g 0 0 0 [(0, .ref (ga g 29)), (1, .int ld)] [] M
  refine x_aload_n C dX2_bestStone_0 rfl ?_
  refine x_iconst C (v := 0) dX2_bestStone_1 (by decide) ?_
  refine x_putI C fl_X2_32 rfl (by decide) rfl dX2_bestStone_2 ?_
  refine x_iload_n C dX2_bestStone_5 rfl ?_
  refine x_iconst C (v := 1) dX2_bestStone_6 (by decide) ?_
  refine x_bipush C (v := 99) dX2_bestStone_7 (by decide) ?_
  refine x_callS0r C (q2_isIn l g _ ld 1 99) cd_X2_isIn kl_X2_36 (as := [_, _, _]) rfl rfl ⟨⟨by decide, by decide⟩, by decide, by decide⟩ ⟨rfl, rfl⟩ (Nat.le_of_ble_eq_true rfl) dX2_bestStone_9 ?_
  refine x_bif_eq C (tgt := 23) dX2_bestStone_12 (by decide) (fun c12 => ?_) (fun c12 => absurd c12 hb)
  refine x_aload_n C dX2_bestStone_23 rfl ?_
  refine x_iconst C (v := 1) dX2_bestStone_24 (by decide) ?_
  refine x_callV0r C (q2_no l g _ 1) cd_X2_no kl_X2_92 ci2 rfl (by decide) (as := [_]) rfl rfl ⟨⟨by decide, by decide⟩, by decide, by decide⟩ ⟨rfl, rfl⟩ (Nat.le_of_ble_eq_true rfl) dX2_bestStone_25 ?_
  exact x_iret C hq ⟨by decide, by decide⟩ dX2_bestStone_28 (rfl) (rfl)
set_option maxHeartbeats 1000000 in
set_option maxRecDepth 100000 in
theorem q2_bestStone (l : Launch) (g : GT) (M : Mem) (h : mOK M) (h2 : mOK2 M) (ld : Int32) (hl : (1 ≤ ld ∧ ld ≤ 99)) : CM l yX2_bestStone cX2_bestStone 2 (some .int) rmX2_bestStone g M [.ref (ga g 29), .int ld] (some (.int (mBest (wr M 29 0 0) ld))) ((wr M 29 0 0)) := by
  refine CM.of (by decide) (Nat.le_of_ble_eq_true rfl) (fun X C hq => ?_)
  have C : Cx X g l cX2_bestStone 2 RX2 (some .int) rmX2_bestStone := C
  show V X g 0 0 0 [(0, .ref (ga g 29)), (1, .int ld)] [] M
  refine x_aload_n C dX2_bestStone_0 rfl ?_
  refine x_iconst C (v := 0) dX2_bestStone_1 (by decide) ?_
  refine x_putI C fl_X2_32 rfl (by decide) rfl dX2_bestStone_2 ?_
  refine x_iload_n C dX2_bestStone_5 rfl ?_
  refine x_iconst C (v := 1) dX2_bestStone_6 (by decide) ?_
  refine x_bipush C (v := 99) dX2_bestStone_7 (by decide) ?_
  refine x_callS0r C (q2_isIn l g _ ld 1 99) cd_X2_isIn kl_X2_36 (as := [_, _, _]) rfl rfl ⟨⟨by decide, by decide⟩, by decide, by decide⟩ ⟨rfl, rfl⟩ (Nat.le_of_ble_eq_true rfl) dX2_bestStone_9 ?_
  refine x_bif_eq C (tgt := 23) dX2_bestStone_12 (by decide) (fun c12 => absurd hl c12) (fun c12 => ?_)
  refine x_aload_n C dX2_bestStone_15 rfl ?_
  refine x_iload_n C dX2_bestStone_16 rfl ?_
  refine x_callV0r C (q2_best l g _ h.thr h2 ld hl) cd_X2_best kl_X2_155 ci2 rfl (by decide) (as := [_]) rfl rfl ⟨⟨by decide, by decide⟩, by decide, by decide⟩ ⟨rfl, rfl⟩ (Nat.le_of_ble_eq_true rfl) dX2_bestStone_17 ?_
  refine x_goto C (tgt := 28) dX2_bestStone_20 (by decide) ?_
  exact x_iret C hq ⟨by decide, by decide⟩ dX2_bestStone_28 (rfl) (rfl)
def mMean (M : Mem) : UInt64 := if mMany M = 0 then 0 else FP.ddiv (FP.i2d (mSumL M (mSh M))) (FP.i2d (mMany M))
abbrev rmX2_meanLoudness : Room := { frames := 2, cells := 0, slots := 0, locals := 43 }
set_option maxHeartbeats 1000000 in
set_option maxRecDepth 100000 in
theorem q2_mean_lp {X : XT} {l : Launch} {g : GT} {M : Mem} (h : mOK M) (hn : mMany M ≠ 0 → vf_n64 (FP.ddiv (FP.i2d (mSumL M (mSh M))) (FP.i2d (mMany M)))) (C : Cx X g l cX2_meanLoudness 3 RX2 (some .double) rmX2_meanLoudness) (hq : Rt X g rmX2_meanLoudness (some (.double (mMean M))) M) : ∀ (n i : Nat), i ≤ mSh M → mSh M + 1 ≤ i + n → V X g 0 0 9 [(2, .int (nI i)), (1, .int (mSumL M i)), (0, .ref (ga g 29))] [] M := by
  intro n
  induction n with
  | zero =>
    intro i h1 h2; omega
  | succ n ih =>
    intro i h1 h2
    have hsh := h.sh
    refine x_iload_n C dX2_meanLoudness_9 rfl ?_
    refine x_aload_n C dX2_meanLoudness_10 rfl ?_
    refine x_getI C fl_X2_43 rfl (by decide) rfl dX2_meanLoudness_11 ?_
    refine x_icmp_ge C (tgt := 35) dX2_meanLoudness_14 (by decide) (fun c14 => ?_) (fun c14 => ?_)
    · have he : i = mSh M := Nat.le_antisymm h1 ((ge_tn h.2.1.1 (by omega)).mp c14)
      subst he
      refine x_aload_n C dX2_meanLoudness_35 rfl ?_
      refine x_callV0r C (q2_many l g _ h) cd_X2_many kl_X2_98 ci2 rfl (by decide) (as := []) rfl rfl ⟨⟨by decide, by decide⟩, by decide, by decide⟩ ⟨rfl, rfl⟩ (Nat.le_of_ble_eq_true rfl) dX2_meanLoudness_36 ?_
      refine x_if_ne C (tgt := 46) dX2_meanLoudness_39 (by decide) (fun c39 => ?_) (fun c39 => ?_)
      · refine x_iload_n C dX2_meanLoudness_46 rfl ?_
        refine x_i2d C dX2_meanLoudness_47 ?_
        refine x_aload_n C dX2_meanLoudness_48 rfl ?_
        refine x_callV0r C (q2_many l g _ h) cd_X2_many kl_X2_98 ci2 rfl (by decide) (as := []) rfl rfl ⟨⟨by decide, by decide⟩, by decide, by decide⟩ ⟨rfl, rfl⟩ (Nat.le_of_ble_eq_true rfl) dX2_meanLoudness_49 ?_
        refine x_i2d C dX2_meanLoudness_52 ?_
        refine x_ddiv C dX2_meanLoudness_53 (hn c39) ?_
        exact x_dret C hq ⟨by decide, by decide⟩ dX2_meanLoudness_54 (by first | (rw [mMean, if_pos c39]; done) | (rw [mMean, if_neg c39]; done)) (rfl)
      · refine x_dconst0 C dX2_meanLoudness_42 ?_
        refine x_goto C (tgt := 54) dX2_meanLoudness_43 (by decide) ?_
        exact x_dret C hq ⟨by decide, by decide⟩ dX2_meanLoudness_54 (by first | (rw [mMean, if_pos c39]; done) | (rw [mMean, if_neg c39]; done)) (rfl)
    · have hlt : i < mSh M := lt_of_nge h.2.1.1 (by omega) c14
      refine x_iload_n C dX2_meanLoudness_17 rfl ?_
      refine x_aload_n C dX2_meanLoudness_18 rfl ?_
      refine x_getR C fl_X2_22 rfl (by decide) rfl dX2_meanLoudness_19 ?_
      refine x_bipush C (v := 27) dX2_meanLoudness_22 (by decide) ?_
      refine x_iload_n C dX2_meanLoudness_24 rfl ?_
      refine x_iadd C dX2_meanLoudness_25 ?_
      refine x_iald C (n := 187) rfl (by decide) rfl (nI_add 27 i) ((by omega : 27 + i < 187)) dX2_meanLoudness_26 ?_
      refine x_iadd C dX2_meanLoudness_27 ?_
      refine x_istore_n C (lo' := [(1, _), (2, _), (0, _)]) dX2_meanLoudness_28 (by decide) rfl ?_
      refine x_iinc C (v := nI (i + 1)) (lo' := [(2, _), (1, _), (0, _)]) dX2_meanLoudness_29 rfl (nI_inc _) (by decide) rfl ?_
      refine x_goto C (tgt := 9) dX2_meanLoudness_32 (by decide) ?_
      exact ih (i + 1) hlt (by omega)
set_option maxHeartbeats 1000000 in
set_option maxRecDepth 100000 in
theorem q2_meanLoudness (l : Launch) (g : GT) (M : Mem) (h : mOK M) (hn : mMany (wr M 29 0 0) ≠ 0 → vf_n64 (FP.ddiv (FP.i2d (mSumL (wr M 29 0 0) (mSh (wr M 29 0 0)))) (FP.i2d (mMany (wr M 29 0 0))))) : CM l yX2_meanLoudness cX2_meanLoudness 3 (some .double) rmX2_meanLoudness g M [.ref (ga g 29)] (some (.double (mMean (wr M 29 0 0)))) ((wr M 29 0 0)) := by
  refine CM.of (by decide) (Nat.le_of_ble_eq_true rfl) (fun X C hq => ?_)
  have C : Cx X g l cX2_meanLoudness 3 RX2 (some .double) rmX2_meanLoudness := C
  show V X g 0 0 0 [(0, .ref (ga g 29))] [] M
  refine x_aload_n C dX2_meanLoudness_0 rfl ?_
  refine x_iconst C (v := 0) dX2_meanLoudness_1 (by decide) ?_
  refine x_putI C fl_X2_32 rfl (by decide) rfl dX2_meanLoudness_2 ?_
  refine x_iconst C (v := 0) dX2_meanLoudness_5 (by decide) ?_
  refine x_istore_n C (lo' := [(1, _), (0, _)]) dX2_meanLoudness_6 (by decide) rfl ?_
  refine x_iconst C (v := 0) dX2_meanLoudness_7 (by decide) ?_
  refine x_istore_n C (lo' := [(2, _), (1, _), (0, _)]) dX2_meanLoudness_8 (by decide) rfl ?_
  exact q2_mean_lp h.thr hn C hq (mSh M + 1) 0 (Nat.zero_le _) (by rw [Nat.zero_add]; exact Nat.le_refl _)
