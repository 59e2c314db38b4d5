/-! The model's beats and counts, walked. -/
theorem tn_sm (x : Int32) : tn x < 2 ^ 31 := by
  have h := Int32.toInt_lt x
  show x.toInt.toNat < 2 ^ 31
  omega
abbrev rmX2_beatOn : Room := { frames := 3, cells := 0, slots := 0, locals := 76 }
set_option maxHeartbeats 1000000 in
set_option maxRecDepth 100000 in
theorem q2_beatOn_l2 {X : XT} {l : Launch} {g : GT} {M : Mem} (h : mOK M) (C : Cx X g l cX2_beatOn 2 RX2 none rmX2_beatOn) (hq : Rt X g rmX2_beatOn none (mBeat M)) : ∀ (n i : Nat), i ≤ mSh M → mSh M + 1 ≤ i + n → V X g 0 0 45 [(1, .int (nI i)), (0, .ref (ga g 29))] [] (mMeetL (mB1 M) i) := by
  intro n
  induction n with
  | zero =>
    intro i h1 h2; omega
  | succ n ih =>
    intro i h1 h2
    have hsh := h.sh
    have hs1 : mSame M (mB1 M) := (mGot0_same M).tr (mStepL_same (h.same (mGot0_same M)) _)
    have hki := h.same (hs1.tr (mMeetL_same (mB1 M) i))
    have e29 : mMeetL (mB1 M) i 29 = M 29 := (hs1.tr (mMeetL_same (mB1 M) i)).1
    refine x_iload_n C dX2_beatOn_45 rfl ?_
    refine x_aload_n C dX2_beatOn_46 rfl ?_
    refine x_getI C fl_X2_43 rfl (by decide) rfl dX2_beatOn_47 ?_
    refine x_icmp_ge C (tgt := 64) dX2_beatOn_50 (by decide) (fun c50 => ?_) (fun c50 => ?_)
    · rw [e29] at c50
      have he : i = mSh M := Nat.le_antisymm h1 ((ge_tn h.2.1.1 (by omega)).mp c50)
      subst he
      refine x_mem (M' := mB2 M) rfl ?_
      refine x_aload_n C dX2_beatOn_64 rfl ?_
      refine x_iconst C (v := 0) dX2_beatOn_65 (by decide) ?_
      refine x_callV0v C (q2_hush l g _ (h.same (mB2_same h)) 0 (by decide)) cd_X2_hush kl_X2_83 ci2 rfl (by decide) (as := [_]) rfl rfl ⟨⟨by decide, by decide⟩, by decide, by decide⟩ ⟨rfl, rfl⟩ (Nat.le_of_ble_eq_true rfl) dX2_beatOn_66 ?_
      refine x_aload_n C dX2_beatOn_69 rfl ?_
      refine x_iconst C (v := 1) dX2_beatOn_70 (by decide) ?_
      refine x_callV0v C (q2_hush l g _ (mHush_ok (h.same (mB2_same h)) 0 (by decide)).1 1 (by decide)) cd_X2_hush kl_X2_83 ci2 rfl (by decide) (as := [_]) rfl rfl ⟨⟨by decide, by decide⟩, by decide, by decide⟩ ⟨rfl, rfl⟩ (Nat.le_of_ble_eq_true rfl) dX2_beatOn_71 ?_
      refine x_aload_n C dX2_beatOn_74 rfl ?_
      refine x_getR C fl_X2_22 rfl (by decide) rfl dX2_beatOn_75 ?_
      refine x_iconst C (v := 0) dX2_beatOn_78 (by decide) ?_
      refine x_dup2 C dX2_beatOn_79 rfl rfl ?_
      refine x_iald C (n := 187) rfl (by decide) rfl (rfl) ((by decide : 0 < 187)) dX2_beatOn_80 ?_
      refine x_iconst C (v := 1) dX2_beatOn_81 (by decide) ?_
      refine x_iadd C dX2_beatOn_82 ?_
      refine x_iast C (n := 187) rfl (by decide) rfl (rfl) ((by decide : 0 < 187)) dX2_beatOn_83 ?_
      exact x_vret C hq ⟨by decide, by decide⟩ dX2_beatOn_84 (rfl) (rfl)
    · rw [e29] at c50
      have hlt : i < mSh M := lt_of_nge h.2.1.1 (by omega) c50
      refine x_aload_n C dX2_beatOn_53 rfl ?_
      refine x_iload_n C dX2_beatOn_54 rfl ?_
      refine x_callV0v C (q2_meet l g _ hki i (by omega)) cd_X2_meet kl_X2_80 ci2 rfl (by decide) (as := [_]) rfl rfl ⟨⟨by decide, by decide⟩, by decide, by decide⟩ ⟨rfl, rfl⟩ (Nat.le_of_ble_eq_true rfl) dX2_beatOn_55 ?_
      refine x_iinc C (v := nI (i + 1)) (lo' := [(1, _), (0, _)]) dX2_beatOn_58 rfl (nI_inc _) (by decide) rfl ?_
      refine x_goto C (tgt := 45) dX2_beatOn_61 (by decide) ?_
      exact ih (i + 1) hlt (by omega)
set_option maxHeartbeats 1000000 in
set_option maxRecDepth 100000 in
theorem q2_beatOn_l1 {X : XT} {l : Launch} {g : GT} {M : Mem} (h : mOK M) (C : Cx X g l cX2_beatOn 2 RX2 none rmX2_beatOn) (hq : Rt X g rmX2_beatOn none (mBeat M)) : ∀ (n i : Nat), i ≤ mSh M → mSh M + 1 ≤ i + n → V X g 0 0 16 [(1, .int (nI i)), (0, .ref (ga g 29))] [] (mStepL (mGot0 M) i) := by
  intro n
  induction n with
  | zero =>
    intro i h1 h2; omega
  | succ n ih =>
    intro i h1 h2
    have hsh := h.sh
    have hs1 := (mGot0_same M).tr (mStepL_same (h.same (mGot0_same M)) i)
    have hki := h.same hs1
    have e29 : mStepL (mGot0 M) i 29 = M 29 := hs1.1
    refine x_iload_n C dX2_beatOn_16 rfl ?_
    refine x_aload_n C dX2_beatOn_17 rfl ?_
    refine x_getI C fl_X2_43 rfl (by decide) rfl dX2_beatOn_18 ?_
    refine x_icmp_ge C (tgt := 43) dX2_beatOn_21 (by decide) (fun c21 => ?_) (fun c21 => ?_)
    · rw [e29] at c21
      have he : i = mSh M := Nat.le_antisymm h1 ((ge_tn h.2.1.1 (by omega)).mp c21)
      subst he
      refine x_mem (M' := mB1 M) rfl ?_
      refine x_iconst C (v := 0) dX2_beatOn_43 (by decide) ?_
      refine x_istore_n C (lo' := [(1, _), (0, _)]) dX2_beatOn_44 (by decide) rfl ?_
      exact q2_beatOn_l2 h C hq (mSh M + 1) 0 (Nat.zero_le _) (by omega)
    · rw [e29] at c21
      have hlt : i < mSh M := lt_of_nge h.2.1.1 (by omega) c21
      refine x_aload_n C dX2_beatOn_24 rfl ?_
      refine x_iload_n C dX2_beatOn_25 rfl ?_
      refine x_callV0r C (q2_goes l g _ i (by omega)) cd_X2_goes kl_X2_66 ci2 rfl (by decide) (as := [_]) rfl rfl ⟨⟨by decide, by decide⟩, by decide, by decide⟩ ⟨rfl, rfl⟩ (Nat.le_of_ble_eq_true rfl) dX2_beatOn_26 ?_
      refine x_bif_eq C (tgt := 37) dX2_beatOn_29 (by decide) (fun c29 => ?_) (fun c29 => ?_)
      · refine x_iinc C (v := nI (i + 1)) (lo' := [(1, _), (0, _)]) dX2_beatOn_37 rfl (nI_inc _) (by decide) rfl ?_
        refine x_goto C (tgt := 16) dX2_beatOn_40 (by decide) ?_
        first
          | exact x_mem (show mStepL (mGot0 M) (i + 1) = _ from if_pos c29).symm (ih (i + 1) hlt (by omega))
          | exact x_mem (show mStepL (mGot0 M) (i + 1) = _ from if_neg c29).symm (ih (i + 1) hlt (by omega))
      · refine x_aload_n C dX2_beatOn_32 rfl ?_
        refine x_iload_n C dX2_beatOn_33 rfl ?_
        refine x_callV0v C (q2_step l g _ hki i (by omega)) cd_X2_step kl_X2_76 ci2 rfl (by decide) (as := [_]) rfl rfl ⟨⟨by decide, by decide⟩, by decide, by decide⟩ ⟨rfl, rfl⟩ (Nat.le_of_ble_eq_true rfl) dX2_beatOn_34 ?_
        refine x_iinc C (v := nI (i + 1)) (lo' := [(1, _), (0, _)]) dX2_beatOn_37 rfl (nI_inc _) (by decide) rfl ?_
        refine x_goto C (tgt := 16) dX2_beatOn_40 (by decide) ?_
        first
          | exact x_mem (show mStepL (mGot0 M) (i + 1) = _ from if_pos c29).symm (ih (i + 1) hlt (by omega))
          | exact x_mem (show mStepL (mGot0 M) (i + 1) = _ from if_neg c29).symm (ih (i + 1) hlt (by omega))
set_option maxHeartbeats 1000000 in
set_option maxRecDepth 100000 in
theorem q2_beatOn (l : Launch) (g : GT) (M : Mem) (h : mOK M) : CM l yX2_beatOn cX2_beatOn 2 none rmX2_beatOn g M [.ref (ga g 29)] (none) (mBeat M) := by
  refine CM.of (by decide) (Nat.le_of_ble_eq_true rfl) (fun X C hq => ?_)
  have C : Cx X g l cX2_beatOn 2 RX2 none rmX2_beatOn := C
  show V X g 0 0 0 [(0, .ref (ga g 29))] [] M
  refine x_aload_n C dX2_beatOn_0 rfl ?_
  refine x_getR C fl_X2_28 rfl (by decide) rfl dX2_beatOn_1 ?_
  refine x_iconst C (v := 0) dX2_beatOn_4 (by decide) ?_
  refine x_iconst C (v := 0) dX2_beatOn_5 (by decide) ?_
  refine x_bast C (n := 2) rfl (by decide) rfl (rfl) ((by decide : 0 < 2)) (v' := 0) (by decide) dX2_beatOn_6 ?_
  refine x_aload_n C dX2_beatOn_7 rfl ?_
  refine x_getR C fl_X2_28 rfl (by decide) rfl dX2_beatOn_8 ?_
  refine x_iconst C (v := 1) dX2_beatOn_11 (by decide) ?_
  refine x_iconst C (v := 0) dX2_beatOn_12 (by decide) ?_
  refine x_bast C (n := 2) rfl (by decide) rfl (rfl) ((by decide : 1 < 2)) (v' := 0) (by decide) dX2_beatOn_13 ?_
  refine x_iconst C (v := 0) dX2_beatOn_14 (by decide) ?_
  refine x_istore_n C (lo' := [(1, _), (0, _)]) dX2_beatOn_15 (by decide) rfl ?_
  exact q2_beatOn_l1 h C hq (mSh M + 1) 0 (Nat.zero_le _) (by omega)
abbrev rmX2_beatsOn : Room := { frames := 4, cells := 0, slots := 0, locals := 97 }
set_option maxHeartbeats 1000000 in
set_option maxRecDepth 100000 in
theorem q2_beatsOn_lp {X : XT} {l : Launch} {g : GT} {M : Mem} {b : Int32} (h : mOK M) (hb : 0 ≤ b) (C : Cx X g l cX2_beatsOn 3 RX2 none rmX2_beatsOn) (hq : Rt X g rmX2_beatsOn none (mBeats M (tn b))) : ∀ (n i : Nat), i ≤ tn b → tn b + 1 ≤ i + n → V X g 0 0 2 [(2, .int (nI i)), (0, .ref (ga g 29)), (1, .int b)] [] (mBeats M i) := by
  intro n
  induction n with
  | zero =>
    intro i h1 h2; omega
  | succ n ih =>
    intro i h1 h2
    have hsm : tn b < 2 ^ 31 := tn_sm b
    refine x_iload_n C dX2_beatsOn_2 rfl ?_
    refine x_iload_n C dX2_beatsOn_3 rfl ?_
    refine x_icmp_ge C (tgt := 17) dX2_beatsOn_4 (by decide) (fun c4 => ?_) (fun c4 => ?_)
    · have he : i = tn b := Nat.le_antisymm h1 ((ge_tn hb (by omega)).mp c4)
      subst he
      exact x_vret C hq ⟨by decide, by decide⟩ dX2_beatsOn_17 (rfl) (rfl)
    · have hlt : i < tn b := lt_of_nge hb (by omega) c4
      refine x_aload_n C dX2_beatsOn_7 rfl ?_
      refine x_callV0v C (q2_beatOn l g _ (mBeats_ok h i).1) cd_X2_beatOn kl_X2_86 ci2 rfl (by decide) (as := []) rfl rfl ⟨⟨by decide, by decide⟩, by decide, by decide⟩ ⟨rfl, rfl⟩ (Nat.le_of_ble_eq_true rfl) dX2_beatsOn_8 ?_
      refine x_iinc C (v := nI (i + 1)) (lo' := [(2, _), (0, _), (1, _)]) dX2_beatsOn_11 rfl (nI_inc _) (by decide) rfl ?_
      refine x_goto C (tgt := 2) dX2_beatsOn_14 (by decide) ?_
      exact ih (i + 1) hlt (by omega)
set_option maxHeartbeats 1000000 in
set_option maxRecDepth 100000 in
theorem q2_beatsOn (l : Launch) (g : GT) (M : Mem) (h : mOK M) (b : Int32) (hb : 0 ≤ b) : CM l yX2_beatsOn cX2_beatsOn 3 none rmX2_beatsOn g M [.ref (ga g 29), .int b] (none) (mBeats M (tn b)) := by
  refine CM.of (by decide) (Nat.le_of_ble_eq_true rfl) (fun X C hq => ?_)
  have C : Cx X g l cX2_beatsOn 3 RX2 none rmX2_beatsOn := C
  show V X g 0 0 0 [(0, .ref (ga g 29)), (1, .int b)] [] M
  refine x_iconst C (v := 0) dX2_beatsOn_0 (by decide) ?_
  refine x_istore_n C (lo' := [(2, _), (0, _), (1, _)]) dX2_beatsOn_1 (by decide) rfl ?_
  exact x_lsub [0, 1, 2] rfl (q2_beatsOn_lp h hb C hq (tn b + 1) 0 (Nat.zero_le _) (by omega))
abbrev rmX2_coins : Room := { frames := 0, cells := 0, slots := 0, locals := 0 }
set_option maxHeartbeats 1000000 in
set_option maxRecDepth 100000 in
theorem q2_coins (l : Launch) (g : GT) (M : Mem) : CM l yX2_coins cX2_coins 1 (some .int) rmX2_coins g M [.ref (ga g 29)] (some (.int (M 34 3 + M 34 4))) (M) := by
  refine CM.of (by decide) (Nat.le_of_ble_eq_true rfl) (fun X C hq => ?_)
  have C : Cx X g l cX2_coins 1 RX2 (some .int) rmX2_coins := C
  show V X g 0 0 0 [(0, .ref (ga g 29))] [] M
  refine x_aload_n C dX2_coins_0 rfl ?_
  refine x_getR C fl_X2_22 rfl (by decide) rfl dX2_coins_1 ?_
  refine x_iconst C (v := 3) dX2_coins_4 (by decide) ?_
  refine x_iald C (n := 187) rfl (by decide) rfl (rfl) ((by decide : 3 < 187)) dX2_coins_5 ?_
  refine x_aload_n C dX2_coins_6 rfl ?_
  refine x_getR C fl_X2_22 rfl (by decide) rfl dX2_coins_7 ?_
  refine x_iconst C (v := 4) dX2_coins_10 (by decide) ?_
  refine x_iald C (n := 187) rfl (by decide) rfl (rfl) ((by decide : 4 < 187)) dX2_coins_11 ?_
  refine x_iadd C dX2_coins_12 ?_
  exact x_iret C hq ⟨by decide, by decide⟩ dX2_coins_13 (rfl) (rfl)
abbrev rmX2_many : Room := { frames := 1, cells := 0, slots := 0, locals := 21 }
set_option maxHeartbeats 1000000 in
set_option maxRecDepth 100000 in
theorem q2_many_lp {X : XT} {l : Launch} {g : GT} {M : Mem} (h : mOK M) (C : Cx X g l cX2_many 3 RX2 (some .int) rmX2_many) (hq : Rt X g rmX2_many (some (.int (mMany M))) M) : ∀ (n i : Nat), i ≤ mSh M → mSh M + 1 ≤ i + n → V X g 0 0 4 [(2, .int (nI i)), (1, .int (mManyL M i)), (0, .ref (ga g 29))] [] M := by
  intro n
  induction n with
  | zero =>
    intro i h1 h2; omega
  | succ n ih =>
    intro i h1 h2
    have hsh := h.sh
    refine x_iload_n C dX2_many_4 rfl ?_
    refine x_aload_n C dX2_many_5 rfl ?_
    refine x_getI C fl_X2_43 rfl (by decide) rfl dX2_many_6 ?_
    refine x_icmp_ge C (tgt := 34) dX2_many_9 (by decide) (fun c9 => ?_) (fun c9 => ?_)
    · have he : i = mSh M := Nat.le_antisymm h1 ((ge_tn h.2.1.1 (by omega)).mp c9)
      subst he
      refine x_iload_n C dX2_many_34 rfl ?_
      exact x_iret C hq ⟨by decide, by decide⟩ dX2_many_35 (rfl) (rfl)
    · have hlt : i < mSh M := lt_of_nge h.2.1.1 (by omega) c9
      refine x_iload_n C dX2_many_12 rfl ?_
      refine x_aload_n C dX2_many_13 rfl ?_
      refine x_iload_n C dX2_many_14 rfl ?_
      refine x_callV0r C (q2_goes l g _ i (by omega)) cd_X2_goes kl_X2_66 ci2 rfl (by decide) (as := [_]) rfl rfl ⟨⟨by decide, by decide⟩, by decide, by decide⟩ ⟨rfl, rfl⟩ (Nat.le_of_ble_eq_true rfl) dX2_many_15 ?_
      refine x_bif_eq C (tgt := 25) dX2_many_18 (by decide) (fun c18 => ?_) (fun c18 => ?_)
      · refine x_iconst C (v := 0) dX2_many_25 (by decide) ?_
        refine x_iadd C dX2_many_26 ?_
        refine x_istore_n C (lo' := [(1, _), (2, _), (0, _)]) dX2_many_27 (by decide) rfl ?_
        refine x_iinc C (v := nI (i + 1)) (lo' := [(2, _), (1, _), (0, _)]) dX2_many_28 rfl (nI_inc _) (by decide) rfl ?_
        refine x_goto C (tgt := 4) dX2_many_31 (by decide) ?_
        first
          | (have e : mManyL M (i + 1) = mManyL M i + 1 := (by show mManyL M i + (if _ then _ else _) = _; rw [if_pos c18]); exact e ▸ ih (i + 1) hlt (by omega))
          | (have e : mManyL M (i + 1) = mManyL M i + 0 := (by show mManyL M i + (if _ then _ else _) = _; rw [if_neg c18]); exact e ▸ ih (i + 1) hlt (by omega))
      · refine x_iconst C (v := 1) dX2_many_21 (by decide) ?_
        refine x_goto C (tgt := 26) dX2_many_22 (by decide) ?_
        refine x_iadd C dX2_many_26 ?_
        refine x_istore_n C (lo' := [(1, _), (2, _), (0, _)]) dX2_many_27 (by decide) rfl ?_
        refine x_iinc C (v := nI (i + 1)) (lo' := [(2, _), (1, _), (0, _)]) dX2_many_28 rfl (nI_inc _) (by decide) rfl ?_
        refine x_goto C (tgt := 4) dX2_many_31 (by decide) ?_
        first
          | (have e : mManyL M (i + 1) = mManyL M i + 1 := (by show mManyL M i + (if _ then _ else _) = _; rw [if_pos c18]); exact e ▸ ih (i + 1) hlt (by omega))
          | (have e : mManyL M (i + 1) = mManyL M i + 0 := (by show mManyL M i + (if _ then _ else _) = _; rw [if_neg c18]); exact e ▸ ih (i + 1) hlt (by omega))
set_option maxHeartbeats 1000000 in
set_option maxRecDepth 100000 in
theorem q2_many (l : Launch) (g : GT) (M : Mem) (h : mOK M) : CM l yX2_many cX2_many 3 (some .int) rmX2_many g M [.ref (ga g 29)] (some (.int (mMany M))) (M) := by
  refine CM.of (by decide) (Nat.le_of_ble_eq_true rfl) (fun X C hq => ?_)
  have C : Cx X g l cX2_many 3 RX2 (some .int) rmX2_many := C
  show V X g 0 0 0 [(0, .ref (ga g 29))] [] M
  refine x_iconst C (v := 0) dX2_many_0 (by decide) ?_
  refine x_istore_n C (lo' := [(1, _), (0, _)]) dX2_many_1 (by decide) rfl ?_
  refine x_iconst C (v := 0) dX2_many_2 (by decide) ?_
  refine x_istore_n C (lo' := [(2, _), (1, _), (0, _)]) dX2_many_3 (by decide) rfl ?_
  exact q2_many_lp h C hq (mSh M + 1) 0 (Nat.zero_le _) (by omega)
abbrev rmX2_manyOf : Room := { frames := 0, cells := 0, slots := 0, locals := 0 }
set_option maxHeartbeats 1000000 in
set_option maxRecDepth 100000 in
theorem q2_manyOf_lp {X : XT} {l : Launch} {g : GT} {M : Mem} {e : Int32} (h : mOK M) (C : Cx X g l cX2_manyOf 4 RX2 (some .int) rmX2_manyOf) (hq : Rt X g rmX2_manyOf (some (.int (mWO M e))) M) : ∀ (n i : Nat), i ≤ mWs M → mWs M + 1 ≤ i + n → V X g 0 0 4 [(3, .int (nI i)), (2, .int (mWOL M e i)), (0, .ref (ga g 29)), (1, .int e)] [] M := by
  intro n
  induction n with
  | zero =>
    intro i h1 h2; omega
  | succ n ih =>
    intro i h1 h2
    have hws := h.ws
    refine x_iload_n C dX2_manyOf_4 rfl ?_
    refine x_aload_n C dX2_manyOf_5 rfl ?_
    refine x_getI C fl_X2_40 rfl (by decide) rfl dX2_manyOf_6 ?_
    refine x_icmp_ge C (tgt := 39) dX2_manyOf_9 (by decide) (fun c9 => ?_) (fun c9 => ?_)
    · have he : i = mWs M := Nat.le_antisymm h1 ((ge_tn h.1.1 (by omega)).mp c9)
      subst he
      refine x_iload_n C dX2_manyOf_39 rfl ?_
      exact x_iret C hq ⟨by decide, by decide⟩ dX2_manyOf_40 (rfl) (rfl)
    · have hlt : i < mWs M := lt_of_nge h.1.1 (by omega) c9
      refine x_iload_n C dX2_manyOf_12 rfl ?_
      refine x_aload_n C dX2_manyOf_13 rfl ?_
      refine x_getR C fl_X2_22 rfl (by decide) rfl dX2_manyOf_14 ?_
      refine x_bipush C (v := 7) dX2_manyOf_17 (by decide) ?_
      refine x_iload_n C dX2_manyOf_19 rfl ?_
      refine x_iadd C dX2_manyOf_20 ?_
      refine x_iald C (n := 187) rfl (by decide) rfl (nI_add 7 i) ((by omega : 7 + i < 187)) dX2_manyOf_21 ?_
      refine x_iload_n C dX2_manyOf_22 rfl ?_
      refine x_icmp_ne C (tgt := 30) dX2_manyOf_23 (by decide) (fun c23 => ?_) (fun c23 => ?_)
      · refine x_iconst C (v := 0) dX2_manyOf_30 (by decide) ?_
        refine x_iadd C dX2_manyOf_31 ?_
        refine x_istore_n C (lo' := [(2, _), (3, _), (0, _), (1, _)]) dX2_manyOf_32 (by decide) rfl ?_
        refine x_iinc C (v := nI (i + 1)) (lo' := [(3, _), (2, _), (0, _), (1, _)]) dX2_manyOf_33 rfl (nI_inc _) (by decide) rfl ?_
        refine x_goto C (tgt := 4) dX2_manyOf_36 (by decide) ?_
        first
          | (have e9 : mWOL M e (i + 1) = mWOL M e i + 1 := (by show mWOL M e i + (if _ then _ else _) = _; rw [if_pos c23]); exact e9 ▸ ih (i + 1) hlt (by omega))
          | (have e9 : mWOL M e (i + 1) = mWOL M e i + 0 := (by show mWOL M e i + (if _ then _ else _) = _; rw [if_neg c23]); exact e9 ▸ ih (i + 1) hlt (by omega))
      · refine x_iconst C (v := 1) dX2_manyOf_26 (by decide) ?_
        refine x_goto C (tgt := 31) dX2_manyOf_27 (by decide) ?_
        refine x_iadd C dX2_manyOf_31 ?_
        refine x_istore_n C (lo' := [(2, _), (3, _), (0, _), (1, _)]) dX2_manyOf_32 (by decide) rfl ?_
        refine x_iinc C (v := nI (i + 1)) (lo' := [(3, _), (2, _), (0, _), (1, _)]) dX2_manyOf_33 rfl (nI_inc _) (by decide) rfl ?_
        refine x_goto C (tgt := 4) dX2_manyOf_36 (by decide) ?_
        first
          | (have e9 : mWOL M e (i + 1) = mWOL M e i + 1 := (by show mWOL M e i + (if _ then _ else _) = _; rw [if_pos c23]); exact e9 ▸ ih (i + 1) hlt (by omega))
          | (have e9 : mWOL M e (i + 1) = mWOL M e i + 0 := (by show mWOL M e i + (if _ then _ else _) = _; rw [if_neg c23]); exact e9 ▸ ih (i + 1) hlt (by omega))
set_option maxHeartbeats 1000000 in
set_option maxRecDepth 100000 in
theorem q2_manyOf (l : Launch) (g : GT) (M : Mem) (h : mOK M) (e : Int32) : CM l yX2_manyOf cX2_manyOf 4 (some .int) rmX2_manyOf g M [.ref (ga g 29), .int e] (some (.int (mWO M e))) (M) := by
  refine CM.of (by decide) (Nat.le_of_ble_eq_true rfl) (fun X C hq => ?_)
  have C : Cx X g l cX2_manyOf 4 RX2 (some .int) rmX2_manyOf := C
  show V X g 0 0 0 [(0, .ref (ga g 29)), (1, .int e)] [] M
  refine x_iconst C (v := 0) dX2_manyOf_0 (by decide) ?_
  refine x_istore_n C (lo' := [(2, _), (0, _), (1, _)]) dX2_manyOf_1 (by decide) rfl ?_
  refine x_iconst C (v := 0) dX2_manyOf_2 (by decide) ?_
  refine x_istore_n C (lo' := [(3, _), (2, _), (0, _), (1, _)]) dX2_manyOf_3 (by decide) rfl ?_
  exact x_lsub [0, 1, 2, 3] rfl (q2_manyOf_lp h C hq (mWs M + 1) 0 (Nat.zero_le _) (by omega))
abbrev rmX2_loudAt : Room := { frames := 2, cells := 0, slots := 0, locals := 44 }
set_option maxHeartbeats 1000000 in
set_option maxRecDepth 100000 in
theorem q2_loudAt (l : Launch) (g : GT) (M : Mem) (h : mOK M) (s : Int32) : CM l yX2_loudAt cX2_loudAt 2 (some .int) rmX2_loudAt g M [.ref (ga g 29), .int s] (some (.int (mLA M s))) (M) := by
  refine CM.of (by decide) (Nat.le_of_ble_eq_true rfl) (fun X C hq => ?_)
  have C : Cx X g l cX2_loudAt 2 RX2 (some .int) rmX2_loudAt := C
  show V X g 0 0 0 [(0, .ref (ga g 29)), (1, .int s)] [] M
  refine x_aload_n C dX2_loudAt_0 rfl ?_
  refine x_iload_n C dX2_loudAt_1 rfl ?_
  refine x_callV0r C (q2_loudest l g _ h s) cd_X2_loudest kl_X2_69 ci2 rfl (by decide) (as := [_]) rfl rfl ⟨⟨by decide, by decide⟩, by decide, by decide⟩ ⟨rfl, rfl⟩ (Nat.le_of_ble_eq_true rfl) dX2_loudAt_2 ?_
  refine x_iconst C (v := (-1)) dX2_loudAt_5 (by decide) ?_
  refine x_icmp_ne C (tgt := 13) dX2_loudAt_6 (by decide) (fun c6 => ?_) (fun c6 => ?_)
  · have hsh := h.sh
    have hb := (mLdL_or M s (mSh M) (by omega)).resolve_left c6
    have hb1 : 27 + tn (mLoudest M s) < 187 := by have := hb.2; unfold mLoudest; omega
    refine x_aload_n C dX2_loudAt_13 rfl ?_
    refine x_getR C fl_X2_22 rfl (by decide) rfl dX2_loudAt_14 ?_
    refine x_bipush C (v := 27) dX2_loudAt_17 (by decide) ?_
    refine x_aload_n C dX2_loudAt_19 rfl ?_
    refine x_iload_n C dX2_loudAt_20 rfl ?_
    refine x_callV0r C (q2_loudest l g _ h s) cd_X2_loudest kl_X2_69 ci2 rfl (by decide) (as := [_]) rfl rfl ⟨⟨by decide, by decide⟩, by decide, by decide⟩ ⟨rfl, rfl⟩ (Nat.le_of_ble_eq_true rfl) dX2_loudAt_21 ?_
    refine x_iadd C dX2_loudAt_24 ?_
    refine x_iald C (n := 187) rfl (by decide) rfl (ix_t 27 hb.1) (hb1) dX2_loudAt_25 ?_
    exact x_iret C hq ⟨by decide, by decide⟩ dX2_loudAt_26 (by first | (rw [mLA, if_pos c6]; done) | (rw [mLA, if_neg c6]; done)) (rfl)
  · refine x_iconst C (v := 0) dX2_loudAt_9 (by decide) ?_
    refine x_goto C (tgt := 26) dX2_loudAt_10 (by decide) ?_
    exact x_iret C hq ⟨by decide, by decide⟩ dX2_loudAt_26 (by first | (rw [mLA, if_pos c6]; done) | (rw [mLA, if_neg c6]; done)) (rfl)
abbrev rmX2_place : Room := { frames := 1, cells := 0, slots := 0, locals := 21 }
set_option maxHeartbeats 1000000 in
set_option maxRecDepth 100000 in
theorem q2_place (l : Launch) (g : GT) (M : Mem) (k : Nat) (hk : k < 40) : CM l yX2_place cX2_place 2 (some .int) rmX2_place g M [.ref (ga g 29), .int (nI k)] (some (.int (mPl M k))) (M) := by
  refine CM.of (by decide) (Nat.le_of_ble_eq_true rfl) (fun X C hq => ?_)
  have C : Cx X g l cX2_place 2 RX2 (some .int) rmX2_place := C
  show V X g 0 0 0 [(0, .ref (ga g 29)), (1, .int (nI k))] [] M
  refine x_aload_n C dX2_place_0 rfl ?_
  refine x_iload_n C dX2_place_1 rfl ?_
  refine x_callV0r C (q2_goes l g _ k hk) cd_X2_goes kl_X2_66 ci2 rfl (by decide) (as := [_]) rfl rfl ⟨⟨by decide, by decide⟩, by decide, by decide⟩ ⟨rfl, rfl⟩ (Nat.le_of_ble_eq_true rfl) dX2_place_2 ?_
  refine x_bif_eq C (tgt := 20) dX2_place_5 (by decide) (fun c5 => ?_) (fun c5 => ?_)
  · refine x_iconst C (v := (-1)) dX2_place_20 (by decide) ?_
    exact x_iret C hq ⟨by decide, by decide⟩ dX2_place_21 (by first | (rw [mPl, if_pos c5]; done) | (rw [mPl, if_neg c5]; done)) (rfl)
  · refine x_aload_n C dX2_place_8 rfl ?_
    refine x_getR C fl_X2_22 rfl (by decide) rfl dX2_place_9 ?_
    refine x_bipush C (v := 67) dX2_place_12 (by decide) ?_
    refine x_iload_n C dX2_place_14 rfl ?_
    refine x_iadd C dX2_place_15 ?_
    refine x_iald C (n := 187) rfl (by decide) rfl (nI_add 67 k) ((by omega : 67 + k < 187)) dX2_place_16 ?_
    refine x_goto C (tgt := 21) dX2_place_17 (by decide) ?_
    exact x_iret C hq ⟨by decide, by decide⟩ dX2_place_21 (by first | (rw [mPl, if_pos c5]; done) | (rw [mPl, if_neg c5]; done)) (rfl)
abbrev rmX2_isRight : Room := { frames := 1, cells := 0, slots := 0, locals := 21 }
set_option maxHeartbeats 1000000 in
set_option maxRecDepth 100000 in
theorem q2_isRight (l : Launch) (g : GT) (M : Mem) (k : Nat) (hk : k < 40) : CM l yX2_isRight cX2_isRight 2 (some .boolean) rmX2_isRight g M [.ref (ga g 29), .int (nI k)] (some (.int (b2i (mRt M k)))) (M) := by
  refine CM.of (by decide) (Nat.le_of_ble_eq_true rfl) (fun X C hq => ?_)
  have C : Cx X g l cX2_isRight 2 RX2 (some .boolean) rmX2_isRight := C
  show V X g 0 0 0 [(0, .ref (ga g 29)), (1, .int (nI k))] [] M
  refine x_aload_n C dX2_isRight_0 rfl ?_
  refine x_iload_n C dX2_isRight_1 rfl ?_
  refine x_callV0r C (q2_goes l g _ k hk) cd_X2_goes kl_X2_66 ci2 rfl (by decide) (as := [_]) rfl rfl ⟨⟨by decide, by decide⟩, by decide, by decide⟩ ⟨rfl, rfl⟩ (Nat.le_of_ble_eq_true rfl) dX2_isRight_2 ?_
  refine x_bif_eq C (tgt := 24) dX2_isRight_5 (by decide) (fun c5 => ?_) (fun c5 => ?_)
  · refine x_iconst C (v := 0) dX2_isRight_24 (by decide) ?_
    exact x_zret C hq (by decide) ⟨by decide, by decide⟩ dX2_isRight_25 (by first | exact rb_t ⟨c5, Int32.not_le.mp c17⟩ | exact rb_f (fun z => c17 |> (Int32.not_le.mpr z.2)) | exact rb_f (fun z => c5 z.1)) (rfl)
  · refine x_aload_n C dX2_isRight_8 rfl ?_
    refine x_getR C fl_X2_22 rfl (by decide) rfl dX2_isRight_9 ?_
    refine x_bipush C (v := 107) dX2_isRight_12 (by decide) ?_
    refine x_iload_n C dX2_isRight_14 rfl ?_
    refine x_iadd C dX2_isRight_15 ?_
    refine x_iald C (n := 187) rfl (by decide) rfl (nI_add 107 k) ((by omega : 107 + k < 187)) dX2_isRight_16 ?_
    refine x_if_le C (tgt := 24) dX2_isRight_17 (by decide) (fun c17 => ?_) (fun c17 => ?_)
    · refine x_iconst C (v := 0) dX2_isRight_24 (by decide) ?_
      exact x_zret C hq (by decide) ⟨by decide, by decide⟩ dX2_isRight_25 (by first | exact rb_t ⟨c5, Int32.not_le.mp c17⟩ | exact rb_f (fun z => c17 |> (Int32.not_le.mpr z.2)) | exact rb_f (fun z => c5 z.1)) (rfl)
    · refine x_iconst C (v := 1) dX2_isRight_20 (by decide) ?_
      refine x_goto C (tgt := 25) dX2_isRight_21 (by decide) ?_
      exact x_zret C hq (by decide) ⟨by decide, by decide⟩ dX2_isRight_25 (by first | exact rb_t ⟨c5, Int32.not_le.mp c17⟩ | exact rb_f (fun z => c17 |> (Int32.not_le.mpr z.2)) | exact rb_f (fun z => c5 z.1)) (rfl)
abbrev rmX2_next : Room := { frames := 2, cells := 0, slots := 0, locals := 42 }
set_option maxHeartbeats 1000000 in
set_option maxRecDepth 100000 in
theorem q2_next_lp {X : XT} {l : Launch} {g : GT} {M : Mem} {way fr : Int32} {r : Option Value} (h : mOK M) (hw : way = 1 ∨ way = -1) (C : Cx X g l cX2_next 4 RX2 (some .int) rmX2_next) (hq : Rt X g rmX2_next r M) : ∀ (n : Nat) (s : Int32), (-1 ≤ s.toInt ∧ s.toInt ≤ 32) → ((way = 1 ∧ 32 - s.toInt < n) ∨ (way = -1 ∧ s.toInt + 1 < n)) → some (.int (mNx M way n s)) = r → V X g 0 0 4 [(3, .int s), (0, .ref (ga g 29)), (1, .int fr), (2, .int way)] [] M := by
  intro n
  induction n with
  | zero =>
    intro s h1 h2; omega
  | succ n ih =>
    intro s h1 h2 hr
    refine x_iload_n C dX2_next_4 rfl ?_
    refine x_callS0r C (q2_isStone l g _ _) cd_X2_isStone kl_X2_58 (as := [_]) rfl rfl ⟨⟨by decide, by decide⟩, by decide, by decide⟩ ⟨rfl, rfl⟩ (Nat.le_of_ble_eq_true rfl) dX2_next_5 ?_
    refine x_bif_eq C (tgt := 30) dX2_next_8 (by decide) (fun c8 => ?_) (fun c8 => ?_)
    · refine x_iconst C (v := (-1)) dX2_next_30 (by decide) ?_
      exact x_iret C hq ⟨by decide, by decide⟩ dX2_next_31 (by rw [← hr]; unfold mNx; rw [if_neg c8]) (rfl)
    · have hs := tn31 c8
      refine x_aload_n C dX2_next_11 rfl ?_
      refine x_getR C fl_X2_13 rfl (by decide) rfl dX2_next_12 ?_
      refine x_iload_n C dX2_next_15 rfl ?_
      refine x_iald C (n := 32) rfl (by decide) rfl (nI_tn c8.1) (hs) dX2_next_16 ?_
      refine x_iconst C (v := (-1)) dX2_next_17 (by decide) ?_
      refine x_icmp_eq C (tgt := 23) dX2_next_18 (by decide) (fun c18 => ?_) (fun c18 => ?_)
      · skip
        refine x_iload_n C dX2_next_23 rfl ?_
        refine x_iload_n C dX2_next_24 rfl ?_
        refine x_iadd C dX2_next_25 ?_
        refine x_istore_n C (lo' := [(3, _), (0, _), (1, _), (2, _)]) dX2_next_26 (by decide) rfl ?_
        refine x_goto C (tgt := 4) dX2_next_27 (by decide) ?_
        have a1 := i_le.mp c8.1
        have a2 := i_le.mp c8.2
        rw [i_c0] at a1; rw [i_c31] at a2
        have e : some (Value.int (mNx M way n (s + way))) = r := by rw [← hr]; conv => rhs; unfold mNx; rw [if_pos c8, if_pos c18]
        rcases hw with rfl | rfl
        · have q : (s + 1).toInt = s.toInt + 1 := by rw [i_add] <;> rw [i_c1] <;> omega
          exact ih _ (by omega) (by rw [q]; rcases h2 with z | z <;> first | (left; refine ⟨rfl, ?_⟩; omega) | (exact absurd z.1 (by decide))) e
        · have q : (s + -1).toInt = s.toInt + -1 := by rw [i_add] <;> rw [i_cm] <;> omega
          exact ih _ (by omega) (by rw [q]; rcases h2 with z | z <;> first | (right; refine ⟨rfl, ?_⟩; omega) | (exact absurd z.1 (by decide))) e
      · refine x_iload_n C dX2_next_21 rfl ?_
        exact x_iret C hq ⟨by decide, by decide⟩ dX2_next_22 (by rw [← hr]; unfold mNx; rw [if_pos c8, if_neg c18]) (rfl)
set_option maxHeartbeats 1000000 in
set_option maxRecDepth 100000 in
theorem q2_next (l : Launch) (g : GT) (M : Mem) (h : mOK M) (fr way : Int32) (hf : 0 ≤ fr ∧ fr ≤ 31) (hw : way = 1 ∨ way = -1) : CM l yX2_next cX2_next 4 (some .int) rmX2_next g M [.ref (ga g 29), .int fr, .int way] (some (.int (mNx M way 34 (fr + way)))) (M) := by
  refine CM.of (by decide) (Nat.le_of_ble_eq_true rfl) (fun X C hq => ?_)
  have C : Cx X g l cX2_next 4 RX2 (some .int) rmX2_next := C
  show V X g 0 0 0 [(0, .ref (ga g 29)), (1, .int fr), (2, .int way)] [] M
  refine x_iload_n C dX2_next_0 rfl ?_
  refine x_iload_n C dX2_next_1 rfl ?_
  refine x_iadd C dX2_next_2 ?_
  refine x_istore_n C (lo' := [(3, _), (0, _), (1, _), (2, _)]) dX2_next_3 (by decide) rfl ?_
  have a1 := i_le.mp hf.1
  have a2 := i_le.mp hf.2
  rw [i_c0] at a1; rw [i_c31] at a2
  have q : (fr + way).toInt = fr.toInt + way.toInt := by rcases hw with rfl | rfl <;> rw [i_add] <;> (first | rw [i_c1] | rw [i_cm]) <;> omega
  refine q2_next_lp h hw C hq 34 (fr + way) ?_ ?_ rfl
  · rw [q]; rcases hw with rfl | rfl
    · rw [i_c1]; omega
    · rw [i_cm]; omega
  · rw [q]; rcases hw with rfl | rfl
    · left; refine ⟨rfl, ?_⟩; rw [i_c1]; omega
    · right; refine ⟨rfl, ?_⟩; rw [i_cm]; omega
theorem mKeep_ok {M : Mem} (h : mOK M) : mOK (mKeep M) := ⟨h.1, h.2.1, h.2.2.1, h.2.2.2⟩
abbrev rmX2_untilGone : Room := { frames := 4, cells := 0, slots := 0, locals := 97 }
set_option maxHeartbeats 1000000 in
set_option maxRecDepth 100000 in
theorem q2_untilGone_lp {X : XT} {l : Launch} {g : GT} {M : Mem} {k t : Nat} (h : mOK M) (hk : k < 40) (ht : ∀ j, j < t → 0 < mBeats (mKeep M) j 34 (27 + k)) (ht2 : ¬ 0 < mBeats (mKeep M) t 34 (27 + k)) (C : Cx X g l cX2_untilGone 3 RX2 (some .int) rmX2_untilGone) (hq : Rt X g rmX2_untilGone (some (.int (nI t))) (mBack (mBeats (mKeep M) t))) : ∀ (n i : Nat), i ≤ t → t + 1 ≤ i + n → V X g 0 0 6 [(2, .int (nI i)), (0, .ref (ga g 29)), (1, .int (nI k))] [] (mBeats (mKeep M) i) := by
  intro n
  induction n with
  | zero =>
    intro i h1 h2; omega
  | succ n ih =>
    intro i h1 h2
    refine x_aload_n C dX2_untilGone_6 rfl ?_
    refine x_iload_n C dX2_untilGone_7 rfl ?_
    refine x_callV0r C (q2_goes l g _ k hk) cd_X2_goes kl_X2_66 ci2 rfl (by decide) (as := [_]) rfl rfl ⟨⟨by decide, by decide⟩, by decide, by decide⟩ ⟨rfl, rfl⟩ (Nat.le_of_ble_eq_true rfl) dX2_untilGone_8 ?_
    refine x_bif_eq C (tgt := 24) dX2_untilGone_11 (by decide) (fun c11 => ?_) (fun c11 => ?_)
    · have he : i = t := by
        rcases Nat.lt_or_ge i t with z | z
        · exact absurd (ht i z) c11
        · omega
      subst he
      refine x_aload_n C dX2_untilGone_24 rfl ?_
      refine x_callV0v C (q2_bringBack l g _) cd_X2_bringBack kl_X2_136 ci2 rfl (by decide) (as := []) rfl rfl ⟨⟨by decide, by decide⟩, by decide, by decide⟩ ⟨rfl, rfl⟩ (Nat.le_of_ble_eq_true rfl) dX2_untilGone_25 ?_
      refine x_iload_n C dX2_untilGone_28 rfl ?_
      exact x_iret C hq ⟨by decide, by decide⟩ dX2_untilGone_29 (rfl) (rfl)
    · have hlt : i < t := by
        rcases Nat.lt_or_ge i t with z | z
        · exact z
        · exact absurd (show 0 < mBeats (mKeep M) t 34 (27 + k) by rw [show t = i by omega]; exact c11) ht2
      refine x_aload_n C dX2_untilGone_14 rfl ?_
      refine x_callV0v C (q2_beatOn l g _ (mBeats_ok (mKeep_ok h) i).1) cd_X2_beatOn kl_X2_86 ci2 rfl (by decide) (as := []) rfl rfl ⟨⟨by decide, by decide⟩, by decide, by decide⟩ ⟨rfl, rfl⟩ (Nat.le_of_ble_eq_true rfl) dX2_untilGone_15 ?_
      refine x_iinc C (v := nI (i + 1)) (lo' := [(2, _), (0, _), (1, _)]) dX2_untilGone_18 rfl (nI_inc _) (by decide) rfl ?_
      refine x_goto C (tgt := 6) dX2_untilGone_21 (by decide) ?_
      exact ih (i + 1) hlt (by omega)
set_option maxHeartbeats 1000000 in
set_option maxRecDepth 100000 in
theorem q2_untilGone (l : Launch) (g : GT) (M : Mem) (h : mOK M) (k t : Nat) (hk : k < 40) (ht : ∀ j, j < t → 0 < mBeats (mKeep M) j 34 (27 + k)) (ht2 : ¬ 0 < mBeats (mKeep M) t 34 (27 + k)) : CM l yX2_untilGone cX2_untilGone 3 (some .int) rmX2_untilGone g M [.ref (ga g 29), .int (nI k)] (some (.int (nI t))) (mBack (mBeats (mKeep M) t)) := by
  refine CM.of (by decide) (Nat.le_of_ble_eq_true rfl) (fun X C hq => ?_)
  have C : Cx X g l cX2_untilGone 3 RX2 (some .int) rmX2_untilGone := C
  show V X g 0 0 0 [(0, .ref (ga g 29)), (1, .int (nI k))] [] M
  refine x_aload_n C dX2_untilGone_0 rfl ?_
  refine x_callV0v C (q2_keep l g _) cd_X2_keep kl_X2_133 ci2 rfl (by decide) (as := []) rfl rfl ⟨⟨by decide, by decide⟩, by decide, by decide⟩ ⟨rfl, rfl⟩ (Nat.le_of_ble_eq_true rfl) dX2_untilGone_1 ?_
  refine x_iconst C (v := 0) dX2_untilGone_4 (by decide) ?_
  refine x_istore_n C (lo' := [(2, _), (0, _), (1, _)]) dX2_untilGone_5 (by decide) rfl ?_
  exact x_mem (M' := mKeep M) rfl (x_lsub [0, 1, 2] rfl (q2_untilGone_lp h hk ht ht2 C hq (t + 1) 0 (Nat.zero_le _) (by omega)))
abbrev rmX2_untilQuiet : Room := { frames := 4, cells := 0, slots := 0, locals := 97 }
set_option maxHeartbeats 1000000 in
set_option maxRecDepth 100000 in
theorem q2_untilQuiet_lp {X : XT} {l : Launch} {g : GT} {M : Mem} {t : Nat} (h : mOK M) (ht : ∀ j, j < t → 0 < mMany (mBeats (mKeep M) j)) (ht2 : ¬ 0 < mMany (mBeats (mKeep M) t)) (C : Cx X g l cX2_untilQuiet 2 RX2 (some .int) rmX2_untilQuiet) (hq : Rt X g rmX2_untilQuiet (some (.int (nI t))) (mBack (mBeats (mKeep M) t))) : ∀ (n i : Nat), i ≤ t → t + 1 ≤ i + n → V X g 0 0 6 [(1, .int (nI i)), (0, .ref (ga g 29))] [] (mBeats (mKeep M) i) := by
  intro n
  induction n with
  | zero =>
    intro i h1 h2; omega
  | succ n ih =>
    intro i h1 h2
    refine x_aload_n C dX2_untilQuiet_6 rfl ?_
    refine x_callV0r C (q2_many l g _ (mBeats_ok (mKeep_ok h) i).1) cd_X2_many kl_X2_98 ci2 rfl (by decide) (as := []) rfl rfl ⟨⟨by decide, by decide⟩, by decide, by decide⟩ ⟨rfl, rfl⟩ (Nat.le_of_ble_eq_true rfl) dX2_untilQuiet_7 ?_
    refine x_if_le C (tgt := 23) dX2_untilQuiet_10 (by decide) (fun c10 => ?_) (fun c10 => ?_)
    · have he : i = t := by
        rcases Nat.lt_or_ge i t with z | z
        · exact absurd c10 (Int32.not_le.mpr (ht i z))
        · omega
      subst he
      refine x_aload_n C dX2_untilQuiet_23 rfl ?_
      refine x_callV0v C (q2_bringBack l g _) cd_X2_bringBack kl_X2_136 ci2 rfl (by decide) (as := []) rfl rfl ⟨⟨by decide, by decide⟩, by decide, by decide⟩ ⟨rfl, rfl⟩ (Nat.le_of_ble_eq_true rfl) dX2_untilQuiet_24 ?_
      refine x_iload_n C dX2_untilQuiet_27 rfl ?_
      exact x_iret C hq ⟨by decide, by decide⟩ dX2_untilQuiet_28 (rfl) (rfl)
    · have hlt : i < t := by
        rcases Nat.lt_or_ge i t with z | z
        · exact z
        · exact absurd (show 0 < mMany (mBeats (mKeep M) t) by rw [show t = i by omega]; exact Int32.not_le.mp c10) ht2
      refine x_aload_n C dX2_untilQuiet_13 rfl ?_
      refine x_callV0v C (q2_beatOn l g _ (mBeats_ok (mKeep_ok h) i).1) cd_X2_beatOn kl_X2_86 ci2 rfl (by decide) (as := []) rfl rfl ⟨⟨by decide, by decide⟩, by decide, by decide⟩ ⟨rfl, rfl⟩ (Nat.le_of_ble_eq_true rfl) dX2_untilQuiet_14 ?_
      refine x_iinc C (v := nI (i + 1)) (lo' := [(1, _), (0, _)]) dX2_untilQuiet_17 rfl (nI_inc _) (by decide) rfl ?_
      refine x_goto C (tgt := 6) dX2_untilQuiet_20 (by decide) ?_
      exact ih (i + 1) hlt (by omega)
set_option maxHeartbeats 1000000 in
set_option maxRecDepth 100000 in
theorem q2_untilQuiet (l : Launch) (g : GT) (M : Mem) (h : mOK M) (t : Nat) (ht : ∀ j, j < t → 0 < mMany (mBeats (mKeep M) j)) (ht2 : ¬ 0 < mMany (mBeats (mKeep M) t)) : CM l yX2_untilQuiet cX2_untilQuiet 2 (some .int) rmX2_untilQuiet g M [.ref (ga g 29)] (some (.int (nI t))) (mBack (mBeats (mKeep M) t)) := by
  refine CM.of (by decide) (Nat.le_of_ble_eq_true rfl) (fun X C hq => ?_)
  have C : Cx X g l cX2_untilQuiet 2 RX2 (some .int) rmX2_untilQuiet := C
  show V X g 0 0 0 [(0, .ref (ga g 29))] [] M
  refine x_aload_n C dX2_untilQuiet_0 rfl ?_
  refine x_callV0v C (q2_keep l g _) cd_X2_keep kl_X2_133 ci2 rfl (by decide) (as := []) rfl rfl ⟨⟨by decide, by decide⟩, by decide, by decide⟩ ⟨rfl, rfl⟩ (Nat.le_of_ble_eq_true rfl) dX2_untilQuiet_1 ?_
  refine x_iconst C (v := 0) dX2_untilQuiet_4 (by decide) ?_
  refine x_istore_n C (lo' := [(1, _), (0, _)]) dX2_untilQuiet_5 (by decide) rfl ?_
  exact x_mem (M' := mKeep M) rfl (q2_untilQuiet_lp h ht ht2 C hq (t + 1) 0 (Nat.zero_le _) (by omega))
abbrev rmX2_earns : Room := { frames := 5, cells := 0, slots := 0, locals := 119 }
set_option maxHeartbeats 1000000 in
set_option maxRecDepth 100000 in
theorem q2_earns (l : Launch) (g : GT) (M : Mem) (h : mOK M) (e : Nat) (he : e < 2) (b : Int32) (hb : 0 ≤ b) : CM l yX2_earns cX2_earns 4 (some .int) rmX2_earns g M [.ref (ga g 29), .int (nI e), .int b] (some (.int (mBeats (mKeep M) (tn b) 34 (3 + e) - mBack (mBeats (mKeep M) (tn b)) 34 (3 + e)))) (mBack (mBeats (mKeep M) (tn b))) := by
  refine CM.of (by decide) (Nat.le_of_ble_eq_true rfl) (fun X C hq => ?_)
  have C : Cx X g l cX2_earns 4 RX2 (some .int) rmX2_earns := C
  show V X g 0 0 0 [(0, .ref (ga g 29)), (1, .int (nI e)), (2, .int b)] [] M
  refine x_aload_n C dX2_earns_0 rfl ?_
  refine x_callV0v C (q2_keep l g _) cd_X2_keep kl_X2_133 ci2 rfl (by decide) (as := []) rfl rfl ⟨⟨by decide, by decide⟩, by decide, by decide⟩ ⟨rfl, rfl⟩ (Nat.le_of_ble_eq_true rfl) dX2_earns_1 ?_
  refine x_aload_n C dX2_earns_4 rfl ?_
  refine x_iload_n C dX2_earns_5 rfl ?_
  refine x_callV0v C (q2_beatsOn l g _ (mKeep_ok h) b hb) cd_X2_beatsOn kl_X2_105 ci2 rfl (by decide) (as := [_]) rfl rfl ⟨⟨by decide, by decide⟩, by decide, by decide⟩ ⟨rfl, rfl⟩ (Nat.le_of_ble_eq_true rfl) dX2_earns_6 ?_
  refine x_aload_n C dX2_earns_9 rfl ?_
  refine x_getR C fl_X2_22 rfl (by decide) rfl dX2_earns_10 ?_
  refine x_iconst C (v := 3) dX2_earns_13 (by decide) ?_
  refine x_iload_n C dX2_earns_14 rfl ?_
  refine x_iadd C dX2_earns_15 ?_
  refine x_iald C (n := 187) rfl (by decide) rfl (nI_add 3 e) ((by omega : 3 + e < 187)) dX2_earns_16 ?_
  refine x_istore_n C (lo' := [(3, _), (0, _), (1, _), (2, _)]) dX2_earns_17 (by decide) rfl ?_
  refine x_aload_n C dX2_earns_18 rfl ?_
  refine x_callV0v C (q2_bringBack l g _) cd_X2_bringBack kl_X2_136 ci2 rfl (by decide) (as := []) rfl rfl ⟨⟨by decide, by decide⟩, by decide, by decide⟩ ⟨rfl, rfl⟩ (Nat.le_of_ble_eq_true rfl) dX2_earns_19 ?_
  refine x_iload_n C dX2_earns_22 rfl ?_
  refine x_aload_n C dX2_earns_23 rfl ?_
  refine x_getR C fl_X2_22 rfl (by decide) rfl dX2_earns_24 ?_
  refine x_iconst C (v := 3) dX2_earns_27 (by decide) ?_
  refine x_iload_n C dX2_earns_28 rfl ?_
  refine x_iadd C dX2_earns_29 ?_
  refine x_iald C (n := 187) rfl (by decide) rfl (nI_add 3 e) ((by omega : 3 + e < 187)) dX2_earns_30 ?_
  refine x_isub C dX2_earns_31 ?_
  exact x_iret C hq ⟨by decide, by decide⟩ dX2_earns_32 (rfl) (rfl)
abbrev rmX2_loses : Room := { frames := 2, cells := 0, slots := 0, locals := 42 }
set_option maxHeartbeats 1000000 in
set_option maxRecDepth 100000 in
theorem q2_loses_end {X : XT} {l : Launch} {g : GT} {M : Mem} {there fr wy s way lost : Int32} {r : Option Value} (C : Cx X g l cX2_loses 7 RX2 (some .int) rmX2_loses) (hq : Rt X g rmX2_loses r M) (hm : 0 ≤ lost.toInt ∧ 99 < lost.toInt + (0 : Nat) ∧ lost.toInt ≤ 200) (hr : some (.int (mLs M there 0 s way lost)) = r) : V X g 0 0 9 [(6, .int lost), (5, .int way), (4, .int s), (0, .ref (ga g 29)), (1, .int fr), (2, .int wy), (3, .int there)] [] M := by
  refine x_iload C dX2_loses_9 rfl ?_
  refine x_bipush C (v := 99) dX2_loses_11 (by decide) ?_
  refine x_icmp_ge C (tgt := 90) dX2_loses_13 (by decide) (fun c13 => ?_) (fun c13 => absurd (i_le.mpr (by rw [i_c99]; omega)) c13)
  refine x_iload C dX2_loses_90 rfl ?_
  exact x_iret C hq ⟨by decide, by decide⟩ dX2_loses_92 (hr.symm) (rfl)
set_option maxHeartbeats 1000000 in
set_option maxRecDepth 100000 in
theorem q2_loses_lp {X : XT} {l : Launch} {g : GT} {M : Mem} {there fr wy : Int32} {r : Option Value} (h : mOK M) (h2 : mOK2 M) (C : Cx X g l cX2_loses 7 RX2 (some .int) rmX2_loses) (hq : Rt X g rmX2_loses r M) : ∀ (n : Nat) (s way lost : Int32), (0 ≤ lost.toInt ∧ 99 < lost.toInt + n ∧ lost.toInt ≤ 200) → some (.int (mLs M there n s way lost)) = r → V X g 0 0 9 [(6, .int lost), (5, .int way), (4, .int s), (0, .ref (ga g 29)), (1, .int fr), (2, .int wy), (3, .int there)] [] M := by
  intro n
  induction n with
  | zero =>
    intro s way lost hm hr; exact q2_loses_end C hq hm hr
  | succ n ih =>
    intro s way lost hm hr
    refine x_iload C dX2_loses_9 rfl ?_
    refine x_bipush C (v := 99) dX2_loses_11 (by decide) ?_
    refine x_icmp_ge C (tgt := 90) dX2_loses_13 (by decide) (fun c13 => ?_) (fun c13 => ?_)
    · refine x_iload C dX2_loses_90 rfl ?_
      exact x_iret C hq ⟨by decide, by decide⟩ dX2_loses_92 (by rw [← hr]; unfold mLs; rw [if_pos c13]) (rfl)
    · have c13b := c13
      refine x_iload C dX2_loses_16 rfl ?_
      refine x_iload C dX2_loses_18 rfl ?_
      refine x_iadd C dX2_loses_20 ?_
      refine x_istore C (lo' := [(4, _), (6, _), (5, _), (0, _), (1, _), (2, _), (3, _)]) dX2_loses_21 (by decide) rfl ?_
      refine x_iload C dX2_loses_23 rfl ?_
      refine x_callS0r C (q2_isStone l g _ _) cd_X2_isStone kl_X2_58 (as := [_]) rfl rfl ⟨⟨by decide, by decide⟩, by decide, by decide⟩ ⟨rfl, rfl⟩ (Nat.le_of_ble_eq_true rfl) dX2_loses_25 ?_
      refine x_bif_ne C (tgt := 34) dX2_loses_28 (by decide) (fun c28 => ?_) (fun c28 => ?_)
      · have hs := tn31 c28
        have hsn := h2.1 _ hs
        have hw0 := h.2.2.1 _ hs
        refine x_iload C dX2_loses_34 rfl ?_
        refine x_iconst C (v := 1) dX2_loses_36 (by decide) ?_
        refine x_aload_n C dX2_loses_37 rfl ?_
        refine x_getR C fl_X2_9 rfl (by decide) rfl dX2_loses_38 ?_
        refine x_iload C dX2_loses_41 rfl ?_
        refine x_iald C (n := 32) rfl (by decide) rfl (nI_tn c28.1) (hs) dX2_loses_43 ?_
        refine x_iadd C dX2_loses_44 ?_
        refine x_iadd C dX2_loses_45 ?_
        refine x_istore C (lo' := [(6, _), (4, _), (5, _), (0, _), (1, _), (2, _), (3, _)]) dX2_loses_46 (by decide) rfl ?_
        refine x_aload_n C dX2_loses_48 rfl ?_
        refine x_getR C fl_X2_13 rfl (by decide) rfl dX2_loses_49 ?_
        refine x_iload C dX2_loses_52 rfl ?_
        refine x_iald C (n := 32) rfl (by decide) rfl (nI_tn c28.1) (hs) dX2_loses_54 ?_
        refine x_iconst C (v := (-1)) dX2_loses_55 (by decide) ?_
        refine x_icmp_eq C (tgt := 81) dX2_loses_56 (by decide) (fun c56 => ?_) (fun c56 => ?_)
        · refine x_iload C dX2_loses_81 rfl ?_
          refine x_iload_n C dX2_loses_83 rfl ?_
          refine x_icmp_ne C (tgt := 9) dX2_loses_84 (by decide) (fun c84 => ?_) (fun c84 => ?_)
          · skip
            have a1 := i_lt.mp (Int32.not_le.mp c13b)
            rw [i_c99] at a1
            have b1 := i_le.mp hsn.1
            have b2 := i_le.mp hsn.2
            rw [i_c0] at b1; rw [i_c5] at b2
            have q0 : ((1 : Int32) + M 30 (tn (s + way))).toInt = 1 + (M 30 (tn (s + way))).toInt := by rw [i_add] <;> rw [i_c1] <;> omega
            have q1 : (lost + (1 + M 30 (tn (s + way)))).toInt = lost.toInt + (1 + (M 30 (tn (s + way))).toInt) := by rw [i_add] <;> rw [q0] <;> omega
            first
              | (have e : some (Value.int (mLs M there n (s + way) way (lost + (1 + M 30 (tn (s + way)))))) = r := (by rw [← hr]; conv => rhs; unfold mLs; rw [if_neg c13, if_pos c28, if_pos c56, if_neg c84])
                 exact x_lsub [0, 2, 1, 3, 4, 5, 6] rfl (ih _ _ _ (by rw [q1]; omega) e))
              | (have d1 := i_le.mp hso.1
                 have d2 := i_le.mp hso.2
                 rw [i_c0] at d1; rw [i_c5] at d2
                 have e : some (Value.int (mLs M there n (s + way) (-way) (lost + (1 + M 30 (tn (s + way))) + M 33 (tn (M 31 (tn (s + way))))))) = r := (by rw [← hr]; conv => rhs; unfold mLs; rw [if_neg c13, if_pos c28, if_neg c56, if_neg c84])
                 have q2 : (lost + (1 + M 30 (tn (s + way))) + M 33 (tn (M 31 (tn (s + way))))).toInt = lost.toInt + (1 + (M 30 (tn (s + way))).toInt) + (M 33 (tn (M 31 (tn (s + way))))).toInt := (by rw [i_add] <;> rw [q1] <;> omega)
                 exact x_lsub [0, 1, 2, 3, 4, 5, 6] rfl (ih _ _ _ (by rw [q2]; omega) e))
          · skip
            refine x_iload C dX2_loses_87 rfl ?_
            exact x_iret C hq ⟨by decide, by decide⟩ dX2_loses_89 (by first | (rw [← hr]; unfold mLs; rw [if_neg c13, if_pos c28, if_pos c56, if_pos c84]; done) | (rw [← hr]; unfold mLs; rw [if_neg c13, if_pos c28, if_neg c56, if_pos c84]; done)) (rfl)
        · have hw := hw0.resolve_left c56
          have hw9 := tn9 hw
          have hso := h2.2 _ hw9
          refine x_iload C dX2_loses_59 rfl ?_
          refine x_ineg C dX2_loses_61 ?_
          refine x_istore C (lo' := [(5, _), (6, _), (4, _), (0, _), (1, _), (2, _), (3, _)]) dX2_loses_62 (by decide) rfl ?_
          refine x_iload C dX2_loses_64 rfl ?_
          refine x_aload_n C dX2_loses_66 rfl ?_
          refine x_getR C fl_X2_19 rfl (by decide) rfl dX2_loses_67 ?_
          refine x_aload_n C dX2_loses_70 rfl ?_
          refine x_getR C fl_X2_13 rfl (by decide) rfl dX2_loses_71 ?_
          refine x_iload C dX2_loses_74 rfl ?_
          refine x_iald C (n := 32) rfl (by decide) rfl (nI_tn c28.1) (hs) dX2_loses_76 ?_
          refine x_iald C (n := 10) rfl (by decide) rfl (nI_tn hw.1) (hw9) dX2_loses_77 ?_
          refine x_iadd C dX2_loses_78 ?_
          refine x_istore C (lo' := [(6, _), (5, _), (4, _), (0, _), (1, _), (2, _), (3, _)]) dX2_loses_79 (by decide) rfl ?_
          refine x_iload C dX2_loses_81 rfl ?_
          refine x_iload_n C dX2_loses_83 rfl ?_
          refine x_icmp_ne C (tgt := 9) dX2_loses_84 (by decide) (fun c84 => ?_) (fun c84 => ?_)
          · skip
            have a1 := i_lt.mp (Int32.not_le.mp c13b)
            rw [i_c99] at a1
            have b1 := i_le.mp hsn.1
            have b2 := i_le.mp hsn.2
            rw [i_c0] at b1; rw [i_c5] at b2
            have q0 : ((1 : Int32) + M 30 (tn (s + way))).toInt = 1 + (M 30 (tn (s + way))).toInt := by rw [i_add] <;> rw [i_c1] <;> omega
            have q1 : (lost + (1 + M 30 (tn (s + way)))).toInt = lost.toInt + (1 + (M 30 (tn (s + way))).toInt) := by rw [i_add] <;> rw [q0] <;> omega
            first
              | (have e : some (Value.int (mLs M there n (s + way) way (lost + (1 + M 30 (tn (s + way)))))) = r := (by rw [← hr]; conv => rhs; unfold mLs; rw [if_neg c13, if_pos c28, if_pos c56, if_neg c84])
                 exact x_lsub [0, 2, 1, 3, 4, 5, 6] rfl (ih _ _ _ (by rw [q1]; omega) e))
              | (have d1 := i_le.mp hso.1
                 have d2 := i_le.mp hso.2
                 rw [i_c0] at d1; rw [i_c5] at d2
                 have e : some (Value.int (mLs M there n (s + way) (-way) (lost + (1 + M 30 (tn (s + way))) + M 33 (tn (M 31 (tn (s + way))))))) = r := (by rw [← hr]; conv => rhs; unfold mLs; rw [if_neg c13, if_pos c28, if_neg c56, if_neg c84])
                 have q2 : (lost + (1 + M 30 (tn (s + way))) + M 33 (tn (M 31 (tn (s + way))))).toInt = lost.toInt + (1 + (M 30 (tn (s + way))).toInt) + (M 33 (tn (M 31 (tn (s + way))))).toInt := (by rw [i_add] <;> rw [q1] <;> omega)
                 exact x_lsub [0, 1, 2, 3, 4, 5, 6] rfl (ih _ _ _ (by rw [q2]; omega) e))
          · skip
            refine x_iload C dX2_loses_87 rfl ?_
            exact x_iret C hq ⟨by decide, by decide⟩ dX2_loses_89 (by first | (rw [← hr]; unfold mLs; rw [if_neg c13, if_pos c28, if_pos c56, if_pos c84]; done) | (rw [← hr]; unfold mLs; rw [if_neg c13, if_pos c28, if_neg c56, if_pos c84]; done)) (rfl)
      · refine x_bipush C (v := 99) dX2_loses_31 (by decide) ?_
        exact x_iret C hq ⟨by decide, by decide⟩ dX2_loses_33 (by rw [← hr]; unfold mLs; rw [if_neg c13, if_neg c28]) (rfl)
set_option maxHeartbeats 1000000 in
set_option maxRecDepth 100000 in
theorem q2_loses (l : Launch) (g : GT) (M : Mem) (h : mOK M) (h2 : mOK2 M) (fr wy there : Int32) : CM l yX2_loses cX2_loses 7 (some .int) rmX2_loses g M [.ref (ga g 29), .int fr, .int wy, .int there] (some (.int (mLs M there 100 fr wy 0))) (M) := by
  refine CM.of (by decide) (Nat.le_of_ble_eq_true rfl) (fun X C hq => ?_)
  have C : Cx X g l cX2_loses 7 RX2 (some .int) rmX2_loses := C
  show V X g 0 0 0 [(0, .ref (ga g 29)), (1, .int fr), (2, .int wy), (3, .int there)] [] M
  refine x_iload_n C dX2_loses_0 rfl ?_
  refine x_istore C (lo' := [(4, _), (0, _), (1, _), (2, _), (3, _)]) dX2_loses_1 (by decide) rfl ?_
  refine x_iload_n C dX2_loses_3 rfl ?_
  refine x_istore C (lo' := [(5, _), (4, _), (0, _), (1, _), (2, _), (3, _)]) dX2_loses_4 (by decide) rfl ?_
  refine x_iconst C (v := 0) dX2_loses_6 (by decide) ?_
  refine x_istore C (lo' := [(6, _), (5, _), (4, _), (0, _), (1, _), (2, _), (3, _)]) dX2_loses_7 (by decide) rfl ?_
  exact x_lsub [0, 1, 2, 3, 4, 5, 6] rfl (q2_loses_lp h h2 C hq 100 fr wy 0 ⟨by decide, by decide, by decide⟩ rfl)
abbrev rmX2_turns : Room := { frames := 2, cells := 0, slots := 0, locals := 42 }
set_option maxHeartbeats 1000000 in
set_option maxRecDepth 100000 in
theorem q2_turns_end {X : XT} {l : Launch} {g : GT} {M : Mem} {fr ld s way left sum : Int32} {r : Option Value} (h2 : mOK2 M) (C : Cx X g l cX2_turns 7 RX2 (some .int) rmX2_turns) (hq : Rt X g rmX2_turns r M) (hm : left.toInt < (0 : Nat) ∧ -200 ≤ left.toInt ∧ left.toInt ≤ 200) (hr : some (.int (mTn M (0 + 1) s way left sum)) = r) : V X g 0 0 13 [(6, .int sum), (5, .int left), (4, .int way), (3, .int s), (0, .ref (ga g 29)), (1, .int fr), (2, .int ld)] [] M := by
  refine x_iload_n C dX2_turns_13 rfl ?_
  refine x_callS0r C (q2_isStone l g _ _) cd_X2_isStone kl_X2_58 (as := [_]) rfl rfl ⟨⟨by decide, by decide⟩, by decide, by decide⟩ ⟨rfl, rfl⟩ (Nat.le_of_ble_eq_true rfl) dX2_turns_14 ?_
  refine x_bif_eq C (tgt := 89) dX2_turns_17 (by decide) (fun c17 => ?_) (fun c17 => ?_)
  · refine x_iload C dX2_turns_89 rfl ?_
    exact x_iret C hq ⟨by decide, by decide⟩ dX2_turns_91 (by first | (rw [← hr]; unfold mTn; rw [if_neg (fun z => c17 z.1)]; done) | (rw [← hr]; unfold mTn; rw [if_neg (fun z => absurd c31 (Int32.not_le.mpr z.2))]; done)) (rfl)
  · have hs := tn31 c17
    have hsn := h2.1 _ hs
    refine x_iload C dX2_turns_20 rfl ?_
    refine x_iconst C (v := 1) dX2_turns_22 (by decide) ?_
    refine x_isub C dX2_turns_23 ?_
    refine x_aload_n C dX2_turns_24 rfl ?_
    refine x_getR C fl_X2_9 rfl (by decide) rfl dX2_turns_25 ?_
    refine x_iload_n C dX2_turns_28 rfl ?_
    refine x_iald C (n := 32) rfl (by decide) rfl (nI_tn c17.1) (hs) dX2_turns_29 ?_
    refine x_isub C dX2_turns_30 ?_
    refine x_if_le C (tgt := 89) dX2_turns_31 (by decide) (fun c31 => ?_) (fun c31 => (by
      exfalso
      have a1 := i_lt.mp (Int32.not_le.mp c31)
      rw [i_c0] at a1
      have b1 := i_le.mp hsn.1
      have b2 := i_le.mp hsn.2
      rw [i_c0] at b1; rw [i_c5] at b2
      have p1 : (left - 1).toInt = left.toInt - 1 := by rw [i_sub] <;> rw [i_c1] <;> omega
      have p2 : (left - 1 - M 30 (tn s)).toInt = left.toInt - 1 - (M 30 (tn s)).toInt := by rw [i_sub] <;> rw [p1] <;> omega
      omega))
    refine x_iload C dX2_turns_89 rfl ?_
    exact x_iret C hq ⟨by decide, by decide⟩ dX2_turns_91 (by first | (rw [← hr]; unfold mTn; rw [if_neg (fun z => c17 z.1)]; done) | (rw [← hr]; unfold mTn; rw [if_neg (fun z => absurd c31 (Int32.not_le.mpr z.2))]; done)) (rfl)
set_option maxHeartbeats 1000000 in
set_option maxRecDepth 100000 in
theorem q2_turns_lp {X : XT} {l : Launch} {g : GT} {M : Mem} {fr ld : Int32} {r : Option Value} (h : mOK M) (h2 : mOK2 M) (C : Cx X g l cX2_turns 7 RX2 (some .int) rmX2_turns) (hq : Rt X g rmX2_turns r M) : ∀ (n : Nat) (s way left sum : Int32), (left.toInt < n ∧ -200 ≤ left.toInt ∧ left.toInt ≤ 200) → some (.int (mTn M (n + 1) s way left sum)) = r → V X g 0 0 13 [(6, .int sum), (5, .int left), (4, .int way), (3, .int s), (0, .ref (ga g 29)), (1, .int fr), (2, .int ld)] [] M := by
  intro n
  induction n with
  | zero =>
    intro s way left sum hm hr; exact q2_turns_end h2 C hq hm hr
  | succ n ih =>
    intro s way left sum hm hr
    refine x_iload_n C dX2_turns_13 rfl ?_
    refine x_callS0r C (q2_isStone l g _ _) cd_X2_isStone kl_X2_58 (as := [_]) rfl rfl ⟨⟨by decide, by decide⟩, by decide, by decide⟩ ⟨rfl, rfl⟩ (Nat.le_of_ble_eq_true rfl) dX2_turns_14 ?_
    refine x_bif_eq C (tgt := 89) dX2_turns_17 (by decide) (fun c17 => ?_) (fun c17 => ?_)
    · refine x_iload C dX2_turns_89 rfl ?_
      exact x_iret C hq ⟨by decide, by decide⟩ dX2_turns_91 (by first | (rw [← hr]; unfold mTn; rw [if_neg (fun z => c17 z.1)]; done) | (rw [← hr]; unfold mTn; rw [if_neg (fun z => absurd c31 (Int32.not_le.mpr z.2))]; done)) (rfl)
    · have hs := tn31 c17
      have hsn := h2.1 _ hs
      have hw0 := h.2.2.1 _ hs
      refine x_iload C dX2_turns_20 rfl ?_
      refine x_iconst C (v := 1) dX2_turns_22 (by decide) ?_
      refine x_isub C dX2_turns_23 ?_
      refine x_aload_n C dX2_turns_24 rfl ?_
      refine x_getR C fl_X2_9 rfl (by decide) rfl dX2_turns_25 ?_
      refine x_iload_n C dX2_turns_28 rfl ?_
      refine x_iald C (n := 32) rfl (by decide) rfl (nI_tn c17.1) (hs) dX2_turns_29 ?_
      refine x_isub C dX2_turns_30 ?_
      refine x_if_le C (tgt := 89) dX2_turns_31 (by decide) (fun c31 => ?_) (fun c31 => ?_)
      · refine x_iload C dX2_turns_89 rfl ?_
        exact x_iret C hq ⟨by decide, by decide⟩ dX2_turns_91 (by first | (rw [← hr]; unfold mTn; rw [if_neg (fun z => c17 z.1)]; done) | (rw [← hr]; unfold mTn; rw [if_neg (fun z => absurd c31 (Int32.not_le.mpr z.2))]; done)) (rfl)
      · have c31b := Int32.not_le.mp c31
        refine x_iload C dX2_turns_34 rfl ?_
        refine x_iconst C (v := 1) dX2_turns_36 (by decide) ?_
        refine x_aload_n C dX2_turns_37 rfl ?_
        refine x_getR C fl_X2_9 rfl (by decide) rfl dX2_turns_38 ?_
        refine x_iload_n C dX2_turns_41 rfl ?_
        refine x_iald C (n := 32) rfl (by decide) rfl (nI_tn c17.1) (hs) dX2_turns_42 ?_
        refine x_iadd C dX2_turns_43 ?_
        refine x_isub C dX2_turns_44 ?_
        refine x_istore C (lo' := [(5, _), (6, _), (4, _), (3, _), (0, _), (1, _), (2, _)]) dX2_turns_45 (by decide) rfl ?_
        refine x_aload_n C dX2_turns_47 rfl ?_
        refine x_getR C fl_X2_13 rfl (by decide) rfl dX2_turns_48 ?_
        refine x_iload_n C dX2_turns_51 rfl ?_
        refine x_iald C (n := 32) rfl (by decide) rfl (nI_tn c17.1) (hs) dX2_turns_52 ?_
        refine x_iconst C (v := (-1)) dX2_turns_53 (by decide) ?_
        refine x_icmp_eq C (tgt := 81) dX2_turns_54 (by decide) (fun c54 => ?_) (fun c54 => ?_)
        · refine x_iload_n C dX2_turns_81 rfl ?_
          refine x_iload C dX2_turns_82 rfl ?_
          refine x_iadd C dX2_turns_84 ?_
          refine x_istore_n C (lo' := [(3, _), (5, _), (6, _), (4, _), (0, _), (1, _), (2, _)]) dX2_turns_85 (by decide) rfl ?_
          refine x_goto C (tgt := 13) dX2_turns_86 (by decide) ?_
          have a1 := i_lt.mp c31b
          rw [i_c0] at a1
          have b1 := i_le.mp hsn.1
          have b2 := i_le.mp hsn.2
          rw [i_c0] at b1; rw [i_c5] at b2
          have p1 : (left - 1).toInt = left.toInt - 1 := by rw [i_sub] <;> rw [i_c1] <;> omega
          have p2 : (left - 1 - M 30 (tn s)).toInt = left.toInt - 1 - (M 30 (tn s)).toInt := by rw [i_sub] <;> rw [p1] <;> omega
          rw [p2] at a1
          have q0 : ((1 : Int32) + M 30 (tn s)).toInt = 1 + (M 30 (tn s)).toInt := by rw [i_add] <;> rw [i_c1] <;> omega
          have q1 : (left - (1 + M 30 (tn s))).toInt = left.toInt - (1 + (M 30 (tn s)).toInt) := by rw [i_sub] <;> rw [q0] <;> omega
          first
            | (have e : some (Value.int (mTn M (n + 1) (s + way) way (left - (1 + M 30 (tn s))) sum)) = r := (by rw [← hr]; conv => rhs; unfold mTn; rw [if_pos ⟨c17, c31b⟩, if_pos c54])
               exact x_lsub [2, 1, 3, 0, 4, 5, 6] rfl (ih _ _ _ _ (by rw [q1]; omega) e))
            | (have d1 := i_le.mp hso.1
               have d2 := i_le.mp hso.2
               rw [i_c0] at d1; rw [i_c5] at d2
               have e : some (Value.int (mTn M (n + 1) (s + (-way)) (-way) (left - (1 + M 30 (tn s)) - M 33 (tn (M 31 (tn s)))) (sum + 1))) = r := (by rw [← hr]; conv => rhs; unfold mTn; rw [if_pos ⟨c17, c31b⟩, if_neg c54])
               have q2 : (left - (1 + M 30 (tn s)) - M 33 (tn (M 31 (tn s)))).toInt = left.toInt - (1 + (M 30 (tn s)).toInt) - (M 33 (tn (M 31 (tn s)))).toInt := (by rw [i_sub] <;> rw [q1] <;> omega)
               exact x_lsub [3, 2, 1, 0, 4, 5, 6] rfl (ih _ _ _ _ (by rw [q2]; omega) e))
        · have hw := hw0.resolve_left c54
          have hw9 := tn9 hw
          have hso := h2.2 _ hw9
          refine x_iinc C (v := _) (lo' := [(6, _), (5, _), (4, _), (3, _), (0, _), (1, _), (2, _)]) dX2_turns_57 rfl (rfl) (by decide) rfl ?_
          refine x_iload C dX2_turns_60 rfl ?_
          refine x_aload_n C dX2_turns_62 rfl ?_
          refine x_getR C fl_X2_19 rfl (by decide) rfl dX2_turns_63 ?_
          refine x_aload_n C dX2_turns_66 rfl ?_
          refine x_getR C fl_X2_13 rfl (by decide) rfl dX2_turns_67 ?_
          refine x_iload_n C dX2_turns_70 rfl ?_
          refine x_iald C (n := 32) rfl (by decide) rfl (nI_tn c17.1) (hs) dX2_turns_71 ?_
          refine x_iald C (n := 10) rfl (by decide) rfl (nI_tn hw.1) (hw9) dX2_turns_72 ?_
          refine x_isub C dX2_turns_73 ?_
          refine x_istore C (lo' := [(5, _), (6, _), (4, _), (3, _), (0, _), (1, _), (2, _)]) dX2_turns_74 (by decide) rfl ?_
          refine x_iload C dX2_turns_76 rfl ?_
          refine x_ineg C dX2_turns_78 ?_
          refine x_istore C (lo' := [(4, _), (5, _), (6, _), (3, _), (0, _), (1, _), (2, _)]) dX2_turns_79 (by decide) rfl ?_
          refine x_iload_n C dX2_turns_81 rfl ?_
          refine x_iload C dX2_turns_82 rfl ?_
          refine x_iadd C dX2_turns_84 ?_
          refine x_istore_n C (lo' := [(3, _), (4, _), (5, _), (6, _), (0, _), (1, _), (2, _)]) dX2_turns_85 (by decide) rfl ?_
          refine x_goto C (tgt := 13) dX2_turns_86 (by decide) ?_
          have a1 := i_lt.mp c31b
          rw [i_c0] at a1
          have b1 := i_le.mp hsn.1
          have b2 := i_le.mp hsn.2
          rw [i_c0] at b1; rw [i_c5] at b2
          have p1 : (left - 1).toInt = left.toInt - 1 := by rw [i_sub] <;> rw [i_c1] <;> omega
          have p2 : (left - 1 - M 30 (tn s)).toInt = left.toInt - 1 - (M 30 (tn s)).toInt := by rw [i_sub] <;> rw [p1] <;> omega
          rw [p2] at a1
          have q0 : ((1 : Int32) + M 30 (tn s)).toInt = 1 + (M 30 (tn s)).toInt := by rw [i_add] <;> rw [i_c1] <;> omega
          have q1 : (left - (1 + M 30 (tn s))).toInt = left.toInt - (1 + (M 30 (tn s)).toInt) := by rw [i_sub] <;> rw [q0] <;> omega
          first
            | (have e : some (Value.int (mTn M (n + 1) (s + way) way (left - (1 + M 30 (tn s))) sum)) = r := (by rw [← hr]; conv => rhs; unfold mTn; rw [if_pos ⟨c17, c31b⟩, if_pos c54])
               exact x_lsub [2, 1, 3, 0, 4, 5, 6] rfl (ih _ _ _ _ (by rw [q1]; omega) e))
            | (have d1 := i_le.mp hso.1
               have d2 := i_le.mp hso.2
               rw [i_c0] at d1; rw [i_c5] at d2
               have e : some (Value.int (mTn M (n + 1) (s + (-way)) (-way) (left - (1 + M 30 (tn s)) - M 33 (tn (M 31 (tn s)))) (sum + 1))) = r := (by rw [← hr]; conv => rhs; unfold mTn; rw [if_pos ⟨c17, c31b⟩, if_neg c54])
               have q2 : (left - (1 + M 30 (tn s)) - M 33 (tn (M 31 (tn s)))).toInt = left.toInt - (1 + (M 30 (tn s)).toInt) - (M 33 (tn (M 31 (tn s)))).toInt := (by rw [i_sub] <;> rw [q1] <;> omega)
               exact x_lsub [3, 2, 1, 0, 4, 5, 6] rfl (ih _ _ _ _ (by rw [q2]; omega) e))
set_option maxHeartbeats 1000000 in
set_option maxRecDepth 100000 in
theorem q2_turns (l : Launch) (g : GT) (M : Mem) (h : mOK M) (h2 : mOK2 M) (fr ld : Int32) (hl : 1 ≤ ld ∧ ld ≤ 99) : CM l yX2_turns cX2_turns 7 (some .int) rmX2_turns g M [.ref (ga g 29), .int fr, .int ld] (some (.int (mTurns M fr ld))) (M) := by
  refine CM.of (by decide) (Nat.le_of_ble_eq_true rfl) (fun X C hq => ?_)
  have C : Cx X g l cX2_turns 7 RX2 (some .int) rmX2_turns := C
  show V X g 0 0 0 [(0, .ref (ga g 29)), (1, .int fr), (2, .int ld)] [] M
  refine x_iload_n C dX2_turns_0 rfl ?_
  refine x_iconst C (v := 1) dX2_turns_1 (by decide) ?_
  refine x_iadd C dX2_turns_2 ?_
  refine x_istore_n C (lo' := [(3, _), (0, _), (1, _), (2, _)]) dX2_turns_3 (by decide) rfl ?_
  refine x_iconst C (v := 1) dX2_turns_4 (by decide) ?_
  refine x_istore C (lo' := [(4, _), (3, _), (0, _), (1, _), (2, _)]) dX2_turns_5 (by decide) rfl ?_
  refine x_iload_n C dX2_turns_7 rfl ?_
  refine x_istore C (lo' := [(5, _), (4, _), (3, _), (0, _), (1, _), (2, _)]) dX2_turns_8 (by decide) rfl ?_
  refine x_iconst C (v := 0) dX2_turns_10 (by decide) ?_
  refine x_istore C (lo' := [(6, _), (5, _), (4, _), (3, _), (0, _), (1, _), (2, _)]) dX2_turns_11 (by decide) rfl ?_
  have a1 := i_le.mp hl.1
  have a2 := i_le.mp hl.2
  rw [i_c1] at a1; rw [i_c99] at a2
  exact x_lsub [0, 1, 2, 3, 4, 5, 6] rfl (q2_turns_lp h h2 C hq 100 (fr + 1) 1 ld 0 ⟨by omega, by omega, by omega⟩ rfl)
abbrev rmX2_best : Room := { frames := 3, cells := 0, slots := 0, locals := 68 }
theorem mBest1 (M : Mem) (ld : Int32) : mBestL M ld 1 = 0 := if_neg (fun z => Int32.lt_irrefl z)
set_option maxHeartbeats 1000000 in
set_option maxRecDepth 100000 in
theorem q2_best_lp {X : XT} {l : Launch} {g : GT} {M : Mem} {ld : Int32} (h : mOK M) (h2 : mOK2 M) (hl : 1 ≤ ld ∧ ld ≤ 99) (C : Cx X g l cX2_best 4 RX2 (some .int) rmX2_best) (hq : Rt X g rmX2_best (some (.int (mBest M ld))) M) : ∀ (n i : Nat), i ≤ 32 → 33 ≤ i + n → V X g 0 0 4 [(3, .int (nI i)), (2, .int (mBestL M ld i)), (0, .ref (ga g 29)), (1, .int ld)] [] M := by
  intro n
  induction n with
  | zero =>
    intro i h1 h2; omega
  | succ n ih =>
    intro i h1 hn
    refine x_iload_n C dX2_best_4 rfl ?_
    refine x_bipush C (v := 32) dX2_best_5 (by decide) ?_
    refine x_icmp_ge C (tgt := 33) dX2_best_7 (by decide) (fun c7 => ?_) (fun c7 => ?_)
    · have he : i = 32 := by
        have z := (nI_leI (a := 32) (b := i) (by decide) (by omega)).mp c7
        omega
      subst he
      refine x_iload_n C dX2_best_33 rfl ?_
      exact x_iret C hq ⟨by decide, by decide⟩ dX2_best_34 (rfl) (rfl)
    · have hlt : i < 32 := Nat.lt_of_not_le (fun z => c7 (nI_le (a := 32) z (by omega)))
      refine x_aload_n C dX2_best_10 rfl ?_
      refine x_iload_n C dX2_best_11 rfl ?_
      refine x_iload_n C dX2_best_12 rfl ?_
      refine x_callV0r C (q2_turns l g _ h h2 _ _ hl) cd_X2_turns kl_X2_152 ci2 rfl (by decide) (as := [_, _]) rfl rfl ⟨⟨by decide, by decide⟩, by decide, by decide⟩ ⟨rfl, rfl⟩ (Nat.le_of_ble_eq_true rfl) dX2_best_13 ?_
      refine x_aload_n C dX2_best_16 rfl ?_
      refine x_iload_n C dX2_best_17 rfl ?_
      refine x_iload_n C dX2_best_18 rfl ?_
      refine x_callV0r C (q2_turns l g _ h h2 _ _ hl) cd_X2_turns kl_X2_152 ci2 rfl (by decide) (as := [_, _]) rfl rfl ⟨⟨by decide, by decide⟩, by decide, by decide⟩ ⟨rfl, rfl⟩ (Nat.le_of_ble_eq_true rfl) dX2_best_19 ?_
      refine x_icmp_le C (tgt := 27) dX2_best_22 (by decide) (fun c22 => ?_) (fun c22 => ?_)
      · refine x_iinc C (v := nI (i + 1)) (lo' := [(3, _), (2, _), (0, _), (1, _)]) dX2_best_27 rfl (nI_inc _) (by decide) rfl ?_
        refine x_goto C (tgt := 4) dX2_best_30 (by decide) ?_
        first
          | (have z22 := Int32.not_le.mp c22; have e : mBestL M ld (i + 1) = nI i := if_pos z22; have q := ih (i + 1) hlt (by omega); rw [e] at q; exact q)
          | (have e : mBestL M ld (i + 1) = mBestL M ld i := if_neg (fun z => absurd c22 (Int32.not_le.mpr z)); have q := ih (i + 1) hlt (by omega); rw [e] at q; exact q)
      · refine x_iload_n C dX2_best_25 rfl ?_
        refine x_istore_n C (lo' := [(2, _), (3, _), (0, _), (1, _)]) dX2_best_26 (by decide) rfl ?_
        refine x_iinc C (v := nI (i + 1)) (lo' := [(3, _), (2, _), (0, _), (1, _)]) dX2_best_27 rfl (nI_inc _) (by decide) rfl ?_
        refine x_goto C (tgt := 4) dX2_best_30 (by decide) ?_
        first
          | (have z22 := Int32.not_le.mp c22; have e : mBestL M ld (i + 1) = nI i := if_pos z22; have q := ih (i + 1) hlt (by omega); rw [e] at q; exact q)
          | (have e : mBestL M ld (i + 1) = mBestL M ld i := if_neg (fun z => absurd c22 (Int32.not_le.mpr z)); have q := ih (i + 1) hlt (by omega); rw [e] at q; exact q)
set_option maxHeartbeats 1000000 in
set_option maxRecDepth 100000 in
theorem q2_best (l : Launch) (g : GT) (M : Mem) (h : mOK M) (h2 : mOK2 M) (ld : Int32) (hl : 1 ≤ ld ∧ ld ≤ 99) : CM l yX2_best cX2_best 4 (some .int) rmX2_best g M [.ref (ga g 29), .int ld] (some (.int (mBest M ld))) (M) := by
  refine CM.of (by decide) (Nat.le_of_ble_eq_true rfl) (fun X C hq => ?_)
  have C : Cx X g l cX2_best 4 RX2 (some .int) rmX2_best := C
  show V X g 0 0 0 [(0, .ref (ga g 29)), (1, .int ld)] [] M
  refine x_iconst C (v := 0) dX2_best_0 (by decide) ?_
  refine x_istore_n C (lo' := [(2, _), (0, _), (1, _)]) dX2_best_1 (by decide) rfl ?_
  refine x_iconst C (v := 1) dX2_best_2 (by decide) ?_
  refine x_istore_n C (lo' := [(3, _), (2, _), (0, _), (1, _)]) dX2_best_3 (by decide) rfl ?_
  have q := q2_best_lp h h2 hl C hq 32 1 (by decide) (by decide)
  rw [mBest1] at q
  exact x_lsub [0, 1, 2, 3] rfl q
