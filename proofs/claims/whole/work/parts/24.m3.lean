/-! The model's public methods, walked. -/
theorem mOK.thr {M : Mem} {v : Int32} (h : mOK M) : mOK (wr M 29 0 v) := ⟨h.1, h.2.1, h.2.2.1, h.2.2.2⟩
theorem ix_lt {x c : Int32} (hc : 0 ≤ c) (h : 0 ≤ x ∧ x ≤ c - 1) : tn x < tn c := by
  have a := i_le.mp hc
  have b := i_le.mp h.1
  have d := i_le.mp h.2
  have z := Int32.toInt_lt c
  rw [i_c0] at a b
  rw [Int32.toInt_sub, i_c1, Int.bmod_eq_of_le (by omega) (by omega)] at d
  have e1 := i_tn h.1
  have e2 := i_tn hc
  omega
abbrev rmX2_isKnown : Room := { frames := 0, cells := 0, slots := 0, locals := 0 }
set_option maxHeartbeats 1000000 in
set_option maxRecDepth 100000 in
theorem q2_isKnown_t (l : Launch) (g : GT) (M : Mem) (c : Prop) [Decidable c] (hc : c) : CM l yX2_isKnown cX2_isKnown 2 (some .boolean) rmX2_isKnown g M [.ref (ga g 29), .int (b2i c)] (some (.int (b2i c))) (wr M 29 0 0) := by
  refine CM.of (by decide) (Nat.le_of_ble_eq_true rfl) (fun X C hq => ?_)
  have C : Cx X g l cX2_isKnown 2 RX2 (some .boolean) rmX2_isKnown := C
  show V X g 0 0 0 [(0, .ref (ga g 29)), (1, .int (b2i c))] [] M
  refine x_aload_n C dX2_isKnown_0 rfl ?_
  refine x_iload_n C dX2_isKnown_1 rfl ?_
  refine x_bif_eq C (tgt := 9) dX2_isKnown_2 (by decide) (fun c2 => absurd hc c2) (fun c2 => ?_)
  refine x_iconst C (v := 0) dX2_isKnown_5 (by decide) ?_
  refine x_goto C (tgt := 10) dX2_isKnown_6 (by decide) ?_
  refine x_putI C fl_X2_32 rfl (by decide) rfl dX2_isKnown_10 ?_
  refine x_iload_n C dX2_isKnown_13 rfl ?_
  exact x_zret C hq (b2i_nar _) ⟨by decide, by decide⟩ dX2_isKnown_14 (rfl) (rfl)
set_option maxHeartbeats 1000000 in
set_option maxRecDepth 100000 in
theorem q2_isKnown_f (l : Launch) (g : GT) (M : Mem) (c : Prop) [Decidable c] (hc : ¬ c) : CM l yX2_isKnown cX2_isKnown 2 (some .boolean) rmX2_isKnown g M [.ref (ga g 29), .int (b2i c)] (some (.int (b2i c))) (wr M 29 0 1) := by
  refine CM.of (by decide) (Nat.le_of_ble_eq_true rfl) (fun X C hq => ?_)
  have C : Cx X g l cX2_isKnown 2 RX2 (some .boolean) rmX2_isKnown := C
  show V X g 0 0 0 [(0, .ref (ga g 29)), (1, .int (b2i c))] [] M
  refine x_aload_n C dX2_isKnown_0 rfl ?_
  refine x_iload_n C dX2_isKnown_1 rfl ?_
  refine x_bif_eq C (tgt := 9) dX2_isKnown_2 (by decide) (fun c2 => ?_) (fun c2 => absurd c2 hc)
  refine x_iconst C (v := 1) dX2_isKnown_9 (by decide) ?_
  refine x_putI C fl_X2_32 rfl (by decide) rfl dX2_isKnown_10 ?_
  refine x_iload_n C dX2_isKnown_13 rfl ?_
  exact x_zret C hq (b2i_nar _) ⟨by decide, by decide⟩ dX2_isKnown_14 (rfl) (rfl)
abbrev rmX2_addWall : Room := { frames := 2, cells := 0, slots := 0, locals := 42 }
set_option maxHeartbeats 1000000 in
set_option maxRecDepth 100000 in
theorem q2_addWall_b1 (l : Launch) (g : GT) (M : Mem) (a e s : Int32) (hb : ¬ ((0 ≤ a ∧ a ≤ 31) ∧ (0 ≤ e ∧ e ≤ 1))) : CM l yX2_addWall cX2_addWall 4 (some .int) rmX2_addWall g M [.ref (ga g 29), .int a, .int e, .int s] (some (.int 0)) (wr (wr M 29 0 0) 29 0 1) := by
  refine CM.of (by decide) (Nat.le_of_ble_eq_true rfl) (fun X C hq => ?_)
  have C : Cx X g l cX2_addWall 4 RX2 (some .int) rmX2_addWall := C
  show V X g 0 0 0 [(0, .ref (ga g 29)), (1, .int a), (2, .int e), (3, .int s)] [] M
  refine x_aload_n C dX2_addWall_0 rfl ?_
  refine x_iconst C (v := 0) dX2_addWall_1 (by decide) ?_
  refine x_putI C fl_X2_32 rfl (by decide) rfl dX2_addWall_2 ?_
  refine x_iload_n C dX2_addWall_5 rfl ?_
  refine x_callS0r C (q2_isStone l g _ a) cd_X2_isStone kl_X2_58 (as := [_]) rfl rfl ⟨⟨by decide, by decide⟩, by decide, by decide⟩ ⟨rfl, rfl⟩ (Nat.le_of_ble_eq_true rfl) dX2_addWall_6 ?_
  refine x_bif_eq C (tgt := 19) dX2_addWall_9 (by decide) (fun c9 => ?_) (fun c9 => ?_)
  · refine x_aload_n C dX2_addWall_19 rfl ?_
    refine x_iconst C (v := 1) dX2_addWall_20 (by decide) ?_
    refine x_callV0r C (q2_no l g _ 1) cd_X2_no kl_X2_92 ci2 rfl (by decide) (as := [_]) rfl rfl ⟨⟨by decide, by decide⟩, by decide, by decide⟩ ⟨rfl, rfl⟩ (Nat.le_of_ble_eq_true rfl) dX2_addWall_21 ?_
    exact x_iret C hq ⟨by decide, by decide⟩ dX2_addWall_24 (rfl) (rfl)
  · refine x_iload_n C dX2_addWall_12 rfl ?_
    refine x_callS0r C (q2_isEcho l g _ e) cd_X2_isEcho kl_X2_89 (as := [_]) rfl rfl ⟨⟨by decide, by decide⟩, by decide, by decide⟩ ⟨rfl, rfl⟩ (Nat.le_of_ble_eq_true rfl) dX2_addWall_13 ?_
    refine x_bif_ne C (tgt := 25) dX2_addWall_16 (by decide) (fun c16 => absurd ⟨c9, c16⟩ hb) (fun c16 => ?_)
    refine x_aload_n C dX2_addWall_19 rfl ?_
    refine x_iconst C (v := 1) dX2_addWall_20 (by decide) ?_
    refine x_callV0r C (q2_no l g _ 1) cd_X2_no kl_X2_92 ci2 rfl (by decide) (as := [_]) rfl rfl ⟨⟨by decide, by decide⟩, by decide, by decide⟩ ⟨rfl, rfl⟩ (Nat.le_of_ble_eq_true rfl) dX2_addWall_21 ?_
    exact x_iret C hq ⟨by decide, by decide⟩ dX2_addWall_24 (rfl) (rfl)
set_option maxHeartbeats 1000000 in
set_option maxRecDepth 100000 in
theorem q2_addWall_b2 (l : Launch) (g : GT) (M : Mem) (a e s : Int32) (ha : (0 ≤ a ∧ a ≤ 31)) (he : (0 ≤ e ∧ e ≤ 1)) (hs : ¬ (0 ≤ s ∧ s ≤ 5)) : CM l yX2_addWall cX2_addWall 4 (some .int) rmX2_addWall g M [.ref (ga g 29), .int a, .int e, .int s] (some (.int 0)) (wr (wr M 29 0 0) 29 0 2) := by
  refine CM.of (by decide) (Nat.le_of_ble_eq_true rfl) (fun X C hq => ?_)
  have C : Cx X g l cX2_addWall 4 RX2 (some .int) rmX2_addWall := C
  show V X g 0 0 0 [(0, .ref (ga g 29)), (1, .int a), (2, .int e), (3, .int s)] [] M
  refine x_aload_n C dX2_addWall_0 rfl ?_
  refine x_iconst C (v := 0) dX2_addWall_1 (by decide) ?_
  refine x_putI C fl_X2_32 rfl (by decide) rfl dX2_addWall_2 ?_
  refine x_iload_n C dX2_addWall_5 rfl ?_
  refine x_callS0r C (q2_isStone l g _ a) cd_X2_isStone kl_X2_58 (as := [_]) rfl rfl ⟨⟨by decide, by decide⟩, by decide, by decide⟩ ⟨rfl, rfl⟩ (Nat.le_of_ble_eq_true rfl) dX2_addWall_6 ?_
  refine x_bif_eq C (tgt := 19) dX2_addWall_9 (by decide) (fun c9 => absurd ha c9) (fun c9 => ?_)
  refine x_iload_n C dX2_addWall_12 rfl ?_
  refine x_callS0r C (q2_isEcho l g _ e) cd_X2_isEcho kl_X2_89 (as := [_]) rfl rfl ⟨⟨by decide, by decide⟩, by decide, by decide⟩ ⟨rfl, rfl⟩ (Nat.le_of_ble_eq_true rfl) dX2_addWall_13 ?_
  refine x_bif_ne C (tgt := 25) dX2_addWall_16 (by decide) (fun c16 => ?_) (fun c16 => absurd he c16)
  refine x_iload_n C dX2_addWall_25 rfl ?_
  refine x_iconst C (v := 0) dX2_addWall_26 (by decide) ?_
  refine x_iconst C (v := 5) dX2_addWall_27 (by decide) ?_
  refine x_callS0r C (q2_isIn l g _ s 0 5) cd_X2_isIn kl_X2_36 (as := [_, _, _]) rfl rfl ⟨⟨by decide, by decide⟩, by decide, by decide⟩ ⟨rfl, rfl⟩ (Nat.le_of_ble_eq_true rfl) dX2_addWall_28 ?_
  refine x_bif_ne C (tgt := 40) dX2_addWall_31 (by decide) (fun c31 => absurd c31 hs) (fun c31 => ?_)
  refine x_aload_n C dX2_addWall_34 rfl ?_
  refine x_iconst C (v := 2) dX2_addWall_35 (by decide) ?_
  refine x_callV0r C (q2_no l g _ 2) cd_X2_no kl_X2_92 ci2 rfl (by decide) (as := [_]) rfl rfl ⟨⟨by decide, by decide⟩, by decide, by decide⟩ ⟨rfl, rfl⟩ (Nat.le_of_ble_eq_true rfl) dX2_addWall_36 ?_
  exact x_iret C hq ⟨by decide, by decide⟩ dX2_addWall_39 (rfl) (rfl)
set_option maxHeartbeats 1000000 in
set_option maxRecDepth 100000 in
theorem q2_addWall_b3 (l : Launch) (g : GT) (M : Mem) (h : mOK M) (a e s : Int32) (ha : (0 ≤ a ∧ a ≤ 31)) (he : (0 ≤ e ∧ e ≤ 1)) (hs : 0 ≤ s ∧ s ≤ 5) (hb : M 29 1 = 10 ∨ M 31 (tn a) ≠ -1) : CM l yX2_addWall cX2_addWall 4 (some .int) rmX2_addWall g M [.ref (ga g 29), .int a, .int e, .int s] (some (.int 0)) (wr (wr M 29 0 0) 29 0 3) := by
  refine CM.of (by decide) (Nat.le_of_ble_eq_true rfl) (fun X C hq => ?_)
  have C : Cx X g l cX2_addWall 4 RX2 (some .int) rmX2_addWall := C
  show V X g 0 0 0 [(0, .ref (ga g 29)), (1, .int a), (2, .int e), (3, .int s)] [] M
  refine x_aload_n C dX2_addWall_0 rfl ?_
  refine x_iconst C (v := 0) dX2_addWall_1 (by decide) ?_
  refine x_putI C fl_X2_32 rfl (by decide) rfl dX2_addWall_2 ?_
  refine x_iload_n C dX2_addWall_5 rfl ?_
  refine x_callS0r C (q2_isStone l g _ a) cd_X2_isStone kl_X2_58 (as := [_]) rfl rfl ⟨⟨by decide, by decide⟩, by decide, by decide⟩ ⟨rfl, rfl⟩ (Nat.le_of_ble_eq_true rfl) dX2_addWall_6 ?_
  refine x_bif_eq C (tgt := 19) dX2_addWall_9 (by decide) (fun c9 => absurd ha c9) (fun c9 => ?_)
  refine x_iload_n C dX2_addWall_12 rfl ?_
  refine x_callS0r C (q2_isEcho l g _ e) cd_X2_isEcho kl_X2_89 (as := [_]) rfl rfl ⟨⟨by decide, by decide⟩, by decide, by decide⟩ ⟨rfl, rfl⟩ (Nat.le_of_ble_eq_true rfl) dX2_addWall_13 ?_
  refine x_bif_ne C (tgt := 25) dX2_addWall_16 (by decide) (fun c16 => ?_) (fun c16 => absurd he c16)
  refine x_iload_n C dX2_addWall_25 rfl ?_
  refine x_iconst C (v := 0) dX2_addWall_26 (by decide) ?_
  refine x_iconst C (v := 5) dX2_addWall_27 (by decide) ?_
  refine x_callS0r C (q2_isIn l g _ s 0 5) cd_X2_isIn kl_X2_36 (as := [_, _, _]) rfl rfl ⟨⟨by decide, by decide⟩, by decide, by decide⟩ ⟨rfl, rfl⟩ (Nat.le_of_ble_eq_true rfl) dX2_addWall_28 ?_
  refine x_bif_ne C (tgt := 40) dX2_addWall_31 (by decide) (fun c31 => ?_) (fun c31 => absurd hs c31)
  refine x_aload_n C dX2_addWall_40 rfl ?_
  refine x_getI C fl_X2_40 rfl (by decide) rfl dX2_addWall_41 ?_
  refine x_bipush C (v := 10) dX2_addWall_44 (by decide) ?_
  refine x_icmp_eq C (tgt := 59) dX2_addWall_46 (by decide) (fun c46 => ?_) (fun c46 => ?_)
  · refine x_aload_n C dX2_addWall_59 rfl ?_
    refine x_iconst C (v := 3) dX2_addWall_60 (by decide) ?_
    refine x_callV0r C (q2_no l g _ 3) cd_X2_no kl_X2_92 ci2 rfl (by decide) (as := [_]) rfl rfl ⟨⟨by decide, by decide⟩, by decide, by decide⟩ ⟨rfl, rfl⟩ (Nat.le_of_ble_eq_true rfl) dX2_addWall_61 ?_
    exact x_iret C hq ⟨by decide, by decide⟩ dX2_addWall_64 (rfl) (rfl)
  · refine x_aload_n C dX2_addWall_49 rfl ?_
    refine x_getR C fl_X2_13 rfl (by decide) rfl dX2_addWall_50 ?_
    refine x_iload_n C dX2_addWall_53 rfl ?_
    refine x_iald C (n := 32) rfl (by decide) rfl (nI_tn ha.1) (tn31 ha) dX2_addWall_54 ?_
    refine x_iconst C (v := (-1)) dX2_addWall_55 (by decide) ?_
    refine x_icmp_eq C (tgt := 65) dX2_addWall_56 (by decide) (fun c56 => absurd c56 (hb.resolve_left c46)) (fun c56 => ?_)
    refine x_aload_n C dX2_addWall_59 rfl ?_
    refine x_iconst C (v := 3) dX2_addWall_60 (by decide) ?_
    refine x_callV0r C (q2_no l g _ 3) cd_X2_no kl_X2_92 ci2 rfl (by decide) (as := [_]) rfl rfl ⟨⟨by decide, by decide⟩, by decide, by decide⟩ ⟨rfl, rfl⟩ (Nat.le_of_ble_eq_true rfl) dX2_addWall_61 ?_
    exact x_iret C hq ⟨by decide, by decide⟩ dX2_addWall_64 (rfl) (rfl)
def mAW (M : Mem) (a e s : Int32) : Mem :=
  wr (wr (wr (wr (wr (wr M 29 0 0) 31 (tn a) (M 29 1)) 32 (tn (M 29 1)) a) 33 (tn (M 29 1)) s) 34 (7 + tn (M 29 1)) e) 29 1 (M 29 1 + 1)
set_option maxHeartbeats 1000000 in
set_option maxRecDepth 100000 in
theorem q2_addWall (l : Launch) (g : GT) (M : Mem) (h : mOK M) (a e s : Int32) (ha : (0 ≤ a ∧ a ≤ 31)) (he : (0 ≤ e ∧ e ≤ 1)) (hs : 0 ≤ s ∧ s ≤ 5) (hw : ¬ M 29 1 = 10) (hw2 : M 31 (tn a) = -1) : CM l yX2_addWall cX2_addWall 4 (some .int) rmX2_addWall g M [.ref (ga g 29), .int a, .int e, .int s] (some (.int (M 29 1 + 1 - 1))) (mAW M a e s) := by
  refine CM.of (by decide) (Nat.le_of_ble_eq_true rfl) (fun X C hq => ?_)
  have C : Cx X g l cX2_addWall 4 RX2 (some .int) rmX2_addWall := C
  show V X g 0 0 0 [(0, .ref (ga g 29)), (1, .int a), (2, .int e), (3, .int s)] [] M
  have hw9 : tn (M 29 1) < 10 := tn_lt (n := 10) h.1.1 (by decide) (i_lt.mpr (by
      have z := i_le.mp h.1.2
      have z2 : (M 29 1).toInt ≠ 10 := fun q => hw (i_eq.mpr q)
      have z3 : (10 : Int32).toInt = 10 := rfl
      show (M 29 1).toInt < (10 : Int32).toInt
      omega))
  refine x_aload_n C dX2_addWall_0 rfl ?_
  refine x_iconst C (v := 0) dX2_addWall_1 (by decide) ?_
  refine x_putI C fl_X2_32 rfl (by decide) rfl dX2_addWall_2 ?_
  refine x_iload_n C dX2_addWall_5 rfl ?_
  refine x_callS0r C (q2_isStone l g _ a) cd_X2_isStone kl_X2_58 (as := [_]) rfl rfl ⟨⟨by decide, by decide⟩, by decide, by decide⟩ ⟨rfl, rfl⟩ (Nat.le_of_ble_eq_true rfl) dX2_addWall_6 ?_
  refine x_bif_eq C (tgt := 19) dX2_addWall_9 (by decide) (fun c9 => absurd ha c9) (fun c9 => ?_)
  refine x_iload_n C dX2_addWall_12 rfl ?_
  refine x_callS0r C (q2_isEcho l g _ e) cd_X2_isEcho kl_X2_89 (as := [_]) rfl rfl ⟨⟨by decide, by decide⟩, by decide, by decide⟩ ⟨rfl, rfl⟩ (Nat.le_of_ble_eq_true rfl) dX2_addWall_13 ?_
  refine x_bif_ne C (tgt := 25) dX2_addWall_16 (by decide) (fun c16 => ?_) (fun c16 => absurd he c16)
  refine x_iload_n C dX2_addWall_25 rfl ?_
  refine x_iconst C (v := 0) dX2_addWall_26 (by decide) ?_
  refine x_iconst C (v := 5) dX2_addWall_27 (by decide) ?_
  refine x_callS0r C (q2_isIn l g _ s 0 5) cd_X2_isIn kl_X2_36 (as := [_, _, _]) rfl rfl ⟨⟨by decide, by decide⟩, by decide, by decide⟩ ⟨rfl, rfl⟩ (Nat.le_of_ble_eq_true rfl) dX2_addWall_28 ?_
  refine x_bif_ne C (tgt := 40) dX2_addWall_31 (by decide) (fun c31 => ?_) (fun c31 => absurd hs c31)
  refine x_aload_n C dX2_addWall_40 rfl ?_
  refine x_getI C fl_X2_40 rfl (by decide) rfl dX2_addWall_41 ?_
  refine x_bipush C (v := 10) dX2_addWall_44 (by decide) ?_
  refine x_icmp_eq C (tgt := 59) dX2_addWall_46 (by decide) (fun c46 => absurd c46 hw) (fun c46 => ?_)
  refine x_aload_n C dX2_addWall_49 rfl ?_
  refine x_getR C fl_X2_13 rfl (by decide) rfl dX2_addWall_50 ?_
  refine x_iload_n C dX2_addWall_53 rfl ?_
  refine x_iald C (n := 32) rfl (by decide) rfl (nI_tn ha.1) (tn31 ha) dX2_addWall_54 ?_
  refine x_iconst C (v := (-1)) dX2_addWall_55 (by decide) ?_
  refine x_icmp_eq C (tgt := 65) dX2_addWall_56 (by decide) (fun c56 => ?_) (fun c56 => absurd hw2 c56)
  refine x_aload_n C dX2_addWall_65 rfl ?_
  refine x_getR C fl_X2_13 rfl (by decide) rfl dX2_addWall_66 ?_
  refine x_iload_n C dX2_addWall_69 rfl ?_
  refine x_aload_n C dX2_addWall_70 rfl ?_
  refine x_getI C fl_X2_40 rfl (by decide) rfl dX2_addWall_71 ?_
  refine x_iast C (n := 32) rfl (by decide) rfl (nI_tn ha.1) (tn31 ha) dX2_addWall_74 ?_
  refine x_aload_n C dX2_addWall_75 rfl ?_
  refine x_getR C fl_X2_16 rfl (by decide) rfl dX2_addWall_76 ?_
  refine x_aload_n C dX2_addWall_79 rfl ?_
  refine x_getI C fl_X2_40 rfl (by decide) rfl dX2_addWall_80 ?_
  refine x_iload_n C dX2_addWall_83 rfl ?_
  refine x_iast C (n := 10) rfl (by decide) rfl (nI_tn h.1.1) (hw9) dX2_addWall_84 ?_
  refine x_aload_n C dX2_addWall_85 rfl ?_
  refine x_getR C fl_X2_19 rfl (by decide) rfl dX2_addWall_86 ?_
  refine x_aload_n C dX2_addWall_89 rfl ?_
  refine x_getI C fl_X2_40 rfl (by decide) rfl dX2_addWall_90 ?_
  refine x_iload_n C dX2_addWall_93 rfl ?_
  refine x_iast C (n := 10) rfl (by decide) rfl (nI_tn h.1.1) (hw9) dX2_addWall_94 ?_
  refine x_aload_n C dX2_addWall_95 rfl ?_
  refine x_getR C fl_X2_22 rfl (by decide) rfl dX2_addWall_96 ?_
  refine x_bipush C (v := 7) dX2_addWall_99 (by decide) ?_
  refine x_aload_n C dX2_addWall_101 rfl ?_
  refine x_getI C fl_X2_40 rfl (by decide) rfl dX2_addWall_102 ?_
  refine x_iadd C dX2_addWall_105 ?_
  refine x_iload_n C dX2_addWall_106 rfl ?_
  refine x_iast C (n := 187) rfl (by decide) rfl (ix_t 7 h.1.1) (show 7 + tn (M 29 1) < 187 by omega) dX2_addWall_107 ?_
  refine x_aload_n C dX2_addWall_108 rfl ?_
  refine x_dup C dX2_addWall_109 rfl ?_
  refine x_getI C fl_X2_40 rfl (by decide) rfl dX2_addWall_110 ?_
  refine x_iconst C (v := 1) dX2_addWall_113 (by decide) ?_
  refine x_iadd C dX2_addWall_114 ?_
  refine x_putI C fl_X2_40 rfl (by decide) rfl dX2_addWall_115 ?_
  refine x_aload_n C dX2_addWall_118 rfl ?_
  refine x_getI C fl_X2_40 rfl (by decide) rfl dX2_addWall_119 ?_
  refine x_iconst C (v := 1) dX2_addWall_122 (by decide) ?_
  refine x_isub C dX2_addWall_123 ?_
  exact x_iret C hq ⟨by decide, by decide⟩ dX2_addWall_124 (rfl) (rfl)
abbrev rmX2_hand : Room := { frames := 2, cells := 0, slots := 0, locals := 43 }
set_option maxHeartbeats 1000000 in
set_option maxRecDepth 100000 in
theorem q2_hand_b (l : Launch) (g : GT) (M : Mem) (w : Int32) (hb : ¬ (0 ≤ w ∧ w ≤ M 29 1 - 1)) : CM l yX2_hand cX2_hand 2 (some .int) rmX2_hand g M [.ref (ga g 29), .int w] (some (.int 0)) (wr (wr M 29 0 0) 29 0 1) := by
  refine CM.of (by decide) (Nat.le_of_ble_eq_true rfl) (fun X C hq => ?_)
  have C : Cx X g l cX2_hand 2 RX2 (some .int) rmX2_hand := C
  show V X g 0 0 0 [(0, .ref (ga g 29)), (1, .int w)] [] M
  refine x_aload_n C dX2_hand_0 rfl ?_
  refine x_iconst C (v := 0) dX2_hand_1 (by decide) ?_
  refine x_putI C fl_X2_32 rfl (by decide) rfl dX2_hand_2 ?_
  refine x_aload_n C dX2_hand_5 rfl ?_
  refine x_iload_n C dX2_hand_6 rfl ?_
  refine x_callV0r C (q2_isWall l g _ w) cd_X2_isWall kl_X2_95 ci2 rfl (by decide) (as := [_]) rfl rfl ⟨⟨by decide, by decide⟩, by decide, by decide⟩ ⟨rfl, rfl⟩ (Nat.le_of_ble_eq_true rfl) dX2_hand_7 ?_
  refine x_bif_ne C (tgt := 19) dX2_hand_10 (by decide) (fun c10 => absurd c10 hb) (fun c10 => ?_)
  refine x_aload_n C dX2_hand_13 rfl ?_
  refine x_iconst C (v := 1) dX2_hand_14 (by decide) ?_
  refine x_callV0r C (q2_no l g _ 1) cd_X2_no kl_X2_92 ci2 rfl (by decide) (as := [_]) rfl rfl ⟨⟨by decide, by decide⟩, by decide, by decide⟩ ⟨rfl, rfl⟩ (Nat.le_of_ble_eq_true rfl) dX2_hand_15 ?_
  exact x_iret C hq ⟨by decide, by decide⟩ dX2_hand_18 (rfl) (rfl)
set_option maxHeartbeats 1000000 in
set_option maxRecDepth 100000 in
theorem q2_hand (l : Launch) (g : GT) (M : Mem) (h : mOK M) (w : Int32) (hw : (0 ≤ w ∧ w ≤ M 29 1 - 1)) : CM l yX2_hand cX2_hand 2 (some .int) rmX2_hand g M [.ref (ga g 29), .int w] (some (.int (1 - M 34 (7 + tn w)))) (wr (wr M 29 0 0) 34 (7 + tn w) (1 - M 34 (7 + tn w))) := by
  refine CM.of (by decide) (Nat.le_of_ble_eq_true rfl) (fun X C hq => ?_)
  have C : Cx X g l cX2_hand 2 RX2 (some .int) rmX2_hand := C
  show V X g 0 0 0 [(0, .ref (ga g 29)), (1, .int w)] [] M
  have hw9 : 7 + tn w < 187 := by have := ix_lt h.1.1 hw; have := h.ws; unfold mWs at this; omega
  refine x_aload_n C dX2_hand_0 rfl ?_
  refine x_iconst C (v := 0) dX2_hand_1 (by decide) ?_
  refine x_putI C fl_X2_32 rfl (by decide) rfl dX2_hand_2 ?_
  refine x_aload_n C dX2_hand_5 rfl ?_
  refine x_iload_n C dX2_hand_6 rfl ?_
  refine x_callV0r C (q2_isWall l g _ w) cd_X2_isWall kl_X2_95 ci2 rfl (by decide) (as := [_]) rfl rfl ⟨⟨by decide, by decide⟩, by decide, by decide⟩ ⟨rfl, rfl⟩ (Nat.le_of_ble_eq_true rfl) dX2_hand_7 ?_
  refine x_bif_ne C (tgt := 19) dX2_hand_10 (by decide) (fun c10 => ?_) (fun c10 => absurd hw c10)
  refine x_aload_n C dX2_hand_19 rfl ?_
  refine x_getR C fl_X2_22 rfl (by decide) rfl dX2_hand_20 ?_
  refine x_bipush C (v := 7) dX2_hand_23 (by decide) ?_
  refine x_iload_n C dX2_hand_25 rfl ?_
  refine x_iadd C dX2_hand_26 ?_
  refine x_iconst C (v := 1) dX2_hand_27 (by decide) ?_
  refine x_aload_n C dX2_hand_28 rfl ?_
  refine x_getR C fl_X2_22 rfl (by decide) rfl dX2_hand_29 ?_
  refine x_bipush C (v := 7) dX2_hand_32 (by decide) ?_
  refine x_iload_n C dX2_hand_34 rfl ?_
  refine x_iadd C dX2_hand_35 ?_
  refine x_iald C (n := 187) rfl (by decide) rfl (ix_t 7 hw.1) (hw9) dX2_hand_36 ?_
  refine x_isub C dX2_hand_37 ?_
  refine x_iast C (n := 187) rfl (by decide) rfl (ix_t 7 hw.1) (hw9) dX2_hand_38 ?_
  refine x_aload_n C dX2_hand_39 rfl ?_
  refine x_getR C fl_X2_22 rfl (by decide) rfl dX2_hand_40 ?_
  refine x_bipush C (v := 7) dX2_hand_43 (by decide) ?_
  refine x_iload_n C dX2_hand_45 rfl ?_
  refine x_iadd C dX2_hand_46 ?_
  refine x_iald C (n := 187) rfl (by decide) rfl (ix_t 7 hw.1) (hw9) dX2_hand_47 ?_
  exact x_iret C hq ⟨by decide, by decide⟩ dX2_hand_48 (by rw [wr_eq]; rfl) (rfl)
abbrev rmX2_setSnow : Room := { frames := 2, cells := 0, slots := 0, locals := 42 }
set_option maxHeartbeats 1000000 in
set_option maxRecDepth 100000 in
theorem q2_setSnow_b1 (l : Launch) (g : GT) (M : Mem) (a s : Int32) (hb : ¬ (0 ≤ a ∧ a ≤ 31)) : CM l yX2_setSnow cX2_setSnow 4 (some .int) rmX2_setSnow g M [.ref (ga g 29), .int a, .int s] (some (.int 0)) (wr (wr M 29 0 0) 29 0 1) := by
  refine CM.of (by decide) (Nat.le_of_ble_eq_true rfl) (fun X C hq => ?_)
  have C : Cx X g l cX2_setSnow 4 RX2 (some .int) rmX2_setSnow := C
  show V X g 0 0 0 [(0, .ref (ga g 29)), (1, .int a), (2, .int s)] [] M
  refine x_aload_n C dX2_setSnow_0 rfl ?_
  refine x_iconst C (v := 0) dX2_setSnow_1 (by decide) ?_
  refine x_putI C fl_X2_32 rfl (by decide) rfl dX2_setSnow_2 ?_
  refine x_iload_n C dX2_setSnow_5 rfl ?_
  refine x_callS0r C (q2_isStone l g _ a) cd_X2_isStone kl_X2_58 (as := [_]) rfl rfl ⟨⟨by decide, by decide⟩, by decide, by decide⟩ ⟨rfl, rfl⟩ (Nat.le_of_ble_eq_true rfl) dX2_setSnow_6 ?_
  refine x_bif_ne C (tgt := 18) dX2_setSnow_9 (by decide) (fun c9 => absurd c9 hb) (fun c9 => ?_)
  refine x_aload_n C dX2_setSnow_12 rfl ?_
  refine x_iconst C (v := 1) dX2_setSnow_13 (by decide) ?_
  refine x_callV0r C (q2_no l g _ 1) cd_X2_no kl_X2_92 ci2 rfl (by decide) (as := [_]) rfl rfl ⟨⟨by decide, by decide⟩, by decide, by decide⟩ ⟨rfl, rfl⟩ (Nat.le_of_ble_eq_true rfl) dX2_setSnow_14 ?_
  exact x_iret C hq ⟨by decide, by decide⟩ dX2_setSnow_17 (rfl) (rfl)
set_option maxHeartbeats 1000000 in
set_option maxRecDepth 100000 in
theorem q2_setSnow_b2 (l : Launch) (g : GT) (M : Mem) (a s : Int32) (ha : (0 ≤ a ∧ a ≤ 31)) (hs : ¬ (0 ≤ s ∧ s ≤ 5)) : CM l yX2_setSnow cX2_setSnow 4 (some .int) rmX2_setSnow g M [.ref (ga g 29), .int a, .int s] (some (.int 0)) (wr (wr M 29 0 0) 29 0 2) := by
  refine CM.of (by decide) (Nat.le_of_ble_eq_true rfl) (fun X C hq => ?_)
  have C : Cx X g l cX2_setSnow 4 RX2 (some .int) rmX2_setSnow := C
  show V X g 0 0 0 [(0, .ref (ga g 29)), (1, .int a), (2, .int s)] [] M
  refine x_aload_n C dX2_setSnow_0 rfl ?_
  refine x_iconst C (v := 0) dX2_setSnow_1 (by decide) ?_
  refine x_putI C fl_X2_32 rfl (by decide) rfl dX2_setSnow_2 ?_
  refine x_iload_n C dX2_setSnow_5 rfl ?_
  refine x_callS0r C (q2_isStone l g _ a) cd_X2_isStone kl_X2_58 (as := [_]) rfl rfl ⟨⟨by decide, by decide⟩, by decide, by decide⟩ ⟨rfl, rfl⟩ (Nat.le_of_ble_eq_true rfl) dX2_setSnow_6 ?_
  refine x_bif_ne C (tgt := 18) dX2_setSnow_9 (by decide) (fun c9 => ?_) (fun c9 => absurd ha c9)
  refine x_iload_n C dX2_setSnow_18 rfl ?_
  refine x_iconst C (v := 0) dX2_setSnow_19 (by decide) ?_
  refine x_iconst C (v := 5) dX2_setSnow_20 (by decide) ?_
  refine x_callS0r C (q2_isIn l g _ s 0 5) cd_X2_isIn kl_X2_36 (as := [_, _, _]) rfl rfl ⟨⟨by decide, by decide⟩, by decide, by decide⟩ ⟨rfl, rfl⟩ (Nat.le_of_ble_eq_true rfl) dX2_setSnow_21 ?_
  refine x_bif_ne C (tgt := 33) dX2_setSnow_24 (by decide) (fun c24 => absurd c24 hs) (fun c24 => ?_)
  refine x_aload_n C dX2_setSnow_27 rfl ?_
  refine x_iconst C (v := 2) dX2_setSnow_28 (by decide) ?_
  refine x_callV0r C (q2_no l g _ 2) cd_X2_no kl_X2_92 ci2 rfl (by decide) (as := [_]) rfl rfl ⟨⟨by decide, by decide⟩, by decide, by decide⟩ ⟨rfl, rfl⟩ (Nat.le_of_ble_eq_true rfl) dX2_setSnow_29 ?_
  exact x_iret C hq ⟨by decide, by decide⟩ dX2_setSnow_32 (rfl) (rfl)
set_option maxHeartbeats 1000000 in
set_option maxRecDepth 100000 in
theorem q2_setSnow (l : Launch) (g : GT) (M : Mem) (a s : Int32) (ha : (0 ≤ a ∧ a ≤ 31)) (hs : 0 ≤ s ∧ s ≤ 5) : CM l yX2_setSnow cX2_setSnow 4 (some .int) rmX2_setSnow g M [.ref (ga g 29), .int a, .int s] (some (.int (M 30 (tn a)))) (wr (wr M 29 0 0) 30 (tn a) s) := by
  refine CM.of (by decide) (Nat.le_of_ble_eq_true rfl) (fun X C hq => ?_)
  have C : Cx X g l cX2_setSnow 4 RX2 (some .int) rmX2_setSnow := C
  show V X g 0 0 0 [(0, .ref (ga g 29)), (1, .int a), (2, .int s)] [] M
  refine x_aload_n C dX2_setSnow_0 rfl ?_
  refine x_iconst C (v := 0) dX2_setSnow_1 (by decide) ?_
  refine x_putI C fl_X2_32 rfl (by decide) rfl dX2_setSnow_2 ?_
  refine x_iload_n C dX2_setSnow_5 rfl ?_
  refine x_callS0r C (q2_isStone l g _ a) cd_X2_isStone kl_X2_58 (as := [_]) rfl rfl ⟨⟨by decide, by decide⟩, by decide, by decide⟩ ⟨rfl, rfl⟩ (Nat.le_of_ble_eq_true rfl) dX2_setSnow_6 ?_
  refine x_bif_ne C (tgt := 18) dX2_setSnow_9 (by decide) (fun c9 => ?_) (fun c9 => absurd ha c9)
  refine x_iload_n C dX2_setSnow_18 rfl ?_
  refine x_iconst C (v := 0) dX2_setSnow_19 (by decide) ?_
  refine x_iconst C (v := 5) dX2_setSnow_20 (by decide) ?_
  refine x_callS0r C (q2_isIn l g _ s 0 5) cd_X2_isIn kl_X2_36 (as := [_, _, _]) rfl rfl ⟨⟨by decide, by decide⟩, by decide, by decide⟩ ⟨rfl, rfl⟩ (Nat.le_of_ble_eq_true rfl) dX2_setSnow_21 ?_
  refine x_bif_ne C (tgt := 33) dX2_setSnow_24 (by decide) (fun c24 => ?_) (fun c24 => absurd hs c24)
  refine x_aload_n C dX2_setSnow_33 rfl ?_
  refine x_getR C fl_X2_9 rfl (by decide) rfl dX2_setSnow_34 ?_
  refine x_iload_n C dX2_setSnow_37 rfl ?_
  refine x_iald C (n := 32) rfl (by decide) rfl (nI_tn ha.1) (tn31 ha) dX2_setSnow_38 ?_
  refine x_istore_n C (lo' := [(3, _), (0, _), (1, _), (2, _)]) dX2_setSnow_39 (by decide) rfl ?_
  refine x_aload_n C dX2_setSnow_40 rfl ?_
  refine x_getR C fl_X2_9 rfl (by decide) rfl dX2_setSnow_41 ?_
  refine x_iload_n C dX2_setSnow_44 rfl ?_
  refine x_iload_n C dX2_setSnow_45 rfl ?_
  refine x_iast C (n := 32) rfl (by decide) rfl (nI_tn ha.1) (tn31 ha) dX2_setSnow_46 ?_
  refine x_iload_n C dX2_setSnow_47 rfl ?_
  exact x_iret C hq ⟨by decide, by decide⟩ dX2_setSnow_48 (rfl) (rfl)
abbrev rmX2_shout : Room := { frames := 2, cells := 0, slots := 0, locals := 44 }
set_option maxHeartbeats 1000000 in
set_option maxRecDepth 100000 in
theorem q2_shout_b1 (l : Launch) (g : GT) (M : Mem) (a r ld : Int32) (hb : ¬ (0 ≤ a ∧ a ≤ 31)) : CM l yX2_shout cX2_shout 4 (some .int) rmX2_shout g M [.ref (ga g 29), .int a, .int r, .int ld] (some (.int 0)) (wr (wr M 29 0 0) 29 0 1) := by
  refine CM.of (by decide) (Nat.le_of_ble_eq_true rfl) (fun X C hq => ?_)
  have C : Cx X g l cX2_shout 4 RX2 (some .int) rmX2_shout := C
  show V X g 0 0 0 [(0, .ref (ga g 29)), (1, .int a), (2, .int r), (3, .int ld)] [] M
  refine x_aload_n C dX2_shout_0 rfl ?_
  refine x_iconst C (v := 0) dX2_shout_1 (by decide) ?_
  refine x_putI C fl_X2_32 rfl (by decide) rfl dX2_shout_2 ?_
  refine x_iload_n C dX2_shout_5 rfl ?_
  refine x_callS0r C (q2_isStone l g _ a) cd_X2_isStone kl_X2_58 (as := [_]) rfl rfl ⟨⟨by decide, by decide⟩, by decide, by decide⟩ ⟨rfl, rfl⟩ (Nat.le_of_ble_eq_true rfl) dX2_shout_6 ?_
  refine x_bif_ne C (tgt := 18) dX2_shout_9 (by decide) (fun c9 => absurd c9 hb) (fun c9 => ?_)
  refine x_aload_n C dX2_shout_12 rfl ?_
  refine x_iconst C (v := 1) dX2_shout_13 (by decide) ?_
  refine x_callV0r C (q2_no l g _ 1) cd_X2_no kl_X2_92 ci2 rfl (by decide) (as := [_]) rfl rfl ⟨⟨by decide, by decide⟩, by decide, by decide⟩ ⟨rfl, rfl⟩ (Nat.le_of_ble_eq_true rfl) dX2_shout_14 ?_
  exact x_iret C hq ⟨by decide, by decide⟩ dX2_shout_17 (rfl) (rfl)
set_option maxHeartbeats 1000000 in
set_option maxRecDepth 100000 in
theorem q2_shout_b2 (l : Launch) (g : GT) (M : Mem) (a r ld : Int32) (ha : (0 ≤ a ∧ a ≤ 31)) (hb : ¬ (1 ≤ ld ∧ ld ≤ 99)) : CM l yX2_shout cX2_shout 4 (some .int) rmX2_shout g M [.ref (ga g 29), .int a, .int r, .int ld] (some (.int 0)) (wr (wr M 29 0 0) 29 0 2) := by
  refine CM.of (by decide) (Nat.le_of_ble_eq_true rfl) (fun X C hq => ?_)
  have C : Cx X g l cX2_shout 4 RX2 (some .int) rmX2_shout := C
  show V X g 0 0 0 [(0, .ref (ga g 29)), (1, .int a), (2, .int r), (3, .int ld)] [] M
  refine x_aload_n C dX2_shout_0 rfl ?_
  refine x_iconst C (v := 0) dX2_shout_1 (by decide) ?_
  refine x_putI C fl_X2_32 rfl (by decide) rfl dX2_shout_2 ?_
  refine x_iload_n C dX2_shout_5 rfl ?_
  refine x_callS0r C (q2_isStone l g _ a) cd_X2_isStone kl_X2_58 (as := [_]) rfl rfl ⟨⟨by decide, by decide⟩, by decide, by decide⟩ ⟨rfl, rfl⟩ (Nat.le_of_ble_eq_true rfl) dX2_shout_6 ?_
  refine x_bif_ne C (tgt := 18) dX2_shout_9 (by decide) (fun c9 => ?_) (fun c9 => absurd ha c9)
  refine x_iload_n C dX2_shout_18 rfl ?_
  refine x_iconst C (v := 1) dX2_shout_19 (by decide) ?_
  refine x_bipush C (v := 99) dX2_shout_20 (by decide) ?_
  refine x_callS0r C (q2_isIn l g _ ld 1 99) cd_X2_isIn kl_X2_36 (as := [_, _, _]) rfl rfl ⟨⟨by decide, by decide⟩, by decide, by decide⟩ ⟨rfl, rfl⟩ (Nat.le_of_ble_eq_true rfl) dX2_shout_22 ?_
  refine x_bif_ne C (tgt := 34) dX2_shout_25 (by decide) (fun c25 => absurd c25 hb) (fun c25 => ?_)
  refine x_aload_n C dX2_shout_28 rfl ?_
  refine x_iconst C (v := 2) dX2_shout_29 (by decide) ?_
  refine x_callV0r C (q2_no l g _ 2) cd_X2_no kl_X2_92 ci2 rfl (by decide) (as := [_]) rfl rfl ⟨⟨by decide, by decide⟩, by decide, by decide⟩ ⟨rfl, rfl⟩ (Nat.le_of_ble_eq_true rfl) dX2_shout_30 ?_
  exact x_iret C hq ⟨by decide, by decide⟩ dX2_shout_33 (rfl) (rfl)
set_option maxHeartbeats 1000000 in
set_option maxRecDepth 100000 in
theorem q2_shout_b3 (l : Launch) (g : GT) (M : Mem) (h : mOK M) (a r ld : Int32) (ha : (0 ≤ a ∧ a ≤ 31)) (hl : (1 ≤ ld ∧ ld ≤ 99)) (hb : M 29 2 = 40 ∨ mMany (wr M 29 0 0) = 8 ∨ mLoudest (wr M 29 0 0) a ≠ -1) : CM l yX2_shout cX2_shout 4 (some .int) rmX2_shout g M [.ref (ga g 29), .int a, .int r, .int ld] (some (.int 0)) (wr (wr M 29 0 0) 29 0 3) := by
  refine CM.of (by decide) (Nat.le_of_ble_eq_true rfl) (fun X C hq => ?_)
  have C : Cx X g l cX2_shout 4 RX2 (some .int) rmX2_shout := C
  show V X g 0 0 0 [(0, .ref (ga g 29)), (1, .int a), (2, .int r), (3, .int ld)] [] M
  refine x_aload_n C dX2_shout_0 rfl ?_
  refine x_iconst C (v := 0) dX2_shout_1 (by decide) ?_
  refine x_putI C fl_X2_32 rfl (by decide) rfl dX2_shout_2 ?_
  refine x_iload_n C dX2_shout_5 rfl ?_
  refine x_callS0r C (q2_isStone l g _ a) cd_X2_isStone kl_X2_58 (as := [_]) rfl rfl ⟨⟨by decide, by decide⟩, by decide, by decide⟩ ⟨rfl, rfl⟩ (Nat.le_of_ble_eq_true rfl) dX2_shout_6 ?_
  refine x_bif_ne C (tgt := 18) dX2_shout_9 (by decide) (fun c9 => ?_) (fun c9 => absurd ha c9)
  refine x_iload_n C dX2_shout_18 rfl ?_
  refine x_iconst C (v := 1) dX2_shout_19 (by decide) ?_
  refine x_bipush C (v := 99) dX2_shout_20 (by decide) ?_
  refine x_callS0r C (q2_isIn l g _ ld 1 99) cd_X2_isIn kl_X2_36 (as := [_, _, _]) rfl rfl ⟨⟨by decide, by decide⟩, by decide, by decide⟩ ⟨rfl, rfl⟩ (Nat.le_of_ble_eq_true rfl) dX2_shout_22 ?_
  refine x_bif_ne C (tgt := 34) dX2_shout_25 (by decide) (fun c25 => ?_) (fun c25 => absurd hl c25)
  refine x_aload_n C dX2_shout_34 rfl ?_
  refine x_getI C fl_X2_43 rfl (by decide) rfl dX2_shout_35 ?_
  refine x_bipush C (v := 40) dX2_shout_38 (by decide) ?_
  refine x_icmp_eq C (tgt := 61) dX2_shout_40 (by decide) (fun c40 => ?_) (fun c40 => ?_)
  · refine x_aload_n C dX2_shout_61 rfl ?_
    refine x_iconst C (v := 3) dX2_shout_62 (by decide) ?_
    refine x_callV0r C (q2_no l g _ 3) cd_X2_no kl_X2_92 ci2 rfl (by decide) (as := [_]) rfl rfl ⟨⟨by decide, by decide⟩, by decide, by decide⟩ ⟨rfl, rfl⟩ (Nat.le_of_ble_eq_true rfl) dX2_shout_63 ?_
    exact x_iret C hq ⟨by decide, by decide⟩ dX2_shout_66 (rfl) (rfl)
  · refine x_aload_n C dX2_shout_43 rfl ?_
    refine x_callV0r C (q2_many l g _ h.thr) cd_X2_many kl_X2_98 ci2 rfl (by decide) (as := []) rfl rfl ⟨⟨by decide, by decide⟩, by decide, by decide⟩ ⟨rfl, rfl⟩ (Nat.le_of_ble_eq_true rfl) dX2_shout_44 ?_
    refine x_bipush C (v := 8) dX2_shout_47 (by decide) ?_
    refine x_icmp_eq C (tgt := 61) dX2_shout_49 (by decide) (fun c49 => ?_) (fun c49 => ?_)
    · refine x_aload_n C dX2_shout_61 rfl ?_
      refine x_iconst C (v := 3) dX2_shout_62 (by decide) ?_
      refine x_callV0r C (q2_no l g _ 3) cd_X2_no kl_X2_92 ci2 rfl (by decide) (as := [_]) rfl rfl ⟨⟨by decide, by decide⟩, by decide, by decide⟩ ⟨rfl, rfl⟩ (Nat.le_of_ble_eq_true rfl) dX2_shout_63 ?_
      exact x_iret C hq ⟨by decide, by decide⟩ dX2_shout_66 (rfl) (rfl)
    · refine x_aload_n C dX2_shout_52 rfl ?_
      refine x_iload_n C dX2_shout_53 rfl ?_
      refine x_callV0r C (q2_loudest l g _ h.thr a) cd_X2_loudest kl_X2_69 ci2 rfl (by decide) (as := [_]) rfl rfl ⟨⟨by decide, by decide⟩, by decide, by decide⟩ ⟨rfl, rfl⟩ (Nat.le_of_ble_eq_true rfl) dX2_shout_54 ?_
      refine x_iconst C (v := (-1)) dX2_shout_57 (by decide) ?_
      refine x_icmp_eq C (tgt := 67) dX2_shout_58 (by decide) (fun c58 => absurd c58 ((hb.resolve_left c40).resolve_left c49)) (fun c58 => ?_)
      refine x_aload_n C dX2_shout_61 rfl ?_
      refine x_iconst C (v := 3) dX2_shout_62 (by decide) ?_
      refine x_callV0r C (q2_no l g _ 3) cd_X2_no kl_X2_92 ci2 rfl (by decide) (as := [_]) rfl rfl ⟨⟨by decide, by decide⟩, by decide, by decide⟩ ⟨rfl, rfl⟩ (Nat.le_of_ble_eq_true rfl) dX2_shout_63 ?_
      exact x_iret C hq ⟨by decide, by decide⟩ dX2_shout_66 (rfl) (rfl)
def mSho1 (M : Mem) (a wy ld : Int32) : Mem :=
  wr (wr (wr (wr (wr (wr M 29 0 0) 34 (27 + tn (M 29 2)) ld) 34 (67 + tn (M 29 2)) a) 34 (107 + tn (M 29 2)) wy) 34 (147 + tn (M 29 2)) 0) 29 2 (M 29 2 + 1)
def mSho (M : Mem) (a r ld : Int32) : Mem := mSho1 M a (if r = 0 then -1 else 1) ld
set_option maxHeartbeats 1000000 in
set_option maxRecDepth 100000 in
theorem q2_shout (l : Launch) (g : GT) (M : Mem) (h : mOK M) (a r ld : Int32) (ha : (0 ≤ a ∧ a ≤ 31)) (hl : (1 ≤ ld ∧ ld ≤ 99)) (h1 : ¬ M 29 2 = 40) (h2 : ¬ mMany (wr M 29 0 0) = 8) (h3 : mLoudest (wr M 29 0 0) a = -1) : CM l yX2_shout cX2_shout 4 (some .int) rmX2_shout g M [.ref (ga g 29), .int a, .int r, .int ld] (some (.int (M 29 2 + 1 - 1))) (mSho M a r ld) := by
  refine CM.of (by decide) (Nat.le_of_ble_eq_true rfl) (fun X C hq => ?_)
  have C : Cx X g l cX2_shout 4 RX2 (some .int) rmX2_shout := C
  show V X g 0 0 0 [(0, .ref (ga g 29)), (1, .int a), (2, .int r), (3, .int ld)] [] M
  have hs9 : tn (M 29 2) < 40 := tn_lt (n := 40) h.2.1.1 (by decide) (i_lt.mpr (by
      have z := i_le.mp h.2.1.2
      have z2 : (M 29 2).toInt ≠ 40 := fun q => h1 (i_eq.mpr q)
      have z3 : (40 : Int32).toInt = 40 := rfl
      show (M 29 2).toInt < (40 : Int32).toInt
      omega))
  refine x_aload_n C dX2_shout_0 rfl ?_
  refine x_iconst C (v := 0) dX2_shout_1 (by decide) ?_
  refine x_putI C fl_X2_32 rfl (by decide) rfl dX2_shout_2 ?_
  refine x_iload_n C dX2_shout_5 rfl ?_
  refine x_callS0r C (q2_isStone l g _ a) cd_X2_isStone kl_X2_58 (as := [_]) rfl rfl ⟨⟨by decide, by decide⟩, by decide, by decide⟩ ⟨rfl, rfl⟩ (Nat.le_of_ble_eq_true rfl) dX2_shout_6 ?_
  refine x_bif_ne C (tgt := 18) dX2_shout_9 (by decide) (fun c9 => ?_) (fun c9 => absurd ha c9)
  refine x_iload_n C dX2_shout_18 rfl ?_
  refine x_iconst C (v := 1) dX2_shout_19 (by decide) ?_
  refine x_bipush C (v := 99) dX2_shout_20 (by decide) ?_
  refine x_callS0r C (q2_isIn l g _ ld 1 99) cd_X2_isIn kl_X2_36 (as := [_, _, _]) rfl rfl ⟨⟨by decide, by decide⟩, by decide, by decide⟩ ⟨rfl, rfl⟩ (Nat.le_of_ble_eq_true rfl) dX2_shout_22 ?_
  refine x_bif_ne C (tgt := 34) dX2_shout_25 (by decide) (fun c25 => ?_) (fun c25 => absurd hl c25)
  refine x_aload_n C dX2_shout_34 rfl ?_
  refine x_getI C fl_X2_43 rfl (by decide) rfl dX2_shout_35 ?_
  refine x_bipush C (v := 40) dX2_shout_38 (by decide) ?_
  refine x_icmp_eq C (tgt := 61) dX2_shout_40 (by decide) (fun c40 => absurd c40 h1) (fun c40 => ?_)
  refine x_aload_n C dX2_shout_43 rfl ?_
  refine x_callV0r C (q2_many l g _ h.thr) cd_X2_many kl_X2_98 ci2 rfl (by decide) (as := []) rfl rfl ⟨⟨by decide, by decide⟩, by decide, by decide⟩ ⟨rfl, rfl⟩ (Nat.le_of_ble_eq_true rfl) dX2_shout_44 ?_
  refine x_bipush C (v := 8) dX2_shout_47 (by decide) ?_
  refine x_icmp_eq C (tgt := 61) dX2_shout_49 (by decide) (fun c49 => absurd c49 h2) (fun c49 => ?_)
  refine x_aload_n C dX2_shout_52 rfl ?_
  refine x_iload_n C dX2_shout_53 rfl ?_
  refine x_callV0r C (q2_loudest l g _ h.thr a) cd_X2_loudest kl_X2_69 ci2 rfl (by decide) (as := [_]) rfl rfl ⟨⟨by decide, by decide⟩, by decide, by decide⟩ ⟨rfl, rfl⟩ (Nat.le_of_ble_eq_true rfl) dX2_shout_54 ?_
  refine x_iconst C (v := (-1)) dX2_shout_57 (by decide) ?_
  refine x_icmp_eq C (tgt := 67) dX2_shout_58 (by decide) (fun c58 => ?_) (fun c58 => absurd h3 c58)
  refine x_aload_n C dX2_shout_67 rfl ?_
  refine x_getR C fl_X2_22 rfl (by decide) rfl dX2_shout_68 ?_
  refine x_bipush C (v := 27) dX2_shout_71 (by decide) ?_
  refine x_aload_n C dX2_shout_73 rfl ?_
  refine x_getI C fl_X2_43 rfl (by decide) rfl dX2_shout_74 ?_
  refine x_iadd C dX2_shout_77 ?_
  refine x_iload_n C dX2_shout_78 rfl ?_
  refine x_iast C (n := 187) rfl (by decide) rfl (ix_t 27 h.2.1.1) (show 27 + tn (M 29 2) < 187 by omega) dX2_shout_79 ?_
  refine x_aload_n C dX2_shout_80 rfl ?_
  refine x_getR C fl_X2_22 rfl (by decide) rfl dX2_shout_81 ?_
  refine x_bipush C (v := 67) dX2_shout_84 (by decide) ?_
  refine x_aload_n C dX2_shout_86 rfl ?_
  refine x_getI C fl_X2_43 rfl (by decide) rfl dX2_shout_87 ?_
  refine x_iadd C dX2_shout_90 ?_
  refine x_iload_n C dX2_shout_91 rfl ?_
  refine x_iast C (n := 187) rfl (by decide) rfl (ix_t 67 h.2.1.1) (show 67 + tn (M 29 2) < 187 by omega) dX2_shout_92 ?_
  refine x_aload_n C dX2_shout_93 rfl ?_
  refine x_getR C fl_X2_22 rfl (by decide) rfl dX2_shout_94 ?_
  refine x_bipush C (v := 107) dX2_shout_97 (by decide) ?_
  refine x_aload_n C dX2_shout_99 rfl ?_
  refine x_getI C fl_X2_43 rfl (by decide) rfl dX2_shout_100 ?_
  refine x_iadd C dX2_shout_103 ?_
  refine x_iload_n C dX2_shout_104 rfl ?_
  refine x_if_eq C (tgt := 112) dX2_shout_105 (by decide) (fun c105 => ?_) (fun c105 => ?_)
  · refine x_iconst C (v := (-1)) dX2_shout_112 (by decide) ?_
    refine x_iast C (n := 187) rfl (by decide) rfl (ix_t 107 h.2.1.1) (show 107 + tn (M 29 2) < 187 by omega) dX2_shout_113 ?_
    refine x_aload_n C dX2_shout_114 rfl ?_
    refine x_getR C fl_X2_22 rfl (by decide) rfl dX2_shout_115 ?_
    refine x_sipush C (v := 147) dX2_shout_118 (by decide) ?_
    refine x_aload_n C dX2_shout_121 rfl ?_
    refine x_getI C fl_X2_43 rfl (by decide) rfl dX2_shout_122 ?_
    refine x_iadd C dX2_shout_125 ?_
    refine x_iconst C (v := 0) dX2_shout_126 (by decide) ?_
    refine x_iast C (n := 187) rfl (by decide) rfl (ix_t 147 h.2.1.1) (show 147 + tn (M 29 2) < 187 by omega) dX2_shout_127 ?_
    refine x_aload_n C dX2_shout_128 rfl ?_
    refine x_dup C dX2_shout_129 rfl ?_
    refine x_getI C fl_X2_43 rfl (by decide) rfl dX2_shout_130 ?_
    refine x_iconst C (v := 1) dX2_shout_133 (by decide) ?_
    refine x_iadd C dX2_shout_134 ?_
    refine x_putI C fl_X2_43 rfl (by decide) rfl dX2_shout_135 ?_
    refine x_aload_n C dX2_shout_138 rfl ?_
    refine x_getI C fl_X2_43 rfl (by decide) rfl dX2_shout_139 ?_
    refine x_iconst C (v := 1) dX2_shout_142 (by decide) ?_
    refine x_isub C dX2_shout_143 ?_
    exact x_iret C hq ⟨by decide, by decide⟩ dX2_shout_144 (rfl) (by first | exact congrArg (fun z => mSho1 M a z ld) (if_pos c105) | exact congrArg (fun z => mSho1 M a z ld) (if_neg c105))
  · refine x_iconst C (v := 1) dX2_shout_108 (by decide) ?_
    refine x_goto C (tgt := 113) dX2_shout_109 (by decide) ?_
    refine x_iast C (n := 187) rfl (by decide) rfl (ix_t 107 h.2.1.1) (show 107 + tn (M 29 2) < 187 by omega) dX2_shout_113 ?_
    refine x_aload_n C dX2_shout_114 rfl ?_
    refine x_getR C fl_X2_22 rfl (by decide) rfl dX2_shout_115 ?_
    refine x_sipush C (v := 147) dX2_shout_118 (by decide) ?_
    refine x_aload_n C dX2_shout_121 rfl ?_
    refine x_getI C fl_X2_43 rfl (by decide) rfl dX2_shout_122 ?_
    refine x_iadd C dX2_shout_125 ?_
    refine x_iconst C (v := 0) dX2_shout_126 (by decide) ?_
    refine x_iast C (n := 187) rfl (by decide) rfl (ix_t 147 h.2.1.1) (show 147 + tn (M 29 2) < 187 by omega) dX2_shout_127 ?_
    refine x_aload_n C dX2_shout_128 rfl ?_
    refine x_dup C dX2_shout_129 rfl ?_
    refine x_getI C fl_X2_43 rfl (by decide) rfl dX2_shout_130 ?_
    refine x_iconst C (v := 1) dX2_shout_133 (by decide) ?_
    refine x_iadd C dX2_shout_134 ?_
    refine x_putI C fl_X2_43 rfl (by decide) rfl dX2_shout_135 ?_
    refine x_aload_n C dX2_shout_138 rfl ?_
    refine x_getI C fl_X2_43 rfl (by decide) rfl dX2_shout_139 ?_
    refine x_iconst C (v := 1) dX2_shout_142 (by decide) ?_
    refine x_isub C dX2_shout_143 ?_
    exact x_iret C hq ⟨by decide, by decide⟩ dX2_shout_144 (rfl) (by first | exact congrArg (fun z => mSho1 M a z ld) (if_pos c105) | exact congrArg (fun z => mSho1 M a z ld) (if_neg c105))
abbrev rmX2_pass : Room := { frames := 5, cells := 0, slots := 0, locals := 119 }
set_option maxHeartbeats 1000000 in
set_option maxRecDepth 100000 in
theorem q2_pass_b (l : Launch) (g : GT) (M : Mem) (b : Int32) (hb : ¬ (1 ≤ b ∧ b ≤ 100)) : CM l yX2_pass cX2_pass 3 (some .int) rmX2_pass g M [.ref (ga g 29), .int b] (some (.int 0)) (wr (wr M 29 0 0) 29 0 1) := by
  refine CM.of (by decide) (Nat.le_of_ble_eq_true rfl) (fun X C hq => ?_)
  have C : Cx X g l cX2_pass 3 RX2 (some .int) rmX2_pass := C
  show V X g 0 0 0 [(0, .ref (ga g 29)), (1, .int b)] [] M
  refine x_aload_n C dX2_pass_0 rfl ?_
  refine x_iconst C (v := 0) dX2_pass_1 (by decide) ?_
  refine x_putI C fl_X2_32 rfl (by decide) rfl dX2_pass_2 ?_
  refine x_iload_n C dX2_pass_5 rfl ?_
  refine x_iconst C (v := 1) dX2_pass_6 (by decide) ?_
  refine x_bipush C (v := 100) dX2_pass_7 (by decide) ?_
  refine x_callS0r C (q2_isIn l g _ b 1 100) cd_X2_isIn kl_X2_36 (as := [_, _, _]) rfl rfl ⟨⟨by decide, by decide⟩, by decide, by decide⟩ ⟨rfl, rfl⟩ (Nat.le_of_ble_eq_true rfl) dX2_pass_9 ?_
  refine x_bif_ne C (tgt := 21) dX2_pass_12 (by decide) (fun c12 => absurd c12 hb) (fun c12 => ?_)
  refine x_aload_n C dX2_pass_15 rfl ?_
  refine x_iconst C (v := 1) dX2_pass_16 (by decide) ?_
  refine x_callV0r C (q2_no l g _ 1) cd_X2_no kl_X2_92 ci2 rfl (by decide) (as := [_]) rfl rfl ⟨⟨by decide, by decide⟩, by decide, by decide⟩ ⟨rfl, rfl⟩ (Nat.le_of_ble_eq_true rfl) dX2_pass_17 ?_
  exact x_iret C hq ⟨by decide, by decide⟩ dX2_pass_20 (rfl) (rfl)
set_option maxHeartbeats 1000000 in
set_option maxRecDepth 100000 in
theorem q2_pass (l : Launch) (g : GT) (M : Mem) (h : mOK M) (b : Int32) (hb : 1 ≤ b ∧ b ≤ 100) : CM l yX2_pass cX2_pass 3 (some .int) rmX2_pass g M [.ref (ga g 29), .int b] (some (.int (mBeats (wr M 29 0 0) (tn b) 34 3 + mBeats (wr M 29 0 0) (tn b) 34 4 - (M 34 3 + M 34 4)))) (mBeats (wr M 29 0 0) (tn b)) := by
  refine CM.of (by decide) (Nat.le_of_ble_eq_true rfl) (fun X C hq => ?_)
  have C : Cx X g l cX2_pass 3 RX2 (some .int) rmX2_pass := C
  show V X g 0 0 0 [(0, .ref (ga g 29)), (1, .int b)] [] M
  refine x_aload_n C dX2_pass_0 rfl ?_
  refine x_iconst C (v := 0) dX2_pass_1 (by decide) ?_
  refine x_putI C fl_X2_32 rfl (by decide) rfl dX2_pass_2 ?_
  refine x_iload_n C dX2_pass_5 rfl ?_
  refine x_iconst C (v := 1) dX2_pass_6 (by decide) ?_
  refine x_bipush C (v := 100) dX2_pass_7 (by decide) ?_
  refine x_callS0r C (q2_isIn l g _ b 1 100) cd_X2_isIn kl_X2_36 (as := [_, _, _]) rfl rfl ⟨⟨by decide, by decide⟩, by decide, by decide⟩ ⟨rfl, rfl⟩ (Nat.le_of_ble_eq_true rfl) dX2_pass_9 ?_
  refine x_bif_ne C (tgt := 21) dX2_pass_12 (by decide) (fun c12 => ?_) (fun c12 => absurd hb c12)
  refine x_aload_n C dX2_pass_21 rfl ?_
  refine x_callV0r C (q2_coins l g _) cd_X2_coins kl_X2_102 ci2 rfl (by decide) (as := []) rfl rfl ⟨⟨by decide, by decide⟩, by decide, by decide⟩ ⟨rfl, rfl⟩ (Nat.le_of_ble_eq_true rfl) dX2_pass_22 ?_
  refine x_istore_n C (lo' := [(2, _), (0, _), (1, _)]) dX2_pass_25 (by decide) rfl ?_
  refine x_aload_n C dX2_pass_26 rfl ?_
  refine x_iload_n C dX2_pass_27 rfl ?_
  refine x_callV0v C (q2_beatsOn l g _ h.thr b (Int32.le_trans (by decide) hb.1)) cd_X2_beatsOn kl_X2_105 ci2 rfl (by decide) (as := [_]) rfl rfl ⟨⟨by decide, by decide⟩, by decide, by decide⟩ ⟨rfl, rfl⟩ (Nat.le_of_ble_eq_true rfl) dX2_pass_28 ?_
  refine x_aload_n C dX2_pass_31 rfl ?_
  refine x_callV0r C (q2_coins l g _) cd_X2_coins kl_X2_102 ci2 rfl (by decide) (as := []) rfl rfl ⟨⟨by decide, by decide⟩, by decide, by decide⟩ ⟨rfl, rfl⟩ (Nat.le_of_ble_eq_true rfl) dX2_pass_32 ?_
  refine x_iload_n C dX2_pass_35 rfl ?_
  refine x_isub C dX2_pass_36 ?_
  exact x_iret C hq ⟨by decide, by decide⟩ dX2_pass_37 (rfl) (rfl)
abbrev rmX2_beat : Room := { frames := 1, cells := 0, slots := 0, locals := 21 }
set_option maxHeartbeats 1000000 in
set_option maxRecDepth 100000 in
theorem q2_beat (l : Launch) (g : GT) (M : Mem) : CM l yX2_beat cX2_beat 1 (some .int) rmX2_beat g M [.ref (ga g 29)] (some (.int (M 34 0))) ((wr M 29 0 0)) := by
  refine CM.of (by decide) (Nat.le_of_ble_eq_true rfl) (fun X C hq => ?_)
  have C : Cx X g l cX2_beat 1 RX2 (some .int) rmX2_beat := C
  show V X g 0 0 0 [(0, .ref (ga g 29))] [] M
  refine x_aload_n C dX2_beat_0 rfl ?_
  refine x_aload_n C dX2_beat_1 rfl ?_
  refine x_getR C fl_X2_22 rfl (by decide) rfl dX2_beat_2 ?_
  refine x_iconst C (v := 0) dX2_beat_5 (by decide) ?_
  refine x_iald C (n := 187) rfl (by decide) rfl (rfl) ((by decide : 0 < 187)) dX2_beat_6 ?_
  refine x_callV0r C (q2_ok l g _ _) cd_X2_ok kl_X2_108 ci2 rfl (by decide) (as := [_]) rfl rfl ⟨⟨by decide, by decide⟩, by decide, by decide⟩ ⟨rfl, rfl⟩ (Nat.le_of_ble_eq_true rfl) dX2_beat_7 ?_
  exact x_iret C hq ⟨by decide, by decide⟩ dX2_beat_10 (rfl) (rfl)
abbrev rmX2_walls : Room := { frames := 1, cells := 0, slots := 0, locals := 21 }
set_option maxHeartbeats 1000000 in
set_option maxRecDepth 100000 in
theorem q2_walls (l : Launch) (g : GT) (M : Mem) : CM l yX2_walls cX2_walls 1 (some .int) rmX2_walls g M [.ref (ga g 29)] (some (.int (M 29 1))) ((wr M 29 0 0)) := by
  refine CM.of (by decide) (Nat.le_of_ble_eq_true rfl) (fun X C hq => ?_)
  have C : Cx X g l cX2_walls 1 RX2 (some .int) rmX2_walls := C
  show V X g 0 0 0 [(0, .ref (ga g 29))] [] M
  refine x_aload_n C dX2_walls_0 rfl ?_
  refine x_aload_n C dX2_walls_1 rfl ?_
  refine x_getI C fl_X2_40 rfl (by decide) rfl dX2_walls_2 ?_
  refine x_callV0r C (q2_ok l g _ _) cd_X2_ok kl_X2_108 ci2 rfl (by decide) (as := [_]) rfl rfl ⟨⟨by decide, by decide⟩, by decide, by decide⟩ ⟨rfl, rfl⟩ (Nat.le_of_ble_eq_true rfl) dX2_walls_5 ?_
  exact x_iret C hq ⟨by decide, by decide⟩ dX2_walls_8 (rfl) (rfl)
abbrev rmX2_shouts : Room := { frames := 1, cells := 0, slots := 0, locals := 21 }
set_option maxHeartbeats 1000000 in
set_option maxRecDepth 100000 in
theorem q2_shouts (l : Launch) (g : GT) (M : Mem) : CM l yX2_shouts cX2_shouts 1 (some .int) rmX2_shouts g M [.ref (ga g 29)] (some (.int (M 29 2))) ((wr M 29 0 0)) := by
  refine CM.of (by decide) (Nat.le_of_ble_eq_true rfl) (fun X C hq => ?_)
  have C : Cx X g l cX2_shouts 1 RX2 (some .int) rmX2_shouts := C
  show V X g 0 0 0 [(0, .ref (ga g 29))] [] M
  refine x_aload_n C dX2_shouts_0 rfl ?_
  refine x_aload_n C dX2_shouts_1 rfl ?_
  refine x_getI C fl_X2_43 rfl (by decide) rfl dX2_shouts_2 ?_
  refine x_callV0r C (q2_ok l g _ _) cd_X2_ok kl_X2_108 ci2 rfl (by decide) (as := [_]) rfl rfl ⟨⟨by decide, by decide⟩, by decide, by decide⟩ ⟨rfl, rfl⟩ (Nat.le_of_ble_eq_true rfl) dX2_shouts_5 ?_
  exact x_iret C hq ⟨by decide, by decide⟩ dX2_shouts_8 (rfl) (rfl)
abbrev rmX2_overlaps : Room := { frames := 1, cells := 0, slots := 0, locals := 21 }
set_option maxHeartbeats 1000000 in
set_option maxRecDepth 100000 in
theorem q2_overlaps (l : Launch) (g : GT) (M : Mem) : CM l yX2_overlaps cX2_overlaps 1 (some .int) rmX2_overlaps g M [.ref (ga g 29)] (some (.int (M 34 1))) ((wr M 29 0 0)) := by
  refine CM.of (by decide) (Nat.le_of_ble_eq_true rfl) (fun X C hq => ?_)
  have C : Cx X g l cX2_overlaps 1 RX2 (some .int) rmX2_overlaps := C
  show V X g 0 0 0 [(0, .ref (ga g 29))] [] M
  refine x_aload_n C dX2_overlaps_0 rfl ?_
  refine x_aload_n C dX2_overlaps_1 rfl ?_
  refine x_getR C fl_X2_22 rfl (by decide) rfl dX2_overlaps_2 ?_
  refine x_iconst C (v := 1) dX2_overlaps_5 (by decide) ?_
  refine x_iald C (n := 187) rfl (by decide) rfl (rfl) ((by decide : 1 < 187)) dX2_overlaps_6 ?_
  refine x_callV0r C (q2_ok l g _ _) cd_X2_ok kl_X2_108 ci2 rfl (by decide) (as := [_]) rfl rfl ⟨⟨by decide, by decide⟩, by decide, by decide⟩ ⟨rfl, rfl⟩ (Nat.le_of_ble_eq_true rfl) dX2_overlaps_7 ?_
  exact x_iret C hq ⟨by decide, by decide⟩ dX2_overlaps_10 (rfl) (rfl)
abbrev rmX2_inherited : Room := { frames := 1, cells := 0, slots := 0, locals := 21 }
set_option maxHeartbeats 1000000 in
set_option maxRecDepth 100000 in
theorem q2_inherited (l : Launch) (g : GT) (M : Mem) : CM l yX2_inherited cX2_inherited 1 (some .int) rmX2_inherited g M [.ref (ga g 29)] (some (.int (M 34 2))) ((wr M 29 0 0)) := by
  refine CM.of (by decide) (Nat.le_of_ble_eq_true rfl) (fun X C hq => ?_)
  have C : Cx X g l cX2_inherited 1 RX2 (some .int) rmX2_inherited := C
  show V X g 0 0 0 [(0, .ref (ga g 29))] [] M
  refine x_aload_n C dX2_inherited_0 rfl ?_
  refine x_aload_n C dX2_inherited_1 rfl ?_
  refine x_getR C fl_X2_22 rfl (by decide) rfl dX2_inherited_2 ?_
  refine x_iconst C (v := 2) dX2_inherited_5 (by decide) ?_
  refine x_iald C (n := 187) rfl (by decide) rfl (rfl) ((by decide : 2 < 187)) dX2_inherited_6 ?_
  refine x_callV0r C (q2_ok l g _ _) cd_X2_ok kl_X2_108 ci2 rfl (by decide) (as := [_]) rfl rfl ⟨⟨by decide, by decide⟩, by decide, by decide⟩ ⟨rfl, rfl⟩ (Nat.le_of_ble_eq_true rfl) dX2_inherited_7 ?_
  exact x_iret C hq ⟨by decide, by decide⟩ dX2_inherited_10 (rfl) (rfl)
abbrev rmX2_underWay : Room := { frames := 2, cells := 0, slots := 0, locals := 43 }
set_option maxHeartbeats 1000000 in
set_option maxRecDepth 100000 in
theorem q2_underWay (l : Launch) (g : GT) (M : Mem) (h : mOK M) : CM l yX2_underWay cX2_underWay 1 (some .int) rmX2_underWay g M [.ref (ga g 29)] (some (.int (mMany M))) ((wr M 29 0 0)) := by
  refine CM.of (by decide) (Nat.le_of_ble_eq_true rfl) (fun X C hq => ?_)
  have C : Cx X g l cX2_underWay 1 RX2 (some .int) rmX2_underWay := C
  show V X g 0 0 0 [(0, .ref (ga g 29))] [] M
  refine x_aload_n C dX2_underWay_0 rfl ?_
  refine x_aload_n C dX2_underWay_1 rfl ?_
  refine x_callV0r C (q2_many l g _ h) cd_X2_many kl_X2_98 ci2 rfl (by decide) (as := []) rfl rfl ⟨⟨by decide, by decide⟩, by decide, by decide⟩ ⟨rfl, rfl⟩ (Nat.le_of_ble_eq_true rfl) dX2_underWay_2 ?_
  refine x_callV0r C (q2_ok l g _ _) cd_X2_ok kl_X2_108 ci2 rfl (by decide) (as := [_]) rfl rfl ⟨⟨by decide, by decide⟩, by decide, by decide⟩ ⟨rfl, rfl⟩ (Nat.le_of_ble_eq_true rfl) dX2_underWay_5 ?_
  exact x_iret C hq ⟨by decide, by decide⟩ dX2_underWay_8 (rfl) (rfl)
abbrev rmX2_snowOn : Room := { frames := 2, cells := 0, slots := 0, locals := 42 }
set_option maxHeartbeats 1000000 in
set_option maxRecDepth 100000 in
theorem q2_snowOn_b (l : Launch) (g : GT) (M : Mem) (a : Int32) (hb : ¬ (0 ≤ a ∧ a ≤ 31)) : CM l yX2_snowOn cX2_snowOn 2 (some .int) rmX2_snowOn g M [.ref (ga g 29), .int a] (some (.int 0)) (wr M 29 0 1) := by
  refine CM.of (by decide) (Nat.le_of_ble_eq_true rfl) (fun X C hq => ?_)
  have C : Cx X g l cX2_snowOn 2 RX2 (some .int) rmX2_snowOn := C
  show V X g 0 0 0 [(0, .ref (ga g 29)), (1, .int a)] [] M
  refine x_aload_n C dX2_snowOn_0 rfl ?_
  refine x_iload_n C dX2_snowOn_1 rfl ?_
  refine x_callS0r C (q2_isStone l g _ a) cd_X2_isStone kl_X2_58 (as := [_]) rfl rfl ⟨⟨by decide, by decide⟩, by decide, by decide⟩ ⟨rfl, rfl⟩ (Nat.le_of_ble_eq_true rfl) dX2_snowOn_2 ?_
  refine x_callV0r C (q2_isKnown_f l g _ _ hb) cd_X2_isKnown kl_X2_111 ci2 rfl (by decide) (as := [_]) rfl rfl ⟨⟨by decide, by decide⟩, by decide, by decide⟩ ⟨rfl, rfl⟩ (Nat.le_of_ble_eq_true rfl) dX2_snowOn_5 ?_
  refine x_bif_eq C (tgt := 20) dX2_snowOn_8 (by decide) (fun c8 => ?_) (fun c8 => absurd c8 hb)
  refine x_iconst C (v := 0) dX2_snowOn_20 (by decide) ?_
  exact x_iret C hq ⟨by decide, by decide⟩ dX2_snowOn_21 (rfl) (rfl)
set_option maxHeartbeats 1000000 in
set_option maxRecDepth 100000 in
theorem q2_snowOn (l : Launch) (g : GT) (M : Mem) (a : Int32) (hc : (0 ≤ a ∧ a ≤ 31)) : CM l yX2_snowOn cX2_snowOn 2 (some .int) rmX2_snowOn g M [.ref (ga g 29), .int a] (some (.int (M 30 (tn a)))) (wr M 29 0 0) := by
  refine CM.of (by decide) (Nat.le_of_ble_eq_true rfl) (fun X C hq => ?_)
  have C : Cx X g l cX2_snowOn 2 RX2 (some .int) rmX2_snowOn := C
  show V X g 0 0 0 [(0, .ref (ga g 29)), (1, .int a)] [] M
  refine x_aload_n C dX2_snowOn_0 rfl ?_
  refine x_iload_n C dX2_snowOn_1 rfl ?_
  refine x_callS0r C (q2_isStone l g _ a) cd_X2_isStone kl_X2_58 (as := [_]) rfl rfl ⟨⟨by decide, by decide⟩, by decide, by decide⟩ ⟨rfl, rfl⟩ (Nat.le_of_ble_eq_true rfl) dX2_snowOn_2 ?_
  refine x_callV0r C (q2_isKnown_t l g _ _ hc) cd_X2_isKnown kl_X2_111 ci2 rfl (by decide) (as := [_]) rfl rfl ⟨⟨by decide, by decide⟩, by decide, by decide⟩ ⟨rfl, rfl⟩ (Nat.le_of_ble_eq_true rfl) dX2_snowOn_5 ?_
  refine x_bif_eq C (tgt := 20) dX2_snowOn_8 (by decide) (fun c8 => absurd hc c8) (fun c8 => ?_)
  refine x_aload_n C dX2_snowOn_11 rfl ?_
  refine x_getR C fl_X2_9 rfl (by decide) rfl dX2_snowOn_12 ?_
  refine x_iload_n C dX2_snowOn_15 rfl ?_
  refine x_iald C (n := 32) rfl (by decide) rfl (nI_tn hc.1) (tn31 hc) dX2_snowOn_16 ?_
  refine x_goto C (tgt := 21) dX2_snowOn_17 (by decide) ?_
  exact x_iret C hq ⟨by decide, by decide⟩ dX2_snowOn_21 (rfl) (rfl)
abbrev rmX2_wallOn : Room := { frames := 2, cells := 0, slots := 0, locals := 42 }
set_option maxHeartbeats 1000000 in
set_option maxRecDepth 100000 in
theorem q2_wallOn_b (l : Launch) (g : GT) (M : Mem) (a : Int32) (hb : ¬ (0 ≤ a ∧ a ≤ 31)) : CM l yX2_wallOn cX2_wallOn 2 (some .int) rmX2_wallOn g M [.ref (ga g 29), .int a] (some (.int 0)) (wr M 29 0 1) := by
  refine CM.of (by decide) (Nat.le_of_ble_eq_true rfl) (fun X C hq => ?_)
  have C : Cx X g l cX2_wallOn 2 RX2 (some .int) rmX2_wallOn := C
  show V X g 0 0 0 [(0, .ref (ga g 29)), (1, .int a)] [] M
  refine x_aload_n C dX2_wallOn_0 rfl ?_
  refine x_iload_n C dX2_wallOn_1 rfl ?_
  refine x_callS0r C (q2_isStone l g _ a) cd_X2_isStone kl_X2_58 (as := [_]) rfl rfl ⟨⟨by decide, by decide⟩, by decide, by decide⟩ ⟨rfl, rfl⟩ (Nat.le_of_ble_eq_true rfl) dX2_wallOn_2 ?_
  refine x_callV0r C (q2_isKnown_f l g _ _ hb) cd_X2_isKnown kl_X2_111 ci2 rfl (by decide) (as := [_]) rfl rfl ⟨⟨by decide, by decide⟩, by decide, by decide⟩ ⟨rfl, rfl⟩ (Nat.le_of_ble_eq_true rfl) dX2_wallOn_5 ?_
  refine x_bif_eq C (tgt := 20) dX2_wallOn_8 (by decide) (fun c8 => ?_) (fun c8 => absurd c8 hb)
  refine x_iconst C (v := 0) dX2_wallOn_20 (by decide) ?_
  exact x_iret C hq ⟨by decide, by decide⟩ dX2_wallOn_21 (rfl) (rfl)
set_option maxHeartbeats 1000000 in
set_option maxRecDepth 100000 in
theorem q2_wallOn (l : Launch) (g : GT) (M : Mem) (a : Int32) (hc : (0 ≤ a ∧ a ≤ 31)) : CM l yX2_wallOn cX2_wallOn 2 (some .int) rmX2_wallOn g M [.ref (ga g 29), .int a] (some (.int (M 31 (tn a)))) (wr M 29 0 0) := by
  refine CM.of (by decide) (Nat.le_of_ble_eq_true rfl) (fun X C hq => ?_)
  have C : Cx X g l cX2_wallOn 2 RX2 (some .int) rmX2_wallOn := C
  show V X g 0 0 0 [(0, .ref (ga g 29)), (1, .int a)] [] M
  refine x_aload_n C dX2_wallOn_0 rfl ?_
  refine x_iload_n C dX2_wallOn_1 rfl ?_
  refine x_callS0r C (q2_isStone l g _ a) cd_X2_isStone kl_X2_58 (as := [_]) rfl rfl ⟨⟨by decide, by decide⟩, by decide, by decide⟩ ⟨rfl, rfl⟩ (Nat.le_of_ble_eq_true rfl) dX2_wallOn_2 ?_
  refine x_callV0r C (q2_isKnown_t l g _ _ hc) cd_X2_isKnown kl_X2_111 ci2 rfl (by decide) (as := [_]) rfl rfl ⟨⟨by decide, by decide⟩, by decide, by decide⟩ ⟨rfl, rfl⟩ (Nat.le_of_ble_eq_true rfl) dX2_wallOn_5 ?_
  refine x_bif_eq C (tgt := 20) dX2_wallOn_8 (by decide) (fun c8 => absurd hc c8) (fun c8 => ?_)
  refine x_aload_n C dX2_wallOn_11 rfl ?_
  refine x_getR C fl_X2_13 rfl (by decide) rfl dX2_wallOn_12 ?_
  refine x_iload_n C dX2_wallOn_15 rfl ?_
  refine x_iald C (n := 32) rfl (by decide) rfl (nI_tn hc.1) (tn31 hc) dX2_wallOn_16 ?_
  refine x_goto C (tgt := 21) dX2_wallOn_17 (by decide) ?_
  exact x_iret C hq ⟨by decide, by decide⟩ dX2_wallOn_21 (rfl) (rfl)
abbrev rmX2_loudOn : Room := { frames := 3, cells := 0, slots := 0, locals := 65 }
set_option maxHeartbeats 1000000 in
set_option maxRecDepth 100000 in
theorem q2_loudOn_b (l : Launch) (g : GT) (M : Mem) (a : Int32) (hb : ¬ (0 ≤ a ∧ a ≤ 31)) : CM l yX2_loudOn cX2_loudOn 2 (some .int) rmX2_loudOn g M [.ref (ga g 29), .int a] (some (.int 0)) (wr M 29 0 1) := by
  refine CM.of (by decide) (Nat.le_of_ble_eq_true rfl) (fun X C hq => ?_)
  have C : Cx X g l cX2_loudOn 2 RX2 (some .int) rmX2_loudOn := C
  show V X g 0 0 0 [(0, .ref (ga g 29)), (1, .int a)] [] M
  refine x_aload_n C dX2_loudOn_0 rfl ?_
  refine x_iload_n C dX2_loudOn_1 rfl ?_
  refine x_callS0r C (q2_isStone l g _ a) cd_X2_isStone kl_X2_58 (as := [_]) rfl rfl ⟨⟨by decide, by decide⟩, by decide, by decide⟩ ⟨rfl, rfl⟩ (Nat.le_of_ble_eq_true rfl) dX2_loudOn_2 ?_
  refine x_callV0r C (q2_isKnown_f l g _ _ hb) cd_X2_isKnown kl_X2_111 ci2 rfl (by decide) (as := [_]) rfl rfl ⟨⟨by decide, by decide⟩, by decide, by decide⟩ ⟨rfl, rfl⟩ (Nat.le_of_ble_eq_true rfl) dX2_loudOn_5 ?_
  refine x_bif_eq C (tgt := 19) dX2_loudOn_8 (by decide) (fun c8 => ?_) (fun c8 => absurd c8 hb)
  refine x_iconst C (v := 0) dX2_loudOn_19 (by decide) ?_
  exact x_iret C hq ⟨by decide, by decide⟩ dX2_loudOn_20 (rfl) (rfl)
set_option maxHeartbeats 1000000 in
set_option maxRecDepth 100000 in
theorem q2_loudOn (l : Launch) (g : GT) (M : Mem) (a : Int32) (hc : (0 ≤ a ∧ a ≤ 31)) (h : mOK M) : CM l yX2_loudOn cX2_loudOn 2 (some .int) rmX2_loudOn g M [.ref (ga g 29), .int a] (some (.int (mLA (wr M 29 0 0) a))) (wr M 29 0 0) := by
  refine CM.of (by decide) (Nat.le_of_ble_eq_true rfl) (fun X C hq => ?_)
  have C : Cx X g l cX2_loudOn 2 RX2 (some .int) rmX2_loudOn := C
  show V X g 0 0 0 [(0, .ref (ga g 29)), (1, .int a)] [] M
  refine x_aload_n C dX2_loudOn_0 rfl ?_
  refine x_iload_n C dX2_loudOn_1 rfl ?_
  refine x_callS0r C (q2_isStone l g _ a) cd_X2_isStone kl_X2_58 (as := [_]) rfl rfl ⟨⟨by decide, by decide⟩, by decide, by decide⟩ ⟨rfl, rfl⟩ (Nat.le_of_ble_eq_true rfl) dX2_loudOn_2 ?_
  refine x_callV0r C (q2_isKnown_t l g _ _ hc) cd_X2_isKnown kl_X2_111 ci2 rfl (by decide) (as := [_]) rfl rfl ⟨⟨by decide, by decide⟩, by decide, by decide⟩ ⟨rfl, rfl⟩ (Nat.le_of_ble_eq_true rfl) dX2_loudOn_5 ?_
  refine x_bif_eq C (tgt := 19) dX2_loudOn_8 (by decide) (fun c8 => absurd hc c8) (fun c8 => ?_)
  refine x_aload_n C dX2_loudOn_11 rfl ?_
  refine x_iload_n C dX2_loudOn_12 rfl ?_
  refine x_callV0r C (q2_loudAt l g _ h.thr a) cd_X2_loudAt kl_X2_115 ci2 rfl (by decide) (as := [_]) rfl rfl ⟨⟨by decide, by decide⟩, by decide, by decide⟩ ⟨rfl, rfl⟩ (Nat.le_of_ble_eq_true rfl) dX2_loudOn_13 ?_
  refine x_goto C (tgt := 20) dX2_loudOn_16 (by decide) ?_
  exact x_iret C hq ⟨by decide, by decide⟩ dX2_loudOn_20 (rfl) (rfl)
abbrev rmX2_stoneOf : Room := { frames := 2, cells := 0, slots := 0, locals := 43 }
set_option maxHeartbeats 1000000 in
set_option maxRecDepth 100000 in
theorem q2_stoneOf_b (l : Launch) (g : GT) (M : Mem) (w : Int32) (hb : ¬ (0 ≤ w ∧ w ≤ M 29 1 - 1)) : CM l yX2_stoneOf cX2_stoneOf 2 (some .int) rmX2_stoneOf g M [.ref (ga g 29), .int w] (some (.int 0)) (wr M 29 0 1) := by
  refine CM.of (by decide) (Nat.le_of_ble_eq_true rfl) (fun X C hq => ?_)
  have C : Cx X g l cX2_stoneOf 2 RX2 (some .int) rmX2_stoneOf := C
  show V X g 0 0 0 [(0, .ref (ga g 29)), (1, .int w)] [] M
  refine x_aload_n C dX2_stoneOf_0 rfl ?_
  refine x_aload_n C dX2_stoneOf_1 rfl ?_
  refine x_iload_n C dX2_stoneOf_2 rfl ?_
  refine x_callV0r C (q2_isWall l g _ w) cd_X2_isWall kl_X2_95 ci2 rfl (by decide) (as := [_]) rfl rfl ⟨⟨by decide, by decide⟩, by decide, by decide⟩ ⟨rfl, rfl⟩ (Nat.le_of_ble_eq_true rfl) dX2_stoneOf_3 ?_
  refine x_callV0r C (q2_isKnown_f l g _ _ hb) cd_X2_isKnown kl_X2_111 ci2 rfl (by decide) (as := [_]) rfl rfl ⟨⟨by decide, by decide⟩, by decide, by decide⟩ ⟨rfl, rfl⟩ (Nat.le_of_ble_eq_true rfl) dX2_stoneOf_6 ?_
  refine x_bif_eq C (tgt := 21) dX2_stoneOf_9 (by decide) (fun c9 => ?_) (fun c9 => absurd c9 hb)
  refine x_iconst C (v := 0) dX2_stoneOf_21 (by decide) ?_
  exact x_iret C hq ⟨by decide, by decide⟩ dX2_stoneOf_22 (rfl) (rfl)
set_option maxHeartbeats 1000000 in
set_option maxRecDepth 100000 in
theorem q2_stoneOf (l : Launch) (g : GT) (M : Mem) (w : Int32) (hc : (0 ≤ w ∧ w ≤ M 29 1 - 1)) (h : mOK M) : CM l yX2_stoneOf cX2_stoneOf 2 (some .int) rmX2_stoneOf g M [.ref (ga g 29), .int w] (some (.int (M 32 (tn w)))) (wr M 29 0 0) := by
  refine CM.of (by decide) (Nat.le_of_ble_eq_true rfl) (fun X C hq => ?_)
  have C : Cx X g l cX2_stoneOf 2 RX2 (some .int) rmX2_stoneOf := C
  show V X g 0 0 0 [(0, .ref (ga g 29)), (1, .int w)] [] M
  have hw9 : tn w < 10 := by have := ix_lt h.1.1 hc; have := h.ws; unfold mWs at this; omega
  refine x_aload_n C dX2_stoneOf_0 rfl ?_
  refine x_aload_n C dX2_stoneOf_1 rfl ?_
  refine x_iload_n C dX2_stoneOf_2 rfl ?_
  refine x_callV0r C (q2_isWall l g _ w) cd_X2_isWall kl_X2_95 ci2 rfl (by decide) (as := [_]) rfl rfl ⟨⟨by decide, by decide⟩, by decide, by decide⟩ ⟨rfl, rfl⟩ (Nat.le_of_ble_eq_true rfl) dX2_stoneOf_3 ?_
  refine x_callV0r C (q2_isKnown_t l g _ _ hc) cd_X2_isKnown kl_X2_111 ci2 rfl (by decide) (as := [_]) rfl rfl ⟨⟨by decide, by decide⟩, by decide, by decide⟩ ⟨rfl, rfl⟩ (Nat.le_of_ble_eq_true rfl) dX2_stoneOf_6 ?_
  refine x_bif_eq C (tgt := 21) dX2_stoneOf_9 (by decide) (fun c9 => absurd hc c9) (fun c9 => ?_)
  refine x_aload_n C dX2_stoneOf_12 rfl ?_
  refine x_getR C fl_X2_16 rfl (by decide) rfl dX2_stoneOf_13 ?_
  refine x_iload_n C dX2_stoneOf_16 rfl ?_
  refine x_iald C (n := 10) rfl (by decide) rfl (nI_tn hc.1) (hw9) dX2_stoneOf_17 ?_
  refine x_goto C (tgt := 22) dX2_stoneOf_18 (by decide) ?_
  exact x_iret C hq ⟨by decide, by decide⟩ dX2_stoneOf_22 (rfl) (rfl)
abbrev rmX2_ownerOf : Room := { frames := 2, cells := 0, slots := 0, locals := 43 }
set_option maxHeartbeats 1000000 in
set_option maxRecDepth 100000 in
theorem q2_ownerOf_b (l : Launch) (g : GT) (M : Mem) (w : Int32) (hb : ¬ (0 ≤ w ∧ w ≤ M 29 1 - 1)) : CM l yX2_ownerOf cX2_ownerOf 2 (some .int) rmX2_ownerOf g M [.ref (ga g 29), .int w] (some (.int 0)) (wr M 29 0 1) := by
  refine CM.of (by decide) (Nat.le_of_ble_eq_true rfl) (fun X C hq => ?_)
  have C : Cx X g l cX2_ownerOf 2 RX2 (some .int) rmX2_ownerOf := C
  show V X g 0 0 0 [(0, .ref (ga g 29)), (1, .int w)] [] M
  refine x_aload_n C dX2_ownerOf_0 rfl ?_
  refine x_aload_n C dX2_ownerOf_1 rfl ?_
  refine x_iload_n C dX2_ownerOf_2 rfl ?_
  refine x_callV0r C (q2_isWall l g _ w) cd_X2_isWall kl_X2_95 ci2 rfl (by decide) (as := [_]) rfl rfl ⟨⟨by decide, by decide⟩, by decide, by decide⟩ ⟨rfl, rfl⟩ (Nat.le_of_ble_eq_true rfl) dX2_ownerOf_3 ?_
  refine x_callV0r C (q2_isKnown_f l g _ _ hb) cd_X2_isKnown kl_X2_111 ci2 rfl (by decide) (as := [_]) rfl rfl ⟨⟨by decide, by decide⟩, by decide, by decide⟩ ⟨rfl, rfl⟩ (Nat.le_of_ble_eq_true rfl) dX2_ownerOf_6 ?_
  refine x_bif_eq C (tgt := 24) dX2_ownerOf_9 (by decide) (fun c9 => ?_) (fun c9 => absurd c9 hb)
  refine x_iconst C (v := 0) dX2_ownerOf_24 (by decide) ?_
  exact x_iret C hq ⟨by decide, by decide⟩ dX2_ownerOf_25 (rfl) (rfl)
set_option maxHeartbeats 1000000 in
set_option maxRecDepth 100000 in
theorem q2_ownerOf (l : Launch) (g : GT) (M : Mem) (w : Int32) (hc : (0 ≤ w ∧ w ≤ M 29 1 - 1)) (h : mOK M) : CM l yX2_ownerOf cX2_ownerOf 2 (some .int) rmX2_ownerOf g M [.ref (ga g 29), .int w] (some (.int (M 34 (7 + tn w)))) (wr M 29 0 0) := by
  refine CM.of (by decide) (Nat.le_of_ble_eq_true rfl) (fun X C hq => ?_)
  have C : Cx X g l cX2_ownerOf 2 RX2 (some .int) rmX2_ownerOf := C
  show V X g 0 0 0 [(0, .ref (ga g 29)), (1, .int w)] [] M
  have hw9 : tn w < 10 := by have := ix_lt h.1.1 hc; have := h.ws; unfold mWs at this; omega
  refine x_aload_n C dX2_ownerOf_0 rfl ?_
  refine x_aload_n C dX2_ownerOf_1 rfl ?_
  refine x_iload_n C dX2_ownerOf_2 rfl ?_
  refine x_callV0r C (q2_isWall l g _ w) cd_X2_isWall kl_X2_95 ci2 rfl (by decide) (as := [_]) rfl rfl ⟨⟨by decide, by decide⟩, by decide, by decide⟩ ⟨rfl, rfl⟩ (Nat.le_of_ble_eq_true rfl) dX2_ownerOf_3 ?_
  refine x_callV0r C (q2_isKnown_t l g _ _ hc) cd_X2_isKnown kl_X2_111 ci2 rfl (by decide) (as := [_]) rfl rfl ⟨⟨by decide, by decide⟩, by decide, by decide⟩ ⟨rfl, rfl⟩ (Nat.le_of_ble_eq_true rfl) dX2_ownerOf_6 ?_
  refine x_bif_eq C (tgt := 24) dX2_ownerOf_9 (by decide) (fun c9 => absurd hc c9) (fun c9 => ?_)
  refine x_aload_n C dX2_ownerOf_12 rfl ?_
  refine x_getR C fl_X2_22 rfl (by decide) rfl dX2_ownerOf_13 ?_
  refine x_bipush C (v := 7) dX2_ownerOf_16 (by decide) ?_
  refine x_iload_n C dX2_ownerOf_18 rfl ?_
  refine x_iadd C dX2_ownerOf_19 ?_
  refine x_iald C (n := 187) rfl (by decide) rfl (ix_t 7 hc.1) (by omega) dX2_ownerOf_20 ?_
  refine x_goto C (tgt := 25) dX2_ownerOf_21 (by decide) ?_
  exact x_iret C hq ⟨by decide, by decide⟩ dX2_ownerOf_25 (rfl) (rfl)
abbrev rmX2_thrownBack : Room := { frames := 2, cells := 0, slots := 0, locals := 43 }
set_option maxHeartbeats 1000000 in
set_option maxRecDepth 100000 in
theorem q2_thrownBack_b (l : Launch) (g : GT) (M : Mem) (w : Int32) (hb : ¬ (0 ≤ w ∧ w ≤ M 29 1 - 1)) : CM l yX2_thrownBack cX2_thrownBack 2 (some .int) rmX2_thrownBack g M [.ref (ga g 29), .int w] (some (.int 0)) (wr M 29 0 1) := by
  refine CM.of (by decide) (Nat.le_of_ble_eq_true rfl) (fun X C hq => ?_)
  have C : Cx X g l cX2_thrownBack 2 RX2 (some .int) rmX2_thrownBack := C
  show V X g 0 0 0 [(0, .ref (ga g 29)), (1, .int w)] [] M
  refine x_aload_n C dX2_thrownBack_0 rfl ?_
  refine x_aload_n C dX2_thrownBack_1 rfl ?_
  refine x_iload_n C dX2_thrownBack_2 rfl ?_
  refine x_callV0r C (q2_isWall l g _ w) cd_X2_isWall kl_X2_95 ci2 rfl (by decide) (as := [_]) rfl rfl ⟨⟨by decide, by decide⟩, by decide, by decide⟩ ⟨rfl, rfl⟩ (Nat.le_of_ble_eq_true rfl) dX2_thrownBack_3 ?_
  refine x_callV0r C (q2_isKnown_f l g _ _ hb) cd_X2_isKnown kl_X2_111 ci2 rfl (by decide) (as := [_]) rfl rfl ⟨⟨by decide, by decide⟩, by decide, by decide⟩ ⟨rfl, rfl⟩ (Nat.le_of_ble_eq_true rfl) dX2_thrownBack_6 ?_
  refine x_bif_eq C (tgt := 24) dX2_thrownBack_9 (by decide) (fun c9 => ?_) (fun c9 => absurd c9 hb)
  refine x_iconst C (v := 0) dX2_thrownBack_24 (by decide) ?_
  exact x_iret C hq ⟨by decide, by decide⟩ dX2_thrownBack_25 (rfl) (rfl)
set_option maxHeartbeats 1000000 in
set_option maxRecDepth 100000 in
theorem q2_thrownBack (l : Launch) (g : GT) (M : Mem) (w : Int32) (hc : (0 ≤ w ∧ w ≤ M 29 1 - 1)) (h : mOK M) : CM l yX2_thrownBack cX2_thrownBack 2 (some .int) rmX2_thrownBack g M [.ref (ga g 29), .int w] (some (.int (M 34 (17 + tn w)))) (wr M 29 0 0) := by
  refine CM.of (by decide) (Nat.le_of_ble_eq_true rfl) (fun X C hq => ?_)
  have C : Cx X g l cX2_thrownBack 2 RX2 (some .int) rmX2_thrownBack := C
  show V X g 0 0 0 [(0, .ref (ga g 29)), (1, .int w)] [] M
  have hw9 : tn w < 10 := by have := ix_lt h.1.1 hc; have := h.ws; unfold mWs at this; omega
  refine x_aload_n C dX2_thrownBack_0 rfl ?_
  refine x_aload_n C dX2_thrownBack_1 rfl ?_
  refine x_iload_n C dX2_thrownBack_2 rfl ?_
  refine x_callV0r C (q2_isWall l g _ w) cd_X2_isWall kl_X2_95 ci2 rfl (by decide) (as := [_]) rfl rfl ⟨⟨by decide, by decide⟩, by decide, by decide⟩ ⟨rfl, rfl⟩ (Nat.le_of_ble_eq_true rfl) dX2_thrownBack_3 ?_
  refine x_callV0r C (q2_isKnown_t l g _ _ hc) cd_X2_isKnown kl_X2_111 ci2 rfl (by decide) (as := [_]) rfl rfl ⟨⟨by decide, by decide⟩, by decide, by decide⟩ ⟨rfl, rfl⟩ (Nat.le_of_ble_eq_true rfl) dX2_thrownBack_6 ?_
  refine x_bif_eq C (tgt := 24) dX2_thrownBack_9 (by decide) (fun c9 => absurd hc c9) (fun c9 => ?_)
  refine x_aload_n C dX2_thrownBack_12 rfl ?_
  refine x_getR C fl_X2_22 rfl (by decide) rfl dX2_thrownBack_13 ?_
  refine x_bipush C (v := 17) dX2_thrownBack_16 (by decide) ?_
  refine x_iload_n C dX2_thrownBack_18 rfl ?_
  refine x_iadd C dX2_thrownBack_19 ?_
  refine x_iald C (n := 187) rfl (by decide) rfl (ix_t 17 hc.1) (by omega) dX2_thrownBack_20 ?_
  refine x_goto C (tgt := 25) dX2_thrownBack_21 (by decide) ?_
  exact x_iret C hq ⟨by decide, by decide⟩ dX2_thrownBack_25 (rfl) (rfl)
abbrev rmX2_coinsOf : Room := { frames := 2, cells := 0, slots := 0, locals := 42 }
set_option maxHeartbeats 1000000 in
set_option maxRecDepth 100000 in
theorem q2_coinsOf_b (l : Launch) (g : GT) (M : Mem) (e : Int32) (hb : ¬ (0 ≤ e ∧ e ≤ 1)) : CM l yX2_coinsOf cX2_coinsOf 2 (some .int) rmX2_coinsOf g M [.ref (ga g 29), .int e] (some (.int 0)) (wr M 29 0 1) := by
  refine CM.of (by decide) (Nat.le_of_ble_eq_true rfl) (fun X C hq => ?_)
  have C : Cx X g l cX2_coinsOf 2 RX2 (some .int) rmX2_coinsOf := C
  show V X g 0 0 0 [(0, .ref (ga g 29)), (1, .int e)] [] M
  refine x_aload_n C dX2_coinsOf_0 rfl ?_
  refine x_iload_n C dX2_coinsOf_1 rfl ?_
  refine x_callS0r C (q2_isEcho l g _ e) cd_X2_isEcho kl_X2_89 (as := [_]) rfl rfl ⟨⟨by decide, by decide⟩, by decide, by decide⟩ ⟨rfl, rfl⟩ (Nat.le_of_ble_eq_true rfl) dX2_coinsOf_2 ?_
  refine x_callV0r C (q2_isKnown_f l g _ _ hb) cd_X2_isKnown kl_X2_111 ci2 rfl (by decide) (as := [_]) rfl rfl ⟨⟨by decide, by decide⟩, by decide, by decide⟩ ⟨rfl, rfl⟩ (Nat.le_of_ble_eq_true rfl) dX2_coinsOf_5 ?_
  refine x_bif_eq C (tgt := 22) dX2_coinsOf_8 (by decide) (fun c8 => ?_) (fun c8 => absurd c8 hb)
  refine x_iconst C (v := 0) dX2_coinsOf_22 (by decide) ?_
  exact x_iret C hq ⟨by decide, by decide⟩ dX2_coinsOf_23 (rfl) (rfl)
set_option maxHeartbeats 1000000 in
set_option maxRecDepth 100000 in
theorem q2_coinsOf (l : Launch) (g : GT) (M : Mem) (e : Int32) (hc : (0 ≤ e ∧ e ≤ 1)) : CM l yX2_coinsOf cX2_coinsOf 2 (some .int) rmX2_coinsOf g M [.ref (ga g 29), .int e] (some (.int (M 34 (3 + tn e)))) (wr M 29 0 0) := by
  refine CM.of (by decide) (Nat.le_of_ble_eq_true rfl) (fun X C hq => ?_)
  have C : Cx X g l cX2_coinsOf 2 RX2 (some .int) rmX2_coinsOf := C
  show V X g 0 0 0 [(0, .ref (ga g 29)), (1, .int e)] [] M
  refine x_aload_n C dX2_coinsOf_0 rfl ?_
  refine x_iload_n C dX2_coinsOf_1 rfl ?_
  refine x_callS0r C (q2_isEcho l g _ e) cd_X2_isEcho kl_X2_89 (as := [_]) rfl rfl ⟨⟨by decide, by decide⟩, by decide, by decide⟩ ⟨rfl, rfl⟩ (Nat.le_of_ble_eq_true rfl) dX2_coinsOf_2 ?_
  refine x_callV0r C (q2_isKnown_t l g _ _ hc) cd_X2_isKnown kl_X2_111 ci2 rfl (by decide) (as := [_]) rfl rfl ⟨⟨by decide, by decide⟩, by decide, by decide⟩ ⟨rfl, rfl⟩ (Nat.le_of_ble_eq_true rfl) dX2_coinsOf_5 ?_
  refine x_bif_eq C (tgt := 22) dX2_coinsOf_8 (by decide) (fun c8 => absurd hc c8) (fun c8 => ?_)
  refine x_aload_n C dX2_coinsOf_11 rfl ?_
  refine x_getR C fl_X2_22 rfl (by decide) rfl dX2_coinsOf_12 ?_
  refine x_iconst C (v := 3) dX2_coinsOf_15 (by decide) ?_
  refine x_iload_n C dX2_coinsOf_16 rfl ?_
  refine x_iadd C dX2_coinsOf_17 ?_
  refine x_iald C (n := 187) rfl (by decide) rfl (ix_t 3 hc.1) (by have := tn1 hc; omega) dX2_coinsOf_18 ?_
  refine x_goto C (tgt := 23) dX2_coinsOf_19 (by decide) ?_
  exact x_iret C hq ⟨by decide, by decide⟩ dX2_coinsOf_23 (rfl) (rfl)
abbrev rmX2_silentFor : Room := { frames := 2, cells := 0, slots := 0, locals := 42 }
set_option maxHeartbeats 1000000 in
set_option maxRecDepth 100000 in
theorem q2_silentFor_b (l : Launch) (g : GT) (M : Mem) (e : Int32) (hb : ¬ (0 ≤ e ∧ e ≤ 1)) : CM l yX2_silentFor cX2_silentFor 2 (some .int) rmX2_silentFor g M [.ref (ga g 29), .int e] (some (.int 0)) (wr M 29 0 1) := by
  refine CM.of (by decide) (Nat.le_of_ble_eq_true rfl) (fun X C hq => ?_)
  have C : Cx X g l cX2_silentFor 2 RX2 (some .int) rmX2_silentFor := C
  show V X g 0 0 0 [(0, .ref (ga g 29)), (1, .int e)] [] M
  refine x_aload_n C dX2_silentFor_0 rfl ?_
  refine x_iload_n C dX2_silentFor_1 rfl ?_
  refine x_callS0r C (q2_isEcho l g _ e) cd_X2_isEcho kl_X2_89 (as := [_]) rfl rfl ⟨⟨by decide, by decide⟩, by decide, by decide⟩ ⟨rfl, rfl⟩ (Nat.le_of_ble_eq_true rfl) dX2_silentFor_2 ?_
  refine x_callV0r C (q2_isKnown_f l g _ _ hb) cd_X2_isKnown kl_X2_111 ci2 rfl (by decide) (as := [_]) rfl rfl ⟨⟨by decide, by decide⟩, by decide, by decide⟩ ⟨rfl, rfl⟩ (Nat.le_of_ble_eq_true rfl) dX2_silentFor_5 ?_
  refine x_bif_eq C (tgt := 22) dX2_silentFor_8 (by decide) (fun c8 => ?_) (fun c8 => absurd c8 hb)
  refine x_iconst C (v := 0) dX2_silentFor_22 (by decide) ?_
  exact x_iret C hq ⟨by decide, by decide⟩ dX2_silentFor_23 (rfl) (rfl)
set_option maxHeartbeats 1000000 in
set_option maxRecDepth 100000 in
theorem q2_silentFor (l : Launch) (g : GT) (M : Mem) (e : Int32) (hc : (0 ≤ e ∧ e ≤ 1)) : CM l yX2_silentFor cX2_silentFor 2 (some .int) rmX2_silentFor g M [.ref (ga g 29), .int e] (some (.int (M 34 (5 + tn e)))) (wr M 29 0 0) := by
  refine CM.of (by decide) (Nat.le_of_ble_eq_true rfl) (fun X C hq => ?_)
  have C : Cx X g l cX2_silentFor 2 RX2 (some .int) rmX2_silentFor := C
  show V X g 0 0 0 [(0, .ref (ga g 29)), (1, .int e)] [] M
  refine x_aload_n C dX2_silentFor_0 rfl ?_
  refine x_iload_n C dX2_silentFor_1 rfl ?_
  refine x_callS0r C (q2_isEcho l g _ e) cd_X2_isEcho kl_X2_89 (as := [_]) rfl rfl ⟨⟨by decide, by decide⟩, by decide, by decide⟩ ⟨rfl, rfl⟩ (Nat.le_of_ble_eq_true rfl) dX2_silentFor_2 ?_
  refine x_callV0r C (q2_isKnown_t l g _ _ hc) cd_X2_isKnown kl_X2_111 ci2 rfl (by decide) (as := [_]) rfl rfl ⟨⟨by decide, by decide⟩, by decide, by decide⟩ ⟨rfl, rfl⟩ (Nat.le_of_ble_eq_true rfl) dX2_silentFor_5 ?_
  refine x_bif_eq C (tgt := 22) dX2_silentFor_8 (by decide) (fun c8 => absurd hc c8) (fun c8 => ?_)
  refine x_aload_n C dX2_silentFor_11 rfl ?_
  refine x_getR C fl_X2_22 rfl (by decide) rfl dX2_silentFor_12 ?_
  refine x_iconst C (v := 5) dX2_silentFor_15 (by decide) ?_
  refine x_iload_n C dX2_silentFor_16 rfl ?_
  refine x_iadd C dX2_silentFor_17 ?_
  refine x_iald C (n := 187) rfl (by decide) rfl (ix_t 5 hc.1) (by have := tn1 hc; omega) dX2_silentFor_18 ?_
  refine x_goto C (tgt := 23) dX2_silentFor_19 (by decide) ?_
  exact x_iret C hq ⟨by decide, by decide⟩ dX2_silentFor_23 (rfl) (rfl)
abbrev rmX2_wallsOf : Room := { frames := 2, cells := 0, slots := 0, locals := 42 }
set_option maxHeartbeats 1000000 in
set_option maxRecDepth 100000 in
theorem q2_wallsOf_b (l : Launch) (g : GT) (M : Mem) (e : Int32) (hb : ¬ (0 ≤ e ∧ e ≤ 1)) : CM l yX2_wallsOf cX2_wallsOf 2 (some .int) rmX2_wallsOf g M [.ref (ga g 29), .int e] (some (.int 0)) (wr M 29 0 1) := by
  refine CM.of (by decide) (Nat.le_of_ble_eq_true rfl) (fun X C hq => ?_)
  have C : Cx X g l cX2_wallsOf 2 RX2 (some .int) rmX2_wallsOf := C
  show V X g 0 0 0 [(0, .ref (ga g 29)), (1, .int e)] [] M
  refine x_aload_n C dX2_wallsOf_0 rfl ?_
  refine x_iload_n C dX2_wallsOf_1 rfl ?_
  refine x_callS0r C (q2_isEcho l g _ e) cd_X2_isEcho kl_X2_89 (as := [_]) rfl rfl ⟨⟨by decide, by decide⟩, by decide, by decide⟩ ⟨rfl, rfl⟩ (Nat.le_of_ble_eq_true rfl) dX2_wallsOf_2 ?_
  refine x_callV0r C (q2_isKnown_f l g _ _ hb) cd_X2_isKnown kl_X2_111 ci2 rfl (by decide) (as := [_]) rfl rfl ⟨⟨by decide, by decide⟩, by decide, by decide⟩ ⟨rfl, rfl⟩ (Nat.le_of_ble_eq_true rfl) dX2_wallsOf_5 ?_
  refine x_bif_eq C (tgt := 19) dX2_wallsOf_8 (by decide) (fun c8 => ?_) (fun c8 => absurd c8 hb)
  refine x_iconst C (v := 0) dX2_wallsOf_19 (by decide) ?_
  exact x_iret C hq ⟨by decide, by decide⟩ dX2_wallsOf_20 (rfl) (rfl)
set_option maxHeartbeats 1000000 in
set_option maxRecDepth 100000 in
theorem q2_wallsOf (l : Launch) (g : GT) (M : Mem) (e : Int32) (hc : (0 ≤ e ∧ e ≤ 1)) (h : mOK M) : CM l yX2_wallsOf cX2_wallsOf 2 (some .int) rmX2_wallsOf g M [.ref (ga g 29), .int e] (some (.int (mWO (wr M 29 0 0) e))) (wr M 29 0 0) := by
  refine CM.of (by decide) (Nat.le_of_ble_eq_true rfl) (fun X C hq => ?_)
  have C : Cx X g l cX2_wallsOf 2 RX2 (some .int) rmX2_wallsOf := C
  show V X g 0 0 0 [(0, .ref (ga g 29)), (1, .int e)] [] M
  refine x_aload_n C dX2_wallsOf_0 rfl ?_
  refine x_iload_n C dX2_wallsOf_1 rfl ?_
  refine x_callS0r C (q2_isEcho l g _ e) cd_X2_isEcho kl_X2_89 (as := [_]) rfl rfl ⟨⟨by decide, by decide⟩, by decide, by decide⟩ ⟨rfl, rfl⟩ (Nat.le_of_ble_eq_true rfl) dX2_wallsOf_2 ?_
  refine x_callV0r C (q2_isKnown_t l g _ _ hc) cd_X2_isKnown kl_X2_111 ci2 rfl (by decide) (as := [_]) rfl rfl ⟨⟨by decide, by decide⟩, by decide, by decide⟩ ⟨rfl, rfl⟩ (Nat.le_of_ble_eq_true rfl) dX2_wallsOf_5 ?_
  refine x_bif_eq C (tgt := 19) dX2_wallsOf_8 (by decide) (fun c8 => absurd hc c8) (fun c8 => ?_)
  refine x_aload_n C dX2_wallsOf_11 rfl ?_
  refine x_iload_n C dX2_wallsOf_12 rfl ?_
  refine x_callV0r C (q2_manyOf l g _ h.thr e) cd_X2_manyOf kl_X2_118 ci2 rfl (by decide) (as := [_]) rfl rfl ⟨⟨by decide, by decide⟩, by decide, by decide⟩ ⟨rfl, rfl⟩ (Nat.le_of_ble_eq_true rfl) dX2_wallsOf_13 ?_
  refine x_goto C (tgt := 20) dX2_wallsOf_16 (by decide) ?_
  exact x_iret C hq ⟨by decide, by decide⟩ dX2_wallsOf_20 (rfl) (rfl)
abbrev rmX2_loudnessOf : Room := { frames := 2, cells := 0, slots := 0, locals := 43 }
set_option maxHeartbeats 1000000 in
set_option maxRecDepth 100000 in
theorem q2_loudnessOf_b (l : Launch) (g : GT) (M : Mem) (w : Int32) (hb : ¬ (0 ≤ w ∧ w ≤ M 29 2 - 1)) : CM l yX2_loudnessOf cX2_loudnessOf 2 (some .int) rmX2_loudnessOf g M [.ref (ga g 29), .int w] (some (.int 0)) (wr M 29 0 1) := by
  refine CM.of (by decide) (Nat.le_of_ble_eq_true rfl) (fun X C hq => ?_)
  have C : Cx X g l cX2_loudnessOf 2 RX2 (some .int) rmX2_loudnessOf := C
  show V X g 0 0 0 [(0, .ref (ga g 29)), (1, .int w)] [] M
  refine x_aload_n C dX2_loudnessOf_0 rfl ?_
  refine x_aload_n C dX2_loudnessOf_1 rfl ?_
  refine x_iload_n C dX2_loudnessOf_2 rfl ?_
  refine x_callV0r C (q2_isShout l g _ w) cd_X2_isShout kl_X2_121 ci2 rfl (by decide) (as := [_]) rfl rfl ⟨⟨by decide, by decide⟩, by decide, by decide⟩ ⟨rfl, rfl⟩ (Nat.le_of_ble_eq_true rfl) dX2_loudnessOf_3 ?_
  refine x_callV0r C (q2_isKnown_f l g _ _ hb) cd_X2_isKnown kl_X2_111 ci2 rfl (by decide) (as := [_]) rfl rfl ⟨⟨by decide, by decide⟩, by decide, by decide⟩ ⟨rfl, rfl⟩ (Nat.le_of_ble_eq_true rfl) dX2_loudnessOf_6 ?_
  refine x_bif_eq C (tgt := 24) dX2_loudnessOf_9 (by decide) (fun c9 => ?_) (fun c9 => absurd c9 hb)
  refine x_iconst C (v := 0) dX2_loudnessOf_24 (by decide) ?_
  exact x_iret C hq ⟨by decide, by decide⟩ dX2_loudnessOf_25 (rfl) (rfl)
set_option maxHeartbeats 1000000 in
set_option maxRecDepth 100000 in
theorem q2_loudnessOf (l : Launch) (g : GT) (M : Mem) (w : Int32) (hc : (0 ≤ w ∧ w ≤ M 29 2 - 1)) (h : mOK M) : CM l yX2_loudnessOf cX2_loudnessOf 2 (some .int) rmX2_loudnessOf g M [.ref (ga g 29), .int w] (some (.int (M 34 (27 + tn w)))) (wr M 29 0 0) := by
  refine CM.of (by decide) (Nat.le_of_ble_eq_true rfl) (fun X C hq => ?_)
  have C : Cx X g l cX2_loudnessOf 2 RX2 (some .int) rmX2_loudnessOf := C
  show V X g 0 0 0 [(0, .ref (ga g 29)), (1, .int w)] [] M
  have hw9 : tn w < 40 := by have := ix_lt h.2.1.1 hc; have := h.sh; unfold mSh at this; omega
  refine x_aload_n C dX2_loudnessOf_0 rfl ?_
  refine x_aload_n C dX2_loudnessOf_1 rfl ?_
  refine x_iload_n C dX2_loudnessOf_2 rfl ?_
  refine x_callV0r C (q2_isShout l g _ w) cd_X2_isShout kl_X2_121 ci2 rfl (by decide) (as := [_]) rfl rfl ⟨⟨by decide, by decide⟩, by decide, by decide⟩ ⟨rfl, rfl⟩ (Nat.le_of_ble_eq_true rfl) dX2_loudnessOf_3 ?_
  refine x_callV0r C (q2_isKnown_t l g _ _ hc) cd_X2_isKnown kl_X2_111 ci2 rfl (by decide) (as := [_]) rfl rfl ⟨⟨by decide, by decide⟩, by decide, by decide⟩ ⟨rfl, rfl⟩ (Nat.le_of_ble_eq_true rfl) dX2_loudnessOf_6 ?_
  refine x_bif_eq C (tgt := 24) dX2_loudnessOf_9 (by decide) (fun c9 => absurd hc c9) (fun c9 => ?_)
  refine x_aload_n C dX2_loudnessOf_12 rfl ?_
  refine x_getR C fl_X2_22 rfl (by decide) rfl dX2_loudnessOf_13 ?_
  refine x_bipush C (v := 27) dX2_loudnessOf_16 (by decide) ?_
  refine x_iload_n C dX2_loudnessOf_18 rfl ?_
  refine x_iadd C dX2_loudnessOf_19 ?_
  refine x_iald C (n := 187) rfl (by decide) rfl (ix_t 27 hc.1) (by omega) dX2_loudnessOf_20 ?_
  refine x_goto C (tgt := 25) dX2_loudnessOf_21 (by decide) ?_
  exact x_iret C hq ⟨by decide, by decide⟩ dX2_loudnessOf_25 (rfl) (rfl)
abbrev rmX2_turnsOf : Room := { frames := 2, cells := 0, slots := 0, locals := 43 }
set_option maxHeartbeats 1000000 in
set_option maxRecDepth 100000 in
theorem q2_turnsOf_b (l : Launch) (g : GT) (M : Mem) (w : Int32) (hb : ¬ (0 ≤ w ∧ w ≤ M 29 2 - 1)) : CM l yX2_turnsOf cX2_turnsOf 2 (some .int) rmX2_turnsOf g M [.ref (ga g 29), .int w] (some (.int 0)) (wr M 29 0 1) := by
  refine CM.of (by decide) (Nat.le_of_ble_eq_true rfl) (fun X C hq => ?_)
  have C : Cx X g l cX2_turnsOf 2 RX2 (some .int) rmX2_turnsOf := C
  show V X g 0 0 0 [(0, .ref (ga g 29)), (1, .int w)] [] M
  refine x_aload_n C dX2_turnsOf_0 rfl ?_
  refine x_aload_n C dX2_turnsOf_1 rfl ?_
  refine x_iload_n C dX2_turnsOf_2 rfl ?_
  refine x_callV0r C (q2_isShout l g _ w) cd_X2_isShout kl_X2_121 ci2 rfl (by decide) (as := [_]) rfl rfl ⟨⟨by decide, by decide⟩, by decide, by decide⟩ ⟨rfl, rfl⟩ (Nat.le_of_ble_eq_true rfl) dX2_turnsOf_3 ?_
  refine x_callV0r C (q2_isKnown_f l g _ _ hb) cd_X2_isKnown kl_X2_111 ci2 rfl (by decide) (as := [_]) rfl rfl ⟨⟨by decide, by decide⟩, by decide, by decide⟩ ⟨rfl, rfl⟩ (Nat.le_of_ble_eq_true rfl) dX2_turnsOf_6 ?_
  refine x_bif_eq C (tgt := 25) dX2_turnsOf_9 (by decide) (fun c9 => ?_) (fun c9 => absurd c9 hb)
  refine x_iconst C (v := 0) dX2_turnsOf_25 (by decide) ?_
  exact x_iret C hq ⟨by decide, by decide⟩ dX2_turnsOf_26 (rfl) (rfl)
set_option maxHeartbeats 1000000 in
set_option maxRecDepth 100000 in
theorem q2_turnsOf (l : Launch) (g : GT) (M : Mem) (w : Int32) (hc : (0 ≤ w ∧ w ≤ M 29 2 - 1)) (h : mOK M) : CM l yX2_turnsOf cX2_turnsOf 2 (some .int) rmX2_turnsOf g M [.ref (ga g 29), .int w] (some (.int (M 34 (147 + tn w)))) (wr M 29 0 0) := by
  refine CM.of (by decide) (Nat.le_of_ble_eq_true rfl) (fun X C hq => ?_)
  have C : Cx X g l cX2_turnsOf 2 RX2 (some .int) rmX2_turnsOf := C
  show V X g 0 0 0 [(0, .ref (ga g 29)), (1, .int w)] [] M
  have hw9 : tn w < 40 := by have := ix_lt h.2.1.1 hc; have := h.sh; unfold mSh at this; omega
  refine x_aload_n C dX2_turnsOf_0 rfl ?_
  refine x_aload_n C dX2_turnsOf_1 rfl ?_
  refine x_iload_n C dX2_turnsOf_2 rfl ?_
  refine x_callV0r C (q2_isShout l g _ w) cd_X2_isShout kl_X2_121 ci2 rfl (by decide) (as := [_]) rfl rfl ⟨⟨by decide, by decide⟩, by decide, by decide⟩ ⟨rfl, rfl⟩ (Nat.le_of_ble_eq_true rfl) dX2_turnsOf_3 ?_
  refine x_callV0r C (q2_isKnown_t l g _ _ hc) cd_X2_isKnown kl_X2_111 ci2 rfl (by decide) (as := [_]) rfl rfl ⟨⟨by decide, by decide⟩, by decide, by decide⟩ ⟨rfl, rfl⟩ (Nat.le_of_ble_eq_true rfl) dX2_turnsOf_6 ?_
  refine x_bif_eq C (tgt := 25) dX2_turnsOf_9 (by decide) (fun c9 => absurd hc c9) (fun c9 => ?_)
  refine x_aload_n C dX2_turnsOf_12 rfl ?_
  refine x_getR C fl_X2_22 rfl (by decide) rfl dX2_turnsOf_13 ?_
  refine x_sipush C (v := 147) dX2_turnsOf_16 (by decide) ?_
  refine x_iload_n C dX2_turnsOf_19 rfl ?_
  refine x_iadd C dX2_turnsOf_20 ?_
  refine x_iald C (n := 187) rfl (by decide) rfl (ix_t 147 hc.1) (by omega) dX2_turnsOf_21 ?_
  refine x_goto C (tgt := 26) dX2_turnsOf_22 (by decide) ?_
  exact x_iret C hq ⟨by decide, by decide⟩ dX2_turnsOf_26 (rfl) (rfl)
