/-! The class's public methods but its looks. -/
theorem ne10 {x : Int32} (h : x ≤ 10) (n : ¬ x = 10) : x ≤ 9 := by
  have a := i_le.mp h
  have e1 : (10 : Int32).toInt = 10 := rfl
  have e2 : (9 : Int32).toInt = 9 := rfl
  have b : x.toInt ≠ 10 := fun q => n (i_eq.mpr q)
  rw [e1] at a
  exact i_le.mpr (by rw [e2]; omega)
theorem le9 {x : Int32} (h : x ≥ 10) : ¬ x ≤ 9 := by
  intro z
  have a := i_le.mp h
  have b := i_le.mp z
  have e1 : (10 : Int32).toInt = 10 := rfl
  have e2 : (9 : Int32).toInt = 9 := rfl
  omega
theorem ne40 {x : Int32} (h : x ≤ 40) (n : ¬ x = 40) : x ≤ 39 := by
  have a := i_le.mp h
  have e1 : (40 : Int32).toInt = 40 := rfl
  have e2 : (39 : Int32).toInt = 39 := rfl
  have b : x.toInt ≠ 40 := fun q => n (i_eq.mpr q)
  rw [e1] at a
  exact i_le.mpr (by rw [e2]; omega)
theorem le39 {x : Int32} (h : x ≥ 40) : ¬ x ≤ 39 := by
  intro z
  have a := i_le.mp h
  have b := i_le.mp z
  have e1 : (40 : Int32).toInt = 40 := rfl
  have e2 : (39 : Int32).toInt = 39 := rfl
  omega
theorem lt8 {x : Int32} (h : x ≤ 8) (n : ¬ x = 8) : x < 8 := by
  have a := i_le.mp h
  have e1 : (8 : Int32).toInt = 8 := rfl
  have b : x.toInt ≠ 8 := fun q => n (i_eq.mpr q)
  rw [e1] at a
  exact i_lt.mpr (by rw [e1]; omega)
abbrev rmX1_addWall_x : Room := { frames := 7, cells := 1, slots := 6, locals := 110 }
set_option maxHeartbeats 1000000 in
set_option maxRecDepth 100000 in
theorem q1x_addWall_1 (l : Launch) (hl : l.stackTraces = false) (g : GT) (M : Mem) (s e so : Int32) (hb : ¬ (0 ≤ s ∧ s ≤ 31)) : CE l yX1_addWall cX1_addWall 4 (some .int) rmX1_addWall_x g M [.ref (ga g 0), .int s, .int e, .int so] eB := by
  refine CE.of (by decide) (Nat.le_of_ble_eq_true rfl) (fun X C hq => ?_)
  have C : Cx X g l cX1_addWall 4 RX1 (some .int) rmX1_addWall_x := C
  show V X g 0 0 0 [(0, .ref (ga g 0)), (1, .int s), (2, .int e), (3, .int so)] [] M
  refine x_iload_n C dX1_addWall_0 rfl ?_
  refine x_callSx C hq (q1x_needStone l hl g _ s hb) cd_X1_needStone kl_X1_19 (as := [_]) rfl rfl ⟨⟨by decide, by decide⟩, by decide, by decide⟩ (Nat.le_of_ble_eq_true rfl) dX1_addWall_1
set_option maxHeartbeats 1000000 in
set_option maxRecDepth 100000 in
theorem q1x_addWall_2 (l : Launch) (hl : l.stackTraces = false) (g : GT) (M : Mem) (s e so : Int32) (hc : (0 ≤ s ∧ s ≤ 31)) (hb : ¬ (0 ≤ e ∧ e ≤ 1)) : CE l yX1_addWall cX1_addWall 4 (some .int) rmX1_addWall_x g M [.ref (ga g 0), .int s, .int e, .int so] eB := by
  refine CE.of (by decide) (Nat.le_of_ble_eq_true rfl) (fun X C hq => ?_)
  have C : Cx X g l cX1_addWall 4 RX1 (some .int) rmX1_addWall_x := C
  show V X g 0 0 0 [(0, .ref (ga g 0)), (1, .int s), (2, .int e), (3, .int so)] [] M
  refine x_iload_n C dX1_addWall_0 rfl ?_
  refine x_callS0v C (q1_needStone l g _ s hc) cd_X1_needStone kl_X1_19 (as := [_]) rfl rfl ⟨⟨by decide, by decide⟩, by decide, by decide⟩ ⟨rfl, rfl⟩ (Nat.le_of_ble_eq_true rfl) dX1_addWall_1 ?_
  refine x_iload_n C dX1_addWall_4 rfl ?_
  refine x_callSx C hq (q1x_needEcho l hl g _ e hb) cd_X1_needEcho kl_X1_23 (as := [_]) rfl rfl ⟨⟨by decide, by decide⟩, by decide, by decide⟩ (Nat.le_of_ble_eq_true rfl) dX1_addWall_5
set_option maxHeartbeats 1000000 in
set_option maxRecDepth 100000 in
theorem q1x_addWall_3 (l : Launch) (hl : l.stackTraces = false) (g : GT) (M : Mem) (s e so : Int32) (hc : (0 ≤ s ∧ s ≤ 31)) (hc2 : (0 ≤ e ∧ e ≤ 1)) (hb : ¬ (0 ≤ so ∧ so ≤ 5)) : CE l yX1_addWall cX1_addWall 4 (some .int) rmX1_addWall_x g M [.ref (ga g 0), .int s, .int e, .int so] eA := by
  refine CE.of (by decide) (Nat.le_of_ble_eq_true rfl) (fun X C hq => ?_)
  have C : Cx X g l cX1_addWall 4 RX1 (some .int) rmX1_addWall_x := C
  show V X g 0 0 0 [(0, .ref (ga g 0)), (1, .int s), (2, .int e), (3, .int so)] [] M
  refine x_iload_n C dX1_addWall_0 rfl ?_
  refine x_callS0v C (q1_needStone l g _ s hc) cd_X1_needStone kl_X1_19 (as := [_]) rfl rfl ⟨⟨by decide, by decide⟩, by decide, by decide⟩ ⟨rfl, rfl⟩ (Nat.le_of_ble_eq_true rfl) dX1_addWall_1 ?_
  refine x_iload_n C dX1_addWall_4 rfl ?_
  refine x_callS0v C (q1_needEcho l g _ e hc2) cd_X1_needEcho kl_X1_23 (as := [_]) rfl rfl ⟨⟨by decide, by decide⟩, by decide, by decide⟩ ⟨rfl, rfl⟩ (Nat.le_of_ble_eq_true rfl) dX1_addWall_5 ?_
  refine x_iload_n C dX1_addWall_8 rfl ?_
  refine x_if_lt C (tgt := 17) dX1_addWall_9 (by decide) (fun c9 => ?_) (fun c9 => ?_)
  · exact x_throw C hl hq xi_eA (is := 28) (text := "soaks is not 0 to 5") (by decide) dX1_addWall_17 dX1_addWall_20 dX1_addWall_21 dX1_addWall_23 dX1_addWall_26 ⟨by decide, Nat.le_of_ble_eq_true rfl, by decide, by decide⟩
  · refine x_iload_n C dX1_addWall_12 rfl ?_
    refine x_iconst C (v := 5) dX1_addWall_13 (by decide) ?_
    refine x_icmp_le C (tgt := 27) dX1_addWall_14 (by decide) (fun c14 => absurd ⟨Int32.not_lt.mp c9, c14⟩ hb) (fun c14 => ?_)
    exact x_throw C hl hq xi_eA (is := 28) (text := "soaks is not 0 to 5") (by decide) dX1_addWall_17 dX1_addWall_20 dX1_addWall_21 dX1_addWall_23 dX1_addWall_26 ⟨by decide, Nat.le_of_ble_eq_true rfl, by decide, by decide⟩
set_option maxHeartbeats 1000000 in
set_option maxRecDepth 100000 in
theorem q1x_addWall_4 (l : Launch) (hl : l.stackTraces = false) (g : GT) (M : Mem) (h : cOK 1 M) (s e so : Int32) (hc : (0 ≤ s ∧ s ≤ 31)) (hc2 : (0 ≤ e ∧ e ≤ 1)) (hs : (0 ≤ so ∧ so ≤ 5)) (hb : M 1 1 = 10 ∨ M 3 (tn s) ≠ -1) : CE l yX1_addWall cX1_addWall 4 (some .int) rmX1_addWall_x g M [.ref (ga g 0), .int s, .int e, .int so] eS := by
  refine CE.of (by decide) (Nat.le_of_ble_eq_true rfl) (fun X C hq => ?_)
  have C : Cx X g l cX1_addWall 4 RX1 (some .int) rmX1_addWall_x := C
  show V X g 0 0 0 [(0, .ref (ga g 0)), (1, .int s), (2, .int e), (3, .int so)] [] M
  refine x_iload_n C dX1_addWall_0 rfl ?_
  refine x_callS0v C (q1_needStone l g _ s hc) cd_X1_needStone kl_X1_19 (as := [_]) rfl rfl ⟨⟨by decide, by decide⟩, by decide, by decide⟩ ⟨rfl, rfl⟩ (Nat.le_of_ble_eq_true rfl) dX1_addWall_1 ?_
  refine x_iload_n C dX1_addWall_4 rfl ?_
  refine x_callS0v C (q1_needEcho l g _ e hc2) cd_X1_needEcho kl_X1_23 (as := [_]) rfl rfl ⟨⟨by decide, by decide⟩, by decide, by decide⟩ ⟨rfl, rfl⟩ (Nat.le_of_ble_eq_true rfl) dX1_addWall_5 ?_
  refine x_iload_n C dX1_addWall_8 rfl ?_
  refine x_if_lt C (tgt := 17) dX1_addWall_9 (by decide) (fun c9 => absurd c9 (Int32.not_lt.mpr hs.1)) (fun c9 => ?_)
  refine x_iload_n C dX1_addWall_12 rfl ?_
  refine x_iconst C (v := 5) dX1_addWall_13 (by decide) ?_
  refine x_icmp_le C (tgt := 27) dX1_addWall_14 (by decide) (fun c14 => ?_) (fun c14 => absurd hs.2 c14)
  refine x_aload_n C dX1_addWall_27 rfl ?_
  refine x_getR C fl_X1_10 rfl (by decide) rfl dX1_addWall_28 ?_
  refine x_getI C fl_X1_33 rfl (by decide) rfl dX1_addWall_31 ?_
  refine x_bipush C (v := 10) dX1_addWall_34 (by decide) ?_
  refine x_icmp_ge C (tgt := 52) dX1_addWall_36 (by decide) (fun c36 => ?_) (fun c36 => ?_)
  · exact x_throw C hl hq xi_eS (is := 43) (text := "there are 10 walls, or one stands there") (by decide) dX1_addWall_52 dX1_addWall_55 dX1_addWall_56 dX1_addWall_58 dX1_addWall_61 ⟨by decide, Nat.le_of_ble_eq_true rfl, by decide, by decide⟩
  · have z36 : M 1 1 ≠ 10 := fun q => c36 (by rw [q]; exact Int32.le_refl _)
    refine x_aload_n C dX1_addWall_39 rfl ?_
    refine x_getR C fl_X1_10 rfl (by decide) rfl dX1_addWall_40 ?_
    refine x_getR C fl_X1_37 rfl (by decide) rfl dX1_addWall_43 ?_
    refine x_iload_n C dX1_addWall_46 rfl ?_
    refine x_iald C (n := 32) rfl (by decide) rfl (nI_tn hc.1) (tn31 hc) dX1_addWall_47 ?_
    refine x_iconst C (v := (-1)) dX1_addWall_48 (by decide) ?_
    refine x_icmp_eq C (tgt := 62) dX1_addWall_49 (by decide) (fun c49 => absurd c49 (hb.resolve_left z36)) (fun c49 => ?_)
    exact x_throw C hl hq xi_eS (is := 43) (text := "there are 10 walls, or one stands there") (by decide) dX1_addWall_52 dX1_addWall_55 dX1_addWall_56 dX1_addWall_58 dX1_addWall_61 ⟨by decide, Nat.le_of_ble_eq_true rfl, by decide, by decide⟩
abbrev rmX1_addWall : Room := { frames := 2, cells := 0, slots := 0, locals := 40 }
set_option maxHeartbeats 1000000 in
set_option maxRecDepth 100000 in
theorem q1_addWall (l : Launch) (g : GT) (M : Mem) (h : cOK 1 M) (s e so : Int32) (hc : (0 ≤ s ∧ s ≤ 31)) (hc2 : (0 ≤ e ∧ e ≤ 1)) (hs : (0 ≤ so ∧ so ≤ 5)) (h10 : ¬ M 1 1 = 10) (hw : M 3 (tn s) = -1) : CM l yX1_addWall cX1_addWall 4 (some .int) rmX1_addWall g M [.ref (ga g 0), .int s, .int e, .int so] (some (.int (M 1 1))) (cBuild M s e so) := by
  refine CM.of (by decide) (Nat.le_of_ble_eq_true rfl) (fun X C hq => ?_)
  have C : Cx X g l cX1_addWall 4 RX1 (some .int) rmX1_addWall := C
  show V X g 0 0 0 [(0, .ref (ga g 0)), (1, .int s), (2, .int e), (3, .int so)] [] M
  have h9 : 0 ≤ M 1 1 ∧ M 1 1 ≤ 9 := ⟨h.1.1, ne10 h.1.2 h10⟩
  refine x_iload_n C dX1_addWall_0 rfl ?_
  refine x_callS0v C (q1_needStone l g _ s hc) cd_X1_needStone kl_X1_19 (as := [_]) rfl rfl ⟨⟨by decide, by decide⟩, by decide, by decide⟩ ⟨rfl, rfl⟩ (Nat.le_of_ble_eq_true rfl) dX1_addWall_1 ?_
  refine x_iload_n C dX1_addWall_4 rfl ?_
  refine x_callS0v C (q1_needEcho l g _ e hc2) cd_X1_needEcho kl_X1_23 (as := [_]) rfl rfl ⟨⟨by decide, by decide⟩, by decide, by decide⟩ ⟨rfl, rfl⟩ (Nat.le_of_ble_eq_true rfl) dX1_addWall_5 ?_
  refine x_iload_n C dX1_addWall_8 rfl ?_
  refine x_if_lt C (tgt := 17) dX1_addWall_9 (by decide) (fun c9 => absurd c9 (Int32.not_lt.mpr hs.1)) (fun c9 => ?_)
  refine x_iload_n C dX1_addWall_12 rfl ?_
  refine x_iconst C (v := 5) dX1_addWall_13 (by decide) ?_
  refine x_icmp_le C (tgt := 27) dX1_addWall_14 (by decide) (fun c14 => ?_) (fun c14 => absurd hs.2 c14)
  refine x_aload_n C dX1_addWall_27 rfl ?_
  refine x_getR C fl_X1_10 rfl (by decide) rfl dX1_addWall_28 ?_
  refine x_getI C fl_X1_33 rfl (by decide) rfl dX1_addWall_31 ?_
  refine x_bipush C (v := 10) dX1_addWall_34 (by decide) ?_
  refine x_icmp_ge C (tgt := 52) dX1_addWall_36 (by decide) (fun c36 => absurd h9.2 (le9 c36)) (fun c36 => ?_)
  refine x_aload_n C dX1_addWall_39 rfl ?_
  refine x_getR C fl_X1_10 rfl (by decide) rfl dX1_addWall_40 ?_
  refine x_getR C fl_X1_37 rfl (by decide) rfl dX1_addWall_43 ?_
  refine x_iload_n C dX1_addWall_46 rfl ?_
  refine x_iald C (n := 32) rfl (by decide) rfl (nI_tn hc.1) (tn31 hc) dX1_addWall_47 ?_
  refine x_iconst C (v := (-1)) dX1_addWall_48 (by decide) ?_
  refine x_icmp_eq C (tgt := 62) dX1_addWall_49 (by decide) (fun c49 => ?_) (fun c49 => absurd hw c49)
  refine x_aload_n C dX1_addWall_62 rfl ?_
  refine x_getR C fl_X1_10 rfl (by decide) rfl dX1_addWall_63 ?_
  refine x_iload_n C dX1_addWall_66 rfl ?_
  refine x_iload_n C dX1_addWall_67 rfl ?_
  refine x_iload_n C dX1_addWall_68 rfl ?_
  refine x_callVN0r C (q0_build l g _ h9 s e so hc) cd_X0_build kl_X1_46 ci0 rfl (by decide) (as := [_, _, _]) rfl rfl ⟨⟨by decide, by decide⟩, by decide, by decide⟩ ⟨rfl, rfl⟩ (Nat.le_of_ble_eq_true rfl) dX1_addWall_69 ?_
  exact x_iret C hq ⟨by decide, by decide⟩ dX1_addWall_72 (rfl) (rfl)
abbrev rmX1_hand_x : Room := { frames := 7, cells := 1, slots := 6, locals := 111 }
set_option maxHeartbeats 1000000 in
set_option maxRecDepth 100000 in
theorem q1x_hand (l : Launch) (hl : l.stackTraces = false) (g : GT) (M : Mem) (w : Int32) (hb : ¬ (0 ≤ w ∧ w < M 1 1)) : CE l yX1_hand cX1_hand 2 (some .int) rmX1_hand_x g M [.ref (ga g 0), .int w] eB := by
  refine CE.of (by decide) (Nat.le_of_ble_eq_true rfl) (fun X C hq => ?_)
  have C : Cx X g l cX1_hand 2 RX1 (some .int) rmX1_hand_x := C
  show V X g 0 0 0 [(0, .ref (ga g 0)), (1, .int w)] [] M
  refine x_aload_n C dX1_hand_0 rfl ?_
  refine x_iload_n C dX1_hand_1 rfl ?_
  refine x_callVx C hq (q1x_needWall l hl g _ w hb) cd_X1_needWall kl_X1_50 ci1 rfl (by decide) (as := [_]) rfl rfl ⟨⟨by decide, by decide⟩, by decide, by decide⟩ (Nat.le_of_ble_eq_true rfl) dX1_hand_2
abbrev rmX1_hand : Room := { frames := 1, cells := 0, slots := 0, locals := 21 }
set_option maxHeartbeats 1000000 in
set_option maxRecDepth 100000 in
theorem q1_hand (l : Launch) (g : GT) (M : Mem) (h : cOK 1 M) (w : Int32) (hc : (0 ≤ w ∧ w < M 1 1)) : CM l yX1_hand cX1_hand 2 (some .int) rmX1_hand g M [.ref (ga g 0), .int w] (some (.int (cOth (M 6 (tn w))))) (wr M 6 (tn w) (cOth (M 6 (tn w)))) := by
  refine CM.of (by decide) (Nat.le_of_ble_eq_true rfl) (fun X C hq => ?_)
  have C : Cx X g l cX1_hand 2 RX1 (some .int) rmX1_hand := C
  show V X g 0 0 0 [(0, .ref (ga g 0)), (1, .int w)] [] M
  have hw9 : tn w < 10 := tn_lt (n := 10) hc.1 (by decide) (Int32.lt_of_lt_of_le hc.2 h.1.2)
  refine x_aload_n C dX1_hand_0 rfl ?_
  refine x_iload_n C dX1_hand_1 rfl ?_
  refine x_callV0v C (q1_needWall l g _ w hc) cd_X1_needWall kl_X1_50 ci1 rfl (by decide) (as := [_]) rfl rfl ⟨⟨by decide, by decide⟩, by decide, by decide⟩ ⟨rfl, rfl⟩ (Nat.le_of_ble_eq_true rfl) dX1_hand_2 ?_
  refine x_aload_n C dX1_hand_5 rfl ?_
  refine x_getR C fl_X1_10 rfl (by decide) rfl dX1_hand_6 ?_
  refine x_getR C fl_X1_53 rfl (by decide) rfl dX1_hand_9 ?_
  refine x_iload_n C dX1_hand_12 rfl ?_
  refine x_aload_n C dX1_hand_13 rfl ?_
  refine x_getR C fl_X1_10 rfl (by decide) rfl dX1_hand_14 ?_
  refine x_getR C fl_X1_53 rfl (by decide) rfl dX1_hand_17 ?_
  refine x_iload_n C dX1_hand_20 rfl ?_
  refine x_iald C (n := 10) rfl (by decide) rfl (nI_tn hc.1) (hw9) dX1_hand_21 ?_
  refine x_callS0r C (q1_otherEcho l g _ _) cd_X1_otherEcho kl_X1_56 (as := [_]) rfl rfl ⟨⟨by decide, by decide⟩, by decide, by decide⟩ ⟨rfl, rfl⟩ (Nat.le_of_ble_eq_true rfl) dX1_hand_22 ?_
  refine x_iast C (n := 10) rfl (by decide) rfl (nI_tn hc.1) (hw9) dX1_hand_25 ?_
  refine x_aload_n C dX1_hand_26 rfl ?_
  refine x_getR C fl_X1_10 rfl (by decide) rfl dX1_hand_27 ?_
  refine x_getR C fl_X1_53 rfl (by decide) rfl dX1_hand_30 ?_
  refine x_iload_n C dX1_hand_33 rfl ?_
  refine x_iald C (n := 10) rfl (by decide) rfl (nI_tn hc.1) (hw9) dX1_hand_34 ?_
  exact x_iret C hq ⟨by decide, by decide⟩ dX1_hand_35 (by rw [wr_eq]) (rfl)
abbrev rmX1_setSnow_x : Room := { frames := 7, cells := 1, slots := 6, locals := 110 }
set_option maxHeartbeats 1000000 in
set_option maxRecDepth 100000 in
theorem q1x_setSnow_1 (l : Launch) (hl : l.stackTraces = false) (g : GT) (M : Mem) (s so : Int32) (hb : ¬ (0 ≤ s ∧ s ≤ 31)) : CE l yX1_setSnow cX1_setSnow 4 (some .int) rmX1_setSnow_x g M [.ref (ga g 0), .int s, .int so] eB := by
  refine CE.of (by decide) (Nat.le_of_ble_eq_true rfl) (fun X C hq => ?_)
  have C : Cx X g l cX1_setSnow 4 RX1 (some .int) rmX1_setSnow_x := C
  show V X g 0 0 0 [(0, .ref (ga g 0)), (1, .int s), (2, .int so)] [] M
  refine x_iload_n C dX1_setSnow_0 rfl ?_
  refine x_callSx C hq (q1x_needStone l hl g _ s hb) cd_X1_needStone kl_X1_19 (as := [_]) rfl rfl ⟨⟨by decide, by decide⟩, by decide, by decide⟩ (Nat.le_of_ble_eq_true rfl) dX1_setSnow_1
set_option maxHeartbeats 1000000 in
set_option maxRecDepth 100000 in
theorem q1x_setSnow_2 (l : Launch) (hl : l.stackTraces = false) (g : GT) (M : Mem) (s so : Int32) (hc : (0 ≤ s ∧ s ≤ 31)) (hb : ¬ (0 ≤ so ∧ so ≤ 5)) : CE l yX1_setSnow cX1_setSnow 4 (some .int) rmX1_setSnow_x g M [.ref (ga g 0), .int s, .int so] eA := by
  refine CE.of (by decide) (Nat.le_of_ble_eq_true rfl) (fun X C hq => ?_)
  have C : Cx X g l cX1_setSnow 4 RX1 (some .int) rmX1_setSnow_x := C
  show V X g 0 0 0 [(0, .ref (ga g 0)), (1, .int s), (2, .int so)] [] M
  refine x_iload_n C dX1_setSnow_0 rfl ?_
  refine x_callS0v C (q1_needStone l g _ s hc) cd_X1_needStone kl_X1_19 (as := [_]) rfl rfl ⟨⟨by decide, by decide⟩, by decide, by decide⟩ ⟨rfl, rfl⟩ (Nat.le_of_ble_eq_true rfl) dX1_setSnow_1 ?_
  refine x_iload_n C dX1_setSnow_4 rfl ?_
  refine x_if_lt C (tgt := 13) dX1_setSnow_5 (by decide) (fun c5 => ?_) (fun c5 => ?_)
  · exact x_throw C hl hq xi_eA (is := 60) (text := "snow is not 0 to 5") (by decide) dX1_setSnow_13 dX1_setSnow_16 dX1_setSnow_17 dX1_setSnow_19 dX1_setSnow_22 ⟨by decide, Nat.le_of_ble_eq_true rfl, by decide, by decide⟩
  · refine x_iload_n C dX1_setSnow_8 rfl ?_
    refine x_iconst C (v := 5) dX1_setSnow_9 (by decide) ?_
    refine x_icmp_le C (tgt := 23) dX1_setSnow_10 (by decide) (fun c10 => absurd ⟨Int32.not_lt.mp c5, c10⟩ hb) (fun c10 => ?_)
    exact x_throw C hl hq xi_eA (is := 60) (text := "snow is not 0 to 5") (by decide) dX1_setSnow_13 dX1_setSnow_16 dX1_setSnow_17 dX1_setSnow_19 dX1_setSnow_22 ⟨by decide, Nat.le_of_ble_eq_true rfl, by decide, by decide⟩
abbrev rmX1_setSnow : Room := { frames := 2, cells := 0, slots := 0, locals := 40 }
set_option maxHeartbeats 1000000 in
set_option maxRecDepth 100000 in
theorem q1_setSnow (l : Launch) (g : GT) (M : Mem) (s so : Int32) (hc : (0 ≤ s ∧ s ≤ 31)) (hs : (0 ≤ so ∧ so ≤ 5)) : CM l yX1_setSnow cX1_setSnow 4 (some .int) rmX1_setSnow g M [.ref (ga g 0), .int s, .int so] (some (.int (M 2 (tn s)))) (wr M 2 (tn s) so) := by
  refine CM.of (by decide) (Nat.le_of_ble_eq_true rfl) (fun X C hq => ?_)
  have C : Cx X g l cX1_setSnow 4 RX1 (some .int) rmX1_setSnow := C
  show V X g 0 0 0 [(0, .ref (ga g 0)), (1, .int s), (2, .int so)] [] M
  refine x_iload_n C dX1_setSnow_0 rfl ?_
  refine x_callS0v C (q1_needStone l g _ s hc) cd_X1_needStone kl_X1_19 (as := [_]) rfl rfl ⟨⟨by decide, by decide⟩, by decide, by decide⟩ ⟨rfl, rfl⟩ (Nat.le_of_ble_eq_true rfl) dX1_setSnow_1 ?_
  refine x_iload_n C dX1_setSnow_4 rfl ?_
  refine x_if_lt C (tgt := 13) dX1_setSnow_5 (by decide) (fun c5 => absurd c5 (Int32.not_lt.mpr hs.1)) (fun c5 => ?_)
  refine x_iload_n C dX1_setSnow_8 rfl ?_
  refine x_iconst C (v := 5) dX1_setSnow_9 (by decide) ?_
  refine x_icmp_le C (tgt := 23) dX1_setSnow_10 (by decide) (fun c10 => ?_) (fun c10 => absurd hs.2 c10)
  refine x_aload_n C dX1_setSnow_23 rfl ?_
  refine x_getR C fl_X1_10 rfl (by decide) rfl dX1_setSnow_24 ?_
  refine x_getR C fl_X1_62 rfl (by decide) rfl dX1_setSnow_27 ?_
  refine x_iload_n C dX1_setSnow_30 rfl ?_
  refine x_iald C (n := 32) rfl (by decide) rfl (nI_tn hc.1) (tn31 hc) dX1_setSnow_31 ?_
  refine x_istore_n C (lo' := [(3, _), (0, _), (1, _), (2, _)]) dX1_setSnow_32 (by decide) rfl ?_
  refine x_aload_n C dX1_setSnow_33 rfl ?_
  refine x_getR C fl_X1_10 rfl (by decide) rfl dX1_setSnow_34 ?_
  refine x_getR C fl_X1_62 rfl (by decide) rfl dX1_setSnow_37 ?_
  refine x_iload_n C dX1_setSnow_40 rfl ?_
  refine x_iload_n C dX1_setSnow_41 rfl ?_
  refine x_iast C (n := 32) rfl (by decide) rfl (nI_tn hc.1) (tn31 hc) dX1_setSnow_42 ?_
  refine x_iload_n C dX1_setSnow_43 rfl ?_
  exact x_iret C hq ⟨by decide, by decide⟩ dX1_setSnow_44 (rfl) (rfl)
abbrev rmX1_shout_x : Room := { frames := 7, cells := 1, slots := 6, locals := 110 }
set_option maxHeartbeats 1000000 in
set_option maxRecDepth 100000 in
theorem q1x_shout_1 (l : Launch) (hl : l.stackTraces = false) (g : GT) (M : Mem) (s r ld : Int32) (hb : ¬ (0 ≤ s ∧ s ≤ 31)) : CE l yX1_shout cX1_shout 4 (some .int) rmX1_shout_x g M [.ref (ga g 0), .int s, .int r, .int ld] eB := by
  refine CE.of (by decide) (Nat.le_of_ble_eq_true rfl) (fun X C hq => ?_)
  have C : Cx X g l cX1_shout 4 RX1 (some .int) rmX1_shout_x := C
  show V X g 0 0 0 [(0, .ref (ga g 0)), (1, .int s), (2, .int r), (3, .int ld)] [] M
  refine x_iload_n C dX1_shout_0 rfl ?_
  refine x_callSx C hq (q1x_needStone l hl g _ s hb) cd_X1_needStone kl_X1_19 (as := [_]) rfl rfl ⟨⟨by decide, by decide⟩, by decide, by decide⟩ (Nat.le_of_ble_eq_true rfl) dX1_shout_1
set_option maxHeartbeats 1000000 in
set_option maxRecDepth 100000 in
theorem q1x_shout_2 (l : Launch) (hl : l.stackTraces = false) (g : GT) (M : Mem) (s r ld : Int32) (hc : (0 ≤ s ∧ s ≤ 31)) (hb : ¬ (1 ≤ ld ∧ ld ≤ 99)) : CE l yX1_shout cX1_shout 4 (some .int) rmX1_shout_x g M [.ref (ga g 0), .int s, .int r, .int ld] eA := by
  refine CE.of (by decide) (Nat.le_of_ble_eq_true rfl) (fun X C hq => ?_)
  have C : Cx X g l cX1_shout 4 RX1 (some .int) rmX1_shout_x := C
  show V X g 0 0 0 [(0, .ref (ga g 0)), (1, .int s), (2, .int r), (3, .int ld)] [] M
  refine x_iload_n C dX1_shout_0 rfl ?_
  refine x_callS0v C (q1_needStone l g _ s hc) cd_X1_needStone kl_X1_19 (as := [_]) rfl rfl ⟨⟨by decide, by decide⟩, by decide, by decide⟩ ⟨rfl, rfl⟩ (Nat.le_of_ble_eq_true rfl) dX1_shout_1 ?_
  refine x_iload_n C dX1_shout_4 rfl ?_
  refine x_callSx C hq (q1x_needLoud l hl g _ ld hb) cd_X1_needLoud kl_X1_65 (as := [_]) rfl rfl ⟨⟨by decide, by decide⟩, by decide, by decide⟩ (Nat.le_of_ble_eq_true rfl) dX1_shout_5
set_option maxHeartbeats 1000000 in
set_option maxRecDepth 100000 in
theorem q1x_shout_3 (l : Launch) (hl : l.stackTraces = false) (g : GT) (M : Mem) (h : cOK 1 M) (h8 : M 1 3 ≤ 8) (s r ld : Int32) (hc : (0 ≤ s ∧ s ≤ 31)) (hld : (1 ≤ ld ∧ ld ≤ 99)) (hb : M 1 2 = 40 ∨ M 1 3 = 8 ∨ M 4 (tn s) ≠ -1) : CE l yX1_shout cX1_shout 4 (some .int) rmX1_shout_x g M [.ref (ga g 0), .int s, .int r, .int ld] eS := by
  refine CE.of (by decide) (Nat.le_of_ble_eq_true rfl) (fun X C hq => ?_)
  have C : Cx X g l cX1_shout 4 RX1 (some .int) rmX1_shout_x := C
  show V X g 0 0 0 [(0, .ref (ga g 0)), (1, .int s), (2, .int r), (3, .int ld)] [] M
  refine x_iload_n C dX1_shout_0 rfl ?_
  refine x_callS0v C (q1_needStone l g _ s hc) cd_X1_needStone kl_X1_19 (as := [_]) rfl rfl ⟨⟨by decide, by decide⟩, by decide, by decide⟩ ⟨rfl, rfl⟩ (Nat.le_of_ble_eq_true rfl) dX1_shout_1 ?_
  refine x_iload_n C dX1_shout_4 rfl ?_
  refine x_callS0v C (q1_needLoud l g _ ld hld) cd_X1_needLoud kl_X1_65 (as := [_]) rfl rfl ⟨⟨by decide, by decide⟩, by decide, by decide⟩ ⟨rfl, rfl⟩ (Nat.le_of_ble_eq_true rfl) dX1_shout_5 ?_
  refine x_aload_n C dX1_shout_8 rfl ?_
  refine x_getR C fl_X1_10 rfl (by decide) rfl dX1_shout_9 ?_
  refine x_getI C fl_X1_68 rfl (by decide) rfl dX1_shout_12 ?_
  refine x_bipush C (v := 40) dX1_shout_15 (by decide) ?_
  refine x_icmp_ge C (tgt := 32) dX1_shout_17 (by decide) (fun c17 => ?_) (fun c17 => ?_)
  · exact x_throw C hl hq xi_eS (is := 74) (text := "there were 40 shouts, or 8 are not gone") (by decide) dX1_shout_32 dX1_shout_35 dX1_shout_36 dX1_shout_38 dX1_shout_41 ⟨by decide, Nat.le_of_ble_eq_true rfl, by decide, by decide⟩
  · have z17 : M 1 2 ≠ 40 := fun q => c17 (by rw [q]; exact Int32.le_refl _)
    refine x_aload_n C dX1_shout_20 rfl ?_
    refine x_getR C fl_X1_10 rfl (by decide) rfl dX1_shout_21 ?_
    refine x_getI C fl_X1_71 rfl (by decide) rfl dX1_shout_24 ?_
    refine x_bipush C (v := 8) dX1_shout_27 (by decide) ?_
    refine x_icmp_lt C (tgt := 42) dX1_shout_29 (by decide) (fun c29 => ?_) (fun c29 => ?_)
    · have z29 : M 1 3 ≠ 8 := fun q => Int32.lt_irrefl (q ▸ c29 : (8 : Int32) < 8)
      refine x_aload_n C dX1_shout_42 rfl ?_
      refine x_getR C fl_X1_10 rfl (by decide) rfl dX1_shout_43 ?_
      refine x_getR C fl_X1_76 rfl (by decide) rfl dX1_shout_46 ?_
      refine x_iload_n C dX1_shout_49 rfl ?_
      refine x_iald C (n := 32) rfl (by decide) rfl (nI_tn hc.1) (tn31 hc) dX1_shout_50 ?_
      refine x_iconst C (v := (-1)) dX1_shout_51 (by decide) ?_
      refine x_icmp_eq C (tgt := 65) dX1_shout_52 (by decide) (fun c52 => absurd c52 ((hb.resolve_left z17).resolve_left z29)) (fun c52 => ?_)
      exact x_throw C hl hq xi_eS (is := 79) (text := "a shout is on this stone") (by decide) dX1_shout_55 dX1_shout_58 dX1_shout_59 dX1_shout_61 dX1_shout_64 ⟨by decide, Nat.le_of_ble_eq_true rfl, by decide, by decide⟩
    · exact x_throw C hl hq xi_eS (is := 74) (text := "there were 40 shouts, or 8 are not gone") (by decide) dX1_shout_32 dX1_shout_35 dX1_shout_36 dX1_shout_38 dX1_shout_41 ⟨by decide, Nat.le_of_ble_eq_true rfl, by decide, by decide⟩
abbrev rmX1_shout : Room := { frames := 2, cells := 0, slots := 0, locals := 40 }
set_option maxHeartbeats 1000000 in
set_option maxRecDepth 100000 in
theorem q1_shout (l : Launch) (g : GT) (M : Mem) (h : cOK 1 M) (h8 : M 1 3 ≤ 8) (s r ld : Int32) (hc : (0 ≤ s ∧ s ≤ 31)) (hld : (1 ≤ ld ∧ ld ≤ 99)) (h1 : ¬ M 1 2 = 40) (h2 : ¬ M 1 3 = 8) (h3 : M 4 (tn s) = -1) : CM l yX1_shout cX1_shout 4 (some .int) rmX1_shout g M [.ref (ga g 0), .int s, .int r, .int ld] (some (.int (M 1 2))) (cStart 1 M s (if r = 0 then -1 else 1) ld) := by
  refine CM.of (by decide) (Nat.le_of_ble_eq_true rfl) (fun X C hq => ?_)
  have C : Cx X g l cX1_shout 4 RX1 (some .int) rmX1_shout := C
  show V X g 0 0 0 [(0, .ref (ga g 0)), (1, .int s), (2, .int r), (3, .int ld)] [] M
  have h9 : 0 ≤ M 1 2 ∧ M 1 2 ≤ 39 := ⟨h.2.1.1, ne40 h.2.1.2 h1⟩
  refine x_iload_n C dX1_shout_0 rfl ?_
  refine x_callS0v C (q1_needStone l g _ s hc) cd_X1_needStone kl_X1_19 (as := [_]) rfl rfl ⟨⟨by decide, by decide⟩, by decide, by decide⟩ ⟨rfl, rfl⟩ (Nat.le_of_ble_eq_true rfl) dX1_shout_1 ?_
  refine x_iload_n C dX1_shout_4 rfl ?_
  refine x_callS0v C (q1_needLoud l g _ ld hld) cd_X1_needLoud kl_X1_65 (as := [_]) rfl rfl ⟨⟨by decide, by decide⟩, by decide, by decide⟩ ⟨rfl, rfl⟩ (Nat.le_of_ble_eq_true rfl) dX1_shout_5 ?_
  refine x_aload_n C dX1_shout_8 rfl ?_
  refine x_getR C fl_X1_10 rfl (by decide) rfl dX1_shout_9 ?_
  refine x_getI C fl_X1_68 rfl (by decide) rfl dX1_shout_12 ?_
  refine x_bipush C (v := 40) dX1_shout_15 (by decide) ?_
  refine x_icmp_ge C (tgt := 32) dX1_shout_17 (by decide) (fun c17 => absurd h9.2 (le39 c17)) (fun c17 => ?_)
  refine x_aload_n C dX1_shout_20 rfl ?_
  refine x_getR C fl_X1_10 rfl (by decide) rfl dX1_shout_21 ?_
  refine x_getI C fl_X1_71 rfl (by decide) rfl dX1_shout_24 ?_
  refine x_bipush C (v := 8) dX1_shout_27 (by decide) ?_
  refine x_icmp_lt C (tgt := 42) dX1_shout_29 (by decide) (fun c29 => ?_) (fun c29 => absurd (lt8 h8 h2) c29)
  refine x_aload_n C dX1_shout_42 rfl ?_
  refine x_getR C fl_X1_10 rfl (by decide) rfl dX1_shout_43 ?_
  refine x_getR C fl_X1_76 rfl (by decide) rfl dX1_shout_46 ?_
  refine x_iload_n C dX1_shout_49 rfl ?_
  refine x_iald C (n := 32) rfl (by decide) rfl (nI_tn hc.1) (tn31 hc) dX1_shout_50 ?_
  refine x_iconst C (v := (-1)) dX1_shout_51 (by decide) ?_
  refine x_icmp_eq C (tgt := 65) dX1_shout_52 (by decide) (fun c52 => ?_) (fun c52 => absurd h3 c52)
  refine x_aload_n C dX1_shout_65 rfl ?_
  refine x_getR C fl_X1_10 rfl (by decide) rfl dX1_shout_66 ?_
  refine x_iload_n C dX1_shout_69 rfl ?_
  refine x_iload_n C dX1_shout_70 rfl ?_
  refine x_iload_n C dX1_shout_71 rfl ?_
  refine x_callVN0r C (q0_start1 l g _ h9 s r ld hc) cd_X0_start kl_X1_81 ci0 rfl (by decide) (as := [_, _, _]) rfl rfl ⟨⟨by decide, by decide⟩, by decide, by decide⟩ ⟨rfl, rfl⟩ (Nat.le_of_ble_eq_true rfl) dX1_shout_72 ?_
  exact x_iret C hq ⟨by decide, by decide⟩ dX1_shout_75 (rfl) (rfl)
abbrev rmX1_pass_x : Room := { frames := 7, cells := 1, slots := 6, locals := 110 }
set_option maxHeartbeats 1000000 in
set_option maxRecDepth 100000 in
theorem q1x_pass (l : Launch) (hl : l.stackTraces = false) (g : GT) (M : Mem) (b : Int32) (hb : ¬ (1 ≤ b ∧ b ≤ 100)) : CE l yX1_pass cX1_pass 4 (some .int) rmX1_pass_x g M [.ref (ga g 0), .int b] eA := by
  refine CE.of (by decide) (Nat.le_of_ble_eq_true rfl) (fun X C hq => ?_)
  have C : Cx X g l cX1_pass 4 RX1 (some .int) rmX1_pass_x := C
  show V X g 0 0 0 [(0, .ref (ga g 0)), (1, .int b)] [] M
  refine x_iload_n C dX1_pass_0 rfl ?_
  refine x_callSx C hq (q1x_needBeats l hl g _ b hb) cd_X1_needBeats kl_X1_85 (as := [_]) rfl rfl ⟨⟨by decide, by decide⟩, by decide, by decide⟩ (Nat.le_of_ble_eq_true rfl) dX1_pass_1
abbrev rmX1_pass : Room := { frames := 4, cells := 0, slots := 0, locals := 88 }
set_option maxHeartbeats 1000000 in
set_option maxRecDepth 100000 in
theorem q1_pass_lp {X : XT} {l : Launch} {g : GT} {M : Mem} {b : Int32} (h : cOK 1 M) (hb : 0 ≤ b) (C : Cx X g l cX1_pass 4 RX1 (some .int) rmX1_pass) (hq : Rt X g rmX1_pass (some (.int (cBeats 1 M (tn b) 9 0 + cBeats 1 M (tn b) 9 1 - (M 9 0 + M 9 1)))) (cBeats 1 M (tn b))) : ∀ (n i : Nat), i ≤ tn b → tn b + 1 ≤ i + n → V X g 0 0 26 [(3, .int (nI i)), (2, .int (M 9 0 + M 9 1)), (0, .ref (ga g 0)), (1, .int b)] [] (cBeats 1 M i) := by
  intro n
  induction n with
  | zero =>
    intro i h1 h2; omega
  | succ n ih =>
    intro i h1 h2
    have hsm : tn b < 2 ^ 31 := tn_sm b
    refine x_iload_n C dX1_pass_26 rfl ?_
    refine x_iload_n C dX1_pass_27 rfl ?_
    refine x_icmp_ge C (tgt := 44) dX1_pass_28 (by decide) (fun c28 => ?_) (fun c28 => ?_)
    · have he : i = tn b := Nat.le_antisymm h1 ((ge_tn hb (by omega)).mp c28)
      subst he
      refine x_aload_n C dX1_pass_44 rfl ?_
      refine x_getR C fl_X1_10 rfl (by decide) rfl dX1_pass_45 ?_
      refine x_getR C fl_X1_88 rfl (by decide) rfl dX1_pass_48 ?_
      refine x_iconst C (v := 0) dX1_pass_51 (by decide) ?_
      refine x_iald C (n := 2) rfl (by decide) rfl (rfl) ((by decide : 0 < 2)) dX1_pass_52 ?_
      refine x_aload_n C dX1_pass_53 rfl ?_
      refine x_getR C fl_X1_10 rfl (by decide) rfl dX1_pass_54 ?_
      refine x_getR C fl_X1_88 rfl (by decide) rfl dX1_pass_57 ?_
      refine x_iconst C (v := 1) dX1_pass_60 (by decide) ?_
      refine x_iald C (n := 2) rfl (by decide) rfl (rfl) ((by decide : 1 < 2)) dX1_pass_61 ?_
      refine x_iadd C dX1_pass_62 ?_
      refine x_iload_n C dX1_pass_63 rfl ?_
      refine x_isub C dX1_pass_64 ?_
      exact x_iret C hq ⟨by decide, by decide⟩ dX1_pass_65 (rfl) (rfl)
    · have hlt : i < tn b := lt_of_nge hb (by omega) c28
      refine x_aload_n C dX1_pass_31 rfl ?_
      refine x_getR C fl_X1_10 rfl (by decide) rfl dX1_pass_32 ?_
      refine x_callVN0v C (q0_goOn1 l g _ (cBeats_ok h i).1) cd_X0_goOn kl_X1_91 ci0 rfl (by decide) (as := []) rfl rfl ⟨⟨by decide, by decide⟩, by decide, by decide⟩ ⟨rfl, rfl⟩ (Nat.le_of_ble_eq_true rfl) dX1_pass_35 ?_
      refine x_iinc C (v := nI (i + 1)) (lo' := [(3, _), (2, _), (0, _), (1, _)]) dX1_pass_38 rfl (nI_inc _) (by decide) rfl ?_
      refine x_goto C (tgt := 26) dX1_pass_41 (by decide) ?_
      exact ih (i + 1) hlt (by omega)
set_option maxHeartbeats 1000000 in
set_option maxRecDepth 100000 in
theorem q1_pass (l : Launch) (g : GT) (M : Mem) (h : cOK 1 M) (b : Int32) (hb : (1 ≤ b ∧ b ≤ 100)) : CM l yX1_pass cX1_pass 4 (some .int) rmX1_pass g M [.ref (ga g 0), .int b] (some (.int (cBeats 1 M (tn b) 9 0 + cBeats 1 M (tn b) 9 1 - (M 9 0 + M 9 1)))) (cBeats 1 M (tn b)) := by
  refine CM.of (by decide) (Nat.le_of_ble_eq_true rfl) (fun X C hq => ?_)
  have C : Cx X g l cX1_pass 4 RX1 (some .int) rmX1_pass := C
  show V X g 0 0 0 [(0, .ref (ga g 0)), (1, .int b)] [] M
  refine x_iload_n C dX1_pass_0 rfl ?_
  refine x_callS0v C (q1_needBeats l g _ b hb) cd_X1_needBeats kl_X1_85 (as := [_]) rfl rfl ⟨⟨by decide, by decide⟩, by decide, by decide⟩ ⟨rfl, rfl⟩ (Nat.le_of_ble_eq_true rfl) dX1_pass_1 ?_
  refine x_aload_n C dX1_pass_4 rfl ?_
  refine x_getR C fl_X1_10 rfl (by decide) rfl dX1_pass_5 ?_
  refine x_getR C fl_X1_88 rfl (by decide) rfl dX1_pass_8 ?_
  refine x_iconst C (v := 0) dX1_pass_11 (by decide) ?_
  refine x_iald C (n := 2) rfl (by decide) rfl (rfl) ((by decide : 0 < 2)) dX1_pass_12 ?_
  refine x_aload_n C dX1_pass_13 rfl ?_
  refine x_getR C fl_X1_10 rfl (by decide) rfl dX1_pass_14 ?_
  refine x_getR C fl_X1_88 rfl (by decide) rfl dX1_pass_17 ?_
  refine x_iconst C (v := 1) dX1_pass_20 (by decide) ?_
  refine x_iald C (n := 2) rfl (by decide) rfl (rfl) ((by decide : 1 < 2)) dX1_pass_21 ?_
  refine x_iadd C dX1_pass_22 ?_
  refine x_istore_n C (lo' := [(2, _), (0, _), (1, _)]) dX1_pass_23 (by decide) rfl ?_
  refine x_iconst C (v := 0) dX1_pass_24 (by decide) ?_
  refine x_istore_n C (lo' := [(3, _), (2, _), (0, _), (1, _)]) dX1_pass_25 (by decide) rfl ?_
  exact x_lsub [0, 1, 2, 3] rfl (q1_pass_lp h (Int32.le_trans (by decide) hb.1) C hq (tn b + 1) 0 (Nat.zero_le _) (by omega))
abbrev rmX1_beat : Room := { frames := 0, cells := 0, slots := 0, locals := 0 }
set_option maxHeartbeats 1000000 in
set_option maxRecDepth 100000 in
theorem q1_beat (l : Launch) (g : GT) (M : Mem) : CM l yX1_beat cX1_beat 1 (some .int) rmX1_beat g M [.ref (ga g 0)] (some (.int (M 1 0))) (M) := by
  refine CM.of (by decide) (Nat.le_of_ble_eq_true rfl) (fun X C hq => ?_)
  have C : Cx X g l cX1_beat 1 RX1 (some .int) rmX1_beat := C
  show V X g 0 0 0 [(0, .ref (ga g 0))] [] M
  refine x_aload_n C dX1_beat_0 rfl ?_
  refine x_getR C fl_X1_10 rfl (by decide) rfl dX1_beat_1 ?_
  refine x_getI C fl_X1_94 rfl (by decide) rfl dX1_beat_4 ?_
  exact x_iret C hq ⟨by decide, by decide⟩ dX1_beat_7 (rfl) (rfl)
abbrev rmX1_walls : Room := { frames := 0, cells := 0, slots := 0, locals := 0 }
set_option maxHeartbeats 1000000 in
set_option maxRecDepth 100000 in
theorem q1_walls (l : Launch) (g : GT) (M : Mem) : CM l yX1_walls cX1_walls 1 (some .int) rmX1_walls g M [.ref (ga g 0)] (some (.int (M 1 1))) (M) := by
  refine CM.of (by decide) (Nat.le_of_ble_eq_true rfl) (fun X C hq => ?_)
  have C : Cx X g l cX1_walls 1 RX1 (some .int) rmX1_walls := C
  show V X g 0 0 0 [(0, .ref (ga g 0))] [] M
  refine x_aload_n C dX1_walls_0 rfl ?_
  refine x_getR C fl_X1_10 rfl (by decide) rfl dX1_walls_1 ?_
  refine x_getI C fl_X1_33 rfl (by decide) rfl dX1_walls_4 ?_
  exact x_iret C hq ⟨by decide, by decide⟩ dX1_walls_7 (rfl) (rfl)
abbrev rmX1_shouts : Room := { frames := 0, cells := 0, slots := 0, locals := 0 }
set_option maxHeartbeats 1000000 in
set_option maxRecDepth 100000 in
theorem q1_shouts (l : Launch) (g : GT) (M : Mem) : CM l yX1_shouts cX1_shouts 1 (some .int) rmX1_shouts g M [.ref (ga g 0)] (some (.int (M 1 2))) (M) := by
  refine CM.of (by decide) (Nat.le_of_ble_eq_true rfl) (fun X C hq => ?_)
  have C : Cx X g l cX1_shouts 1 RX1 (some .int) rmX1_shouts := C
  show V X g 0 0 0 [(0, .ref (ga g 0))] [] M
  refine x_aload_n C dX1_shouts_0 rfl ?_
  refine x_getR C fl_X1_10 rfl (by decide) rfl dX1_shouts_1 ?_
  refine x_getI C fl_X1_68 rfl (by decide) rfl dX1_shouts_4 ?_
  exact x_iret C hq ⟨by decide, by decide⟩ dX1_shouts_7 (rfl) (rfl)
abbrev rmX1_underWay : Room := { frames := 0, cells := 0, slots := 0, locals := 0 }
set_option maxHeartbeats 1000000 in
set_option maxRecDepth 100000 in
theorem q1_underWay (l : Launch) (g : GT) (M : Mem) : CM l yX1_underWay cX1_underWay 1 (some .int) rmX1_underWay g M [.ref (ga g 0)] (some (.int (M 1 3))) (M) := by
  refine CM.of (by decide) (Nat.le_of_ble_eq_true rfl) (fun X C hq => ?_)
  have C : Cx X g l cX1_underWay 1 RX1 (some .int) rmX1_underWay := C
  show V X g 0 0 0 [(0, .ref (ga g 0))] [] M
  refine x_aload_n C dX1_underWay_0 rfl ?_
  refine x_getR C fl_X1_10 rfl (by decide) rfl dX1_underWay_1 ?_
  refine x_getI C fl_X1_71 rfl (by decide) rfl dX1_underWay_4 ?_
  exact x_iret C hq ⟨by decide, by decide⟩ dX1_underWay_7 (rfl) (rfl)
abbrev rmX1_overlaps : Room := { frames := 0, cells := 0, slots := 0, locals := 0 }
set_option maxHeartbeats 1000000 in
set_option maxRecDepth 100000 in
theorem q1_overlaps (l : Launch) (g : GT) (M : Mem) : CM l yX1_overlaps cX1_overlaps 1 (some .int) rmX1_overlaps g M [.ref (ga g 0)] (some (.int (M 1 4))) (M) := by
  refine CM.of (by decide) (Nat.le_of_ble_eq_true rfl) (fun X C hq => ?_)
  have C : Cx X g l cX1_overlaps 1 RX1 (some .int) rmX1_overlaps := C
  show V X g 0 0 0 [(0, .ref (ga g 0))] [] M
  refine x_aload_n C dX1_overlaps_0 rfl ?_
  refine x_getR C fl_X1_10 rfl (by decide) rfl dX1_overlaps_1 ?_
  refine x_getI C fl_X1_97 rfl (by decide) rfl dX1_overlaps_4 ?_
  exact x_iret C hq ⟨by decide, by decide⟩ dX1_overlaps_7 (rfl) (rfl)
abbrev rmX1_inherited : Room := { frames := 0, cells := 0, slots := 0, locals := 0 }
set_option maxHeartbeats 1000000 in
set_option maxRecDepth 100000 in
theorem q1_inherited (l : Launch) (g : GT) (M : Mem) : CM l yX1_inherited cX1_inherited 1 (some .int) rmX1_inherited g M [.ref (ga g 0)] (some (.int (M 1 5))) (M) := by
  refine CM.of (by decide) (Nat.le_of_ble_eq_true rfl) (fun X C hq => ?_)
  have C : Cx X g l cX1_inherited 1 RX1 (some .int) rmX1_inherited := C
  show V X g 0 0 0 [(0, .ref (ga g 0))] [] M
  refine x_aload_n C dX1_inherited_0 rfl ?_
  refine x_getR C fl_X1_10 rfl (by decide) rfl dX1_inherited_1 ?_
  refine x_getI C fl_X1_112 rfl (by decide) rfl dX1_inherited_4 ?_
  exact x_iret C hq ⟨by decide, by decide⟩ dX1_inherited_7 (rfl) (rfl)
abbrev rmX1_snowOn_x : Room := { frames := 7, cells := 1, slots := 6, locals := 110 }
set_option maxHeartbeats 1000000 in
set_option maxRecDepth 100000 in
theorem q1x_snowOn (l : Launch) (hl : l.stackTraces = false) (g : GT) (M : Mem) (s : Int32) (hb : ¬ (0 ≤ s ∧ s ≤ 31)) : CE l yX1_snowOn cX1_snowOn 2 (some .int) rmX1_snowOn_x g M [.ref (ga g 0), .int s] eB := by
  refine CE.of (by decide) (Nat.le_of_ble_eq_true rfl) (fun X C hq => ?_)
  have C : Cx X g l cX1_snowOn 2 RX1 (some .int) rmX1_snowOn_x := C
  show V X g 0 0 0 [(0, .ref (ga g 0)), (1, .int s)] [] M
  refine x_iload_n C dX1_snowOn_0 rfl ?_
  refine x_callSx C hq (q1x_needStone l hl g _ s hb) cd_X1_needStone kl_X1_19 (as := [_]) rfl rfl ⟨⟨by decide, by decide⟩, by decide, by decide⟩ (Nat.le_of_ble_eq_true rfl) dX1_snowOn_1
abbrev rmX1_snowOn : Room := { frames := 2, cells := 0, slots := 0, locals := 40 }
set_option maxHeartbeats 1000000 in
set_option maxRecDepth 100000 in
theorem q1_snowOn (l : Launch) (g : GT) (M : Mem) (s : Int32) (hc : (0 ≤ s ∧ s ≤ 31)) : CM l yX1_snowOn cX1_snowOn 2 (some .int) rmX1_snowOn g M [.ref (ga g 0), .int s] (some (.int (M 2 (tn s)))) (M) := by
  refine CM.of (by decide) (Nat.le_of_ble_eq_true rfl) (fun X C hq => ?_)
  have C : Cx X g l cX1_snowOn 2 RX1 (some .int) rmX1_snowOn := C
  show V X g 0 0 0 [(0, .ref (ga g 0)), (1, .int s)] [] M
  refine x_iload_n C dX1_snowOn_0 rfl ?_
  refine x_callS0v C (q1_needStone l g _ s hc) cd_X1_needStone kl_X1_19 (as := [_]) rfl rfl ⟨⟨by decide, by decide⟩, by decide, by decide⟩ ⟨rfl, rfl⟩ (Nat.le_of_ble_eq_true rfl) dX1_snowOn_1 ?_
  refine x_aload_n C dX1_snowOn_4 rfl ?_
  refine x_getR C fl_X1_10 rfl (by decide) rfl dX1_snowOn_5 ?_
  refine x_getR C fl_X1_62 rfl (by decide) rfl dX1_snowOn_8 ?_
  refine x_iload_n C dX1_snowOn_11 rfl ?_
  refine x_iald C (n := 32) rfl (by decide) rfl (nI_tn hc.1) (tn31 hc) dX1_snowOn_12 ?_
  exact x_iret C hq ⟨by decide, by decide⟩ dX1_snowOn_13 (rfl) (rfl)
abbrev rmX1_wallOn_x : Room := { frames := 7, cells := 1, slots := 6, locals := 110 }
set_option maxHeartbeats 1000000 in
set_option maxRecDepth 100000 in
theorem q1x_wallOn (l : Launch) (hl : l.stackTraces = false) (g : GT) (M : Mem) (s : Int32) (hb : ¬ (0 ≤ s ∧ s ≤ 31)) : CE l yX1_wallOn cX1_wallOn 2 (some .int) rmX1_wallOn_x g M [.ref (ga g 0), .int s] eB := by
  refine CE.of (by decide) (Nat.le_of_ble_eq_true rfl) (fun X C hq => ?_)
  have C : Cx X g l cX1_wallOn 2 RX1 (some .int) rmX1_wallOn_x := C
  show V X g 0 0 0 [(0, .ref (ga g 0)), (1, .int s)] [] M
  refine x_iload_n C dX1_wallOn_0 rfl ?_
  refine x_callSx C hq (q1x_needStone l hl g _ s hb) cd_X1_needStone kl_X1_19 (as := [_]) rfl rfl ⟨⟨by decide, by decide⟩, by decide, by decide⟩ (Nat.le_of_ble_eq_true rfl) dX1_wallOn_1
abbrev rmX1_wallOn : Room := { frames := 2, cells := 0, slots := 0, locals := 40 }
set_option maxHeartbeats 1000000 in
set_option maxRecDepth 100000 in
theorem q1_wallOn (l : Launch) (g : GT) (M : Mem) (s : Int32) (hc : (0 ≤ s ∧ s ≤ 31)) : CM l yX1_wallOn cX1_wallOn 2 (some .int) rmX1_wallOn g M [.ref (ga g 0), .int s] (some (.int (M 3 (tn s)))) (M) := by
  refine CM.of (by decide) (Nat.le_of_ble_eq_true rfl) (fun X C hq => ?_)
  have C : Cx X g l cX1_wallOn 2 RX1 (some .int) rmX1_wallOn := C
  show V X g 0 0 0 [(0, .ref (ga g 0)), (1, .int s)] [] M
  refine x_iload_n C dX1_wallOn_0 rfl ?_
  refine x_callS0v C (q1_needStone l g _ s hc) cd_X1_needStone kl_X1_19 (as := [_]) rfl rfl ⟨⟨by decide, by decide⟩, by decide, by decide⟩ ⟨rfl, rfl⟩ (Nat.le_of_ble_eq_true rfl) dX1_wallOn_1 ?_
  refine x_aload_n C dX1_wallOn_4 rfl ?_
  refine x_getR C fl_X1_10 rfl (by decide) rfl dX1_wallOn_5 ?_
  refine x_getR C fl_X1_37 rfl (by decide) rfl dX1_wallOn_8 ?_
  refine x_iload_n C dX1_wallOn_11 rfl ?_
  refine x_iald C (n := 32) rfl (by decide) rfl (nI_tn hc.1) (tn31 hc) dX1_wallOn_12 ?_
  exact x_iret C hq ⟨by decide, by decide⟩ dX1_wallOn_13 (rfl) (rfl)
def cLA (b : Nat) (M : Mem) (s : Int32) : Int32 := if M (b + 3) (tn s) = -1 then 0 else M (b + 10) (tn (M (b + 3) (tn s)))
abbrev rmX1_loudOn_x : Room := { frames := 7, cells := 1, slots := 6, locals := 110 }
set_option maxHeartbeats 1000000 in
set_option maxRecDepth 100000 in
theorem q1x_loudOn (l : Launch) (hl : l.stackTraces = false) (g : GT) (M : Mem) (s : Int32) (hb : ¬ (0 ≤ s ∧ s ≤ 31)) : CE l yX1_loudOn cX1_loudOn 2 (some .int) rmX1_loudOn_x g M [.ref (ga g 0), .int s] eB := by
  refine CE.of (by decide) (Nat.le_of_ble_eq_true rfl) (fun X C hq => ?_)
  have C : Cx X g l cX1_loudOn 2 RX1 (some .int) rmX1_loudOn_x := C
  show V X g 0 0 0 [(0, .ref (ga g 0)), (1, .int s)] [] M
  refine x_iload_n C dX1_loudOn_0 rfl ?_
  refine x_callSx C hq (q1x_needStone l hl g _ s hb) cd_X1_needStone kl_X1_19 (as := [_]) rfl rfl ⟨⟨by decide, by decide⟩, by decide, by decide⟩ (Nat.le_of_ble_eq_true rfl) dX1_loudOn_1
abbrev rmX1_loudOn : Room := { frames := 2, cells := 0, slots := 0, locals := 40 }
set_option maxHeartbeats 1000000 in
set_option maxRecDepth 100000 in
theorem q1_loudOn (l : Launch) (g : GT) (M : Mem) (h : cOK 1 M) (s : Int32) (hc : (0 ≤ s ∧ s ≤ 31)) : CM l yX1_loudOn cX1_loudOn 2 (some .int) rmX1_loudOn g M [.ref (ga g 0), .int s] (some (.int (cLA 1 M s))) (M) := by
  refine CM.of (by decide) (Nat.le_of_ble_eq_true rfl) (fun X C hq => ?_)
  have C : Cx X g l cX1_loudOn 2 RX1 (some .int) rmX1_loudOn := C
  show V X g 0 0 0 [(0, .ref (ga g 0)), (1, .int s)] [] M
  refine x_iload_n C dX1_loudOn_0 rfl ?_
  refine x_callS0v C (q1_needStone l g _ s hc) cd_X1_needStone kl_X1_19 (as := [_]) rfl rfl ⟨⟨by decide, by decide⟩, by decide, by decide⟩ ⟨rfl, rfl⟩ (Nat.le_of_ble_eq_true rfl) dX1_loudOn_1 ?_
  refine x_aload_n C dX1_loudOn_4 rfl ?_
  refine x_getR C fl_X1_10 rfl (by decide) rfl dX1_loudOn_5 ?_
  refine x_iload_n C dX1_loudOn_8 rfl ?_
  refine x_callVN0r C (q0_loudAt1 l g _ h s hc) cd_X0_loudAt kl_X1_100 ci0 rfl (by decide) (as := [_]) rfl rfl ⟨⟨by decide, by decide⟩, by decide, by decide⟩ ⟨rfl, rfl⟩ (Nat.le_of_ble_eq_true rfl) dX1_loudOn_9 ?_
  exact x_iret C hq ⟨by decide, by decide⟩ dX1_loudOn_12 (rfl) (rfl)
abbrev rmX1_stoneOf_x : Room := { frames := 7, cells := 1, slots := 6, locals := 111 }
set_option maxHeartbeats 1000000 in
set_option maxRecDepth 100000 in
theorem q1x_stoneOf (l : Launch) (hl : l.stackTraces = false) (g : GT) (M : Mem) (w : Int32) (hb : ¬ (0 ≤ w ∧ w < M 1 1)) : CE l yX1_stoneOf cX1_stoneOf 2 (some .int) rmX1_stoneOf_x g M [.ref (ga g 0), .int w] eB := by
  refine CE.of (by decide) (Nat.le_of_ble_eq_true rfl) (fun X C hq => ?_)
  have C : Cx X g l cX1_stoneOf 2 RX1 (some .int) rmX1_stoneOf_x := C
  show V X g 0 0 0 [(0, .ref (ga g 0)), (1, .int w)] [] M
  refine x_aload_n C dX1_stoneOf_0 rfl ?_
  refine x_iload_n C dX1_stoneOf_1 rfl ?_
  refine x_callVx C hq (q1x_needWall l hl g _ w hb) cd_X1_needWall kl_X1_50 ci1 rfl (by decide) (as := [_]) rfl rfl ⟨⟨by decide, by decide⟩, by decide, by decide⟩ (Nat.le_of_ble_eq_true rfl) dX1_stoneOf_2
abbrev rmX1_stoneOf : Room := { frames := 1, cells := 0, slots := 0, locals := 21 }
set_option maxHeartbeats 1000000 in
set_option maxRecDepth 100000 in
theorem q1_stoneOf (l : Launch) (g : GT) (M : Mem) (h : cOK 1 M) (w : Int32) (hc : (0 ≤ w ∧ w < M 1 1)) : CM l yX1_stoneOf cX1_stoneOf 2 (some .int) rmX1_stoneOf g M [.ref (ga g 0), .int w] (some (.int (M 5 (tn w)))) (M) := by
  refine CM.of (by decide) (Nat.le_of_ble_eq_true rfl) (fun X C hq => ?_)
  have C : Cx X g l cX1_stoneOf 2 RX1 (some .int) rmX1_stoneOf := C
  show V X g 0 0 0 [(0, .ref (ga g 0)), (1, .int w)] [] M
  have hw9 : tn w < 10 := tn_lt (n := 10) hc.1 (by decide) (Int32.lt_of_lt_of_le hc.2 h.1.2)
  refine x_aload_n C dX1_stoneOf_0 rfl ?_
  refine x_iload_n C dX1_stoneOf_1 rfl ?_
  refine x_callV0v C (q1_needWall l g _ w hc) cd_X1_needWall kl_X1_50 ci1 rfl (by decide) (as := [_]) rfl rfl ⟨⟨by decide, by decide⟩, by decide, by decide⟩ ⟨rfl, rfl⟩ (Nat.le_of_ble_eq_true rfl) dX1_stoneOf_2 ?_
  refine x_aload_n C dX1_stoneOf_5 rfl ?_
  refine x_getR C fl_X1_10 rfl (by decide) rfl dX1_stoneOf_6 ?_
  refine x_getR C fl_X1_103 rfl (by decide) rfl dX1_stoneOf_9 ?_
  refine x_iload_n C dX1_stoneOf_12 rfl ?_
  refine x_iald C (n := 10) rfl (by decide) rfl (nI_tn hc.1) (hw9) dX1_stoneOf_13 ?_
  exact x_iret C hq ⟨by decide, by decide⟩ dX1_stoneOf_14 (rfl) (rfl)
abbrev rmX1_ownerOf_x : Room := { frames := 7, cells := 1, slots := 6, locals := 111 }
set_option maxHeartbeats 1000000 in
set_option maxRecDepth 100000 in
theorem q1x_ownerOf (l : Launch) (hl : l.stackTraces = false) (g : GT) (M : Mem) (w : Int32) (hb : ¬ (0 ≤ w ∧ w < M 1 1)) : CE l yX1_ownerOf cX1_ownerOf 2 (some .int) rmX1_ownerOf_x g M [.ref (ga g 0), .int w] eB := by
  refine CE.of (by decide) (Nat.le_of_ble_eq_true rfl) (fun X C hq => ?_)
  have C : Cx X g l cX1_ownerOf 2 RX1 (some .int) rmX1_ownerOf_x := C
  show V X g 0 0 0 [(0, .ref (ga g 0)), (1, .int w)] [] M
  refine x_aload_n C dX1_ownerOf_0 rfl ?_
  refine x_iload_n C dX1_ownerOf_1 rfl ?_
  refine x_callVx C hq (q1x_needWall l hl g _ w hb) cd_X1_needWall kl_X1_50 ci1 rfl (by decide) (as := [_]) rfl rfl ⟨⟨by decide, by decide⟩, by decide, by decide⟩ (Nat.le_of_ble_eq_true rfl) dX1_ownerOf_2
abbrev rmX1_ownerOf : Room := { frames := 1, cells := 0, slots := 0, locals := 21 }
set_option maxHeartbeats 1000000 in
set_option maxRecDepth 100000 in
theorem q1_ownerOf (l : Launch) (g : GT) (M : Mem) (h : cOK 1 M) (w : Int32) (hc : (0 ≤ w ∧ w < M 1 1)) : CM l yX1_ownerOf cX1_ownerOf 2 (some .int) rmX1_ownerOf g M [.ref (ga g 0), .int w] (some (.int (M 6 (tn w)))) (M) := by
  refine CM.of (by decide) (Nat.le_of_ble_eq_true rfl) (fun X C hq => ?_)
  have C : Cx X g l cX1_ownerOf 2 RX1 (some .int) rmX1_ownerOf := C
  show V X g 0 0 0 [(0, .ref (ga g 0)), (1, .int w)] [] M
  have hw9 : tn w < 10 := tn_lt (n := 10) hc.1 (by decide) (Int32.lt_of_lt_of_le hc.2 h.1.2)
  refine x_aload_n C dX1_ownerOf_0 rfl ?_
  refine x_iload_n C dX1_ownerOf_1 rfl ?_
  refine x_callV0v C (q1_needWall l g _ w hc) cd_X1_needWall kl_X1_50 ci1 rfl (by decide) (as := [_]) rfl rfl ⟨⟨by decide, by decide⟩, by decide, by decide⟩ ⟨rfl, rfl⟩ (Nat.le_of_ble_eq_true rfl) dX1_ownerOf_2 ?_
  refine x_aload_n C dX1_ownerOf_5 rfl ?_
  refine x_getR C fl_X1_10 rfl (by decide) rfl dX1_ownerOf_6 ?_
  refine x_getR C fl_X1_53 rfl (by decide) rfl dX1_ownerOf_9 ?_
  refine x_iload_n C dX1_ownerOf_12 rfl ?_
  refine x_iald C (n := 10) rfl (by decide) rfl (nI_tn hc.1) (hw9) dX1_ownerOf_13 ?_
  exact x_iret C hq ⟨by decide, by decide⟩ dX1_ownerOf_14 (rfl) (rfl)
abbrev rmX1_thrownBack_x : Room := { frames := 7, cells := 1, slots := 6, locals := 111 }
set_option maxHeartbeats 1000000 in
set_option maxRecDepth 100000 in
theorem q1x_thrownBack (l : Launch) (hl : l.stackTraces = false) (g : GT) (M : Mem) (w : Int32) (hb : ¬ (0 ≤ w ∧ w < M 1 1)) : CE l yX1_thrownBack cX1_thrownBack 2 (some .int) rmX1_thrownBack_x g M [.ref (ga g 0), .int w] eB := by
  refine CE.of (by decide) (Nat.le_of_ble_eq_true rfl) (fun X C hq => ?_)
  have C : Cx X g l cX1_thrownBack 2 RX1 (some .int) rmX1_thrownBack_x := C
  show V X g 0 0 0 [(0, .ref (ga g 0)), (1, .int w)] [] M
  refine x_aload_n C dX1_thrownBack_0 rfl ?_
  refine x_iload_n C dX1_thrownBack_1 rfl ?_
  refine x_callVx C hq (q1x_needWall l hl g _ w hb) cd_X1_needWall kl_X1_50 ci1 rfl (by decide) (as := [_]) rfl rfl ⟨⟨by decide, by decide⟩, by decide, by decide⟩ (Nat.le_of_ble_eq_true rfl) dX1_thrownBack_2
abbrev rmX1_thrownBack : Room := { frames := 1, cells := 0, slots := 0, locals := 21 }
set_option maxHeartbeats 1000000 in
set_option maxRecDepth 100000 in
theorem q1_thrownBack (l : Launch) (g : GT) (M : Mem) (h : cOK 1 M) (w : Int32) (hc : (0 ≤ w ∧ w < M 1 1)) : CM l yX1_thrownBack cX1_thrownBack 2 (some .int) rmX1_thrownBack g M [.ref (ga g 0), .int w] (some (.int (M 8 (tn w)))) (M) := by
  refine CM.of (by decide) (Nat.le_of_ble_eq_true rfl) (fun X C hq => ?_)
  have C : Cx X g l cX1_thrownBack 2 RX1 (some .int) rmX1_thrownBack := C
  show V X g 0 0 0 [(0, .ref (ga g 0)), (1, .int w)] [] M
  have hw9 : tn w < 10 := tn_lt (n := 10) hc.1 (by decide) (Int32.lt_of_lt_of_le hc.2 h.1.2)
  refine x_aload_n C dX1_thrownBack_0 rfl ?_
  refine x_iload_n C dX1_thrownBack_1 rfl ?_
  refine x_callV0v C (q1_needWall l g _ w hc) cd_X1_needWall kl_X1_50 ci1 rfl (by decide) (as := [_]) rfl rfl ⟨⟨by decide, by decide⟩, by decide, by decide⟩ ⟨rfl, rfl⟩ (Nat.le_of_ble_eq_true rfl) dX1_thrownBack_2 ?_
  refine x_aload_n C dX1_thrownBack_5 rfl ?_
  refine x_getR C fl_X1_10 rfl (by decide) rfl dX1_thrownBack_6 ?_
  refine x_getR C fl_X1_106 rfl (by decide) rfl dX1_thrownBack_9 ?_
  refine x_iload_n C dX1_thrownBack_12 rfl ?_
  refine x_iald C (n := 10) rfl (by decide) rfl (nI_tn hc.1) (hw9) dX1_thrownBack_13 ?_
  exact x_iret C hq ⟨by decide, by decide⟩ dX1_thrownBack_14 (rfl) (rfl)
abbrev rmX1_coinsOf_x : Room := { frames := 7, cells := 1, slots := 6, locals := 110 }
set_option maxHeartbeats 1000000 in
set_option maxRecDepth 100000 in
theorem q1x_coinsOf (l : Launch) (hl : l.stackTraces = false) (g : GT) (M : Mem) (e : Int32) (hb : ¬ (0 ≤ e ∧ e ≤ 1)) : CE l yX1_coinsOf cX1_coinsOf 2 (some .int) rmX1_coinsOf_x g M [.ref (ga g 0), .int e] eB := by
  refine CE.of (by decide) (Nat.le_of_ble_eq_true rfl) (fun X C hq => ?_)
  have C : Cx X g l cX1_coinsOf 2 RX1 (some .int) rmX1_coinsOf_x := C
  show V X g 0 0 0 [(0, .ref (ga g 0)), (1, .int e)] [] M
  refine x_iload_n C dX1_coinsOf_0 rfl ?_
  refine x_callSx C hq (q1x_needEcho l hl g _ e hb) cd_X1_needEcho kl_X1_23 (as := [_]) rfl rfl ⟨⟨by decide, by decide⟩, by decide, by decide⟩ (Nat.le_of_ble_eq_true rfl) dX1_coinsOf_1
abbrev rmX1_coinsOf : Room := { frames := 1, cells := 0, slots := 0, locals := 20 }
set_option maxHeartbeats 1000000 in
set_option maxRecDepth 100000 in
theorem q1_coinsOf (l : Launch) (g : GT) (M : Mem) (e : Int32) (hc : (0 ≤ e ∧ e ≤ 1)) : CM l yX1_coinsOf cX1_coinsOf 2 (some .int) rmX1_coinsOf g M [.ref (ga g 0), .int e] (some (.int (M 9 (tn e)))) (M) := by
  refine CM.of (by decide) (Nat.le_of_ble_eq_true rfl) (fun X C hq => ?_)
  have C : Cx X g l cX1_coinsOf 2 RX1 (some .int) rmX1_coinsOf := C
  show V X g 0 0 0 [(0, .ref (ga g 0)), (1, .int e)] [] M
  refine x_iload_n C dX1_coinsOf_0 rfl ?_
  refine x_callS0v C (q1_needEcho l g _ e hc) cd_X1_needEcho kl_X1_23 (as := [_]) rfl rfl ⟨⟨by decide, by decide⟩, by decide, by decide⟩ ⟨rfl, rfl⟩ (Nat.le_of_ble_eq_true rfl) dX1_coinsOf_1 ?_
  refine x_aload_n C dX1_coinsOf_4 rfl ?_
  refine x_getR C fl_X1_10 rfl (by decide) rfl dX1_coinsOf_5 ?_
  refine x_getR C fl_X1_88 rfl (by decide) rfl dX1_coinsOf_8 ?_
  refine x_iload_n C dX1_coinsOf_11 rfl ?_
  refine x_iald C (n := 2) rfl (by decide) rfl (nI_tn hc.1) (tn1 hc) dX1_coinsOf_12 ?_
  exact x_iret C hq ⟨by decide, by decide⟩ dX1_coinsOf_13 (rfl) (rfl)
abbrev rmX1_silentFor_x : Room := { frames := 7, cells := 1, slots := 6, locals := 110 }
set_option maxHeartbeats 1000000 in
set_option maxRecDepth 100000 in
theorem q1x_silentFor (l : Launch) (hl : l.stackTraces = false) (g : GT) (M : Mem) (e : Int32) (hb : ¬ (0 ≤ e ∧ e ≤ 1)) : CE l yX1_silentFor cX1_silentFor 2 (some .int) rmX1_silentFor_x g M [.ref (ga g 0), .int e] eB := by
  refine CE.of (by decide) (Nat.le_of_ble_eq_true rfl) (fun X C hq => ?_)
  have C : Cx X g l cX1_silentFor 2 RX1 (some .int) rmX1_silentFor_x := C
  show V X g 0 0 0 [(0, .ref (ga g 0)), (1, .int e)] [] M
  refine x_iload_n C dX1_silentFor_0 rfl ?_
  refine x_callSx C hq (q1x_needEcho l hl g _ e hb) cd_X1_needEcho kl_X1_23 (as := [_]) rfl rfl ⟨⟨by decide, by decide⟩, by decide, by decide⟩ (Nat.le_of_ble_eq_true rfl) dX1_silentFor_1
abbrev rmX1_silentFor : Room := { frames := 1, cells := 0, slots := 0, locals := 20 }
set_option maxHeartbeats 1000000 in
set_option maxRecDepth 100000 in
theorem q1_silentFor (l : Launch) (g : GT) (M : Mem) (e : Int32) (hc : (0 ≤ e ∧ e ≤ 1)) : CM l yX1_silentFor cX1_silentFor 2 (some .int) rmX1_silentFor g M [.ref (ga g 0), .int e] (some (.int (M 10 (tn e)))) (M) := by
  refine CM.of (by decide) (Nat.le_of_ble_eq_true rfl) (fun X C hq => ?_)
  have C : Cx X g l cX1_silentFor 2 RX1 (some .int) rmX1_silentFor := C
  show V X g 0 0 0 [(0, .ref (ga g 0)), (1, .int e)] [] M
  refine x_iload_n C dX1_silentFor_0 rfl ?_
  refine x_callS0v C (q1_needEcho l g _ e hc) cd_X1_needEcho kl_X1_23 (as := [_]) rfl rfl ⟨⟨by decide, by decide⟩, by decide, by decide⟩ ⟨rfl, rfl⟩ (Nat.le_of_ble_eq_true rfl) dX1_silentFor_1 ?_
  refine x_aload_n C dX1_silentFor_4 rfl ?_
  refine x_getR C fl_X1_10 rfl (by decide) rfl dX1_silentFor_5 ?_
  refine x_getR C fl_X1_109 rfl (by decide) rfl dX1_silentFor_8 ?_
  refine x_iload_n C dX1_silentFor_11 rfl ?_
  refine x_iald C (n := 2) rfl (by decide) rfl (nI_tn hc.1) (tn1 hc) dX1_silentFor_12 ?_
  exact x_iret C hq ⟨by decide, by decide⟩ dX1_silentFor_13 (rfl) (rfl)
abbrev rmX1_loudnessOf_x : Room := { frames := 7, cells := 1, slots := 6, locals := 111 }
set_option maxHeartbeats 1000000 in
set_option maxRecDepth 100000 in
theorem q1x_loudnessOf (l : Launch) (hl : l.stackTraces = false) (g : GT) (M : Mem) (w : Int32) (hb : ¬ (0 ≤ w ∧ w < M 1 2)) : CE l yX1_loudnessOf cX1_loudnessOf 2 (some .int) rmX1_loudnessOf_x g M [.ref (ga g 0), .int w] eB := by
  refine CE.of (by decide) (Nat.le_of_ble_eq_true rfl) (fun X C hq => ?_)
  have C : Cx X g l cX1_loudnessOf 2 RX1 (some .int) rmX1_loudnessOf_x := C
  show V X g 0 0 0 [(0, .ref (ga g 0)), (1, .int w)] [] M
  refine x_aload_n C dX1_loudnessOf_0 rfl ?_
  refine x_iload_n C dX1_loudnessOf_1 rfl ?_
  refine x_callVx C hq (q1x_needShout l hl g _ w hb) cd_X1_needShout kl_X1_115 ci1 rfl (by decide) (as := [_]) rfl rfl ⟨⟨by decide, by decide⟩, by decide, by decide⟩ (Nat.le_of_ble_eq_true rfl) dX1_loudnessOf_2
abbrev rmX1_loudnessOf : Room := { frames := 1, cells := 0, slots := 0, locals := 21 }
set_option maxHeartbeats 1000000 in
set_option maxRecDepth 100000 in
theorem q1_loudnessOf (l : Launch) (g : GT) (M : Mem) (h : cOK 1 M) (w : Int32) (hc : (0 ≤ w ∧ w < M 1 2)) : CM l yX1_loudnessOf cX1_loudnessOf 2 (some .int) rmX1_loudnessOf g M [.ref (ga g 0), .int w] (some (.int (M 11 (tn w)))) (M) := by
  refine CM.of (by decide) (Nat.le_of_ble_eq_true rfl) (fun X C hq => ?_)
  have C : Cx X g l cX1_loudnessOf 2 RX1 (some .int) rmX1_loudnessOf := C
  show V X g 0 0 0 [(0, .ref (ga g 0)), (1, .int w)] [] M
  have hw9 : tn w < 40 := tn_lt (n := 40) hc.1 (by decide) (Int32.lt_of_lt_of_le hc.2 h.2.1.2)
  refine x_aload_n C dX1_loudnessOf_0 rfl ?_
  refine x_iload_n C dX1_loudnessOf_1 rfl ?_
  refine x_callV0v C (q1_needShout l g _ w hc) cd_X1_needShout kl_X1_115 ci1 rfl (by decide) (as := [_]) rfl rfl ⟨⟨by decide, by decide⟩, by decide, by decide⟩ ⟨rfl, rfl⟩ (Nat.le_of_ble_eq_true rfl) dX1_loudnessOf_2 ?_
  refine x_aload_n C dX1_loudnessOf_5 rfl ?_
  refine x_getR C fl_X1_10 rfl (by decide) rfl dX1_loudnessOf_6 ?_
  refine x_getR C fl_X1_118 rfl (by decide) rfl dX1_loudnessOf_9 ?_
  refine x_iload_n C dX1_loudnessOf_12 rfl ?_
  refine x_iald C (n := 40) rfl (by decide) rfl (nI_tn hc.1) (hw9) dX1_loudnessOf_13 ?_
  exact x_iret C hq ⟨by decide, by decide⟩ dX1_loudnessOf_14 (rfl) (rfl)
abbrev rmX1_placeOf_x : Room := { frames := 7, cells := 1, slots := 6, locals := 111 }
set_option maxHeartbeats 1000000 in
set_option maxRecDepth 100000 in
theorem q1x_placeOf (l : Launch) (hl : l.stackTraces = false) (g : GT) (M : Mem) (w : Int32) (hb : ¬ (0 ≤ w ∧ w < M 1 2)) : CE l yX1_placeOf cX1_placeOf 2 (some .int) rmX1_placeOf_x g M [.ref (ga g 0), .int w] eB := by
  refine CE.of (by decide) (Nat.le_of_ble_eq_true rfl) (fun X C hq => ?_)
  have C : Cx X g l cX1_placeOf 2 RX1 (some .int) rmX1_placeOf_x := C
  show V X g 0 0 0 [(0, .ref (ga g 0)), (1, .int w)] [] M
  refine x_aload_n C dX1_placeOf_0 rfl ?_
  refine x_iload_n C dX1_placeOf_1 rfl ?_
  refine x_callVx C hq (q1x_needShout l hl g _ w hb) cd_X1_needShout kl_X1_115 ci1 rfl (by decide) (as := [_]) rfl rfl ⟨⟨by decide, by decide⟩, by decide, by decide⟩ (Nat.le_of_ble_eq_true rfl) dX1_placeOf_2
abbrev rmX1_placeOf : Room := { frames := 1, cells := 0, slots := 0, locals := 21 }
set_option maxHeartbeats 1000000 in
set_option maxRecDepth 100000 in
theorem q1_placeOf (l : Launch) (g : GT) (M : Mem) (h : cOK 1 M) (w : Int32) (hc : (0 ≤ w ∧ w < M 1 2)) : CM l yX1_placeOf cX1_placeOf 2 (some .int) rmX1_placeOf g M [.ref (ga g 0), .int w] (some (.int (M 12 (tn w)))) (M) := by
  refine CM.of (by decide) (Nat.le_of_ble_eq_true rfl) (fun X C hq => ?_)
  have C : Cx X g l cX1_placeOf 2 RX1 (some .int) rmX1_placeOf := C
  show V X g 0 0 0 [(0, .ref (ga g 0)), (1, .int w)] [] M
  have hw9 : tn w < 40 := tn_lt (n := 40) hc.1 (by decide) (Int32.lt_of_lt_of_le hc.2 h.2.1.2)
  refine x_aload_n C dX1_placeOf_0 rfl ?_
  refine x_iload_n C dX1_placeOf_1 rfl ?_
  refine x_callV0v C (q1_needShout l g _ w hc) cd_X1_needShout kl_X1_115 ci1 rfl (by decide) (as := [_]) rfl rfl ⟨⟨by decide, by decide⟩, by decide, by decide⟩ ⟨rfl, rfl⟩ (Nat.le_of_ble_eq_true rfl) dX1_placeOf_2 ?_
  refine x_aload_n C dX1_placeOf_5 rfl ?_
  refine x_getR C fl_X1_10 rfl (by decide) rfl dX1_placeOf_6 ?_
  refine x_getR C fl_X1_121 rfl (by decide) rfl dX1_placeOf_9 ?_
  refine x_iload_n C dX1_placeOf_12 rfl ?_
  refine x_iald C (n := 40) rfl (by decide) rfl (nI_tn hc.1) (hw9) dX1_placeOf_13 ?_
  exact x_iret C hq ⟨by decide, by decide⟩ dX1_placeOf_14 (rfl) (rfl)
abbrev rmX1_turnsOf_x : Room := { frames := 7, cells := 1, slots := 6, locals := 111 }
set_option maxHeartbeats 1000000 in
set_option maxRecDepth 100000 in
theorem q1x_turnsOf (l : Launch) (hl : l.stackTraces = false) (g : GT) (M : Mem) (w : Int32) (hb : ¬ (0 ≤ w ∧ w < M 1 2)) : CE l yX1_turnsOf cX1_turnsOf 2 (some .int) rmX1_turnsOf_x g M [.ref (ga g 0), .int w] eB := by
  refine CE.of (by decide) (Nat.le_of_ble_eq_true rfl) (fun X C hq => ?_)
  have C : Cx X g l cX1_turnsOf 2 RX1 (some .int) rmX1_turnsOf_x := C
  show V X g 0 0 0 [(0, .ref (ga g 0)), (1, .int w)] [] M
  refine x_aload_n C dX1_turnsOf_0 rfl ?_
  refine x_iload_n C dX1_turnsOf_1 rfl ?_
  refine x_callVx C hq (q1x_needShout l hl g _ w hb) cd_X1_needShout kl_X1_115 ci1 rfl (by decide) (as := [_]) rfl rfl ⟨⟨by decide, by decide⟩, by decide, by decide⟩ (Nat.le_of_ble_eq_true rfl) dX1_turnsOf_2
abbrev rmX1_turnsOf : Room := { frames := 1, cells := 0, slots := 0, locals := 21 }
set_option maxHeartbeats 1000000 in
set_option maxRecDepth 100000 in
theorem q1_turnsOf (l : Launch) (g : GT) (M : Mem) (h : cOK 1 M) (w : Int32) (hc : (0 ≤ w ∧ w < M 1 2)) : CM l yX1_turnsOf cX1_turnsOf 2 (some .int) rmX1_turnsOf g M [.ref (ga g 0), .int w] (some (.int (M 14 (tn w)))) (M) := by
  refine CM.of (by decide) (Nat.le_of_ble_eq_true rfl) (fun X C hq => ?_)
  have C : Cx X g l cX1_turnsOf 2 RX1 (some .int) rmX1_turnsOf := C
  show V X g 0 0 0 [(0, .ref (ga g 0)), (1, .int w)] [] M
  have hw9 : tn w < 40 := tn_lt (n := 40) hc.1 (by decide) (Int32.lt_of_lt_of_le hc.2 h.2.1.2)
  refine x_aload_n C dX1_turnsOf_0 rfl ?_
  refine x_iload_n C dX1_turnsOf_1 rfl ?_
  refine x_callV0v C (q1_needShout l g _ w hc) cd_X1_needShout kl_X1_115 ci1 rfl (by decide) (as := [_]) rfl rfl ⟨⟨by decide, by decide⟩, by decide, by decide⟩ ⟨rfl, rfl⟩ (Nat.le_of_ble_eq_true rfl) dX1_turnsOf_2 ?_
  refine x_aload_n C dX1_turnsOf_5 rfl ?_
  refine x_getR C fl_X1_10 rfl (by decide) rfl dX1_turnsOf_6 ?_
  refine x_getR C fl_X1_127 rfl (by decide) rfl dX1_turnsOf_9 ?_
  refine x_iload_n C dX1_turnsOf_12 rfl ?_
  refine x_iald C (n := 40) rfl (by decide) rfl (nI_tn hc.1) (hw9) dX1_turnsOf_13 ?_
  exact x_iret C hq ⟨by decide, by decide⟩ dX1_turnsOf_14 (rfl) (rfl)
abbrev rmX1_goesRight_x : Room := { frames := 7, cells := 1, slots := 6, locals := 111 }
set_option maxHeartbeats 1000000 in
set_option maxRecDepth 100000 in
theorem q1x_goesRight (l : Launch) (hl : l.stackTraces = false) (g : GT) (M : Mem) (w : Int32) (hb : ¬ (0 ≤ w ∧ w < M 1 2)) : CE l yX1_goesRight cX1_goesRight 2 (some .boolean) rmX1_goesRight_x g M [.ref (ga g 0), .int w] eB := by
  refine CE.of (by decide) (Nat.le_of_ble_eq_true rfl) (fun X C hq => ?_)
  have C : Cx X g l cX1_goesRight 2 RX1 (some .boolean) rmX1_goesRight_x := C
  show V X g 0 0 0 [(0, .ref (ga g 0)), (1, .int w)] [] M
  refine x_aload_n C dX1_goesRight_0 rfl ?_
  refine x_iload_n C dX1_goesRight_1 rfl ?_
  refine x_callVx C hq (q1x_needShout l hl g _ w hb) cd_X1_needShout kl_X1_115 ci1 rfl (by decide) (as := [_]) rfl rfl ⟨⟨by decide, by decide⟩, by decide, by decide⟩ (Nat.le_of_ble_eq_true rfl) dX1_goesRight_2
abbrev rmX1_goesRight : Room := { frames := 1, cells := 0, slots := 0, locals := 21 }
set_option maxHeartbeats 1000000 in
set_option maxRecDepth 100000 in
theorem q1_goesRight (l : Launch) (g : GT) (M : Mem) (h : cOK 1 M) (w : Int32) (hc : (0 ≤ w ∧ w < M 1 2)) : CM l yX1_goesRight cX1_goesRight 2 (some .boolean) rmX1_goesRight g M [.ref (ga g 0), .int w] (some (.int (b2i (0 < M 13 (tn w))))) (M) := by
  refine CM.of (by decide) (Nat.le_of_ble_eq_true rfl) (fun X C hq => ?_)
  have C : Cx X g l cX1_goesRight 2 RX1 (some .boolean) rmX1_goesRight := C
  show V X g 0 0 0 [(0, .ref (ga g 0)), (1, .int w)] [] M
  have hw9 : tn w < 40 := tn_lt (n := 40) hc.1 (by decide) (Int32.lt_of_lt_of_le hc.2 h.2.1.2)
  refine x_aload_n C dX1_goesRight_0 rfl ?_
  refine x_iload_n C dX1_goesRight_1 rfl ?_
  refine x_callV0v C (q1_needShout l g _ w hc) cd_X1_needShout kl_X1_115 ci1 rfl (by decide) (as := [_]) rfl rfl ⟨⟨by decide, by decide⟩, by decide, by decide⟩ ⟨rfl, rfl⟩ (Nat.le_of_ble_eq_true rfl) dX1_goesRight_2 ?_
  refine x_aload_n C dX1_goesRight_5 rfl ?_
  refine x_getR C fl_X1_10 rfl (by decide) rfl dX1_goesRight_6 ?_
  refine x_getR C fl_X1_124 rfl (by decide) rfl dX1_goesRight_9 ?_
  refine x_iload_n C dX1_goesRight_12 rfl ?_
  refine x_iald C (n := 40) rfl (by decide) rfl (nI_tn hc.1) (hw9) dX1_goesRight_13 ?_
  refine x_if_le C (tgt := 21) dX1_goesRight_14 (by decide) (fun c14 => ?_) (fun c14 => ?_)
  · refine x_iconst C (v := 0) dX1_goesRight_21 (by decide) ?_
    exact x_zret C hq (by decide) ⟨by decide, by decide⟩ dX1_goesRight_22 (by first | (have z := Int32.not_le.mp c14; exact rb_t z) | (have z := Int32.not_lt.mpr c14; exact rb_f z)) (rfl)
  · refine x_iconst C (v := 1) dX1_goesRight_17 (by decide) ?_
    refine x_goto C (tgt := 22) dX1_goesRight_18 (by decide) ?_
    exact x_zret C hq (by decide) ⟨by decide, by decide⟩ dX1_goesRight_22 (by first | (have z := Int32.not_le.mp c14; exact rb_t z) | (have z := Int32.not_lt.mpr c14; exact rb_f z)) (rfl)
abbrev rmX1_wallsOf_x : Room := { frames := 7, cells := 1, slots := 6, locals := 110 }
set_option maxHeartbeats 1000000 in
set_option maxRecDepth 100000 in
theorem q1x_wallsOf (l : Launch) (hl : l.stackTraces = false) (g : GT) (M : Mem) (e : Int32) (hb : ¬ (0 ≤ e ∧ e ≤ 1)) : CE l yX1_wallsOf cX1_wallsOf 4 (some .int) rmX1_wallsOf_x g M [.ref (ga g 0), .int e] eB := by
  refine CE.of (by decide) (Nat.le_of_ble_eq_true rfl) (fun X C hq => ?_)
  have C : Cx X g l cX1_wallsOf 4 RX1 (some .int) rmX1_wallsOf_x := C
  show V X g 0 0 0 [(0, .ref (ga g 0)), (1, .int e)] [] M
  refine x_iload_n C dX1_wallsOf_0 rfl ?_
  refine x_callSx C hq (q1x_needEcho l hl g _ e hb) cd_X1_needEcho kl_X1_23 (as := [_]) rfl rfl ⟨⟨by decide, by decide⟩, by decide, by decide⟩ (Nat.le_of_ble_eq_true rfl) dX1_wallsOf_1
def cWOL (M : Mem) (e : Int32) : Nat → Int32
  | 0 => 0
  | w + 1 => if M 6 w = e then cWOL M e w + 1 else cWOL M e w
def cWO (M : Mem) (e : Int32) : Int32 := cWOL M e (cWs 1 M)
abbrev rmX1_wallsOf : Room := { frames := 1, cells := 0, slots := 0, locals := 20 }
set_option maxHeartbeats 1000000 in
set_option maxRecDepth 100000 in
theorem q1_wallsOf_lp {X : XT} {l : Launch} {g : GT} {M : Mem} {e : Int32} (h : cOK 1 M) (C : Cx X g l cX1_wallsOf 4 RX1 (some .int) rmX1_wallsOf) (hq : Rt X g rmX1_wallsOf (some (.int (cWO M e))) M) : ∀ (n i : Nat), i ≤ cWs 1 M → cWs 1 M + 1 ≤ i + n → V X g 0 0 8 [(3, .int (nI i)), (2, .int (cWOL M e i)), (0, .ref (ga g 0)), (1, .int e)] [] M := by
  intro n
  induction n with
  | zero =>
    intro i h1 h2; omega
  | succ n ih =>
    intro i h1 h2
    have hws := h.ws
    refine x_iload_n C dX1_wallsOf_8 rfl ?_
    refine x_aload_n C dX1_wallsOf_9 rfl ?_
    refine x_getR C fl_X1_10 rfl (by decide) rfl dX1_wallsOf_10 ?_
    refine x_getI C fl_X1_33 rfl (by decide) rfl dX1_wallsOf_13 ?_
    refine x_icmp_ge C (tgt := 41) dX1_wallsOf_16 (by decide) (fun c16 => ?_) (fun c16 => ?_)
    · have he : i = cWs 1 M := Nat.le_antisymm h1 ((ge_tn h.1.1 (by omega)).mp c16)
      subst he
      refine x_iload_n C dX1_wallsOf_41 rfl ?_
      exact x_iret C hq ⟨by decide, by decide⟩ dX1_wallsOf_42 (rfl) (rfl)
    · have hlt : i < cWs 1 M := lt_of_nge h.1.1 (by omega) c16
      refine x_aload_n C dX1_wallsOf_19 rfl ?_
      refine x_getR C fl_X1_10 rfl (by decide) rfl dX1_wallsOf_20 ?_
      refine x_getR C fl_X1_53 rfl (by decide) rfl dX1_wallsOf_23 ?_
      refine x_iload_n C dX1_wallsOf_26 rfl ?_
      refine x_iald C (n := 10) rfl (by decide) rfl (rfl) ((by omega : i < 10)) dX1_wallsOf_27 ?_
      refine x_iload_n C dX1_wallsOf_28 rfl ?_
      refine x_icmp_ne C (tgt := 35) dX1_wallsOf_29 (by decide) (fun c29 => ?_) (fun c29 => ?_)
      · refine x_iinc C (v := nI (i + 1)) (lo' := [(3, _), (2, _), (0, _), (1, _)]) dX1_wallsOf_35 rfl (nI_inc _) (by decide) rfl ?_
        refine x_goto C (tgt := 8) dX1_wallsOf_38 (by decide) ?_
        first
          | (have z : cWOL M e (i + 1) = cWOL M e i + 1 := if_pos c29; have q := ih (i + 1) hlt (by omega); rw [z] at q; exact q)
          | (have z : cWOL M e (i + 1) = cWOL M e i := if_neg c29; have q := ih (i + 1) hlt (by omega); rw [z] at q; exact q)
      · refine x_iinc C (v := (cWOL M e i + 1)) (lo' := [(2, _), (3, _), (0, _), (1, _)]) dX1_wallsOf_32 rfl (rfl) (by decide) rfl ?_
        refine x_iinc C (v := nI (i + 1)) (lo' := [(3, _), (2, _), (0, _), (1, _)]) dX1_wallsOf_35 rfl (nI_inc _) (by decide) rfl ?_
        refine x_goto C (tgt := 8) dX1_wallsOf_38 (by decide) ?_
        first
          | (have z : cWOL M e (i + 1) = cWOL M e i + 1 := if_pos c29; have q := ih (i + 1) hlt (by omega); rw [z] at q; exact q)
          | (have z : cWOL M e (i + 1) = cWOL M e i := if_neg c29; have q := ih (i + 1) hlt (by omega); rw [z] at q; exact q)
set_option maxHeartbeats 1000000 in
set_option maxRecDepth 100000 in
theorem q1_wallsOf (l : Launch) (g : GT) (M : Mem) (h : cOK 1 M) (e : Int32) (hc : (0 ≤ e ∧ e ≤ 1)) : CM l yX1_wallsOf cX1_wallsOf 4 (some .int) rmX1_wallsOf g M [.ref (ga g 0), .int e] (some (.int (cWO M e))) (M) := by
  refine CM.of (by decide) (Nat.le_of_ble_eq_true rfl) (fun X C hq => ?_)
  have C : Cx X g l cX1_wallsOf 4 RX1 (some .int) rmX1_wallsOf := C
  show V X g 0 0 0 [(0, .ref (ga g 0)), (1, .int e)] [] M
  refine x_iload_n C dX1_wallsOf_0 rfl ?_
  refine x_callS0v C (q1_needEcho l g _ e hc) cd_X1_needEcho kl_X1_23 (as := [_]) rfl rfl ⟨⟨by decide, by decide⟩, by decide, by decide⟩ ⟨rfl, rfl⟩ (Nat.le_of_ble_eq_true rfl) dX1_wallsOf_1 ?_
  refine x_iconst C (v := 0) dX1_wallsOf_4 (by decide) ?_
  refine x_istore_n C (lo' := [(2, _), (0, _), (1, _)]) dX1_wallsOf_5 (by decide) rfl ?_
  refine x_iconst C (v := 0) dX1_wallsOf_6 (by decide) ?_
  refine x_istore_n C (lo' := [(3, _), (2, _), (0, _), (1, _)]) dX1_wallsOf_7 (by decide) rfl ?_
  exact x_lsub [0, 1, 2, 3] rfl (q1_wallsOf_lp h C hq (cWs 1 M + 1) 0 (Nat.zero_le _) (by omega))
abbrev rmX1_nextWall_x : Room := { frames := 7, cells := 1, slots := 6, locals := 110 }
set_option maxHeartbeats 1000000 in
set_option maxRecDepth 100000 in
theorem q1x_nextWall (l : Launch) (hl : l.stackTraces = false) (g : GT) (M : Mem) (s r : Int32) (hb : ¬ (0 ≤ s ∧ s ≤ 31)) : CE l yX1_nextWall cX1_nextWall 5 (some .int) rmX1_nextWall_x g M [.ref (ga g 0), .int s, .int r] eB := by
  refine CE.of (by decide) (Nat.le_of_ble_eq_true rfl) (fun X C hq => ?_)
  have C : Cx X g l cX1_nextWall 5 RX1 (some .int) rmX1_nextWall_x := C
  show V X g 0 0 0 [(0, .ref (ga g 0)), (1, .int s), (2, .int r)] [] M
  refine x_iload_n C dX1_nextWall_0 rfl ?_
  refine x_callSx C hq (q1x_needStone l hl g _ s hb) cd_X1_needStone kl_X1_19 (as := [_]) rfl rfl ⟨⟨by decide, by decide⟩, by decide, by decide⟩ (Nat.le_of_ble_eq_true rfl) dX1_nextWall_1
abbrev rmX1_nextWall : Room := { frames := 2, cells := 0, slots := 0, locals := 40 }
theorem i_st0 {s : Int32} (h : s < 0) : ¬ (0 ≤ s ∧ s ≤ 31) := fun z => by
  have a := i_lt.mp h
  have b := i_le.mp z.1
  omega
theorem i_st1 {s : Int32} (h : s ≥ 32) : ¬ (0 ≤ s ∧ s ≤ 31) := fun z => by
  have a : (32 : Int32).toInt ≤ s.toInt := i_le.mp h
  have b := i_le.mp z.2
  rw [i_c31] at b
  rw [show (32 : Int32).toInt = 32 from rfl] at a
  omega
theorem i_st2 {s : Int32} (h : ¬ s < 0) (k : ¬ s ≥ 32) : 0 ≤ s ∧ s ≤ 31 := by
  constructor
  · rw [i_le]; rw [i_lt] at h; omega
  · rw [i_le, i_c31]; have z : ¬ (32 : Int32).toInt ≤ s.toInt := fun q => k (i_le.mpr q); rw [show (32 : Int32).toInt = 32 from rfl] at z; omega
def cNx (M : Mem) (way : Int32) : Nat → Int32 → Int32
  | 0, _ => -1
  | n + 1, s => if 0 ≤ s ∧ s ≤ 31 then (if M 3 (tn s) = -1 then cNx M way n (s + way) else s) else -1
set_option maxHeartbeats 1000000 in
set_option maxRecDepth 100000 in
theorem q1_nextWall_lp {X : XT} {l : Launch} {g : GT} {M : Mem} {way fr rr : Int32} {r : Option Value} (hw : way = 1 ∨ way = -1) (C : Cx X g l cX1_nextWall 5 RX1 (some .int) rmX1_nextWall) (hq : Rt X g rmX1_nextWall r M) : ∀ (n : Nat) (s : Int32), (-1 ≤ s.toInt ∧ s.toInt ≤ 32) → ((way = 1 ∧ 32 - s.toInt < n) ∨ (way = -1 ∧ s.toInt + 1 < n)) → some (.int (cNx M way n s)) = r → V X g 0 0 19 [(4, .int s), (3, .int way), (0, .ref (ga g 0)), (1, .int fr), (2, .int rr)] [] M := by
  intro n
  induction n with
  | zero =>
    intro s h1 h2; omega
  | succ n ih =>
    intro s h1 h2 hr
    refine x_iload C dX1_nextWall_19 rfl ?_
    refine x_if_lt C (tgt := 57) dX1_nextWall_21 (by decide) (fun c21 => ?_) (fun c21 => ?_)
    · refine x_iconst C (v := (-1)) dX1_nextWall_57 (by decide) ?_
      exact x_iret C hq ⟨by decide, by decide⟩ dX1_nextWall_58 (by rw [← hr]; unfold cNx; first | rw [if_neg (i_st0 c21)] | rw [if_neg (i_st1 c28)]) (rfl)
    · refine x_iload C dX1_nextWall_24 rfl ?_
      refine x_bipush C (v := 32) dX1_nextWall_26 (by decide) ?_
      refine x_icmp_ge C (tgt := 57) dX1_nextWall_28 (by decide) (fun c28 => ?_) (fun c28 => ?_)
      · refine x_iconst C (v := (-1)) dX1_nextWall_57 (by decide) ?_
        exact x_iret C hq ⟨by decide, by decide⟩ dX1_nextWall_58 (by rw [← hr]; unfold cNx; first | rw [if_neg (i_st0 c21)] | rw [if_neg (i_st1 c28)]) (rfl)
      · have c24 := i_st2 c21 c28
        have hs := tn31 c24
        refine x_aload_n C dX1_nextWall_31 rfl ?_
        refine x_getR C fl_X1_10 rfl (by decide) rfl dX1_nextWall_32 ?_
        refine x_getR C fl_X1_37 rfl (by decide) rfl dX1_nextWall_35 ?_
        refine x_iload C dX1_nextWall_38 rfl ?_
        refine x_iald C (n := 32) rfl (by decide) rfl (nI_tn c24.1) (hs) dX1_nextWall_40 ?_
        refine x_iconst C (v := (-1)) dX1_nextWall_41 (by decide) ?_
        refine x_icmp_eq C (tgt := 48) dX1_nextWall_42 (by decide) (fun c42 => ?_) (fun c42 => ?_)
        · refine x_iload C dX1_nextWall_48 rfl ?_
          refine x_iload_n C dX1_nextWall_50 rfl ?_
          refine x_iadd C dX1_nextWall_51 ?_
          refine x_istore C (lo' := [(4, _), (3, _), (0, _), (1, _), (2, _)]) dX1_nextWall_52 (by decide) rfl ?_
          refine x_goto C (tgt := 19) dX1_nextWall_54 (by decide) ?_
          have a1 := i_le.mp c24.1
          have a2 := i_le.mp c24.2
          rw [i_c0] at a1; rw [i_c31] at a2
          have e : some (Value.int (cNx M way n (s + way))) = r := by rw [← hr]; conv => rhs; unfold cNx; rw [if_pos c24, if_pos c42]
          rcases hw with rfl | rfl
          · have q : (s + 1).toInt = s.toInt + 1 := by rw [i_add] <;> rw [i_c1] <;> omega
            exact ih _ (by omega) (by rw [q]; rcases h2 with z | z <;> first | (left; refine ⟨rfl, ?_⟩; omega) | (exact absurd z.1 (by decide))) e
          · have q : (s + -1).toInt = s.toInt + -1 := by rw [i_add] <;> rw [i_cm] <;> omega
            exact ih _ (by omega) (by rw [q]; rcases h2 with z | z <;> first | (right; refine ⟨rfl, ?_⟩; omega) | (exact absurd z.1 (by decide))) e
        · refine x_iload C dX1_nextWall_45 rfl ?_
          exact x_iret C hq ⟨by decide, by decide⟩ dX1_nextWall_47 (by rw [← hr]; unfold cNx; rw [if_pos c24, if_neg c42]) (rfl)
set_option maxHeartbeats 1000000 in
set_option maxRecDepth 100000 in
theorem q1_nextWall (l : Launch) (g : GT) (M : Mem) (s r : Int32) (hc : (0 ≤ s ∧ s ≤ 31)) : CM l yX1_nextWall cX1_nextWall 5 (some .int) rmX1_nextWall g M [.ref (ga g 0), .int s, .int r] (some (.int (cNx M (if r = 0 then -1 else 1) 34 (s + (if r = 0 then -1 else 1))))) (M) := by
  refine CM.of (by decide) (Nat.le_of_ble_eq_true rfl) (fun X C hq => ?_)
  have C : Cx X g l cX1_nextWall 5 RX1 (some .int) rmX1_nextWall := C
  show V X g 0 0 0 [(0, .ref (ga g 0)), (1, .int s), (2, .int r)] [] M
  refine x_iload_n C dX1_nextWall_0 rfl ?_
  refine x_callS0v C (q1_needStone l g _ s hc) cd_X1_needStone kl_X1_19 (as := [_]) rfl rfl ⟨⟨by decide, by decide⟩, by decide, by decide⟩ ⟨rfl, rfl⟩ (Nat.le_of_ble_eq_true rfl) dX1_nextWall_1 ?_
  refine x_iload_n C dX1_nextWall_4 rfl ?_
  refine x_if_eq C (tgt := 12) dX1_nextWall_5 (by decide) (fun c5 => ?_) (fun c5 => ?_)
  · refine x_iconst C (v := (-1)) dX1_nextWall_12 (by decide) ?_
    refine x_istore_n C (lo' := [(3, _), (0, _), (1, _), (2, _)]) dX1_nextWall_13 (by decide) rfl ?_
    refine x_iload_n C dX1_nextWall_14 rfl ?_
    refine x_iload_n C dX1_nextWall_15 rfl ?_
    refine x_iadd C dX1_nextWall_16 ?_
    refine x_istore C (lo' := [(4, _), (3, _), (0, _), (1, _), (2, _)]) dX1_nextWall_17 (by decide) rfl ?_
    first
      | (have e5 : (if r = 0 then (-1 : Int32) else 1) = -1 := if_pos c5
         have a1 := i_le.mp hc.1
         have a2 := i_le.mp hc.2
         rw [i_c0] at a1; rw [i_c31] at a2
         have q : (s + -1).toInt = s.toInt + -1 := by rw [i_add] <;> rw [i_cm] <;> omega
         exact x_lsub [0, 1, 2, 3, 4] rfl (q1_nextWall_lp (Or.inr rfl) C hq 34 (s + -1) (by rw [q]; omega) (by rw [q]; right; refine ⟨rfl, ?_⟩; omega) (by rw [e5])))
      | (have e5 : (if r = 0 then (-1 : Int32) else 1) = 1 := if_neg c5
         have a1 := i_le.mp hc.1
         have a2 := i_le.mp hc.2
         rw [i_c0] at a1; rw [i_c31] at a2
         have q : (s + 1).toInt = s.toInt + 1 := by rw [i_add] <;> rw [i_c1] <;> omega
         exact x_lsub [0, 1, 2, 3, 4] rfl (q1_nextWall_lp (Or.inl rfl) C hq 34 (s + 1) (by rw [q]; omega) (by rw [q]; left; refine ⟨rfl, ?_⟩; omega) (by rw [e5])))
  · refine x_iconst C (v := 1) dX1_nextWall_8 (by decide) ?_
    refine x_goto C (tgt := 13) dX1_nextWall_9 (by decide) ?_
    refine x_istore_n C (lo' := [(3, _), (0, _), (1, _), (2, _)]) dX1_nextWall_13 (by decide) rfl ?_
    refine x_iload_n C dX1_nextWall_14 rfl ?_
    refine x_iload_n C dX1_nextWall_15 rfl ?_
    refine x_iadd C dX1_nextWall_16 ?_
    refine x_istore C (lo' := [(4, _), (3, _), (0, _), (1, _), (2, _)]) dX1_nextWall_17 (by decide) rfl ?_
    first
      | (have e5 : (if r = 0 then (-1 : Int32) else 1) = -1 := if_pos c5
         have a1 := i_le.mp hc.1
         have a2 := i_le.mp hc.2
         rw [i_c0] at a1; rw [i_c31] at a2
         have q : (s + -1).toInt = s.toInt + -1 := by rw [i_add] <;> rw [i_cm] <;> omega
         exact x_lsub [0, 1, 2, 3, 4] rfl (q1_nextWall_lp (Or.inr rfl) C hq 34 (s + -1) (by rw [q]; omega) (by rw [q]; right; refine ⟨rfl, ?_⟩; omega) (by rw [e5])))
      | (have e5 : (if r = 0 then (-1 : Int32) else 1) = 1 := if_neg c5
         have a1 := i_le.mp hc.1
         have a2 := i_le.mp hc.2
         rw [i_c0] at a1; rw [i_c31] at a2
         have q : (s + 1).toInt = s.toInt + 1 := by rw [i_add] <;> rw [i_c1] <;> omega
         exact x_lsub [0, 1, 2, 3, 4] rfl (q1_nextWall_lp (Or.inl rfl) C hq 34 (s + 1) (by rw [q]; omega) (by rw [q]; left; refine ⟨rfl, ?_⟩; omega) (by rw [e5])))
def cSumL (M : Mem) : Nat → Int32
  | 0 => 0
  | k + 1 => cSumL M k + M 11 k
def cMean (M : Mem) : UInt64 := if M 1 3 = 0 then 0 else FP.ddiv (FP.i2d (cSumL M (cSh 1 M))) (FP.i2d (M 1 3))
abbrev rmX1_meanLoudness : Room := { frames := 0, cells := 0, slots := 0, locals := 0 }
set_option maxHeartbeats 1000000 in
set_option maxRecDepth 100000 in
theorem q1_mean_lp {X : XT} {l : Launch} {g : GT} {M : Mem} (h : cOK 1 M) (hn : M 1 3 ≠ 0 → vf_n64 (FP.ddiv (FP.i2d (cSumL M (cSh 1 M))) (FP.i2d (M 1 3)))) (C : Cx X g l cX1_meanLoudness 3 RX1 (some .double) rmX1_meanLoudness) (hq : Rt X g rmX1_meanLoudness (some (.double (cMean M))) M) : ∀ (n i : Nat), i ≤ cSh 1 M → cSh 1 M + 1 ≤ i + n → V X g 0 0 4 [(2, .int (nI i)), (1, .int (cSumL M i)), (0, .ref (ga g 0))] [] M := by
  intro n
  induction n with
  | zero =>
    intro i h1 h2; omega
  | succ n ih =>
    intro i h1 h2
    have hsh := h.sh
    refine x_iload_n C dX1_meanLoudness_4 rfl ?_
    refine x_aload_n C dX1_meanLoudness_5 rfl ?_
    refine x_getR C fl_X1_10 rfl (by decide) rfl dX1_meanLoudness_6 ?_
    refine x_getI C fl_X1_68 rfl (by decide) rfl dX1_meanLoudness_9 ?_
    refine x_icmp_ge C (tgt := 33) dX1_meanLoudness_12 (by decide) (fun c12 => ?_) (fun c12 => ?_)
    · have he : i = cSh 1 M := Nat.le_antisymm h1 ((ge_tn h.2.1.1 (by omega)).mp c12)
      subst he
      refine x_aload_n C dX1_meanLoudness_33 rfl ?_
      refine x_getR C fl_X1_10 rfl (by decide) rfl dX1_meanLoudness_34 ?_
      refine x_getI C fl_X1_71 rfl (by decide) rfl dX1_meanLoudness_37 ?_
      refine x_if_ne C (tgt := 47) dX1_meanLoudness_40 (by decide) (fun c40 => ?_) (fun c40 => ?_)
      · refine x_iload_n C dX1_meanLoudness_47 rfl ?_
        refine x_i2d C dX1_meanLoudness_48 ?_
        refine x_aload_n C dX1_meanLoudness_49 rfl ?_
        refine x_getR C fl_X1_10 rfl (by decide) rfl dX1_meanLoudness_50 ?_
        refine x_getI C fl_X1_71 rfl (by decide) rfl dX1_meanLoudness_53 ?_
        refine x_i2d C dX1_meanLoudness_56 ?_
        refine x_ddiv C dX1_meanLoudness_57 (hn c40) ?_
        exact x_dret C hq ⟨by decide, by decide⟩ dX1_meanLoudness_58 (by first | (rw [cMean, if_pos c40]; done) | (rw [cMean, if_neg c40]; done)) (rfl)
      · refine x_dconst0 C dX1_meanLoudness_43 ?_
        refine x_goto C (tgt := 58) dX1_meanLoudness_44 (by decide) ?_
        exact x_dret C hq ⟨by decide, by decide⟩ dX1_meanLoudness_58 (by first | (rw [cMean, if_pos c40]; done) | (rw [cMean, if_neg c40]; done)) (rfl)
    · have hlt : i < cSh 1 M := lt_of_nge h.2.1.1 (by omega) c12
      refine x_iload_n C dX1_meanLoudness_15 rfl ?_
      refine x_aload_n C dX1_meanLoudness_16 rfl ?_
      refine x_getR C fl_X1_10 rfl (by decide) rfl dX1_meanLoudness_17 ?_
      refine x_getR C fl_X1_118 rfl (by decide) rfl dX1_meanLoudness_20 ?_
      refine x_iload_n C dX1_meanLoudness_23 rfl ?_
      refine x_iald C (n := 40) rfl (by decide) rfl (rfl) ((by omega : i < 40)) dX1_meanLoudness_24 ?_
      refine x_iadd C dX1_meanLoudness_25 ?_
      refine x_istore_n C (lo' := [(1, _), (2, _), (0, _)]) dX1_meanLoudness_26 (by decide) rfl ?_
      refine x_iinc C (v := nI (i + 1)) (lo' := [(2, _), (1, _), (0, _)]) dX1_meanLoudness_27 rfl (nI_inc _) (by decide) rfl ?_
      refine x_goto C (tgt := 4) dX1_meanLoudness_30 (by decide) ?_
      exact ih (i + 1) hlt (by omega)
set_option maxHeartbeats 1000000 in
set_option maxRecDepth 100000 in
theorem q1_meanLoudness (l : Launch) (g : GT) (M : Mem) (h : cOK 1 M) (hn : M 1 3 ≠ 0 → vf_n64 (FP.ddiv (FP.i2d (cSumL M (cSh 1 M))) (FP.i2d (M 1 3)))) : CM l yX1_meanLoudness cX1_meanLoudness 3 (some .double) rmX1_meanLoudness g M [.ref (ga g 0)] (some (.double (cMean M))) (M) := by
  refine CM.of (by decide) (Nat.le_of_ble_eq_true rfl) (fun X C hq => ?_)
  have C : Cx X g l cX1_meanLoudness 3 RX1 (some .double) rmX1_meanLoudness := C
  show V X g 0 0 0 [(0, .ref (ga g 0))] [] M
  refine x_iconst C (v := 0) dX1_meanLoudness_0 (by decide) ?_
  refine x_istore_n C (lo' := [(1, _), (0, _)]) dX1_meanLoudness_1 (by decide) rfl ?_
  refine x_iconst C (v := 0) dX1_meanLoudness_2 (by decide) ?_
  refine x_istore_n C (lo' := [(2, _), (1, _), (0, _)]) dX1_meanLoudness_3 (by decide) rfl ?_
  exact q1_mean_lp h hn C hq (cSh 1 M + 1) 0 (Nat.zero_le _) (by omega)
