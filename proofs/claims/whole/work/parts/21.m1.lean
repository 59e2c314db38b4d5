/-! The model's private methods, walked. -/
abbrev rmX2_thrown : Room := { frames := 0, cells := 0, slots := 0, locals := 0 }
set_option maxHeartbeats 1000000 in
set_option maxRecDepth 100000 in
theorem q2_thrown (l : Launch) (g : GT) (M : Mem) : CM l yX2_thrown cX2_thrown 1 (some .int) rmX2_thrown g M [.ref (ga g 29)] (some (.int (M 29 0))) (M) := by
  refine CM.of (by decide) (Nat.le_of_ble_eq_true rfl) (fun X C hq => ?_)
  have C : Cx X g l cX2_thrown 1 RX2 (some .int) rmX2_thrown := C
  show V X g 0 0 0 [(0, .ref (ga g 29))] [] M
  refine x_aload_n C dX2_thrown_0 rfl ?_
  refine x_getI C fl_X2_32 rfl (by decide) rfl dX2_thrown_1 ?_
  exact x_iret C hq ⟨by decide, by decide⟩ dX2_thrown_4 (rfl) (rfl)
abbrev rmX2_no : Room := { frames := 0, cells := 0, slots := 0, locals := 0 }
set_option maxHeartbeats 1000000 in
set_option maxRecDepth 100000 in
theorem q2_no (l : Launch) (g : GT) (M : Mem) (v : Int32) : CM l yX2_no cX2_no 2 (some .int) rmX2_no g M [.ref (ga g 29), .int v] (some (.int 0)) (wr M 29 0 v) := by
  refine CM.of (by decide) (Nat.le_of_ble_eq_true rfl) (fun X C hq => ?_)
  have C : Cx X g l cX2_no 2 RX2 (some .int) rmX2_no := C
  show V X g 0 0 0 [(0, .ref (ga g 29)), (1, .int v)] [] M
  refine x_aload_n C dX2_no_0 rfl ?_
  refine x_iload_n C dX2_no_1 rfl ?_
  refine x_putI C fl_X2_32 rfl (by decide) rfl dX2_no_2 ?_
  refine x_iconst C (v := 0) dX2_no_5 (by decide) ?_
  exact x_iret C hq ⟨by decide, by decide⟩ dX2_no_6 (rfl) (rfl)
abbrev rmX2_ok : Room := { frames := 0, cells := 0, slots := 0, locals := 0 }
set_option maxHeartbeats 1000000 in
set_option maxRecDepth 100000 in
theorem q2_ok (l : Launch) (g : GT) (M : Mem) (v : Int32) : CM l yX2_ok cX2_ok 2 (some .int) rmX2_ok g M [.ref (ga g 29), .int v] (some (.int v)) (wr M 29 0 0) := by
  refine CM.of (by decide) (Nat.le_of_ble_eq_true rfl) (fun X C hq => ?_)
  have C : Cx X g l cX2_ok 2 RX2 (some .int) rmX2_ok := C
  show V X g 0 0 0 [(0, .ref (ga g 29)), (1, .int v)] [] M
  refine x_aload_n C dX2_ok_0 rfl ?_
  refine x_iconst C (v := 0) dX2_ok_1 (by decide) ?_
  refine x_putI C fl_X2_32 rfl (by decide) rfl dX2_ok_2 ?_
  refine x_iload_n C dX2_ok_5 rfl ?_
  exact x_iret C hq ⟨by decide, by decide⟩ dX2_ok_6 (rfl) (rfl)
abbrev rmX2_isIn : Room := { frames := 0, cells := 0, slots := 0, locals := 0 }
set_option maxHeartbeats 1000000 in
set_option maxRecDepth 100000 in
theorem q2_isIn (l : Launch) (g : GT) (M : Mem) (v lo hi : Int32) : CM l yX2_isIn cX2_isIn 3 (some .boolean) rmX2_isIn g M [.int v, .int lo, .int hi] (some (.int (b2i (lo ≤ v ∧ v ≤ hi)))) (M) := by
  refine CM.of (by decide) (Nat.le_of_ble_eq_true rfl) (fun X C hq => ?_)
  have C : Cx X g l cX2_isIn 3 RX2 (some .boolean) rmX2_isIn := C
  show V X g 0 0 0 [(0, .int v), (1, .int lo), (2, .int hi)] [] M
  refine x_iload_n C dX2_isIn_0 rfl ?_
  refine x_iload_n C dX2_isIn_1 rfl ?_
  refine x_icmp_lt C (tgt := 14) dX2_isIn_2 (by decide) (fun c2 => ?_) (fun c2 => ?_)
  · refine x_iconst C (v := 0) dX2_isIn_14 (by decide) ?_
    exact x_zret C hq (by decide) ⟨by decide, by decide⟩ dX2_isIn_15 (by first | exact rb_t ⟨Int32.not_lt.mp c2, Int32.not_lt.mp c7⟩ | exact rb_f (fun h => absurd c7 (Int32.not_lt.mpr h.2)) | exact rb_f (fun h => absurd c2 (Int32.not_lt.mpr h.1))) (rfl)
  · refine x_iload_n C dX2_isIn_5 rfl ?_
    refine x_iload_n C dX2_isIn_6 rfl ?_
    refine x_icmp_gt C (tgt := 14) dX2_isIn_7 (by decide) (fun c7 => ?_) (fun c7 => ?_)
    · refine x_iconst C (v := 0) dX2_isIn_14 (by decide) ?_
      exact x_zret C hq (by decide) ⟨by decide, by decide⟩ dX2_isIn_15 (by first | exact rb_t ⟨Int32.not_lt.mp c2, Int32.not_lt.mp c7⟩ | exact rb_f (fun h => absurd c7 (Int32.not_lt.mpr h.2)) | exact rb_f (fun h => absurd c2 (Int32.not_lt.mpr h.1))) (rfl)
    · refine x_iconst C (v := 1) dX2_isIn_10 (by decide) ?_
      refine x_goto C (tgt := 15) dX2_isIn_11 (by decide) ?_
      exact x_zret C hq (by decide) ⟨by decide, by decide⟩ dX2_isIn_15 (by first | exact rb_t ⟨Int32.not_lt.mp c2, Int32.not_lt.mp c7⟩ | exact rb_f (fun h => absurd c7 (Int32.not_lt.mpr h.2)) | exact rb_f (fun h => absurd c2 (Int32.not_lt.mpr h.1))) (rfl)
abbrev rmX2_isStone : Room := { frames := 1, cells := 0, slots := 0, locals := 22 }
set_option maxHeartbeats 1000000 in
set_option maxRecDepth 100000 in
theorem q2_isStone (l : Launch) (g : GT) (M : Mem) (s : Int32) : CM l yX2_isStone cX2_isStone 1 (some .boolean) rmX2_isStone g M [.int s] (some (.int (b2i (0 ≤ s ∧ s ≤ 31)))) (M) := by
  refine CM.of (by decide) (Nat.le_of_ble_eq_true rfl) (fun X C hq => ?_)
  have C : Cx X g l cX2_isStone 1 RX2 (some .boolean) rmX2_isStone := C
  show V X g 0 0 0 [(0, .int s)] [] M
  refine x_iload_n C dX2_isStone_0 rfl ?_
  refine x_iconst C (v := 0) dX2_isStone_1 (by decide) ?_
  refine x_bipush C (v := 31) dX2_isStone_2 (by decide) ?_
  refine x_callS0r C (q2_isIn l g M s 0 31) cd_X2_isIn kl_X2_36 (as := [_, _, _]) rfl rfl ⟨⟨by decide, by decide⟩, by decide, by decide⟩ ⟨rfl, rfl⟩ (Nat.le_of_ble_eq_true rfl) dX2_isStone_4 ?_
  exact x_zret C hq (b2i_nar _) ⟨by decide, by decide⟩ dX2_isStone_7 (rfl) (rfl)
abbrev rmX2_isEcho : Room := { frames := 1, cells := 0, slots := 0, locals := 22 }
set_option maxHeartbeats 1000000 in
set_option maxRecDepth 100000 in
theorem q2_isEcho (l : Launch) (g : GT) (M : Mem) (s : Int32) : CM l yX2_isEcho cX2_isEcho 1 (some .boolean) rmX2_isEcho g M [.int s] (some (.int (b2i (0 ≤ s ∧ s ≤ 1)))) (M) := by
  refine CM.of (by decide) (Nat.le_of_ble_eq_true rfl) (fun X C hq => ?_)
  have C : Cx X g l cX2_isEcho 1 RX2 (some .boolean) rmX2_isEcho := C
  show V X g 0 0 0 [(0, .int s)] [] M
  refine x_iload_n C dX2_isEcho_0 rfl ?_
  refine x_iconst C (v := 0) dX2_isEcho_1 (by decide) ?_
  refine x_iconst C (v := 1) dX2_isEcho_2 (by decide) ?_
  refine x_callS0r C (q2_isIn l g M s 0 1) cd_X2_isIn kl_X2_36 (as := [_, _, _]) rfl rfl ⟨⟨by decide, by decide⟩, by decide, by decide⟩ ⟨rfl, rfl⟩ (Nat.le_of_ble_eq_true rfl) dX2_isEcho_3 ?_
  exact x_zret C hq (b2i_nar _) ⟨by decide, by decide⟩ dX2_isEcho_6 (rfl) (rfl)
abbrev rmX2_isWall : Room := { frames := 1, cells := 0, slots := 0, locals := 22 }
set_option maxHeartbeats 1000000 in
set_option maxRecDepth 100000 in
theorem q2_isWall (l : Launch) (g : GT) (M : Mem) (s : Int32) : CM l yX2_isWall cX2_isWall 2 (some .boolean) rmX2_isWall g M [.ref (ga g 29), .int s] (some (.int (b2i (0 ≤ s ∧ s ≤ M 29 1 - 1)))) (M) := by
  refine CM.of (by decide) (Nat.le_of_ble_eq_true rfl) (fun X C hq => ?_)
  have C : Cx X g l cX2_isWall 2 RX2 (some .boolean) rmX2_isWall := C
  show V X g 0 0 0 [(0, .ref (ga g 29)), (1, .int s)] [] M
  refine x_iload_n C dX2_isWall_0 rfl ?_
  refine x_iconst C (v := 0) dX2_isWall_1 (by decide) ?_
  refine x_aload_n C dX2_isWall_2 rfl ?_
  refine x_getI C fl_X2_40 rfl (by decide) rfl dX2_isWall_3 ?_
  refine x_iconst C (v := 1) dX2_isWall_6 (by decide) ?_
  refine x_isub C dX2_isWall_7 ?_
  refine x_callS0r C (q2_isIn l g M s 0 _) cd_X2_isIn kl_X2_36 (as := [_, _, _]) rfl rfl ⟨⟨by decide, by decide⟩, by decide, by decide⟩ ⟨rfl, rfl⟩ (Nat.le_of_ble_eq_true rfl) dX2_isWall_8 ?_
  exact x_zret C hq (b2i_nar _) ⟨by decide, by decide⟩ dX2_isWall_11 (rfl) (rfl)
abbrev rmX2_isShout : Room := { frames := 1, cells := 0, slots := 0, locals := 22 }
set_option maxHeartbeats 1000000 in
set_option maxRecDepth 100000 in
theorem q2_isShout (l : Launch) (g : GT) (M : Mem) (s : Int32) : CM l yX2_isShout cX2_isShout 2 (some .boolean) rmX2_isShout g M [.ref (ga g 29), .int s] (some (.int (b2i (0 ≤ s ∧ s ≤ M 29 2 - 1)))) (M) := by
  refine CM.of (by decide) (Nat.le_of_ble_eq_true rfl) (fun X C hq => ?_)
  have C : Cx X g l cX2_isShout 2 RX2 (some .boolean) rmX2_isShout := C
  show V X g 0 0 0 [(0, .ref (ga g 29)), (1, .int s)] [] M
  refine x_iload_n C dX2_isShout_0 rfl ?_
  refine x_iconst C (v := 0) dX2_isShout_1 (by decide) ?_
  refine x_aload_n C dX2_isShout_2 rfl ?_
  refine x_getI C fl_X2_43 rfl (by decide) rfl dX2_isShout_3 ?_
  refine x_iconst C (v := 1) dX2_isShout_6 (by decide) ?_
  refine x_isub C dX2_isShout_7 ?_
  refine x_callS0r C (q2_isIn l g M s 0 _) cd_X2_isIn kl_X2_36 (as := [_, _, _]) rfl rfl ⟨⟨by decide, by decide⟩, by decide, by decide⟩ ⟨rfl, rfl⟩ (Nat.le_of_ble_eq_true rfl) dX2_isShout_8 ?_
  exact x_zret C hq (b2i_nar _) ⟨by decide, by decide⟩ dX2_isShout_11 (rfl) (rfl)
abbrev rmX2_keep : Room := { frames := 1, cells := 0, slots := 0, locals := 60 }
set_option maxHeartbeats 1000000 in
set_option maxRecDepth 100000 in
theorem q2_keep (l : Launch) (g : GT) (M : Mem) : CM l yX2_keep cX2_keep 1 none rmX2_keep g M [.ref (ga g 29)] (none) (wrc M 35 (cpn (M 34) (M 35) 187)) := by
  refine CM.of (by decide) (Nat.le_of_ble_eq_true rfl) (fun X C hq => ?_)
  have C : Cx X g l cX2_keep 1 RX2 none rmX2_keep := C
  show V X g 0 0 0 [(0, .ref (ga g 29))] [] M
  refine x_aload_n C dX2_keep_0 rfl ?_
  refine x_getR C fl_X2_22 rfl (by decide) rfl dX2_keep_1 ?_
  refine x_iconst C (v := 0) dX2_keep_4 (by decide) ?_
  refine x_aload_n C dX2_keep_5 rfl ?_
  refine x_getR C fl_X2_25 rfl (by decide) rfl dX2_keep_6 ?_
  refine x_iconst C (v := 0) dX2_keep_9 (by decide) ?_
  refine x_sipush C (v := 187) dX2_keep_10 (by decide) ?_
  refine x_acopy C (i := 867) (by decide +kernel) rfl rfl (by decide) (by decide) (N := 187) rfl rfl rfl ⟨by decide, Nat.le_of_ble_eq_true rfl⟩ dX2_keep_13 ?_
  exact x_vret C hq ⟨by decide, by decide⟩ dX2_keep_16 (rfl) (rfl)
abbrev rmX2_bringBack : Room := { frames := 1, cells := 0, slots := 0, locals := 60 }
set_option maxHeartbeats 1000000 in
set_option maxRecDepth 100000 in
theorem q2_bringBack (l : Launch) (g : GT) (M : Mem) : CM l yX2_bringBack cX2_bringBack 1 none rmX2_bringBack g M [.ref (ga g 29)] (none) (wrc M 34 (cpn (M 35) (M 34) 187)) := by
  refine CM.of (by decide) (Nat.le_of_ble_eq_true rfl) (fun X C hq => ?_)
  have C : Cx X g l cX2_bringBack 1 RX2 none rmX2_bringBack := C
  show V X g 0 0 0 [(0, .ref (ga g 29))] [] M
  refine x_aload_n C dX2_bringBack_0 rfl ?_
  refine x_getR C fl_X2_25 rfl (by decide) rfl dX2_bringBack_1 ?_
  refine x_iconst C (v := 0) dX2_bringBack_4 (by decide) ?_
  refine x_aload_n C dX2_bringBack_5 rfl ?_
  refine x_getR C fl_X2_22 rfl (by decide) rfl dX2_bringBack_6 ?_
  refine x_iconst C (v := 0) dX2_bringBack_9 (by decide) ?_
  refine x_sipush C (v := 187) dX2_bringBack_10 (by decide) ?_
  refine x_acopy C (i := 867) (by decide +kernel) rfl rfl (by decide) (by decide) (N := 187) rfl rfl rfl ⟨by decide, Nat.le_of_ble_eq_true rfl⟩ dX2_bringBack_13 ?_
  exact x_vret C hq ⟨by decide, by decide⟩ dX2_bringBack_16 (rfl) (rfl)
abbrev rmX2_goes : Room := { frames := 0, cells := 0, slots := 0, locals := 0 }
set_option maxHeartbeats 1000000 in
set_option maxRecDepth 100000 in
theorem q2_goes (l : Launch) (g : GT) (M : Mem) (k : Nat) (hk : k < 40) : CM l yX2_goes cX2_goes 2 (some .boolean) rmX2_goes g M [.ref (ga g 29), .int (nI k)] (some (.int (b2i (0 < M 34 (27 + k))))) (M) := by
  refine CM.of (by decide) (Nat.le_of_ble_eq_true rfl) (fun X C hq => ?_)
  have C : Cx X g l cX2_goes 2 RX2 (some .boolean) rmX2_goes := C
  show V X g 0 0 0 [(0, .ref (ga g 29)), (1, .int (nI k))] [] M
  refine x_aload_n C dX2_goes_0 rfl ?_
  refine x_getR C fl_X2_22 rfl (by decide) rfl dX2_goes_1 ?_
  refine x_bipush C (v := 27) dX2_goes_4 (by decide) ?_
  refine x_iload_n C dX2_goes_6 rfl ?_
  refine x_iadd C dX2_goes_7 ?_
  refine x_iald C (n := 187) rfl (by decide) rfl (nI_add 27 k) ((by omega : 27 + k < 187)) dX2_goes_8 ?_
  refine x_if_le C (tgt := 16) dX2_goes_9 (by decide) (fun c9 => ?_) (fun c9 => ?_)
  · refine x_iconst C (v := 0) dX2_goes_16 (by decide) ?_
    exact x_zret C hq (by decide) ⟨by decide, by decide⟩ dX2_goes_17 (by first | exact rb_t (Int32.not_le.mp c9) | exact rb_f (Int32.not_lt.mpr c9)) (rfl)
  · refine x_iconst C (v := 1) dX2_goes_12 (by decide) ?_
    refine x_goto C (tgt := 17) dX2_goes_13 (by decide) ?_
    exact x_zret C hq (by decide) ⟨by decide, by decide⟩ dX2_goes_17 (by first | exact rb_t (Int32.not_le.mp c9) | exact rb_f (Int32.not_lt.mpr c9)) (rfl)
abbrev rmX2_let : Room := { frames := 1, cells := 0, slots := 0, locals := 30 }
set_option maxHeartbeats 1000000 in
set_option maxRecDepth 100000 in
theorem q2_let (l : Launch) (g : GT) (M : Mem) (k : Nat) (hk : k < 40) (v : Int32) : CM l yX2_let cX2_let 3 none rmX2_let g M [.ref (ga g 29), .int (nI k), .int v] (none) (mLet M k v) := by
  refine CM.of (by decide) (Nat.le_of_ble_eq_true rfl) (fun X C hq => ?_)
  have C : Cx X g l cX2_let 3 RX2 none rmX2_let := C
  show V X g 0 0 0 [(0, .ref (ga g 29)), (1, .int (nI k)), (2, .int v)] [] M
  refine x_aload_n C dX2_let_0 rfl ?_
  refine x_getR C fl_X2_22 rfl (by decide) rfl dX2_let_1 ?_
  refine x_bipush C (v := 27) dX2_let_4 (by decide) ?_
  refine x_iload_n C dX2_let_6 rfl ?_
  refine x_iadd C dX2_let_7 ?_
  refine x_iconst C (v := 0) dX2_let_8 (by decide) ?_
  refine x_iload_n C dX2_let_9 rfl ?_
  refine x_max C (i := 730) (by decide +kernel) ⟨by decide, Nat.le_of_ble_eq_true rfl, Nat.le_of_ble_eq_true rfl, Nat.le_of_ble_eq_true rfl⟩ dX2_let_10 ?_
  refine x_iast C (n := 187) rfl (by decide) rfl (nI_add 27 k) ((by omega : 27 + k < 187)) dX2_let_13 ?_
  exact x_vret C hq ⟨by decide, by decide⟩ dX2_let_14 (rfl) (rfl)
abbrev rmX2_step : Room := { frames := 2, cells := 0, slots := 0, locals := 52 }
set_option maxHeartbeats 1000000 in
set_option maxRecDepth 100000 in
theorem q2_step (l : Launch) (g : GT) (M : Mem) (h : mOK M) (k : Nat) (hk : k < 40) : CM l yX2_step cX2_step 5 none rmX2_step g M [.ref (ga g 29), .int (nI k)] (none) (mStep M k) := by
  refine CM.of (by decide) (Nat.le_of_ble_eq_true rfl) (fun X C hq => ?_)
  have C : Cx X g l cX2_step 5 RX2 none rmX2_step := C
  show V X g 0 0 0 [(0, .ref (ga g 29)), (1, .int (nI k))] [] M
  refine x_aload_n C dX2_step_0 rfl ?_
  refine x_getR C fl_X2_22 rfl (by decide) rfl dX2_step_1 ?_
  refine x_bipush C (v := 67) dX2_step_4 (by decide) ?_
  refine x_iload_n C dX2_step_6 rfl ?_
  refine x_iadd C dX2_step_7 ?_
  refine x_iald C (n := 187) rfl (by decide) rfl (nI_add 67 k) ((by omega : 67 + k < 187)) dX2_step_8 ?_
  refine x_aload_n C dX2_step_9 rfl ?_
  refine x_getR C fl_X2_22 rfl (by decide) rfl dX2_step_10 ?_
  refine x_bipush C (v := 107) dX2_step_13 (by decide) ?_
  refine x_iload_n C dX2_step_15 rfl ?_
  refine x_iadd C dX2_step_16 ?_
  refine x_iald C (n := 187) rfl (by decide) rfl (nI_add 107 k) ((by omega : 107 + k < 187)) dX2_step_17 ?_
  refine x_iadd C dX2_step_18 ?_
  change V X g 0 0 _ _ (.int (mS1 M k) :: _) M
  refine x_istore_n C (lo' := [(2, _), (0, _), (1, _)]) dX2_step_19 (by decide) rfl ?_
  refine x_iload_n C dX2_step_20 rfl ?_
  refine x_callS0r C (q2_isStone l g _ _) cd_X2_isStone kl_X2_58 (as := [_]) rfl rfl ⟨⟨by decide, by decide⟩, by decide, by decide⟩ ⟨rfl, rfl⟩ (Nat.le_of_ble_eq_true rfl) dX2_step_21 ?_
  refine x_bif_ne C (tgt := 34) dX2_step_24 (by decide) (fun c24 => ?_) (fun c24 => ?_)
  · have hs := tn31 c24
    refine x_aload_n C dX2_step_34 rfl ?_
    refine x_getR C fl_X2_22 rfl (by decide) rfl dX2_step_35 ?_
    refine x_bipush C (v := 67) dX2_step_38 (by decide) ?_
    refine x_iload_n C dX2_step_40 rfl ?_
    refine x_iadd C dX2_step_41 ?_
    refine x_iload_n C dX2_step_42 rfl ?_
    refine x_iast C (n := 187) rfl (by decide) rfl (nI_add 67 k) ((by omega : 67 + k < 187)) dX2_step_43 ?_
    refine x_aload_n C dX2_step_44 rfl ?_
    refine x_iload_n C dX2_step_45 rfl ?_
    refine x_aload_n C dX2_step_46 rfl ?_
    refine x_getR C fl_X2_22 rfl (by decide) rfl dX2_step_47 ?_
    refine x_bipush C (v := 27) dX2_step_50 (by decide) ?_
    refine x_iload_n C dX2_step_52 rfl ?_
    refine x_iadd C dX2_step_53 ?_
    refine x_iald C (n := 187) rfl (by decide) rfl (nI_add 27 k) ((by omega : 27 + k < 187)) dX2_step_54 ?_
    refine x_iconst C (v := 1) dX2_step_55 (by decide) ?_
    refine x_isub C dX2_step_56 ?_
    refine x_aload_n C dX2_step_57 rfl ?_
    refine x_getR C fl_X2_9 rfl (by decide) rfl dX2_step_58 ?_
    refine x_iload_n C dX2_step_61 rfl ?_
    refine x_iald C (n := 32) rfl (by decide) rfl (nI_tn c24.1) (hs) dX2_step_62 ?_
    refine x_isub C dX2_step_63 ?_
    refine x_callV0v C (q2_let l g _ k hk _) cd_X2_let kl_X2_62 ci2 rfl (by decide) (as := [_, _]) rfl rfl ⟨⟨by decide, by decide⟩, by decide, by decide⟩ ⟨rfl, rfl⟩ (Nat.le_of_ble_eq_true rfl) dX2_step_64 ?_
    refine x_mem (M' := mGo M k (mS1 M k)) rfl ?_
    refine x_aload_n C dX2_step_67 rfl ?_
    refine x_getR C fl_X2_13 rfl (by decide) rfl dX2_step_68 ?_
    refine x_iload_n C dX2_step_71 rfl ?_
    refine x_iald C (n := 32) rfl (by decide) rfl (nI_tn c24.1) (hs) dX2_step_72 ?_
    refine x_istore_n C (lo' := [(3, _), (2, _), (0, _), (1, _)]) dX2_step_73 (by decide) rfl ?_
    refine x_aload_n C dX2_step_74 rfl ?_
    refine x_iload_n C dX2_step_75 rfl ?_
    refine x_callV0r C (q2_goes l g _ k hk) cd_X2_goes kl_X2_66 ci2 rfl (by decide) (as := [_]) rfl rfl ⟨⟨by decide, by decide⟩, by decide, by decide⟩ ⟨rfl, rfl⟩ (Nat.le_of_ble_eq_true rfl) dX2_step_76 ?_
    refine x_bif_eq C (tgt := 87) dX2_step_79 (by decide) (fun c79 => ?_) (fun c79 => ?_)
    · exact x_vret C hq ⟨by decide, by decide⟩ dX2_step_87 (rfl) ((if_pos c24).trans (if_neg (by first | exact fun q => c79 q.1 | exact fun q => q.2 c84)))
    · refine x_iload_n C dX2_step_82 rfl ?_
      refine x_iconst C (v := (-1)) dX2_step_83 (by decide) ?_
      refine x_icmp_ne C (tgt := 88) dX2_step_84 (by decide) (fun c84 => ?_) (fun c84 => ?_)
      · have hok := (h.same (mGo_same M k (mS1 M k)))
        have hw : 0 ≤ mGo M k (mS1 M k) 31 (tn (mS1 M k)) ∧ mGo M k (mS1 M k) 31 (tn (mS1 M k)) ≤ 9 := (hok.2.2.1 _ hs).resolve_left c84
        have hw9 := tn9 hw
        have he := hok.2.2.2 _ hw9
        have he1 := tn1 he
        refine x_aload_n C dX2_step_88 rfl ?_
        refine x_getR C fl_X2_22 rfl (by decide) rfl dX2_step_89 ?_
        refine x_bipush C (v := 7) dX2_step_92 (by decide) ?_
        refine x_iload_n C dX2_step_94 rfl ?_
        refine x_iadd C dX2_step_95 ?_
        refine x_iald C (n := 187) rfl (by decide) rfl (ix_t 7 hw.1) (by omega) dX2_step_96 ?_
        refine x_istore C (lo' := [(4, _), (3, _), (2, _), (0, _), (1, _)]) dX2_step_97 (by decide) rfl ?_
        refine x_aload_n C dX2_step_99 rfl ?_
        refine x_getR C fl_X2_22 rfl (by decide) rfl dX2_step_100 ?_
        refine x_iconst C (v := 3) dX2_step_103 (by decide) ?_
        refine x_iload C dX2_step_104 rfl ?_
        refine x_iadd C dX2_step_106 ?_
        refine x_dup2 C dX2_step_107 rfl rfl ?_
        refine x_iald C (n := 187) rfl (by decide) rfl (ix_t 3 he.1) (by omega) dX2_step_108 ?_
        refine x_iconst C (v := 1) dX2_step_109 (by decide) ?_
        refine x_iadd C dX2_step_110 ?_
        refine x_iast C (n := 187) rfl (by decide) rfl (ix_t 3 he.1) (by omega) dX2_step_111 ?_
        refine x_aload_n C dX2_step_112 rfl ?_
        refine x_getR C fl_X2_28 rfl (by decide) rfl dX2_step_113 ?_
        refine x_iload C dX2_step_116 rfl ?_
        refine x_iconst C (v := 1) dX2_step_118 (by decide) ?_
        refine x_bast C (n := 2) rfl (by decide) rfl (nI_tn he.1) (he1) (v' := 1) (by decide) dX2_step_119 ?_
        refine x_aload_n C dX2_step_120 rfl ?_
        refine x_getR C fl_X2_22 rfl (by decide) rfl dX2_step_121 ?_
        refine x_bipush C (v := 17) dX2_step_124 (by decide) ?_
        refine x_iload_n C dX2_step_126 rfl ?_
        refine x_iadd C dX2_step_127 ?_
        refine x_dup2 C dX2_step_128 rfl rfl ?_
        refine x_iald C (n := 187) rfl (by decide) rfl (ix_t 17 hw.1) (by omega) dX2_step_129 ?_
        refine x_iconst C (v := 1) dX2_step_130 (by decide) ?_
        refine x_iadd C dX2_step_131 ?_
        refine x_iast C (n := 187) rfl (by decide) rfl (ix_t 17 hw.1) (by omega) dX2_step_132 ?_
        refine x_aload_n C dX2_step_133 rfl ?_
        refine x_getR C fl_X2_22 rfl (by decide) rfl dX2_step_134 ?_
        refine x_sipush C (v := 147) dX2_step_137 (by decide) ?_
        refine x_iload_n C dX2_step_140 rfl ?_
        refine x_iadd C dX2_step_141 ?_
        refine x_dup2 C dX2_step_142 rfl rfl ?_
        refine x_iald C (n := 187) rfl (by decide) rfl (nI_add 147 k) ((by omega : 147 + k < 187)) dX2_step_143 ?_
        refine x_iconst C (v := 1) dX2_step_144 (by decide) ?_
        refine x_iadd C dX2_step_145 ?_
        refine x_iast C (n := 187) rfl (by decide) rfl (nI_add 147 k) ((by omega : 147 + k < 187)) dX2_step_146 ?_
        refine x_aload_n C dX2_step_147 rfl ?_
        refine x_getR C fl_X2_22 rfl (by decide) rfl dX2_step_148 ?_
        refine x_bipush C (v := 107) dX2_step_151 (by decide) ?_
        refine x_iload_n C dX2_step_153 rfl ?_
        refine x_iadd C dX2_step_154 ?_
        refine x_aload_n C dX2_step_155 rfl ?_
        refine x_getR C fl_X2_22 rfl (by decide) rfl dX2_step_156 ?_
        refine x_bipush C (v := 107) dX2_step_159 (by decide) ?_
        refine x_iload_n C dX2_step_161 rfl ?_
        refine x_iadd C dX2_step_162 ?_
        refine x_iald C (n := 187) rfl (by decide) rfl (nI_add 107 k) ((by omega : 107 + k < 187)) dX2_step_163 ?_
        refine x_ineg C dX2_step_164 ?_
        refine x_iast C (n := 187) rfl (by decide) rfl (nI_add 107 k) ((by omega : 107 + k < 187)) dX2_step_165 ?_
        refine x_aload_n C dX2_step_166 rfl ?_
        refine x_iload_n C dX2_step_167 rfl ?_
        refine x_aload_n C dX2_step_168 rfl ?_
        refine x_getR C fl_X2_22 rfl (by decide) rfl dX2_step_169 ?_
        refine x_bipush C (v := 27) dX2_step_172 (by decide) ?_
        refine x_iload_n C dX2_step_174 rfl ?_
        refine x_iadd C dX2_step_175 ?_
        refine x_iald C (n := 187) rfl (by decide) rfl (nI_add 27 k) ((by omega : 27 + k < 187)) dX2_step_176 ?_
        refine x_aload_n C dX2_step_177 rfl ?_
        refine x_getR C fl_X2_19 rfl (by decide) rfl dX2_step_178 ?_
        refine x_iload_n C dX2_step_181 rfl ?_
        refine x_iald C (n := 10) rfl (by decide) rfl (nI_tn hw.1) (hw9) dX2_step_182 ?_
        refine x_isub C dX2_step_183 ?_
        refine x_callV0v C (q2_let l g _ k hk _) cd_X2_let kl_X2_62 ci2 rfl (by decide) (as := [_, _]) rfl rfl ⟨⟨by decide, by decide⟩, by decide, by decide⟩ ⟨rfl, rfl⟩ (Nat.le_of_ble_eq_true rfl) dX2_step_184 ?_
        exact x_vret C hq ⟨by decide, by decide⟩ dX2_step_187 (rfl) ((if_pos c24).trans (if_pos ⟨c79, c84⟩))
      · exact x_vret C hq ⟨by decide, by decide⟩ dX2_step_87 (rfl) ((if_pos c24).trans (if_neg (by first | exact fun q => c79 q.1 | exact fun q => q.2 c84)))
  · refine x_aload_n C dX2_step_27 rfl ?_
    refine x_iload_n C dX2_step_28 rfl ?_
    refine x_iconst C (v := 0) dX2_step_29 (by decide) ?_
    refine x_callV0v C (q2_let l g _ k hk _) cd_X2_let kl_X2_62 ci2 rfl (by decide) (as := [_, _]) rfl rfl ⟨⟨by decide, by decide⟩, by decide, by decide⟩ ⟨rfl, rfl⟩ (Nat.le_of_ble_eq_true rfl) dX2_step_30 ?_
    exact x_vret C hq ⟨by decide, by decide⟩ dX2_step_33 (rfl) (if_neg c24)
abbrev rmX2_loudest : Room := { frames := 1, cells := 0, slots := 0, locals := 21 }
set_option maxHeartbeats 1000000 in
set_option maxRecDepth 100000 in
theorem q2_loudest_lp {X : XT} {l : Launch} {g : GT} {M : Mem} {s : Int32} (hok : mOK M) (C : Cx X g l cX2_loudest 4 RX2 (some .int) rmX2_loudest) (hq : Rt X g rmX2_loudest (some (.int (mLoudest M s))) M) : ∀ (n i : Nat), i ≤ mSh M → mSh M + 1 ≤ i + n → V X g 0 0 4 [(3, .int (nI i)), (2, .int (mLdL M s i)), (0, .ref (ga g 29)), (1, .int s)] [] M := by
  intro n
  induction n with
  | zero =>
    intro i h1 h2; omega
  | succ n ih =>
    intro i h1 h2
    have hsh := hok.sh
    have fin : ∀ b : Int32, mLdL M s (i + 1) = b → i < mSh M → V X g 0 0 4 [(3, .int (nI (i + 1))), (2, .int b), (0, .ref (ga g 29)), (1, .int s)] [] M := fun b hb hlt => by
      have := ih (i + 1) hlt (by omega)
      rw [hb] at this
      exact this
    refine x_iload_n C dX2_loudest_4 rfl ?_
    refine x_aload_n C dX2_loudest_5 rfl ?_
    refine x_getI C fl_X2_43 rfl (by decide) rfl dX2_loudest_6 ?_
    refine x_icmp_ge C (tgt := 67) dX2_loudest_9 (by decide) (fun c9 => ?_) (fun c9 => ?_)
    · have he : i = mSh M := Nat.le_antisymm h1 ((ge_tn hok.2.1.1 (by omega)).mp c9)
      refine x_iload_n C dX2_loudest_67 rfl ?_
      exact x_iret C hq ⟨by decide, by decide⟩ dX2_loudest_68 (by rw [mLoudest, ← he]) (rfl)
    · have hlt : i < mSh M := Nat.lt_of_not_le (fun z => c9 ((ge_tn hok.2.1.1 (by omega)).mpr z))
      have hi : i < 40 := by omega
      refine x_aload_n C dX2_loudest_12 rfl ?_
      refine x_iload_n C dX2_loudest_13 rfl ?_
      refine x_callV0r C (q2_goes l g _ i hi) cd_X2_goes kl_X2_66 ci2 rfl (by decide) (as := [_]) rfl rfl ⟨⟨by decide, by decide⟩, by decide, by decide⟩ ⟨rfl, rfl⟩ (Nat.le_of_ble_eq_true rfl) dX2_loudest_14 ?_
      refine x_bif_eq C (tgt := 61) dX2_loudest_17 (by decide) (fun c17 => ?_) (fun c17 => ?_)
      · refine x_iinc C (v := nI (i + 1)) (lo' := [(3, _), (2, _), (0, _), (1, _)]) dX2_loudest_61 rfl (nI_inc _) (by decide) rfl ?_
        refine x_goto C (tgt := 4) dX2_loudest_64 (by decide) ?_
        first
          | exact fin _ (if_neg (fun z => c17 z.1)) hlt
          | exact fin _ (if_neg (fun z => c30 z.2.1)) hlt
          | (have z56 := Int32.not_le.mp c56; exact fin _ (if_pos ⟨c17, c30, Or.inr z56⟩) hlt)
          | exact fin _ (if_pos ⟨c17, c30, Or.inl c35⟩) hlt
          | exact fin _ (if_neg (fun z => z.2.2.elim c35 (fun q => absurd c56 (Int32.not_le.mpr q)))) hlt
      · refine x_aload_n C dX2_loudest_20 rfl ?_
        refine x_getR C fl_X2_22 rfl (by decide) rfl dX2_loudest_21 ?_
        refine x_bipush C (v := 67) dX2_loudest_24 (by decide) ?_
        refine x_iload_n C dX2_loudest_26 rfl ?_
        refine x_iadd C dX2_loudest_27 ?_
        refine x_iald C (n := 187) rfl (by decide) rfl (nI_add 67 i) ((by omega : 67 + i < 187)) dX2_loudest_28 ?_
        refine x_iload_n C dX2_loudest_29 rfl ?_
        refine x_icmp_ne C (tgt := 61) dX2_loudest_30 (by decide) (fun c30 => ?_) (fun c30 => ?_)
        · refine x_iinc C (v := nI (i + 1)) (lo' := [(3, _), (2, _), (0, _), (1, _)]) dX2_loudest_61 rfl (nI_inc _) (by decide) rfl ?_
          refine x_goto C (tgt := 4) dX2_loudest_64 (by decide) ?_
          first
            | exact fin _ (if_neg (fun z => c17 z.1)) hlt
            | exact fin _ (if_neg (fun z => c30 z.2.1)) hlt
            | (have z56 := Int32.not_le.mp c56; exact fin _ (if_pos ⟨c17, c30, Or.inr z56⟩) hlt)
            | exact fin _ (if_pos ⟨c17, c30, Or.inl c35⟩) hlt
            | exact fin _ (if_neg (fun z => z.2.2.elim c35 (fun q => absurd c56 (Int32.not_le.mpr q)))) hlt
        · refine x_iload_n C dX2_loudest_33 rfl ?_
          refine x_iconst C (v := (-1)) dX2_loudest_34 (by decide) ?_
          refine x_icmp_eq C (tgt := 59) dX2_loudest_35 (by decide) (fun c35 => ?_) (fun c35 => ?_)
          · refine x_iload_n C dX2_loudest_59 rfl ?_
            refine x_istore_n C (lo' := [(2, _), (3, _), (0, _), (1, _)]) dX2_loudest_60 (by decide) rfl ?_
            refine x_iinc C (v := nI (i + 1)) (lo' := [(3, _), (2, _), (0, _), (1, _)]) dX2_loudest_61 rfl (nI_inc _) (by decide) rfl ?_
            refine x_goto C (tgt := 4) dX2_loudest_64 (by decide) ?_
            first
              | exact fin _ (if_neg (fun z => c17 z.1)) hlt
              | exact fin _ (if_neg (fun z => c30 z.2.1)) hlt
              | (have z56 := Int32.not_le.mp c56; exact fin _ (if_pos ⟨c17, c30, Or.inr z56⟩) hlt)
              | exact fin _ (if_pos ⟨c17, c30, Or.inl c35⟩) hlt
              | exact fin _ (if_neg (fun z => z.2.2.elim c35 (fun q => absurd c56 (Int32.not_le.mpr q)))) hlt
          · have hb := (mLdL_or M s i (by omega)).resolve_left c35
            refine x_aload_n C dX2_loudest_38 rfl ?_
            refine x_getR C fl_X2_22 rfl (by decide) rfl dX2_loudest_39 ?_
            refine x_bipush C (v := 27) dX2_loudest_42 (by decide) ?_
            refine x_iload_n C dX2_loudest_44 rfl ?_
            refine x_iadd C dX2_loudest_45 ?_
            refine x_iald C (n := 187) rfl (by decide) rfl (nI_add 27 i) ((by omega : 27 + i < 187)) dX2_loudest_46 ?_
            refine x_aload_n C dX2_loudest_47 rfl ?_
            refine x_getR C fl_X2_22 rfl (by decide) rfl dX2_loudest_48 ?_
            refine x_bipush C (v := 27) dX2_loudest_51 (by decide) ?_
            refine x_iload_n C dX2_loudest_53 rfl ?_
            refine x_iadd C dX2_loudest_54 ?_
            refine x_iald C (n := 187) rfl (by decide) rfl (ix_t 27 hb.1) (by omega) dX2_loudest_55 ?_
            refine x_icmp_le C (tgt := 61) dX2_loudest_56 (by decide) (fun c56 => ?_) (fun c56 => ?_)
            · refine x_iinc C (v := nI (i + 1)) (lo' := [(3, _), (2, _), (0, _), (1, _)]) dX2_loudest_61 rfl (nI_inc _) (by decide) rfl ?_
              refine x_goto C (tgt := 4) dX2_loudest_64 (by decide) ?_
              first
                | exact fin _ (if_neg (fun z => c17 z.1)) hlt
                | exact fin _ (if_neg (fun z => c30 z.2.1)) hlt
                | (have z56 := Int32.not_le.mp c56; exact fin _ (if_pos ⟨c17, c30, Or.inr z56⟩) hlt)
                | exact fin _ (if_pos ⟨c17, c30, Or.inl c35⟩) hlt
                | exact fin _ (if_neg (fun z => z.2.2.elim c35 (fun q => absurd c56 (Int32.not_le.mpr q)))) hlt
            · refine x_iload_n C dX2_loudest_59 rfl ?_
              refine x_istore_n C (lo' := [(2, _), (3, _), (0, _), (1, _)]) dX2_loudest_60 (by decide) rfl ?_
              refine x_iinc C (v := nI (i + 1)) (lo' := [(3, _), (2, _), (0, _), (1, _)]) dX2_loudest_61 rfl (nI_inc _) (by decide) rfl ?_
              refine x_goto C (tgt := 4) dX2_loudest_64 (by decide) ?_
              first
                | exact fin _ (if_neg (fun z => c17 z.1)) hlt
                | exact fin _ (if_neg (fun z => c30 z.2.1)) hlt
                | (have z56 := Int32.not_le.mp c56; exact fin _ (if_pos ⟨c17, c30, Or.inr z56⟩) hlt)
                | exact fin _ (if_pos ⟨c17, c30, Or.inl c35⟩) hlt
                | exact fin _ (if_neg (fun z => z.2.2.elim c35 (fun q => absurd c56 (Int32.not_le.mpr q)))) hlt
set_option maxHeartbeats 1000000 in
set_option maxRecDepth 100000 in
theorem q2_loudest (l : Launch) (g : GT) (M : Mem) (hok : mOK M) (s : Int32) : CM l yX2_loudest cX2_loudest 4 (some .int) rmX2_loudest g M [.ref (ga g 29), .int s] (some (.int (mLoudest M s))) (M) := by
  refine CM.of (by decide) (Nat.le_of_ble_eq_true rfl) (fun X C hq => ?_)
  have C : Cx X g l cX2_loudest 4 RX2 (some .int) rmX2_loudest := C
  show V X g 0 0 0 [(0, .ref (ga g 29)), (1, .int s)] [] M
  refine x_iconst C (v := (-1)) dX2_loudest_0 (by decide) ?_
  refine x_istore_n C (lo' := [(2, _), (0, _), (1, _)]) dX2_loudest_1 (by decide) rfl ?_
  refine x_iconst C (v := 0) dX2_loudest_2 (by decide) ?_
  refine x_istore_n C (lo' := [(3, _), (2, _), (0, _), (1, _)]) dX2_loudest_3 (by decide) rfl ?_
  exact x_lsub [0, 1, 2, 3] rfl (q2_loudest_lp hok C hq (mSh M + 1) 0 (Nat.zero_le _) (by omega))
abbrev rmX2_meet : Room := { frames := 2, cells := 0, slots := 0, locals := 52 }
set_option maxHeartbeats 1000000 in
set_option maxRecDepth 100000 in
theorem q2_meet (l : Launch) (g : GT) (M : Mem) (h : mOK M) (k : Nat) (hk : k < 40) : CM l yX2_meet cX2_meet 2 none rmX2_meet g M [.ref (ga g 29), .int (nI k)] (none) (mMeet M k) := by
  refine CM.of (by decide) (Nat.le_of_ble_eq_true rfl) (fun X C hq => ?_)
  have C : Cx X g l cX2_meet 2 RX2 none rmX2_meet := C
  show V X g 0 0 0 [(0, .ref (ga g 29)), (1, .int (nI k))] [] M
  refine x_aload_n C dX2_meet_0 rfl ?_
  refine x_iload_n C dX2_meet_1 rfl ?_
  refine x_callV0r C (q2_goes l g _ k hk) cd_X2_goes kl_X2_66 ci2 rfl (by decide) (as := [_]) rfl rfl ⟨⟨by decide, by decide⟩, by decide, by decide⟩ ⟨rfl, rfl⟩ (Nat.le_of_ble_eq_true rfl) dX2_meet_2 ?_
  refine x_bif_eq C (tgt := 25) dX2_meet_5 (by decide) (fun c5 => ?_) (fun c5 => ?_)
  · exact x_vret C hq ⟨by decide, by decide⟩ dX2_meet_25 (rfl) (if_neg (by first | exact fun q => c5 q.1 | exact fun q => q.2 c22))
  · refine x_aload_n C dX2_meet_8 rfl ?_
    refine x_aload_n C dX2_meet_9 rfl ?_
    refine x_getR C fl_X2_22 rfl (by decide) rfl dX2_meet_10 ?_
    refine x_bipush C (v := 67) dX2_meet_13 (by decide) ?_
    refine x_iload_n C dX2_meet_15 rfl ?_
    refine x_iadd C dX2_meet_16 ?_
    refine x_iald C (n := 187) rfl (by decide) rfl (nI_add 67 k) ((by omega : 67 + k < 187)) dX2_meet_17 ?_
    refine x_callV0r C (q2_loudest l g _ h _) cd_X2_loudest kl_X2_69 ci2 rfl (by decide) (as := [_]) rfl rfl ⟨⟨by decide, by decide⟩, by decide, by decide⟩ ⟨rfl, rfl⟩ (Nat.le_of_ble_eq_true rfl) dX2_meet_18 ?_
    refine x_iload_n C dX2_meet_21 rfl ?_
    refine x_icmp_ne C (tgt := 26) dX2_meet_22 (by decide) (fun c22 => ?_) (fun c22 => ?_)
    · refine x_aload_n C dX2_meet_26 rfl ?_
      refine x_iload_n C dX2_meet_27 rfl ?_
      refine x_iconst C (v := 0) dX2_meet_28 (by decide) ?_
      refine x_callV0v C (q2_let l g _ k hk _) cd_X2_let kl_X2_62 ci2 rfl (by decide) (as := [_, _]) rfl rfl ⟨⟨by decide, by decide⟩, by decide, by decide⟩ ⟨rfl, rfl⟩ (Nat.le_of_ble_eq_true rfl) dX2_meet_29 ?_
      refine x_aload_n C dX2_meet_32 rfl ?_
      refine x_getR C fl_X2_22 rfl (by decide) rfl dX2_meet_33 ?_
      refine x_iconst C (v := 1) dX2_meet_36 (by decide) ?_
      refine x_dup2 C dX2_meet_37 rfl rfl ?_
      refine x_iald C (n := 187) rfl (by decide) rfl (rfl) ((by decide : 1 < 187)) dX2_meet_38 ?_
      refine x_iconst C (v := 1) dX2_meet_39 (by decide) ?_
      refine x_iadd C dX2_meet_40 ?_
      refine x_iast C (n := 187) rfl (by decide) rfl (rfl) ((by decide : 1 < 187)) dX2_meet_41 ?_
      exact x_vret C hq ⟨by decide, by decide⟩ dX2_meet_42 (rfl) (if_pos ⟨c5, c22⟩)
    · exact x_vret C hq ⟨by decide, by decide⟩ dX2_meet_25 (rfl) (if_neg (by first | exact fun q => c5 q.1 | exact fun q => q.2 c22))
abbrev rmX2_firstOf : Room := { frames := 0, cells := 0, slots := 0, locals := 0 }
set_option maxHeartbeats 1000000 in
set_option maxRecDepth 100000 in
theorem q2_firstOf_lp {X : XT} {l : Launch} {g : GT} {M : Mem} {e : Int32} {r : Option Value} (hok : mOK M) (C : Cx X g l cX2_firstOf 3 RX2 (some .int) rmX2_firstOf) (hq : Rt X g rmX2_firstOf r M) : ∀ (n w : Nat), w + n = mWs M → some (.int (mFO M e n w)) = r → V X g 0 0 2 [(2, .int (nI w)), (0, .ref (ga g 29)), (1, .int e)] [] M := by
  have hws := hok.ws
  intro n
  induction n with
  | zero =>
    intro w h1 hr
    refine x_iload_n C dX2_firstOf_2 rfl ?_
    refine x_aload_n C dX2_firstOf_3 rfl ?_
    refine x_getI C fl_X2_40 rfl (by decide) rfl dX2_firstOf_4 ?_
    refine x_icmp_ge C (tgt := 31) dX2_firstOf_7 (by decide) (fun c7 => ?_) (fun c7 => absurd ((ge_tn hok.1.1 (by omega)).mpr (show mWs M ≤ w by omega)) c7)
    refine x_iconst C (v := (-1)) dX2_firstOf_31 (by decide) ?_
    exact x_iret C hq ⟨by decide, by decide⟩ dX2_firstOf_32 (hr.symm) (rfl)
  | succ n ih =>
    intro w h1 hr
    refine x_iload_n C dX2_firstOf_2 rfl ?_
    refine x_aload_n C dX2_firstOf_3 rfl ?_
    refine x_getI C fl_X2_40 rfl (by decide) rfl dX2_firstOf_4 ?_
    refine x_icmp_ge C (tgt := 31) dX2_firstOf_7 (by decide) (fun c7 => ?_) (fun c7 => ?_)
    · exfalso; have hq : mWs M ≤ w := (ge_tn hok.1.1 (by omega)).mp c7; omega
    · refine x_aload_n C dX2_firstOf_10 rfl ?_
      refine x_getR C fl_X2_22 rfl (by decide) rfl dX2_firstOf_11 ?_
      refine x_bipush C (v := 7) dX2_firstOf_14 (by decide) ?_
      refine x_iload_n C dX2_firstOf_16 rfl ?_
      refine x_iadd C dX2_firstOf_17 ?_
      refine x_iald C (n := 187) rfl (by decide) rfl (nI_add 7 w) ((by omega : 7 + w < 187)) dX2_firstOf_18 ?_
      refine x_iload_n C dX2_firstOf_19 rfl ?_
      refine x_icmp_ne C (tgt := 25) dX2_firstOf_20 (by decide) (fun c20 => ?_) (fun c20 => ?_)
      · refine x_iinc C (v := nI (w + 1)) (lo' := [(2, _), (0, _), (1, _)]) dX2_firstOf_25 rfl (nI_inc _) (by decide) rfl ?_
        refine x_goto C (tgt := 2) dX2_firstOf_28 (by decide) ?_
        exact ih (w + 1) (by omega) (by rw [← hr]; exact congrArg (fun z => some (Value.int z)) (if_neg c20).symm)
      · skip
        refine x_iload_n C dX2_firstOf_23 rfl ?_
        exact x_iret C hq ⟨by decide, by decide⟩ dX2_firstOf_24 (by rw [← hr]; exact congrArg (fun z => some (Value.int z)) (if_pos c20)) (rfl)
set_option maxHeartbeats 1000000 in
set_option maxRecDepth 100000 in
theorem q2_firstOf (l : Launch) (g : GT) (M : Mem) (hok : mOK M) (e : Int32) : CM l yX2_firstOf cX2_firstOf 3 (some .int) rmX2_firstOf g M [.ref (ga g 29), .int e] (some (.int (mFirst M e))) (M) := by
  refine CM.of (by decide) (Nat.le_of_ble_eq_true rfl) (fun X C hq => ?_)
  have C : Cx X g l cX2_firstOf 3 RX2 (some .int) rmX2_firstOf := C
  show V X g 0 0 0 [(0, .ref (ga g 29)), (1, .int e)] [] M
  refine x_iconst C (v := 0) dX2_firstOf_0 (by decide) ?_
  refine x_istore_n C (lo' := [(2, _), (0, _), (1, _)]) dX2_firstOf_1 (by decide) rfl ?_
  exact q2_firstOf_lp hok C hq (mWs M) 0 (Nat.zero_add _) rfl
abbrev rmX2_hush : Room := { frames := 1, cells := 0, slots := 0, locals := 22 }
set_option maxHeartbeats 1000000 in
set_option maxRecDepth 100000 in
theorem q2_hush (l : Launch) (g : GT) (M : Mem) (h : mOK M) (e : Nat) (he : e < 2) : CM l yX2_hush cX2_hush 3 none rmX2_hush g M [.ref (ga g 29), .int (nI e)] (none) (mHush M e) := by
  refine CM.of (by decide) (Nat.le_of_ble_eq_true rfl) (fun X C hq => ?_)
  have C : Cx X g l cX2_hush 3 RX2 none rmX2_hush := C
  show V X g 0 0 0 [(0, .ref (ga g 29)), (1, .int (nI e))] [] M
  refine x_aload_n C dX2_hush_0 rfl ?_
  refine x_getR C fl_X2_22 rfl (by decide) rfl dX2_hush_1 ?_
  refine x_iconst C (v := 5) dX2_hush_4 (by decide) ?_
  refine x_iload_n C dX2_hush_5 rfl ?_
  refine x_iadd C dX2_hush_6 ?_
  refine x_aload_n C dX2_hush_7 rfl ?_
  refine x_getR C fl_X2_28 rfl (by decide) rfl dX2_hush_8 ?_
  refine x_iload_n C dX2_hush_11 rfl ?_
  refine x_bald C (n := 2) rfl (by decide) rfl (rfl) ((by omega : e < 2)) dX2_hush_12 ?_
  refine x_if_eq C (tgt := 20) dX2_hush_13 (by decide) (fun c13 => ?_) (fun c13 => ?_)
  · skip
    refine x_aload_n C dX2_hush_20 rfl ?_
    refine x_getR C fl_X2_22 rfl (by decide) rfl dX2_hush_21 ?_
    refine x_iconst C (v := 5) dX2_hush_24 (by decide) ?_
    refine x_iload_n C dX2_hush_25 rfl ?_
    refine x_iadd C dX2_hush_26 ?_
    refine x_iald C (n := 187) rfl (by decide) rfl (nI_add 5 e) ((by omega : 5 + e < 187)) dX2_hush_27 ?_
    refine x_iconst C (v := 1) dX2_hush_28 (by decide) ?_
    refine x_iadd C dX2_hush_29 ?_
    refine x_iast C (n := 187) rfl (by decide) rfl (nI_add 5 e) ((by omega : 5 + e < 187)) dX2_hush_30 ?_
    first
      | refine x_mem (M' := mSil M e) (by unfold mSil; rw [if_pos c13]) ?_
      | refine x_mem (M' := mSil M e) (by unfold mSil; rw [if_neg c13]) ?_
    refine x_aload_n C dX2_hush_31 rfl ?_
    refine x_getR C fl_X2_22 rfl (by decide) rfl dX2_hush_32 ?_
    refine x_iconst C (v := 5) dX2_hush_35 (by decide) ?_
    refine x_iload_n C dX2_hush_36 rfl ?_
    refine x_iadd C dX2_hush_37 ?_
    refine x_iald C (n := 187) rfl (by decide) rfl (nI_add 5 e) ((by omega : 5 + e < 187)) dX2_hush_38 ?_
    refine x_bipush C (v := 12) dX2_hush_39 (by decide) ?_
    refine x_icmp_ge C (tgt := 45) dX2_hush_41 (by decide) (fun c41 => ?_) (fun c41 => ?_)
    · have h2 := (h.same (mSil_same M e he)).same (mSame.wr34 (j := 5 + e) (v := 0) (by omega))
      refine x_aload_n C dX2_hush_45 rfl ?_
      refine x_getR C fl_X2_22 rfl (by decide) rfl dX2_hush_46 ?_
      refine x_iconst C (v := 5) dX2_hush_49 (by decide) ?_
      refine x_iload_n C dX2_hush_50 rfl ?_
      refine x_iadd C dX2_hush_51 ?_
      refine x_iconst C (v := 0) dX2_hush_52 (by decide) ?_
      refine x_iast C (n := 187) rfl (by decide) rfl (nI_add 5 e) ((by omega : 5 + e < 187)) dX2_hush_53 ?_
      refine x_aload_n C dX2_hush_54 rfl ?_
      refine x_iload_n C dX2_hush_55 rfl ?_
      refine x_callV0r C (q2_firstOf l g _ h2 _) cd_X2_firstOf kl_X2_73 ci2 rfl (by decide) (as := [_]) rfl rfl ⟨⟨by decide, by decide⟩, by decide, by decide⟩ ⟨rfl, rfl⟩ (Nat.le_of_ble_eq_true rfl) dX2_hush_56 ?_
      refine x_istore_n C (lo' := [(2, _), (0, _), (1, _)]) dX2_hush_59 (by decide) rfl ?_
      refine x_iload_n C dX2_hush_60 rfl ?_
      refine x_iconst C (v := (-1)) dX2_hush_61 (by decide) ?_
      refine x_icmp_ne C (tgt := 66) dX2_hush_62 (by decide) (fun c62 => ?_) (fun c62 => ?_)
      · have hf := (mFO_or (wr (mSil M e) 34 (5 + e) 0) (nI e) (mWs (wr (mSil M e) 34 (5 + e) 0)) 0 (by have := h2.ws; omega)).resolve_left c62
        have hws := h2.ws
        have hw9 : tn (mFirst (wr (mSil M e) 34 (5 + e) 0) (nI e)) < 10 := by have := hf.2; unfold mFirst; omega
        refine x_aload_n C dX2_hush_66 rfl ?_
        refine x_getR C fl_X2_22 rfl (by decide) rfl dX2_hush_67 ?_
        refine x_bipush C (v := 7) dX2_hush_70 (by decide) ?_
        refine x_iload_n C dX2_hush_72 rfl ?_
        refine x_iadd C dX2_hush_73 ?_
        refine x_iconst C (v := 1) dX2_hush_74 (by decide) ?_
        refine x_iload_n C dX2_hush_75 rfl ?_
        refine x_isub C dX2_hush_76 ?_
        refine x_iast C (n := 187) rfl (by decide) rfl (ix_t 7 hf.1) (by omega) dX2_hush_77 ?_
        refine x_aload_n C dX2_hush_78 rfl ?_
        refine x_getR C fl_X2_22 rfl (by decide) rfl dX2_hush_79 ?_
        refine x_iconst C (v := 2) dX2_hush_82 (by decide) ?_
        refine x_dup2 C dX2_hush_83 rfl rfl ?_
        refine x_iald C (n := 187) rfl (by decide) rfl (rfl) ((by decide : 2 < 187)) dX2_hush_84 ?_
        refine x_iconst C (v := 1) dX2_hush_85 (by decide) ?_
        refine x_iadd C dX2_hush_86 ?_
        refine x_iast C (n := 187) rfl (by decide) rfl (rfl) ((by decide : 2 < 187)) dX2_hush_87 ?_
        exact x_vret C hq ⟨by decide, by decide⟩ dX2_hush_88 (rfl) ((if_pos c41).trans (if_pos c62))
      · exact x_vret C hq ⟨by decide, by decide⟩ dX2_hush_65 (rfl) ((if_pos c41).trans (if_neg (fun z => z c62)))
    · exact x_vret C hq ⟨by decide, by decide⟩ dX2_hush_44 (rfl) (if_neg (fun z => c41 z))
  · skip
    refine x_iconst C (v := 0) dX2_hush_16 (by decide) ?_
    refine x_goto C (tgt := 30) dX2_hush_17 (by decide) ?_
    refine x_iast C (n := 187) rfl (by decide) rfl (nI_add 5 e) ((by omega : 5 + e < 187)) dX2_hush_30 ?_
    first
      | refine x_mem (M' := mSil M e) (by unfold mSil; rw [if_pos c13]) ?_
      | refine x_mem (M' := mSil M e) (by unfold mSil; rw [if_neg c13]) ?_
    refine x_aload_n C dX2_hush_31 rfl ?_
    refine x_getR C fl_X2_22 rfl (by decide) rfl dX2_hush_32 ?_
    refine x_iconst C (v := 5) dX2_hush_35 (by decide) ?_
    refine x_iload_n C dX2_hush_36 rfl ?_
    refine x_iadd C dX2_hush_37 ?_
    refine x_iald C (n := 187) rfl (by decide) rfl (nI_add 5 e) ((by omega : 5 + e < 187)) dX2_hush_38 ?_
    refine x_bipush C (v := 12) dX2_hush_39 (by decide) ?_
    refine x_icmp_ge C (tgt := 45) dX2_hush_41 (by decide) (fun c41 => ?_) (fun c41 => ?_)
    · have h2 := (h.same (mSil_same M e he)).same (mSame.wr34 (j := 5 + e) (v := 0) (by omega))
      refine x_aload_n C dX2_hush_45 rfl ?_
      refine x_getR C fl_X2_22 rfl (by decide) rfl dX2_hush_46 ?_
      refine x_iconst C (v := 5) dX2_hush_49 (by decide) ?_
      refine x_iload_n C dX2_hush_50 rfl ?_
      refine x_iadd C dX2_hush_51 ?_
      refine x_iconst C (v := 0) dX2_hush_52 (by decide) ?_
      refine x_iast C (n := 187) rfl (by decide) rfl (nI_add 5 e) ((by omega : 5 + e < 187)) dX2_hush_53 ?_
      refine x_aload_n C dX2_hush_54 rfl ?_
      refine x_iload_n C dX2_hush_55 rfl ?_
      refine x_callV0r C (q2_firstOf l g _ h2 _) cd_X2_firstOf kl_X2_73 ci2 rfl (by decide) (as := [_]) rfl rfl ⟨⟨by decide, by decide⟩, by decide, by decide⟩ ⟨rfl, rfl⟩ (Nat.le_of_ble_eq_true rfl) dX2_hush_56 ?_
      refine x_istore_n C (lo' := [(2, _), (0, _), (1, _)]) dX2_hush_59 (by decide) rfl ?_
      refine x_iload_n C dX2_hush_60 rfl ?_
      refine x_iconst C (v := (-1)) dX2_hush_61 (by decide) ?_
      refine x_icmp_ne C (tgt := 66) dX2_hush_62 (by decide) (fun c62 => ?_) (fun c62 => ?_)
      · have hf := (mFO_or (wr (mSil M e) 34 (5 + e) 0) (nI e) (mWs (wr (mSil M e) 34 (5 + e) 0)) 0 (by have := h2.ws; omega)).resolve_left c62
        have hws := h2.ws
        have hw9 : tn (mFirst (wr (mSil M e) 34 (5 + e) 0) (nI e)) < 10 := by have := hf.2; unfold mFirst; omega
        refine x_aload_n C dX2_hush_66 rfl ?_
        refine x_getR C fl_X2_22 rfl (by decide) rfl dX2_hush_67 ?_
        refine x_bipush C (v := 7) dX2_hush_70 (by decide) ?_
        refine x_iload_n C dX2_hush_72 rfl ?_
        refine x_iadd C dX2_hush_73 ?_
        refine x_iconst C (v := 1) dX2_hush_74 (by decide) ?_
        refine x_iload_n C dX2_hush_75 rfl ?_
        refine x_isub C dX2_hush_76 ?_
        refine x_iast C (n := 187) rfl (by decide) rfl (ix_t 7 hf.1) (by omega) dX2_hush_77 ?_
        refine x_aload_n C dX2_hush_78 rfl ?_
        refine x_getR C fl_X2_22 rfl (by decide) rfl dX2_hush_79 ?_
        refine x_iconst C (v := 2) dX2_hush_82 (by decide) ?_
        refine x_dup2 C dX2_hush_83 rfl rfl ?_
        refine x_iald C (n := 187) rfl (by decide) rfl (rfl) ((by decide : 2 < 187)) dX2_hush_84 ?_
        refine x_iconst C (v := 1) dX2_hush_85 (by decide) ?_
        refine x_iadd C dX2_hush_86 ?_
        refine x_iast C (n := 187) rfl (by decide) rfl (rfl) ((by decide : 2 < 187)) dX2_hush_87 ?_
        exact x_vret C hq ⟨by decide, by decide⟩ dX2_hush_88 (rfl) ((if_pos c41).trans (if_pos c62))
      · exact x_vret C hq ⟨by decide, by decide⟩ dX2_hush_65 (rfl) ((if_pos c41).trans (if_neg (fun z => z c62)))
    · exact x_vret C hq ⟨by decide, by decide⟩ dX2_hush_44 (rfl) (if_neg (fun z => c41 z))
