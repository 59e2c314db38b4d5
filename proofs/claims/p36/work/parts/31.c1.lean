/-! The canyon's methods, walked. -/
theorem lt32 {s : Int32} (h : ¬ s ≥ 32) : s ≤ 31 := by
  have a := i_lt.mp (Int32.not_le.mp h)
  have e : (32 : Int32).toInt = 32 := rfl
  rw [e] at a
  exact i_le.mpr (by rw [i_c31]; omega)
theorem ge32 {s : Int32} (h : s ≥ 32) : ¬ s ≤ 31 := by
  intro z
  have a := i_le.mp h
  have e : (32 : Int32).toInt = 32 := rfl
  have c := i_le.mp z
  rw [e] at a
  rw [i_c31] at c
  omega
abbrev rmX1_isStone : Room := { frames := 0, cells := 0, slots := 0, locals := 0 }
set_option maxHeartbeats 1000000 in
set_option maxRecDepth 100000 in
theorem q1_isStone (l : Launch) (g : GT) (M : Mem) (s : Int32) : CM l yX1_isStone cX1_isStone 1 (some .boolean) rmX1_isStone g M [.int s] (some (.int (b2i (0 ≤ s ∧ s ≤ 31)))) (M) := by
  refine CM.of (by decide) (Nat.le_of_ble_eq_true rfl) (fun X C hq => ?_)
  have C : Cx X g l cX1_isStone 1 RX1 (some .boolean) rmX1_isStone := C
  show V X g 0 0 0 [(0, .int s)] [] M
  refine x_iload_n C dX1_isStone_0 rfl ?_
  refine x_if_lt C (tgt := 14) dX1_isStone_1 (by decide) (fun c1 => ?_) (fun c1 => ?_)
  · refine x_iconst C (v := 0) dX1_isStone_14 (by decide) ?_
    exact x_zret C hq (by decide) ⟨by decide, by decide⟩ dX1_isStone_15 (by first | (have z1 := Int32.not_lt.mp c1; have z7 := lt32 c7; exact rb_t ⟨z1, z7⟩) | (have z7 := ge32 c7; exact rb_f (fun z => z7 z.2)) | exact rb_f (fun z => absurd c1 (Int32.not_lt.mpr z.1))) (rfl)
  · refine x_iload_n C dX1_isStone_4 rfl ?_
    refine x_bipush C (v := 32) dX1_isStone_5 (by decide) ?_
    refine x_icmp_ge C (tgt := 14) dX1_isStone_7 (by decide) (fun c7 => ?_) (fun c7 => ?_)
    · refine x_iconst C (v := 0) dX1_isStone_14 (by decide) ?_
      exact x_zret C hq (by decide) ⟨by decide, by decide⟩ dX1_isStone_15 (by first | (have z1 := Int32.not_lt.mp c1; have z7 := lt32 c7; exact rb_t ⟨z1, z7⟩) | (have z7 := ge32 c7; exact rb_f (fun z => z7 z.2)) | exact rb_f (fun z => absurd c1 (Int32.not_lt.mpr z.1))) (rfl)
    · refine x_iconst C (v := 1) dX1_isStone_10 (by decide) ?_
      refine x_goto C (tgt := 15) dX1_isStone_11 (by decide) ?_
      exact x_zret C hq (by decide) ⟨by decide, by decide⟩ dX1_isStone_15 (by first | (have z1 := Int32.not_lt.mp c1; have z7 := lt32 c7; exact rb_t ⟨z1, z7⟩) | (have z7 := ge32 c7; exact rb_f (fun z => z7 z.2)) | exact rb_f (fun z => absurd c1 (Int32.not_lt.mpr z.1))) (rfl)
abbrev rmX1_otherEcho : Room := { frames := 0, cells := 0, slots := 0, locals := 0 }
set_option maxHeartbeats 1000000 in
set_option maxRecDepth 100000 in
theorem q1_otherEcho (l : Launch) (g : GT) (M : Mem) (s : Int32) : CM l yX1_otherEcho cX1_otherEcho 1 (some .int) rmX1_otherEcho g M [.int s] (some (.int (cOth s))) (M) := by
  refine CM.of (by decide) (Nat.le_of_ble_eq_true rfl) (fun X C hq => ?_)
  have C : Cx X g l cX1_otherEcho 1 RX1 (some .int) rmX1_otherEcho := C
  show V X g 0 0 0 [(0, .int s)] [] M
  refine x_iload_n C dX1_otherEcho_0 rfl ?_
  refine x_if_ne C (tgt := 8) dX1_otherEcho_1 (by decide) (fun c1 => ?_) (fun c1 => ?_)
  · refine x_iconst C (v := 0) dX1_otherEcho_8 (by decide) ?_
    exact x_iret C hq ⟨by decide, by decide⟩ dX1_otherEcho_9 (by first | exact congrArg (fun z => some (Value.int z)) (if_pos c1) | exact congrArg (fun z => some (Value.int z)) (if_neg c1)) (rfl)
  · refine x_iconst C (v := 1) dX1_otherEcho_4 (by decide) ?_
    refine x_goto C (tgt := 9) dX1_otherEcho_5 (by decide) ?_
    exact x_iret C hq ⟨by decide, by decide⟩ dX1_otherEcho_9 (by first | exact congrArg (fun z => some (Value.int z)) (if_pos c1) | exact congrArg (fun z => some (Value.int z)) (if_neg c1)) (rfl)
abbrev rmJ7_fill_53178 : Room := { frames := 0, cells := 0, slots := 0, locals := 0 }
set_option maxHeartbeats 1000000 in
set_option maxRecDepth 100000 in
theorem q7_fill4_lp {X : XT} {l : Launch} {g : GT} {M : Mem} {v : Int32} (C : Cx X g l cJ7_fill_53178 4 RJ7 none rmJ7_fill_53178) (hq : Rt X g rmJ7_fill_53178 none (wrc M 4 (cpn (fun _ => v) (M 4) 32))) : ∀ (n i : Nat), i ≤ 32 → 33 ≤ i + n → V X g 0 0 5 [(2, .int (nI i)), (3, .int (nI 32)), (0, .ref (ga g 4)), (1, .int v)] [] (wrc M 4 (cpn (fun _ => v) (M 4) i)) := by
  intro n
  induction n with
  | zero =>
    intro i h1 h2; omega
  | succ n ih =>
    intro i h1 h2
    refine x_iload_n C dJ7_fill_53178_5 rfl ?_
    refine x_iload_n C dJ7_fill_53178_6 rfl ?_
    refine x_icmp_ge C (tgt := 20) dJ7_fill_53178_7 (by decide) (fun c7 => ?_) (fun c7 => ?_)
    · have he : i = 32 := by
        have z := (nI_leI (a := 32) (b := i) (by decide) (by omega)).mp c7
        omega
      subst he
      exact x_vret C hq ⟨by decide, by decide⟩ dJ7_fill_53178_20 (rfl) (rfl)
    · have hlt : i < 32 := Nat.lt_of_not_le (fun z => c7 (nI_le (a := 32) z (by omega)))
      refine x_aload_n C dJ7_fill_53178_10 rfl ?_
      refine x_iload_n C dJ7_fill_53178_11 rfl ?_
      refine x_iload_n C dJ7_fill_53178_12 rfl ?_
      refine x_iast C (n := 32) rfl (by decide) rfl (rfl) ((by omega : i < 32)) dJ7_fill_53178_13 ?_
      refine x_iinc C (v := nI (i + 1)) (lo' := [(2, _), (3, _), (0, _), (1, _)]) dJ7_fill_53178_14 rfl (nI_inc _) (by decide) rfl ?_
      refine x_goto C (tgt := 5) dJ7_fill_53178_17 (by decide) ?_
      exact x_mem (fill_s M 4 v i) (ih (i + 1) hlt (by omega))
set_option maxHeartbeats 1000000 in
set_option maxRecDepth 100000 in
theorem q7_fill4 (l : Launch) (g : GT) (M : Mem) (v : Int32) : CM l yJ7_fill_53178 cJ7_fill_53178 4 none rmJ7_fill_53178 g M [.ref (ga g 4), .int v] (none) (wrc M 4 (cpn (fun _ => v) (M 4) 32)) := by
  refine CM.of (by decide) (Nat.le_of_ble_eq_true rfl) (fun X C hq => ?_)
  have C : Cx X g l cJ7_fill_53178 4 RJ7 none rmJ7_fill_53178 := C
  show V X g 0 0 0 [(0, .ref (ga g 4)), (1, .int v)] [] M
  refine x_iconst C (v := 0) dJ7_fill_53178_0 (by decide) ?_
  refine x_istore_n C (lo' := [(2, _), (0, _), (1, _)]) dJ7_fill_53178_1 (by decide) rfl ?_
  refine x_aload_n C dJ7_fill_53178_2 rfl ?_
  refine x_alen C (n := 32) rfl (C.lt (by decide)) rfl dJ7_fill_53178_3 ?_
  refine x_istore_n C (lo' := [(3, _), (2, _), (0, _), (1, _)]) dJ7_fill_53178_4 (by decide) rfl ?_
  exact x_mem (fill_0 M 4 v).symm (x_lsub [1, 0, 2, 3] rfl (q7_fill4_lp C hq 33 0 (by decide) (by decide)))
set_option maxHeartbeats 1000000 in
set_option maxRecDepth 100000 in
theorem q7_fill18_lp {X : XT} {l : Launch} {g : GT} {M : Mem} {v : Int32} (C : Cx X g l cJ7_fill_53178 4 RJ7 none rmJ7_fill_53178) (hq : Rt X g rmJ7_fill_53178 none (wrc M 18 (cpn (fun _ => v) (M 18) 32))) : ∀ (n i : Nat), i ≤ 32 → 33 ≤ i + n → V X g 0 0 5 [(2, .int (nI i)), (3, .int (nI 32)), (0, .ref (ga g 18)), (1, .int v)] [] (wrc M 18 (cpn (fun _ => v) (M 18) i)) := by
  intro n
  induction n with
  | zero =>
    intro i h1 h2; omega
  | succ n ih =>
    intro i h1 h2
    refine x_iload_n C dJ7_fill_53178_5 rfl ?_
    refine x_iload_n C dJ7_fill_53178_6 rfl ?_
    refine x_icmp_ge C (tgt := 20) dJ7_fill_53178_7 (by decide) (fun c7 => ?_) (fun c7 => ?_)
    · have he : i = 32 := by
        have z := (nI_leI (a := 32) (b := i) (by decide) (by omega)).mp c7
        omega
      subst he
      exact x_vret C hq ⟨by decide, by decide⟩ dJ7_fill_53178_20 (rfl) (rfl)
    · have hlt : i < 32 := Nat.lt_of_not_le (fun z => c7 (nI_le (a := 32) z (by omega)))
      refine x_aload_n C dJ7_fill_53178_10 rfl ?_
      refine x_iload_n C dJ7_fill_53178_11 rfl ?_
      refine x_iload_n C dJ7_fill_53178_12 rfl ?_
      refine x_iast C (n := 32) rfl (by decide) rfl (rfl) ((by omega : i < 32)) dJ7_fill_53178_13 ?_
      refine x_iinc C (v := nI (i + 1)) (lo' := [(2, _), (3, _), (0, _), (1, _)]) dJ7_fill_53178_14 rfl (nI_inc _) (by decide) rfl ?_
      refine x_goto C (tgt := 5) dJ7_fill_53178_17 (by decide) ?_
      exact x_mem (fill_s M 18 v i) (ih (i + 1) hlt (by omega))
set_option maxHeartbeats 1000000 in
set_option maxRecDepth 100000 in
theorem q7_fill18 (l : Launch) (g : GT) (M : Mem) (v : Int32) : CM l yJ7_fill_53178 cJ7_fill_53178 4 none rmJ7_fill_53178 g M [.ref (ga g 18), .int v] (none) (wrc M 18 (cpn (fun _ => v) (M 18) 32)) := by
  refine CM.of (by decide) (Nat.le_of_ble_eq_true rfl) (fun X C hq => ?_)
  have C : Cx X g l cJ7_fill_53178 4 RJ7 none rmJ7_fill_53178 := C
  show V X g 0 0 0 [(0, .ref (ga g 18)), (1, .int v)] [] M
  refine x_iconst C (v := 0) dJ7_fill_53178_0 (by decide) ?_
  refine x_istore_n C (lo' := [(2, _), (0, _), (1, _)]) dJ7_fill_53178_1 (by decide) rfl ?_
  refine x_aload_n C dJ7_fill_53178_2 rfl ?_
  refine x_alen C (n := 32) rfl (C.lt (by decide)) rfl dJ7_fill_53178_3 ?_
  refine x_istore_n C (lo' := [(3, _), (2, _), (0, _), (1, _)]) dJ7_fill_53178_4 (by decide) rfl ?_
  exact x_mem (fill_0 M 18 v).symm (x_lsub [1, 0, 2, 3] rfl (q7_fill18_lp C hq 33 0 (by decide) (by decide)))
abbrev rmX0_hush : Room := { frames := 0, cells := 0, slots := 0, locals := 0 }
set_option maxHeartbeats 1000000 in
set_option maxRecDepth 100000 in
theorem q0_hush1 (l : Launch) (g : GT) (M : Mem) (k : Nat) (hk : k < 40) : CM l yX0_hush cX0_hush 2 none rmX0_hush g M [.ref (ga g 1), .int (nI k)] (none) (cHush 1 M k) := by
  refine CM.of (by decide) (Nat.le_of_ble_eq_true rfl) (fun X C hq => ?_)
  have C : Cx X g l cX0_hush 2 RX0 none rmX0_hush := C
  show V X g 0 0 0 [(0, .ref (ga g 1)), (1, .int (nI k))] [] M
  refine x_aload_n C dX0_hush_0 rfl ?_
  refine x_getR C fl_X0_39 rfl (by decide) rfl dX0_hush_1 ?_
  refine x_iload_n C dX0_hush_4 rfl ?_
  refine x_iconst C (v := 0) dX0_hush_5 (by decide) ?_
  refine x_iast C (n := 40) rfl (by decide) rfl (rfl) ((by omega : k < 40)) dX0_hush_6 ?_
  refine x_aload_n C dX0_hush_7 rfl ?_
  refine x_getR C fl_X0_42 rfl (by decide) rfl dX0_hush_8 ?_
  refine x_iload_n C dX0_hush_11 rfl ?_
  refine x_iconst C (v := (-1)) dX0_hush_12 (by decide) ?_
  refine x_iast C (n := 40) rfl (by decide) rfl (rfl) ((by omega : k < 40)) dX0_hush_13 ?_
  refine x_aload_n C dX0_hush_14 rfl ?_
  refine x_getR C fl_X0_45 rfl (by decide) rfl dX0_hush_15 ?_
  refine x_iload_n C dX0_hush_18 rfl ?_
  refine x_iconst C (v := 0) dX0_hush_19 (by decide) ?_
  refine x_iast C (n := 40) rfl (by decide) rfl (rfl) ((by omega : k < 40)) dX0_hush_20 ?_
  refine x_aload_n C dX0_hush_21 rfl ?_
  refine x_dup C dX0_hush_22 rfl ?_
  refine x_getI C fl_X0_67 rfl (by decide) rfl dX0_hush_23 ?_
  refine x_iconst C (v := 1) dX0_hush_26 (by decide) ?_
  refine x_isub C dX0_hush_27 ?_
  refine x_putI C fl_X0_67 rfl (by decide) rfl dX0_hush_28 ?_
  exact x_vret C hq ⟨by decide, by decide⟩ dX0_hush_31 (rfl) (rfl)
abbrev rmX0_turnAt : Room := { frames := 0, cells := 0, slots := 0, locals := 0 }
set_option maxHeartbeats 1000000 in
set_option maxRecDepth 100000 in
theorem q0_turnAt1 (l : Launch) (g : GT) (M : Mem) (h : cOK 1 M) (w k : Nat) (hw : w < 10) (hk : k < 40) : CM l yX0_turnAt cX0_turnAt 3 none rmX0_turnAt g M [.ref (ga g 1), .int (nI w), .int (nI k)] (none) (cTurn 1 M w k) := by
  refine CM.of (by decide) (Nat.le_of_ble_eq_true rfl) (fun X C hq => ?_)
  have C : Cx X g l cX0_turnAt 3 RX0 none rmX0_turnAt := C
  show V X g 0 0 0 [(0, .ref (ga g 1)), (1, .int (nI w)), (2, .int (nI k))] [] M
  have he := h.2.2.2.1 w hw
  have he1 := tn1 he
  refine x_aload_n C dX0_turnAt_0 rfl ?_
  refine x_getR C fl_X0_33 rfl (by decide) rfl dX0_turnAt_1 ?_
  refine x_aload_n C dX0_turnAt_4 rfl ?_
  refine x_getR C fl_X0_24 rfl (by decide) rfl dX0_turnAt_5 ?_
  refine x_iload_n C dX0_turnAt_8 rfl ?_
  refine x_iald C (n := 10) rfl (by decide) rfl (rfl) ((by omega : w < 10)) dX0_turnAt_9 ?_
  refine x_dup2 C dX0_turnAt_10 rfl rfl ?_
  refine x_iald C (n := 2) rfl (by decide) rfl (nI_tn he.1) (he1) dX0_turnAt_11 ?_
  refine x_iconst C (v := 1) dX0_turnAt_12 (by decide) ?_
  refine x_iadd C dX0_turnAt_13 ?_
  refine x_iast C (n := 2) rfl (by decide) rfl (nI_tn he.1) (he1) dX0_turnAt_14 ?_
  refine x_aload_n C dX0_turnAt_15 rfl ?_
  refine x_getR C fl_X0_30 rfl (by decide) rfl dX0_turnAt_16 ?_
  refine x_iload_n C dX0_turnAt_19 rfl ?_
  refine x_dup2 C dX0_turnAt_20 rfl rfl ?_
  refine x_iald C (n := 10) rfl (by decide) rfl (rfl) ((by omega : w < 10)) dX0_turnAt_21 ?_
  refine x_iconst C (v := 1) dX0_turnAt_22 (by decide) ?_
  refine x_iadd C dX0_turnAt_23 ?_
  refine x_iast C (n := 10) rfl (by decide) rfl (rfl) ((by omega : w < 10)) dX0_turnAt_24 ?_
  refine x_aload_n C dX0_turnAt_25 rfl ?_
  refine x_getR C fl_X0_48 rfl (by decide) rfl dX0_turnAt_26 ?_
  refine x_iload_n C dX0_turnAt_29 rfl ?_
  refine x_dup2 C dX0_turnAt_30 rfl rfl ?_
  refine x_iald C (n := 40) rfl (by decide) rfl (rfl) ((by omega : k < 40)) dX0_turnAt_31 ?_
  refine x_iconst C (v := 1) dX0_turnAt_32 (by decide) ?_
  refine x_iadd C dX0_turnAt_33 ?_
  refine x_iast C (n := 40) rfl (by decide) rfl (rfl) ((by omega : k < 40)) dX0_turnAt_34 ?_
  refine x_aload_n C dX0_turnAt_35 rfl ?_
  refine x_getR C fl_X0_39 rfl (by decide) rfl dX0_turnAt_36 ?_
  refine x_iload_n C dX0_turnAt_39 rfl ?_
  refine x_dup2 C dX0_turnAt_40 rfl rfl ?_
  refine x_iald C (n := 40) rfl (by decide) rfl (rfl) ((by omega : k < 40)) dX0_turnAt_41 ?_
  refine x_aload_n C dX0_turnAt_42 rfl ?_
  refine x_getR C fl_X0_27 rfl (by decide) rfl dX0_turnAt_43 ?_
  refine x_iload_n C dX0_turnAt_46 rfl ?_
  refine x_iald C (n := 10) rfl (by decide) rfl (rfl) ((by omega : w < 10)) dX0_turnAt_47 ?_
  refine x_isub C dX0_turnAt_48 ?_
  refine x_iast C (n := 40) rfl (by decide) rfl (rfl) ((by omega : k < 40)) dX0_turnAt_49 ?_
  refine x_aload_n C dX0_turnAt_50 rfl ?_
  refine x_getR C fl_X0_45 rfl (by decide) rfl dX0_turnAt_51 ?_
  refine x_iload_n C dX0_turnAt_54 rfl ?_
  refine x_aload_n C dX0_turnAt_55 rfl ?_
  refine x_getR C fl_X0_45 rfl (by decide) rfl dX0_turnAt_56 ?_
  refine x_iload_n C dX0_turnAt_59 rfl ?_
  refine x_iald C (n := 40) rfl (by decide) rfl (rfl) ((by omega : k < 40)) dX0_turnAt_60 ?_
  refine x_ineg C dX0_turnAt_61 ?_
  refine x_iast C (n := 40) rfl (by decide) rfl (rfl) ((by omega : k < 40)) dX0_turnAt_62 ?_
  exact x_vret C hq ⟨by decide, by decide⟩ dX0_turnAt_63 (rfl) (rfl)
abbrev rmX0_loudAt : Room := { frames := 0, cells := 0, slots := 0, locals := 0 }
set_option maxHeartbeats 1000000 in
set_option maxRecDepth 100000 in
theorem q0_loudAt1 (l : Launch) (g : GT) (M : Mem) (h : cOK 1 M) (s : Int32) (hs : 0 ≤ s ∧ s ≤ 31) : CM l yX0_loudAt cX0_loudAt 3 (some .int) rmX0_loudAt g M [.ref (ga g 1), .int s] (some (.int (if M 4 (tn s) = -1 then 0 else M 11 (tn (M 4 (tn s)))))) (M) := by
  refine CM.of (by decide) (Nat.le_of_ble_eq_true rfl) (fun X C hq => ?_)
  have C : Cx X g l cX0_loudAt 3 RX0 (some .int) rmX0_loudAt := C
  show V X g 0 0 0 [(0, .ref (ga g 1)), (1, .int s)] [] M
  refine x_aload_n C dX0_loudAt_0 rfl ?_
  refine x_getR C fl_X0_18 rfl (by decide) rfl dX0_loudAt_1 ?_
  refine x_iload_n C dX0_loudAt_4 rfl ?_
  refine x_iald C (n := 32) rfl (by decide) rfl (nI_tn hs.1) (tn31 hs) dX0_loudAt_5 ?_
  refine x_istore_n C (lo' := [(2, _), (0, _), (1, _)]) dX0_loudAt_6 (by decide) rfl ?_
  refine x_iload_n C dX0_loudAt_7 rfl ?_
  refine x_iconst C (v := (-1)) dX0_loudAt_8 (by decide) ?_
  refine x_icmp_ne C (tgt := 16) dX0_loudAt_9 (by decide) (fun c9 => ?_) (fun c9 => ?_)
  · have ho := (h.2.2.2.2.1 _ (tn31 hs)).resolve_left c9
    have ho9 := tn39 ho
    refine x_aload_n C dX0_loudAt_16 rfl ?_
    refine x_getR C fl_X0_39 rfl (by decide) rfl dX0_loudAt_17 ?_
    refine x_iload_n C dX0_loudAt_20 rfl ?_
    refine x_iald C (n := 40) rfl (by decide) rfl (nI_tn ho.1) (ho9) dX0_loudAt_21 ?_
    exact x_iret C hq ⟨by decide, by decide⟩ dX0_loudAt_22 (by first | (rw [if_pos c9]; done) | (rw [if_neg c9]; done)) (rfl)
  · refine x_iconst C (v := 0) dX0_loudAt_12 (by decide) ?_
    refine x_goto C (tgt := 22) dX0_loudAt_13 (by decide) ?_
    exact x_iret C hq ⟨by decide, by decide⟩ dX0_loudAt_22 (by first | (rw [if_pos c9]; done) | (rw [if_neg c9]; done)) (rfl)
abbrev rmX0_move : Room := { frames := 1, cells := 0, slots := 0, locals := 22 }
set_option maxHeartbeats 1000000 in
set_option maxRecDepth 100000 in
theorem q0_move1 (l : Launch) (g : GT) (M : Mem) (h : cOK 1 M) (k : Nat) (hk : k < 40) : CM l yX0_move cX0_move 4 none rmX0_move g M [.ref (ga g 1), .int (nI k)] (none) (cMove 1 M k) := by
  refine CM.of (by decide) (Nat.le_of_ble_eq_true rfl) (fun X C hq => ?_)
  have C : Cx X g l cX0_move 4 RX0 none rmX0_move := C
  show V X g 0 0 0 [(0, .ref (ga g 1)), (1, .int (nI k))] [] M
  refine x_aload_n C dX0_move_0 rfl ?_
  refine x_getR C fl_X0_42 rfl (by decide) rfl dX0_move_1 ?_
  refine x_iload_n C dX0_move_4 rfl ?_
  refine x_iald C (n := 40) rfl (by decide) rfl (rfl) ((by omega : k < 40)) dX0_move_5 ?_
  refine x_aload_n C dX0_move_6 rfl ?_
  refine x_getR C fl_X0_45 rfl (by decide) rfl dX0_move_7 ?_
  refine x_iload_n C dX0_move_10 rfl ?_
  refine x_iald C (n := 40) rfl (by decide) rfl (rfl) ((by omega : k < 40)) dX0_move_11 ?_
  refine x_iadd C dX0_move_12 ?_
  change V X g 0 0 _ _ (.int (cS 1 M k) :: _) M
  refine x_istore_n C (lo' := [(2, _), (0, _), (1, _)]) dX0_move_13 (by decide) rfl ?_
  refine x_iload_n C dX0_move_14 rfl ?_
  refine x_callSN0r C (q1_isStone l g _ _) cd_X1_isStone kl_X0_97 (as := [_]) rfl rfl ⟨⟨by decide, by decide⟩, by decide, by decide⟩ ⟨rfl, rfl⟩ (Nat.le_of_ble_eq_true rfl) dX0_move_15 ?_
  refine x_bif_ne C (tgt := 27) dX0_move_18 (by decide) (fun c18 => ?_) (fun c18 => ?_)
  · have hs := tn31 c18
    refine x_aload_n C dX0_move_27 rfl ?_
    refine x_getR C fl_X0_42 rfl (by decide) rfl dX0_move_28 ?_
    refine x_iload_n C dX0_move_31 rfl ?_
    refine x_iload_n C dX0_move_32 rfl ?_
    refine x_iast C (n := 40) rfl (by decide) rfl (rfl) ((by omega : k < 40)) dX0_move_33 ?_
    refine x_aload_n C dX0_move_34 rfl ?_
    refine x_getR C fl_X0_39 rfl (by decide) rfl dX0_move_35 ?_
    refine x_iload_n C dX0_move_38 rfl ?_
    refine x_dup2 C dX0_move_39 rfl rfl ?_
    refine x_iald C (n := 40) rfl (by decide) rfl (rfl) ((by omega : k < 40)) dX0_move_40 ?_
    refine x_iconst C (v := 1) dX0_move_41 (by decide) ?_
    refine x_aload_n C dX0_move_42 rfl ?_
    refine x_getR C fl_X0_9 rfl (by decide) rfl dX0_move_43 ?_
    refine x_iload_n C dX0_move_46 rfl ?_
    refine x_iald C (n := 32) rfl (by decide) rfl (nI_tn c18.1) (hs) dX0_move_47 ?_
    refine x_iadd C dX0_move_48 ?_
    refine x_isub C dX0_move_49 ?_
    refine x_iast C (n := 40) rfl (by decide) rfl (rfl) ((by omega : k < 40)) dX0_move_50 ?_
    refine x_mem (M' := cGo 1 M k (cS 1 M k)) rfl ?_
    refine x_aload_n C dX0_move_51 rfl ?_
    refine x_getR C fl_X0_15 rfl (by decide) rfl dX0_move_52 ?_
    refine x_iload_n C dX0_move_55 rfl ?_
    refine x_iald C (n := 32) rfl (by decide) rfl (nI_tn c18.1) (hs) dX0_move_56 ?_
    refine x_istore_n C (lo' := [(3, _), (2, _), (0, _), (1, _)]) dX0_move_57 (by decide) rfl ?_
    refine x_aload_n C dX0_move_58 rfl ?_
    refine x_getR C fl_X0_39 rfl (by decide) rfl dX0_move_59 ?_
    refine x_iload_n C dX0_move_62 rfl ?_
    refine x_iald C (n := 40) rfl (by decide) rfl (rfl) ((by omega : k < 40)) dX0_move_63 ?_
    refine x_if_le C (tgt := 78) dX0_move_64 (by decide) (fun c64 => ?_) (fun c64 => ?_)
    · first
        | refine x_mem (M' := cMv 1 M k (cS 1 M k)) rfl ?_
        | refine x_mem (M' := cMv 1 M k (cS 1 M k)) (show cGo 1 M k (cS 1 M k) = cMv 1 M k (cS 1 M k) from (if_neg (fun z => absurd c64 (Int32.not_le.mpr z.1))).symm) ?_
        | refine x_mem (M' := cMv 1 M k (cS 1 M k)) (show cGo 1 M k (cS 1 M k) = cMv 1 M k (cS 1 M k) from (if_neg (fun z => z.2 c69)).symm) ?_
      refine x_aload_n C dX0_move_78 rfl ?_
      refine x_getR C fl_X0_39 rfl (by decide) rfl dX0_move_79 ?_
      refine x_iload_n C dX0_move_82 rfl ?_
      refine x_iald C (n := 40) rfl (by decide) rfl (rfl) ((by omega : k < 40)) dX0_move_83 ?_
      refine x_if_gt C (tgt := 92) dX0_move_84 (by decide) (fun c84 => ?_) (fun c84 => ?_)
      · exact x_vret C hq ⟨by decide, by decide⟩ dX0_move_92 (rfl) ((if_pos c18).trans (by first | exact if_pos c84 | exact if_neg c84))
      · refine x_aload_n C dX0_move_87 rfl ?_
        refine x_iload_n C dX0_move_88 rfl ?_
        refine x_callV0v C (q0_hush1 l g _ k hk) cd_X0_hush kl_X0_101 ci0 rfl (by decide) (as := [_]) rfl rfl ⟨⟨by decide, by decide⟩, by decide, by decide⟩ ⟨rfl, rfl⟩ (Nat.le_of_ble_eq_true rfl) dX0_move_89 ?_
        exact x_vret C hq ⟨by decide, by decide⟩ dX0_move_92 (rfl) ((if_pos c18).trans (by first | exact if_pos c84 | exact if_neg c84))
    · skip
      refine x_iload_n C dX0_move_67 rfl ?_
      refine x_iconst C (v := (-1)) dX0_move_68 (by decide) ?_
      refine x_icmp_eq C (tgt := 78) dX0_move_69 (by decide) (fun c69 => ?_) (fun c69 => ?_)
      · first
          | refine x_mem (M' := cMv 1 M k (cS 1 M k)) rfl ?_
          | refine x_mem (M' := cMv 1 M k (cS 1 M k)) (show cGo 1 M k (cS 1 M k) = cMv 1 M k (cS 1 M k) from (if_neg (fun z => absurd c64 (Int32.not_le.mpr z.1))).symm) ?_
          | refine x_mem (M' := cMv 1 M k (cS 1 M k)) (show cGo 1 M k (cS 1 M k) = cMv 1 M k (cS 1 M k) from (if_neg (fun z => z.2 c69)).symm) ?_
        refine x_aload_n C dX0_move_78 rfl ?_
        refine x_getR C fl_X0_39 rfl (by decide) rfl dX0_move_79 ?_
        refine x_iload_n C dX0_move_82 rfl ?_
        refine x_iald C (n := 40) rfl (by decide) rfl (rfl) ((by omega : k < 40)) dX0_move_83 ?_
        refine x_if_gt C (tgt := 92) dX0_move_84 (by decide) (fun c84 => ?_) (fun c84 => ?_)
        · exact x_vret C hq ⟨by decide, by decide⟩ dX0_move_92 (rfl) ((if_pos c18).trans (by first | exact if_pos c84 | exact if_neg c84))
        · refine x_aload_n C dX0_move_87 rfl ?_
          refine x_iload_n C dX0_move_88 rfl ?_
          refine x_callV0v C (q0_hush1 l g _ k hk) cd_X0_hush kl_X0_101 ci0 rfl (by decide) (as := [_]) rfl rfl ⟨⟨by decide, by decide⟩, by decide, by decide⟩ ⟨rfl, rfl⟩ (Nat.le_of_ble_eq_true rfl) dX0_move_89 ?_
          exact x_vret C hq ⟨by decide, by decide⟩ dX0_move_92 (rfl) ((if_pos c18).trans (by first | exact if_pos c84 | exact if_neg c84))
      · have hg := h.mk (cGo_same 1 M k (cS 1 M k)) (cGo_s h.s k c18)
        have hw : 0 ≤ M 3 (tn (cS 1 M k)) ∧ M 3 (tn (cS 1 M k)) ≤ 9 := (h.2.2.1 _ hs).resolve_left c69
        have hw9 := tn9 hw
        have hwe : M 3 (tn (cS 1 M k)) = nI (tn (M 3 (tn (cS 1 M k)))) := nI_tn hw.1
        refine x_aload_n C dX0_move_72 rfl ?_
        refine x_iload_n C dX0_move_73 rfl ?_
        refine x_top (congrArg Value.int hwe) ?_
        refine x_iload_n C dX0_move_74 rfl ?_
        refine x_callV0v C (q0_turnAt1 l g _ hg (tn (M 3 (tn (cS 1 M k)))) k hw9 hk) cd_X0_turnAt kl_X0_104 ci0 rfl (by decide) (as := [_, _]) rfl rfl ⟨⟨by decide, by decide⟩, by decide, by decide⟩ ⟨rfl, rfl⟩ (Nat.le_of_ble_eq_true rfl) dX0_move_75 ?_
        have c64' := Int32.not_le.mp c64
        refine x_mem (M' := cMv 1 M k (cS 1 M k)) (show cTurn 1 (cGo 1 M k (cS 1 M k)) (tn (M 3 (tn (cS 1 M k)))) k = cMv 1 M k (cS 1 M k) from (if_pos ⟨c64', c69⟩).symm) ?_
        first
          | refine x_mem (M' := cMv 1 M k (cS 1 M k)) rfl ?_
          | refine x_mem (M' := cMv 1 M k (cS 1 M k)) (show cGo 1 M k (cS 1 M k) = cMv 1 M k (cS 1 M k) from (if_neg (fun z => absurd c64 (Int32.not_le.mpr z.1))).symm) ?_
          | refine x_mem (M' := cMv 1 M k (cS 1 M k)) (show cGo 1 M k (cS 1 M k) = cMv 1 M k (cS 1 M k) from (if_neg (fun z => z.2 c69)).symm) ?_
        refine x_aload_n C dX0_move_78 rfl ?_
        refine x_getR C fl_X0_39 rfl (by decide) rfl dX0_move_79 ?_
        refine x_iload_n C dX0_move_82 rfl ?_
        refine x_iald C (n := 40) rfl (by decide) rfl (rfl) ((by omega : k < 40)) dX0_move_83 ?_
        refine x_if_gt C (tgt := 92) dX0_move_84 (by decide) (fun c84 => ?_) (fun c84 => ?_)
        · exact x_vret C hq ⟨by decide, by decide⟩ dX0_move_92 (rfl) ((if_pos c18).trans (by first | exact if_pos c84 | exact if_neg c84))
        · refine x_aload_n C dX0_move_87 rfl ?_
          refine x_iload_n C dX0_move_88 rfl ?_
          refine x_callV0v C (q0_hush1 l g _ k hk) cd_X0_hush kl_X0_101 ci0 rfl (by decide) (as := [_]) rfl rfl ⟨⟨by decide, by decide⟩, by decide, by decide⟩ ⟨rfl, rfl⟩ (Nat.le_of_ble_eq_true rfl) dX0_move_89 ?_
          exact x_vret C hq ⟨by decide, by decide⟩ dX0_move_92 (rfl) ((if_pos c18).trans (by first | exact if_pos c84 | exact if_neg c84))
  · refine x_aload_n C dX0_move_21 rfl ?_
    refine x_iload_n C dX0_move_22 rfl ?_
    refine x_callV0v C (q0_hush1 l g _ k hk) cd_X0_hush kl_X0_101 ci0 rfl (by decide) (as := [_]) rfl rfl ⟨⟨by decide, by decide⟩, by decide, by decide⟩ ⟨rfl, rfl⟩ (Nat.le_of_ble_eq_true rfl) dX0_move_23 ?_
    exact x_vret C hq ⟨by decide, by decide⟩ dX0_move_26 (rfl) (if_neg c18)
abbrev rmX0_settle : Room := { frames := 1, cells := 0, slots := 0, locals := 21 }
set_option maxHeartbeats 1000000 in
set_option maxRecDepth 100000 in
theorem q0_settle1 (l : Launch) (g : GT) (M : Mem) (h : cOK 1 M) (k : Nat) (hk : k < 40) (hl : 0 < M 11 k) : CM l yX0_settle cX0_settle 4 none rmX0_settle g M [.ref (ga g 1), .int (nI k)] (none) (cSettle 1 M k) := by
  refine CM.of (by decide) (Nat.le_of_ble_eq_true rfl) (fun X C hq => ?_)
  have C : Cx X g l cX0_settle 4 RX0 none rmX0_settle := C
  show V X g 0 0 0 [(0, .ref (ga g 1)), (1, .int (nI k))] [] M
  have hp := h.2.2.2.2.2 k hk hl
  have hp9 := tn31 hp
  refine x_aload_n C dX0_settle_0 rfl ?_
  refine x_getR C fl_X0_42 rfl (by decide) rfl dX0_settle_1 ?_
  refine x_iload_n C dX0_settle_4 rfl ?_
  refine x_iald C (n := 40) rfl (by decide) rfl (rfl) ((by omega : k < 40)) dX0_settle_5 ?_
  refine x_istore_n C (lo' := [(2, _), (0, _), (1, _)]) dX0_settle_6 (by decide) rfl ?_
  refine x_aload_n C dX0_settle_7 rfl ?_
  refine x_getR C fl_X0_18 rfl (by decide) rfl dX0_settle_8 ?_
  refine x_iload_n C dX0_settle_11 rfl ?_
  refine x_iald C (n := 32) rfl (by decide) rfl (nI_tn hp.1) (hp9) dX0_settle_12 ?_
  refine x_istore_n C (lo' := [(3, _), (2, _), (0, _), (1, _)]) dX0_settle_13 (by decide) rfl ?_
  refine x_iload_n C dX0_settle_14 rfl ?_
  refine x_iconst C (v := (-1)) dX0_settle_15 (by decide) ?_
  refine x_icmp_ne C (tgt := 27) dX0_settle_16 (by decide) (fun c16 => ?_) (fun c16 => ?_)
  · have ho := (h.2.2.2.2.1 _ hp9).resolve_left c16
    have ho9 := tn39 ho
    refine x_aload_n C dX0_settle_27 rfl ?_
    refine x_dup C dX0_settle_28 rfl ?_
    refine x_getI C fl_X0_70 rfl (by decide) rfl dX0_settle_29 ?_
    refine x_iconst C (v := 1) dX0_settle_32 (by decide) ?_
    refine x_iadd C dX0_settle_33 ?_
    refine x_putI C fl_X0_70 rfl (by decide) rfl dX0_settle_34 ?_
    refine x_mem (M' := cOv 1 M) rfl ?_
    refine x_aload_n C dX0_settle_37 rfl ?_
    refine x_getR C fl_X0_39 rfl (by decide) rfl dX0_settle_38 ?_
    refine x_iload_n C dX0_settle_41 rfl ?_
    refine x_iald C (n := 40) rfl (by decide) rfl (rfl) ((by omega : k < 40)) dX0_settle_42 ?_
    refine x_aload_n C dX0_settle_43 rfl ?_
    refine x_getR C fl_X0_39 rfl (by decide) rfl dX0_settle_44 ?_
    refine x_iload_n C dX0_settle_47 rfl ?_
    refine x_iald C (n := 40) rfl (by decide) rfl (nI_tn ho.1) (ho9) dX0_settle_48 ?_
    refine x_icmp_le C (tgt := 67) dX0_settle_49 (by decide) (fun c49 => ?_) (fun c49 => ?_)
    · refine x_aload_n C dX0_settle_67 rfl ?_
      refine x_iload_n C dX0_settle_68 rfl ?_
      refine x_callV0v C (q0_hush1 l g _ k hk) cd_X0_hush kl_X0_101 ci0 rfl (by decide) (as := [_]) rfl rfl ⟨⟨by decide, by decide⟩, by decide, by decide⟩ ⟨rfl, rfl⟩ (Nat.le_of_ble_eq_true rfl) dX0_settle_69 ?_
      exact x_vret C hq ⟨by decide, by decide⟩ dX0_settle_72 (rfl) ((if_neg c16).trans (by first | (have z := Int32.not_le.mp c49; exact if_pos z) | (have z := Int32.not_lt.mpr c49; exact if_neg z)))
    · refine x_aload_n C dX0_settle_52 rfl ?_
      refine x_iload_n C dX0_settle_53 rfl ?_
      refine x_top (congrArg Value.int (nI_tn ho.1)) ?_
      refine x_callV0v C (q0_hush1 l g _ (tn (M 4 (tn (M 12 k)))) ho9) cd_X0_hush kl_X0_101 ci0 rfl (by decide) (as := [_]) rfl rfl ⟨⟨by decide, by decide⟩, by decide, by decide⟩ ⟨rfl, rfl⟩ (Nat.le_of_ble_eq_true rfl) dX0_settle_54 ?_
      refine x_aload_n C dX0_settle_57 rfl ?_
      refine x_getR C fl_X0_18 rfl (by decide) rfl dX0_settle_58 ?_
      refine x_iload_n C dX0_settle_61 rfl ?_
      refine x_iload_n C dX0_settle_62 rfl ?_
      refine x_iast C (n := 32) rfl (by decide) rfl (nI_tn hp.1) (hp9) dX0_settle_63 ?_
      refine x_goto C (tgt := 72) dX0_settle_64 (by decide) ?_
      exact x_vret C hq ⟨by decide, by decide⟩ dX0_settle_72 (rfl) ((if_neg c16).trans (by first | (have z := Int32.not_le.mp c49; exact if_pos z) | (have z := Int32.not_lt.mpr c49; exact if_neg z)))
  · refine x_aload_n C dX0_settle_19 rfl ?_
    refine x_getR C fl_X0_18 rfl (by decide) rfl dX0_settle_20 ?_
    refine x_iload_n C dX0_settle_23 rfl ?_
    refine x_iload_n C dX0_settle_24 rfl ?_
    refine x_iast C (n := 32) rfl (by decide) rfl (nI_tn hp.1) (hp9) dX0_settle_25 ?_
    exact x_vret C hq ⟨by decide, by decide⟩ dX0_settle_26 (rfl) (if_pos c16)
abbrev rmX0_meet : Room := { frames := 2, cells := 0, slots := 0, locals := 44 }
set_option maxHeartbeats 1000000 in
set_option maxRecDepth 100000 in
theorem q0_meet_lp1 {X : XT} {l : Launch} {g : GT} {M : Mem} (h : cOK 1 M) (C : Cx X g l cX0_meet 2 RX0 none rmX0_meet) (hq : Rt X g rmX0_meet none (cMeetL 1 M (cSh 1 M))) : ∀ (n i : Nat), i ≤ cSh 1 M → cSh 1 M + 1 ≤ i + n → V X g 0 0 10 [(1, .int (nI i)), (0, .ref (ga g 1))] [] (cMeetL 1 M i) := by
  intro n
  induction n with
  | zero =>
    intro i h1 h2; omega
  | succ n ih =>
    intro i h1 h2
    have hsh := h.sh
    have hki := h.mk (cMeetL_same 1 M i) (cMeetL_s h.s i (by omega))
    have e2 : cMeetL 1 M i 1 2 = M 1 2 := (cMeetL_same 1 M i).2.1
    refine x_iload_n C dX0_meet_10 rfl ?_
    refine x_aload_n C dX0_meet_11 rfl ?_
    refine x_getI C fl_X0_64 rfl (by decide) rfl dX0_meet_12 ?_
    refine x_icmp_ge C (tgt := 38) dX0_meet_15 (by decide) (fun c15 => ?_) (fun c15 => ?_)
    · rw [e2] at c15
      have he : i = cSh 1 M := Nat.le_antisymm h1 ((ge_tn h.2.1.1 (by omega)).mp c15)
      subst he
      exact x_vret C hq ⟨by decide, by decide⟩ dX0_meet_38 (rfl) (rfl)
    · rw [e2] at c15
      have hlt : i < cSh 1 M := lt_of_nge h.2.1.1 (by omega) c15
      refine x_aload_n C dX0_meet_18 rfl ?_
      refine x_getR C fl_X0_39 rfl (by decide) rfl dX0_meet_19 ?_
      refine x_iload_n C dX0_meet_22 rfl ?_
      refine x_iald C (n := 40) rfl (by decide) rfl (rfl) ((by omega : i < 40)) dX0_meet_23 ?_
      refine x_if_le C (tgt := 32) dX0_meet_24 (by decide) (fun c24 => ?_) (fun c24 => ?_)
      · refine x_iinc C (v := nI (i + 1)) (lo' := [(1, _), (0, _)]) dX0_meet_32 rfl (nI_inc _) (by decide) rfl ?_
        refine x_goto C (tgt := 10) dX0_meet_35 (by decide) ?_
        first
          | exact x_mem (show cMeetL 1 M (i + 1) = _ from if_pos z24).symm (ih (i + 1) hlt (by omega))
          | exact x_mem (show cMeetL 1 M (i + 1) = _ from if_neg (Int32.not_lt.mpr c24)).symm (ih (i + 1) hlt (by omega))
      · have z24 := Int32.not_le.mp c24
        refine x_aload_n C dX0_meet_27 rfl ?_
        refine x_iload_n C dX0_meet_28 rfl ?_
        refine x_callV0v C (q0_settle1 l g _ hki i (by omega) z24) cd_X0_settle kl_X0_108 ci0 rfl (by decide) (as := [_]) rfl rfl ⟨⟨by decide, by decide⟩, by decide, by decide⟩ ⟨rfl, rfl⟩ (Nat.le_of_ble_eq_true rfl) dX0_meet_29 ?_
        refine x_iinc C (v := nI (i + 1)) (lo' := [(1, _), (0, _)]) dX0_meet_32 rfl (nI_inc _) (by decide) rfl ?_
        refine x_goto C (tgt := 10) dX0_meet_35 (by decide) ?_
        first
          | exact x_mem (show cMeetL 1 M (i + 1) = _ from if_pos z24).symm (ih (i + 1) hlt (by omega))
          | exact x_mem (show cMeetL 1 M (i + 1) = _ from if_neg (Int32.not_lt.mpr c24)).symm (ih (i + 1) hlt (by omega))
set_option maxHeartbeats 1000000 in
set_option maxRecDepth 100000 in
theorem q0_meet1 (l : Launch) (g : GT) (M : Mem) (h : cOK 1 M) : CM l yX0_meet cX0_meet 2 none rmX0_meet g M [.ref (ga g 1)] (none) (cMeetL 1 M (cSh 1 M)) := by
  refine CM.of (by decide) (Nat.le_of_ble_eq_true rfl) (fun X C hq => ?_)
  have C : Cx X g l cX0_meet 2 RX0 none rmX0_meet := C
  show V X g 0 0 0 [(0, .ref (ga g 1))] [] M
  refine x_aload_n C dX0_meet_0 rfl ?_
  refine x_getR C fl_X0_18 rfl (by decide) rfl dX0_meet_1 ?_
  refine x_iconst C (v := (-1)) dX0_meet_4 (by decide) ?_
  refine x_callS0v C (q7_fill4 l g _ (-1)) cd_J7_fill_53178 kl_X0_51 (as := [_, _]) rfl rfl ⟨⟨by decide, by decide⟩, by decide, by decide⟩ ⟨rfl, rfl⟩ (Nat.le_of_ble_eq_true rfl) dX0_meet_5 ?_
  refine x_iconst C (v := 0) dX0_meet_8 (by decide) ?_
  refine x_istore_n C (lo' := [(1, _), (0, _)]) dX0_meet_9 (by decide) rfl ?_
  exact x_mem (M' := cMeetL 1 M 0) rfl (q0_meet_lp1 h C hq (cSh 1 M + 1) 0 (Nat.zero_le _) (by omega))
abbrev rmX0_loseWall : Room := { frames := 1, cells := 0, slots := 0, locals := 20 }
set_option maxHeartbeats 1000000 in
set_option maxRecDepth 100000 in
theorem q0_lose_lp1 {X : XT} {l : Launch} {g : GT} {M M' : Mem} {e : Nat} (h : cOK 1 M) (C : Cx X g l cX0_loseWall 3 RX0 none rmX0_loseWall) (hq : Rt X g rmX0_loseWall none M') : ∀ (n w : Nat), w + n = cWs 1 M → cLW 1 M e n w = M' → V X g 0 0 2 [(2, .int (nI w)), (0, .ref (ga g 1)), (1, .int (nI e))] [] M := by
  have hws := h.ws
  intro n
  induction n with
  | zero =>
    intro w h1 hr
    refine x_iload_n C dX0_loseWall_2 rfl ?_
    refine x_aload_n C dX0_loseWall_3 rfl ?_
    refine x_getI C fl_X0_61 rfl (by decide) rfl dX0_loseWall_4 ?_
    refine x_icmp_ge C (tgt := 47) dX0_loseWall_7 (by decide) (fun c7 => ?_) (fun c7 => absurd ((ge_tn h.1.1 (by omega)).mpr (show cWs 1 M ≤ w by omega)) c7)
    exact x_vret C hq ⟨by decide, by decide⟩ dX0_loseWall_47 (rfl) (hr.symm)
  | succ n ih =>
    intro w h1 hr
    refine x_iload_n C dX0_loseWall_2 rfl ?_
    refine x_aload_n C dX0_loseWall_3 rfl ?_
    refine x_getI C fl_X0_61 rfl (by decide) rfl dX0_loseWall_4 ?_
    refine x_icmp_ge C (tgt := 47) dX0_loseWall_7 (by decide) (fun c7 => ?_) (fun c7 => ?_)
    · exfalso; have hq9 : cWs 1 M ≤ w := (ge_tn h.1.1 (by omega)).mp c7; omega
    · refine x_aload_n C dX0_loseWall_10 rfl ?_
      refine x_getR C fl_X0_24 rfl (by decide) rfl dX0_loseWall_11 ?_
      refine x_iload_n C dX0_loseWall_14 rfl ?_
      refine x_iald C (n := 10) rfl (by decide) rfl (rfl) ((by omega : w < 10)) dX0_loseWall_15 ?_
      refine x_iload_n C dX0_loseWall_16 rfl ?_
      refine x_icmp_ne C (tgt := 41) dX0_loseWall_17 (by decide) (fun c17 => ?_) (fun c17 => ?_)
      · refine x_iinc C (v := nI (w + 1)) (lo' := [(2, _), (0, _), (1, _)]) dX0_loseWall_41 rfl (nI_inc _) (by decide) rfl ?_
        refine x_goto C (tgt := 2) dX0_loseWall_44 (by decide) ?_
        exact ih (w + 1) (by omega) ((if_neg c17).symm.trans hr)
      · refine x_aload_n C dX0_loseWall_20 rfl ?_
        refine x_getR C fl_X0_24 rfl (by decide) rfl dX0_loseWall_21 ?_
        refine x_iload_n C dX0_loseWall_24 rfl ?_
        refine x_iload_n C dX0_loseWall_25 rfl ?_
        refine x_callSN0r C (q1_otherEcho l g _ _) cd_X1_otherEcho kl_X0_114 (as := [_]) rfl rfl ⟨⟨by decide, by decide⟩, by decide, by decide⟩ ⟨rfl, rfl⟩ (Nat.le_of_ble_eq_true rfl) dX0_loseWall_26 ?_
        refine x_iast C (n := 10) rfl (by decide) rfl (rfl) ((by omega : w < 10)) dX0_loseWall_29 ?_
        refine x_aload_n C dX0_loseWall_30 rfl ?_
        refine x_dup C dX0_loseWall_31 rfl ?_
        refine x_getI C fl_X0_73 rfl (by decide) rfl dX0_loseWall_32 ?_
        refine x_iconst C (v := 1) dX0_loseWall_35 (by decide) ?_
        refine x_iadd C dX0_loseWall_36 ?_
        refine x_putI C fl_X0_73 rfl (by decide) rfl dX0_loseWall_37 ?_
        exact x_vret C hq ⟨by decide, by decide⟩ dX0_loseWall_40 (rfl) (hr.symm.trans (if_pos c17))
set_option maxHeartbeats 1000000 in
set_option maxRecDepth 100000 in
theorem q0_loseWall1 (l : Launch) (g : GT) (M : Mem) (h : cOK 1 M) (e : Nat) : CM l yX0_loseWall cX0_loseWall 3 none rmX0_loseWall g M [.ref (ga g 1), .int (nI e)] (none) (cLW 1 M e (cWs 1 M) 0) := by
  refine CM.of (by decide) (Nat.le_of_ble_eq_true rfl) (fun X C hq => ?_)
  have C : Cx X g l cX0_loseWall 3 RX0 none rmX0_loseWall := C
  show V X g 0 0 0 [(0, .ref (ga g 1)), (1, .int (nI e))] [] M
  refine x_iconst C (v := 0) dX0_loseWall_0 (by decide) ?_
  refine x_istore_n C (lo' := [(2, _), (0, _), (1, _)]) dX0_loseWall_1 (by decide) rfl ?_
  exact q0_lose_lp1 h C hq (cWs 1 M) 0 (Nat.zero_add _) rfl
abbrev rmX0_listen : Room := { frames := 2, cells := 0, slots := 0, locals := 42 }
set_option maxHeartbeats 1000000 in
set_option maxRecDepth 100000 in
theorem q0_listen1 (l : Launch) (g : GT) (M : Mem) (h : cOK 1 M) (e : Nat) (he : e < 2) (p : Int32) : CM l yX0_listen cX0_listen 3 none rmX0_listen g M [.ref (ga g 1), .int (nI e), .int p] (none) (cListen 1 M e p) := by
  refine CM.of (by decide) (Nat.le_of_ble_eq_true rfl) (fun X C hq => ?_)
  have C : Cx X g l cX0_listen 3 RX0 none rmX0_listen := C
  show V X g 0 0 0 [(0, .ref (ga g 1)), (1, .int (nI e)), (2, .int p)] [] M
  refine x_aload_n C dX0_listen_0 rfl ?_
  refine x_getR C fl_X0_36 rfl (by decide) rfl dX0_listen_1 ?_
  refine x_iload_n C dX0_listen_4 rfl ?_
  refine x_iload_n C dX0_listen_5 rfl ?_
  refine x_if_eq C (tgt := 13) dX0_listen_6 (by decide) (fun c6 => ?_) (fun c6 => ?_)
  · refine x_aload_n C dX0_listen_13 rfl ?_
    refine x_getR C fl_X0_36 rfl (by decide) rfl dX0_listen_14 ?_
    refine x_iload_n C dX0_listen_17 rfl ?_
    refine x_iald C (n := 2) rfl (by decide) rfl (rfl) ((by omega : e < 2)) dX0_listen_18 ?_
    refine x_iconst C (v := 1) dX0_listen_19 (by decide) ?_
    refine x_iadd C dX0_listen_20 ?_
    refine x_iast C (n := 2) rfl (by decide) rfl (rfl) ((by omega : e < 2)) dX0_listen_21 ?_
    first
      | refine x_mem (M' := cSil 1 M e p) (by unfold cSil; rw [if_pos c6]) ?_
      | refine x_mem (M' := cSil 1 M e p) (by unfold cSil; rw [if_neg c6]) ?_
    refine x_aload_n C dX0_listen_22 rfl ?_
    refine x_getR C fl_X0_36 rfl (by decide) rfl dX0_listen_23 ?_
    refine x_iload_n C dX0_listen_26 rfl ?_
    refine x_iald C (n := 2) rfl (by decide) rfl (rfl) ((by omega : e < 2)) dX0_listen_27 ?_
    refine x_bipush C (v := 12) dX0_listen_28 (by decide) ?_
    refine x_icmp_ne C (tgt := 45) dX0_listen_30 (by decide) (fun c30 => ?_) (fun c30 => ?_)
    · exact x_vret C hq ⟨by decide, by decide⟩ dX0_listen_45 (rfl) (by first | exact if_neg c30 | exact if_pos c30)
    · refine x_aload_n C dX0_listen_33 rfl ?_
      refine x_getR C fl_X0_36 rfl (by decide) rfl dX0_listen_34 ?_
      refine x_iload_n C dX0_listen_37 rfl ?_
      refine x_iconst C (v := 0) dX0_listen_38 (by decide) ?_
      refine x_iast C (n := 2) rfl (by decide) rfl (rfl) ((by omega : e < 2)) dX0_listen_39 ?_
      refine x_aload_n C dX0_listen_40 rfl ?_
      refine x_iload_n C dX0_listen_41 rfl ?_
      refine x_callV0v C (q0_loseWall1 l g _ (show cOK 1 (wr (wr M 10 e _) 10 e 0) from h.at9.at9) e) cd_X0_loseWall kl_X0_111 ci0 rfl (by decide) (as := [_]) rfl rfl ⟨⟨by decide, by decide⟩, by decide, by decide⟩ ⟨rfl, rfl⟩ (Nat.le_of_ble_eq_true rfl) dX0_listen_42 ?_
      exact x_vret C hq ⟨by decide, by decide⟩ dX0_listen_45 (rfl) (by first | exact if_neg c30 | exact if_pos c30)
  · refine x_iconst C (v := 0) dX0_listen_9 (by decide) ?_
    refine x_goto C (tgt := 21) dX0_listen_10 (by decide) ?_
    refine x_iast C (n := 2) rfl (by decide) rfl (rfl) ((by omega : e < 2)) dX0_listen_21 ?_
    first
      | refine x_mem (M' := cSil 1 M e p) (by unfold cSil; rw [if_pos c6]) ?_
      | refine x_mem (M' := cSil 1 M e p) (by unfold cSil; rw [if_neg c6]) ?_
    refine x_aload_n C dX0_listen_22 rfl ?_
    refine x_getR C fl_X0_36 rfl (by decide) rfl dX0_listen_23 ?_
    refine x_iload_n C dX0_listen_26 rfl ?_
    refine x_iald C (n := 2) rfl (by decide) rfl (rfl) ((by omega : e < 2)) dX0_listen_27 ?_
    refine x_bipush C (v := 12) dX0_listen_28 (by decide) ?_
    refine x_icmp_ne C (tgt := 45) dX0_listen_30 (by decide) (fun c30 => ?_) (fun c30 => ?_)
    · exact x_vret C hq ⟨by decide, by decide⟩ dX0_listen_45 (rfl) (by first | exact if_neg c30 | exact if_pos c30)
    · refine x_aload_n C dX0_listen_33 rfl ?_
      refine x_getR C fl_X0_36 rfl (by decide) rfl dX0_listen_34 ?_
      refine x_iload_n C dX0_listen_37 rfl ?_
      refine x_iconst C (v := 0) dX0_listen_38 (by decide) ?_
      refine x_iast C (n := 2) rfl (by decide) rfl (rfl) ((by omega : e < 2)) dX0_listen_39 ?_
      refine x_aload_n C dX0_listen_40 rfl ?_
      refine x_iload_n C dX0_listen_41 rfl ?_
      refine x_callV0v C (q0_loseWall1 l g _ (show cOK 1 (wr (wr M 10 e _) 10 e 0) from h.at9.at9) e) cd_X0_loseWall kl_X0_111 ci0 rfl (by decide) (as := [_]) rfl rfl ⟨⟨by decide, by decide⟩, by decide, by decide⟩ ⟨rfl, rfl⟩ (Nat.le_of_ble_eq_true rfl) dX0_listen_42 ?_
      exact x_vret C hq ⟨by decide, by decide⟩ dX0_listen_45 (rfl) (by first | exact if_neg c30 | exact if_pos c30)
abbrev rmX0_goOn : Room := { frames := 3, cells := 0, slots := 0, locals := 65 }
set_option maxHeartbeats 1000000 in
set_option maxRecDepth 100000 in
theorem q0_goOn_lp1 {X : XT} {l : Launch} {g : GT} {M : Mem} (h : cOK 1 M) (C : Cx X g l cX0_goOn 4 RX0 none rmX0_goOn) (hq : Rt X g rmX0_goOn none (cBeat 1 M)) : ∀ (n i : Nat), i ≤ cSh 1 M → cSh 1 M + 1 ≤ i + n → V X g 0 0 16 [(3, .int (nI i)), (2, .int (M 9 1)), (1, .int (M 9 0)), (0, .ref (ga g 1))] [] (cMoveL 1 M i) := by
  intro n
  induction n with
  | zero =>
    intro i h1 h2; omega
  | succ n ih =>
    intro i h1 h2
    have hsh := h.sh
    have hki := h.mk (cMoveL_same 1 M i) (cMoveL_s h.s i)
    have e2 : cMoveL 1 M i 1 2 = M 1 2 := (cMoveL_same 1 M i).2.1
    refine x_iload_n C dX0_goOn_16 rfl ?_
    refine x_aload_n C dX0_goOn_17 rfl ?_
    refine x_getI C fl_X0_64 rfl (by decide) rfl dX0_goOn_18 ?_
    refine x_icmp_ge C (tgt := 44) dX0_goOn_21 (by decide) (fun c21 => ?_) (fun c21 => ?_)
    · rw [e2] at c21
      have he : i = cSh 1 M := Nat.le_antisymm h1 ((ge_tn h.2.1.1 (by omega)).mp c21)
      subst he
      refine x_mem (M' := cB1 1 M) rfl ?_
      refine x_aload_n C dX0_goOn_44 rfl ?_
      refine x_callV0v C (q0_meet1 l g _ (cB1_ok h).1) cd_X0_meet kl_X0_90 ci0 rfl (by decide) (as := []) rfl rfl ⟨⟨by decide, by decide⟩, by decide, by decide⟩ ⟨rfl, rfl⟩ (Nat.le_of_ble_eq_true rfl) dX0_goOn_45 ?_
      refine x_mem (M' := cB2 1 M) (by unfold cB2; rw [show cSh 1 (cB1 1 M) = cSh 1 M from congrArg tn (cB1_ok h).2.2.1]) ?_
      refine x_aload_n C dX0_goOn_48 rfl ?_
      refine x_iconst C (v := 0) dX0_goOn_49 (by decide) ?_
      refine x_aload_n C dX0_goOn_50 rfl ?_
      refine x_getR C fl_X0_33 rfl (by decide) rfl dX0_goOn_51 ?_
      refine x_iconst C (v := 0) dX0_goOn_54 (by decide) ?_
      refine x_iald C (n := 2) rfl (by decide) rfl (rfl) ((by decide : 0 < 2)) dX0_goOn_55 ?_
      refine x_iload_n C dX0_goOn_56 rfl ?_
      refine x_icmp_le C (tgt := 64) dX0_goOn_57 (by decide) (fun c57 => ?_) (fun c57 => ?_)
      · refine x_iconst C (v := 0) dX0_goOn_64 (by decide) ?_
        refine x_top (v' := .int (b2i (M 9 0 < cB2 1 M 9 0))) (by first | (have z := Int32.not_le.mp c57; rw [b2i_t z]; done) | (have z := Int32.not_lt.mpr c57; rw [b2i_f z]; done)) ?_
        refine x_callV0v C (q0_listen1 l g _ (cB2_ok h).1 0 (by decide) _) cd_X0_listen kl_X0_93 ci0 rfl (by decide) (as := [_, _]) rfl rfl ⟨⟨by decide, by decide⟩, by decide, by decide⟩ ⟨rfl, rfl⟩ (Nat.le_of_ble_eq_true rfl) dX0_goOn_65 ?_
        refine x_mem (M' := cB3 1 M) rfl ?_
        refine x_aload_n C dX0_goOn_68 rfl ?_
        refine x_iconst C (v := 1) dX0_goOn_69 (by decide) ?_
        refine x_aload_n C dX0_goOn_70 rfl ?_
        refine x_getR C fl_X0_33 rfl (by decide) rfl dX0_goOn_71 ?_
        refine x_iconst C (v := 1) dX0_goOn_74 (by decide) ?_
        refine x_iald C (n := 2) rfl (by decide) rfl (rfl) ((by decide : 1 < 2)) dX0_goOn_75 ?_
        refine x_iload_n C dX0_goOn_76 rfl ?_
        refine x_icmp_le C (tgt := 84) dX0_goOn_77 (by decide) (fun c77 => ?_) (fun c77 => ?_)
        · refine x_iconst C (v := 0) dX0_goOn_84 (by decide) ?_
          refine x_top (v' := .int (b2i (M 9 1 < cB3 1 M 9 1))) (by first | (have z := Int32.not_le.mp c77; rw [b2i_t z]; done) | (have z := Int32.not_lt.mpr c77; rw [b2i_f z]; done)) ?_
          refine x_callV0v C (q0_listen1 l g _ (cB3_ok h).1 1 (by decide) _) cd_X0_listen kl_X0_93 ci0 rfl (by decide) (as := [_, _]) rfl rfl ⟨⟨by decide, by decide⟩, by decide, by decide⟩ ⟨rfl, rfl⟩ (Nat.le_of_ble_eq_true rfl) dX0_goOn_85 ?_
          refine x_mem (M' := cB4 1 M) rfl ?_
          refine x_aload_n C dX0_goOn_88 rfl ?_
          refine x_dup C dX0_goOn_89 rfl ?_
          refine x_getI C fl_X0_57 rfl (by decide) rfl dX0_goOn_90 ?_
          refine x_iconst C (v := 1) dX0_goOn_93 (by decide) ?_
          refine x_iadd C dX0_goOn_94 ?_
          refine x_putI C fl_X0_57 rfl (by decide) rfl dX0_goOn_95 ?_
          exact x_vret C hq ⟨by decide, by decide⟩ dX0_goOn_98 (rfl) (rfl)
        · refine x_iconst C (v := 1) dX0_goOn_80 (by decide) ?_
          refine x_goto C (tgt := 85) dX0_goOn_81 (by decide) ?_
          refine x_top (v' := .int (b2i (M 9 1 < cB3 1 M 9 1))) (by first | (have z := Int32.not_le.mp c77; rw [b2i_t z]; done) | (have z := Int32.not_lt.mpr c77; rw [b2i_f z]; done)) ?_
          refine x_callV0v C (q0_listen1 l g _ (cB3_ok h).1 1 (by decide) _) cd_X0_listen kl_X0_93 ci0 rfl (by decide) (as := [_, _]) rfl rfl ⟨⟨by decide, by decide⟩, by decide, by decide⟩ ⟨rfl, rfl⟩ (Nat.le_of_ble_eq_true rfl) dX0_goOn_85 ?_
          refine x_mem (M' := cB4 1 M) rfl ?_
          refine x_aload_n C dX0_goOn_88 rfl ?_
          refine x_dup C dX0_goOn_89 rfl ?_
          refine x_getI C fl_X0_57 rfl (by decide) rfl dX0_goOn_90 ?_
          refine x_iconst C (v := 1) dX0_goOn_93 (by decide) ?_
          refine x_iadd C dX0_goOn_94 ?_
          refine x_putI C fl_X0_57 rfl (by decide) rfl dX0_goOn_95 ?_
          exact x_vret C hq ⟨by decide, by decide⟩ dX0_goOn_98 (rfl) (rfl)
      · refine x_iconst C (v := 1) dX0_goOn_60 (by decide) ?_
        refine x_goto C (tgt := 65) dX0_goOn_61 (by decide) ?_
        refine x_top (v' := .int (b2i (M 9 0 < cB2 1 M 9 0))) (by first | (have z := Int32.not_le.mp c57; rw [b2i_t z]; done) | (have z := Int32.not_lt.mpr c57; rw [b2i_f z]; done)) ?_
        refine x_callV0v C (q0_listen1 l g _ (cB2_ok h).1 0 (by decide) _) cd_X0_listen kl_X0_93 ci0 rfl (by decide) (as := [_, _]) rfl rfl ⟨⟨by decide, by decide⟩, by decide, by decide⟩ ⟨rfl, rfl⟩ (Nat.le_of_ble_eq_true rfl) dX0_goOn_65 ?_
        refine x_mem (M' := cB3 1 M) rfl ?_
        refine x_aload_n C dX0_goOn_68 rfl ?_
        refine x_iconst C (v := 1) dX0_goOn_69 (by decide) ?_
        refine x_aload_n C dX0_goOn_70 rfl ?_
        refine x_getR C fl_X0_33 rfl (by decide) rfl dX0_goOn_71 ?_
        refine x_iconst C (v := 1) dX0_goOn_74 (by decide) ?_
        refine x_iald C (n := 2) rfl (by decide) rfl (rfl) ((by decide : 1 < 2)) dX0_goOn_75 ?_
        refine x_iload_n C dX0_goOn_76 rfl ?_
        refine x_icmp_le C (tgt := 84) dX0_goOn_77 (by decide) (fun c77 => ?_) (fun c77 => ?_)
        · refine x_iconst C (v := 0) dX0_goOn_84 (by decide) ?_
          refine x_top (v' := .int (b2i (M 9 1 < cB3 1 M 9 1))) (by first | (have z := Int32.not_le.mp c77; rw [b2i_t z]; done) | (have z := Int32.not_lt.mpr c77; rw [b2i_f z]; done)) ?_
          refine x_callV0v C (q0_listen1 l g _ (cB3_ok h).1 1 (by decide) _) cd_X0_listen kl_X0_93 ci0 rfl (by decide) (as := [_, _]) rfl rfl ⟨⟨by decide, by decide⟩, by decide, by decide⟩ ⟨rfl, rfl⟩ (Nat.le_of_ble_eq_true rfl) dX0_goOn_85 ?_
          refine x_mem (M' := cB4 1 M) rfl ?_
          refine x_aload_n C dX0_goOn_88 rfl ?_
          refine x_dup C dX0_goOn_89 rfl ?_
          refine x_getI C fl_X0_57 rfl (by decide) rfl dX0_goOn_90 ?_
          refine x_iconst C (v := 1) dX0_goOn_93 (by decide) ?_
          refine x_iadd C dX0_goOn_94 ?_
          refine x_putI C fl_X0_57 rfl (by decide) rfl dX0_goOn_95 ?_
          exact x_vret C hq ⟨by decide, by decide⟩ dX0_goOn_98 (rfl) (rfl)
        · refine x_iconst C (v := 1) dX0_goOn_80 (by decide) ?_
          refine x_goto C (tgt := 85) dX0_goOn_81 (by decide) ?_
          refine x_top (v' := .int (b2i (M 9 1 < cB3 1 M 9 1))) (by first | (have z := Int32.not_le.mp c77; rw [b2i_t z]; done) | (have z := Int32.not_lt.mpr c77; rw [b2i_f z]; done)) ?_
          refine x_callV0v C (q0_listen1 l g _ (cB3_ok h).1 1 (by decide) _) cd_X0_listen kl_X0_93 ci0 rfl (by decide) (as := [_, _]) rfl rfl ⟨⟨by decide, by decide⟩, by decide, by decide⟩ ⟨rfl, rfl⟩ (Nat.le_of_ble_eq_true rfl) dX0_goOn_85 ?_
          refine x_mem (M' := cB4 1 M) rfl ?_
          refine x_aload_n C dX0_goOn_88 rfl ?_
          refine x_dup C dX0_goOn_89 rfl ?_
          refine x_getI C fl_X0_57 rfl (by decide) rfl dX0_goOn_90 ?_
          refine x_iconst C (v := 1) dX0_goOn_93 (by decide) ?_
          refine x_iadd C dX0_goOn_94 ?_
          refine x_putI C fl_X0_57 rfl (by decide) rfl dX0_goOn_95 ?_
          exact x_vret C hq ⟨by decide, by decide⟩ dX0_goOn_98 (rfl) (rfl)
    · rw [e2] at c21
      have hlt : i < cSh 1 M := lt_of_nge h.2.1.1 (by omega) c21
      refine x_aload_n C dX0_goOn_24 rfl ?_
      refine x_getR C fl_X0_39 rfl (by decide) rfl dX0_goOn_25 ?_
      refine x_iload_n C dX0_goOn_28 rfl ?_
      refine x_iald C (n := 40) rfl (by decide) rfl (rfl) ((by omega : i < 40)) dX0_goOn_29 ?_
      refine x_if_le C (tgt := 38) dX0_goOn_30 (by decide) (fun c30 => ?_) (fun c30 => ?_)
      · refine x_iinc C (v := nI (i + 1)) (lo' := [(3, _), (2, _), (1, _), (0, _)]) dX0_goOn_38 rfl (nI_inc _) (by decide) rfl ?_
        refine x_goto C (tgt := 16) dX0_goOn_41 (by decide) ?_
        first
          | exact x_mem (show cMoveL 1 M (i + 1) = _ from if_pos z30).symm (ih (i + 1) hlt (by omega))
          | exact x_mem (show cMoveL 1 M (i + 1) = _ from if_neg (Int32.not_lt.mpr c30)).symm (ih (i + 1) hlt (by omega))
      · have z30 := Int32.not_le.mp c30
        refine x_aload_n C dX0_goOn_33 rfl ?_
        refine x_iload_n C dX0_goOn_34 rfl ?_
        refine x_callV0v C (q0_move1 l g _ hki i (by omega)) cd_X0_move kl_X0_86 ci0 rfl (by decide) (as := [_]) rfl rfl ⟨⟨by decide, by decide⟩, by decide, by decide⟩ ⟨rfl, rfl⟩ (Nat.le_of_ble_eq_true rfl) dX0_goOn_35 ?_
        refine x_iinc C (v := nI (i + 1)) (lo' := [(3, _), (2, _), (1, _), (0, _)]) dX0_goOn_38 rfl (nI_inc _) (by decide) rfl ?_
        refine x_goto C (tgt := 16) dX0_goOn_41 (by decide) ?_
        first
          | exact x_mem (show cMoveL 1 M (i + 1) = _ from if_pos z30).symm (ih (i + 1) hlt (by omega))
          | exact x_mem (show cMoveL 1 M (i + 1) = _ from if_neg (Int32.not_lt.mpr c30)).symm (ih (i + 1) hlt (by omega))
set_option maxHeartbeats 1000000 in
set_option maxRecDepth 100000 in
theorem q0_goOn1 (l : Launch) (g : GT) (M : Mem) (h : cOK 1 M) : CM l yX0_goOn cX0_goOn 4 none rmX0_goOn g M [.ref (ga g 1)] (none) (cBeat 1 M) := by
  refine CM.of (by decide) (Nat.le_of_ble_eq_true rfl) (fun X C hq => ?_)
  have C : Cx X g l cX0_goOn 4 RX0 none rmX0_goOn := C
  show V X g 0 0 0 [(0, .ref (ga g 1))] [] M
  refine x_aload_n C dX0_goOn_0 rfl ?_
  refine x_getR C fl_X0_33 rfl (by decide) rfl dX0_goOn_1 ?_
  refine x_iconst C (v := 0) dX0_goOn_4 (by decide) ?_
  refine x_iald C (n := 2) rfl (by decide) rfl (rfl) ((by decide : 0 < 2)) dX0_goOn_5 ?_
  refine x_istore_n C (lo' := [(1, _), (0, _)]) dX0_goOn_6 (by decide) rfl ?_
  refine x_aload_n C dX0_goOn_7 rfl ?_
  refine x_getR C fl_X0_33 rfl (by decide) rfl dX0_goOn_8 ?_
  refine x_iconst C (v := 1) dX0_goOn_11 (by decide) ?_
  refine x_iald C (n := 2) rfl (by decide) rfl (rfl) ((by decide : 1 < 2)) dX0_goOn_12 ?_
  refine x_istore_n C (lo' := [(2, _), (1, _), (0, _)]) dX0_goOn_13 (by decide) rfl ?_
  refine x_iconst C (v := 0) dX0_goOn_14 (by decide) ?_
  refine x_istore_n C (lo' := [(3, _), (2, _), (1, _), (0, _)]) dX0_goOn_15 (by decide) rfl ?_
  exact q0_goOn_lp1 h C hq (cSh 1 M + 1) 0 (Nat.zero_le _) (by omega)
set_option maxHeartbeats 1000000 in
set_option maxRecDepth 100000 in
theorem q0_hush15 (l : Launch) (g : GT) (M : Mem) (k : Nat) (hk : k < 40) : CM l yX0_hush cX0_hush 2 none rmX0_hush g M [.ref (ga g 15), .int (nI k)] (none) (cHush 15 M k) := by
  refine CM.of (by decide) (Nat.le_of_ble_eq_true rfl) (fun X C hq => ?_)
  have C : Cx X g l cX0_hush 2 RX0 none rmX0_hush := C
  show V X g 0 0 0 [(0, .ref (ga g 15)), (1, .int (nI k))] [] M
  refine x_aload_n C dX0_hush_0 rfl ?_
  refine x_getR C fl_X0_39 rfl (by decide) rfl dX0_hush_1 ?_
  refine x_iload_n C dX0_hush_4 rfl ?_
  refine x_iconst C (v := 0) dX0_hush_5 (by decide) ?_
  refine x_iast C (n := 40) rfl (by decide) rfl (rfl) ((by omega : k < 40)) dX0_hush_6 ?_
  refine x_aload_n C dX0_hush_7 rfl ?_
  refine x_getR C fl_X0_42 rfl (by decide) rfl dX0_hush_8 ?_
  refine x_iload_n C dX0_hush_11 rfl ?_
  refine x_iconst C (v := (-1)) dX0_hush_12 (by decide) ?_
  refine x_iast C (n := 40) rfl (by decide) rfl (rfl) ((by omega : k < 40)) dX0_hush_13 ?_
  refine x_aload_n C dX0_hush_14 rfl ?_
  refine x_getR C fl_X0_45 rfl (by decide) rfl dX0_hush_15 ?_
  refine x_iload_n C dX0_hush_18 rfl ?_
  refine x_iconst C (v := 0) dX0_hush_19 (by decide) ?_
  refine x_iast C (n := 40) rfl (by decide) rfl (rfl) ((by omega : k < 40)) dX0_hush_20 ?_
  refine x_aload_n C dX0_hush_21 rfl ?_
  refine x_dup C dX0_hush_22 rfl ?_
  refine x_getI C fl_X0_67 rfl (by decide) rfl dX0_hush_23 ?_
  refine x_iconst C (v := 1) dX0_hush_26 (by decide) ?_
  refine x_isub C dX0_hush_27 ?_
  refine x_putI C fl_X0_67 rfl (by decide) rfl dX0_hush_28 ?_
  exact x_vret C hq ⟨by decide, by decide⟩ dX0_hush_31 (rfl) (rfl)
set_option maxHeartbeats 1000000 in
set_option maxRecDepth 100000 in
theorem q0_turnAt15 (l : Launch) (g : GT) (M : Mem) (h : cOK 15 M) (w k : Nat) (hw : w < 10) (hk : k < 40) : CM l yX0_turnAt cX0_turnAt 3 none rmX0_turnAt g M [.ref (ga g 15), .int (nI w), .int (nI k)] (none) (cTurn 15 M w k) := by
  refine CM.of (by decide) (Nat.le_of_ble_eq_true rfl) (fun X C hq => ?_)
  have C : Cx X g l cX0_turnAt 3 RX0 none rmX0_turnAt := C
  show V X g 0 0 0 [(0, .ref (ga g 15)), (1, .int (nI w)), (2, .int (nI k))] [] M
  have he := h.2.2.2.1 w hw
  have he1 := tn1 he
  refine x_aload_n C dX0_turnAt_0 rfl ?_
  refine x_getR C fl_X0_33 rfl (by decide) rfl dX0_turnAt_1 ?_
  refine x_aload_n C dX0_turnAt_4 rfl ?_
  refine x_getR C fl_X0_24 rfl (by decide) rfl dX0_turnAt_5 ?_
  refine x_iload_n C dX0_turnAt_8 rfl ?_
  refine x_iald C (n := 10) rfl (by decide) rfl (rfl) ((by omega : w < 10)) dX0_turnAt_9 ?_
  refine x_dup2 C dX0_turnAt_10 rfl rfl ?_
  refine x_iald C (n := 2) rfl (by decide) rfl (nI_tn he.1) (he1) dX0_turnAt_11 ?_
  refine x_iconst C (v := 1) dX0_turnAt_12 (by decide) ?_
  refine x_iadd C dX0_turnAt_13 ?_
  refine x_iast C (n := 2) rfl (by decide) rfl (nI_tn he.1) (he1) dX0_turnAt_14 ?_
  refine x_aload_n C dX0_turnAt_15 rfl ?_
  refine x_getR C fl_X0_30 rfl (by decide) rfl dX0_turnAt_16 ?_
  refine x_iload_n C dX0_turnAt_19 rfl ?_
  refine x_dup2 C dX0_turnAt_20 rfl rfl ?_
  refine x_iald C (n := 10) rfl (by decide) rfl (rfl) ((by omega : w < 10)) dX0_turnAt_21 ?_
  refine x_iconst C (v := 1) dX0_turnAt_22 (by decide) ?_
  refine x_iadd C dX0_turnAt_23 ?_
  refine x_iast C (n := 10) rfl (by decide) rfl (rfl) ((by omega : w < 10)) dX0_turnAt_24 ?_
  refine x_aload_n C dX0_turnAt_25 rfl ?_
  refine x_getR C fl_X0_48 rfl (by decide) rfl dX0_turnAt_26 ?_
  refine x_iload_n C dX0_turnAt_29 rfl ?_
  refine x_dup2 C dX0_turnAt_30 rfl rfl ?_
  refine x_iald C (n := 40) rfl (by decide) rfl (rfl) ((by omega : k < 40)) dX0_turnAt_31 ?_
  refine x_iconst C (v := 1) dX0_turnAt_32 (by decide) ?_
  refine x_iadd C dX0_turnAt_33 ?_
  refine x_iast C (n := 40) rfl (by decide) rfl (rfl) ((by omega : k < 40)) dX0_turnAt_34 ?_
  refine x_aload_n C dX0_turnAt_35 rfl ?_
  refine x_getR C fl_X0_39 rfl (by decide) rfl dX0_turnAt_36 ?_
  refine x_iload_n C dX0_turnAt_39 rfl ?_
  refine x_dup2 C dX0_turnAt_40 rfl rfl ?_
  refine x_iald C (n := 40) rfl (by decide) rfl (rfl) ((by omega : k < 40)) dX0_turnAt_41 ?_
  refine x_aload_n C dX0_turnAt_42 rfl ?_
  refine x_getR C fl_X0_27 rfl (by decide) rfl dX0_turnAt_43 ?_
  refine x_iload_n C dX0_turnAt_46 rfl ?_
  refine x_iald C (n := 10) rfl (by decide) rfl (rfl) ((by omega : w < 10)) dX0_turnAt_47 ?_
  refine x_isub C dX0_turnAt_48 ?_
  refine x_iast C (n := 40) rfl (by decide) rfl (rfl) ((by omega : k < 40)) dX0_turnAt_49 ?_
  refine x_aload_n C dX0_turnAt_50 rfl ?_
  refine x_getR C fl_X0_45 rfl (by decide) rfl dX0_turnAt_51 ?_
  refine x_iload_n C dX0_turnAt_54 rfl ?_
  refine x_aload_n C dX0_turnAt_55 rfl ?_
  refine x_getR C fl_X0_45 rfl (by decide) rfl dX0_turnAt_56 ?_
  refine x_iload_n C dX0_turnAt_59 rfl ?_
  refine x_iald C (n := 40) rfl (by decide) rfl (rfl) ((by omega : k < 40)) dX0_turnAt_60 ?_
  refine x_ineg C dX0_turnAt_61 ?_
  refine x_iast C (n := 40) rfl (by decide) rfl (rfl) ((by omega : k < 40)) dX0_turnAt_62 ?_
  exact x_vret C hq ⟨by decide, by decide⟩ dX0_turnAt_63 (rfl) (rfl)
set_option maxHeartbeats 1000000 in
set_option maxRecDepth 100000 in
theorem q0_loudAt15 (l : Launch) (g : GT) (M : Mem) (h : cOK 15 M) (s : Int32) (hs : 0 ≤ s ∧ s ≤ 31) : CM l yX0_loudAt cX0_loudAt 3 (some .int) rmX0_loudAt g M [.ref (ga g 15), .int s] (some (.int (if M 18 (tn s) = -1 then 0 else M 25 (tn (M 18 (tn s)))))) (M) := by
  refine CM.of (by decide) (Nat.le_of_ble_eq_true rfl) (fun X C hq => ?_)
  have C : Cx X g l cX0_loudAt 3 RX0 (some .int) rmX0_loudAt := C
  show V X g 0 0 0 [(0, .ref (ga g 15)), (1, .int s)] [] M
  refine x_aload_n C dX0_loudAt_0 rfl ?_
  refine x_getR C fl_X0_18 rfl (by decide) rfl dX0_loudAt_1 ?_
  refine x_iload_n C dX0_loudAt_4 rfl ?_
  refine x_iald C (n := 32) rfl (by decide) rfl (nI_tn hs.1) (tn31 hs) dX0_loudAt_5 ?_
  refine x_istore_n C (lo' := [(2, _), (0, _), (1, _)]) dX0_loudAt_6 (by decide) rfl ?_
  refine x_iload_n C dX0_loudAt_7 rfl ?_
  refine x_iconst C (v := (-1)) dX0_loudAt_8 (by decide) ?_
  refine x_icmp_ne C (tgt := 16) dX0_loudAt_9 (by decide) (fun c9 => ?_) (fun c9 => ?_)
  · have ho := (h.2.2.2.2.1 _ (tn31 hs)).resolve_left c9
    have ho9 := tn39 ho
    refine x_aload_n C dX0_loudAt_16 rfl ?_
    refine x_getR C fl_X0_39 rfl (by decide) rfl dX0_loudAt_17 ?_
    refine x_iload_n C dX0_loudAt_20 rfl ?_
    refine x_iald C (n := 40) rfl (by decide) rfl (nI_tn ho.1) (ho9) dX0_loudAt_21 ?_
    exact x_iret C hq ⟨by decide, by decide⟩ dX0_loudAt_22 (by first | (rw [if_pos c9]; done) | (rw [if_neg c9]; done)) (rfl)
  · refine x_iconst C (v := 0) dX0_loudAt_12 (by decide) ?_
    refine x_goto C (tgt := 22) dX0_loudAt_13 (by decide) ?_
    exact x_iret C hq ⟨by decide, by decide⟩ dX0_loudAt_22 (by first | (rw [if_pos c9]; done) | (rw [if_neg c9]; done)) (rfl)
set_option maxHeartbeats 1000000 in
set_option maxRecDepth 100000 in
theorem q0_move15 (l : Launch) (g : GT) (M : Mem) (h : cOK 15 M) (k : Nat) (hk : k < 40) : CM l yX0_move cX0_move 4 none rmX0_move g M [.ref (ga g 15), .int (nI k)] (none) (cMove 15 M k) := by
  refine CM.of (by decide) (Nat.le_of_ble_eq_true rfl) (fun X C hq => ?_)
  have C : Cx X g l cX0_move 4 RX0 none rmX0_move := C
  show V X g 0 0 0 [(0, .ref (ga g 15)), (1, .int (nI k))] [] M
  refine x_aload_n C dX0_move_0 rfl ?_
  refine x_getR C fl_X0_42 rfl (by decide) rfl dX0_move_1 ?_
  refine x_iload_n C dX0_move_4 rfl ?_
  refine x_iald C (n := 40) rfl (by decide) rfl (rfl) ((by omega : k < 40)) dX0_move_5 ?_
  refine x_aload_n C dX0_move_6 rfl ?_
  refine x_getR C fl_X0_45 rfl (by decide) rfl dX0_move_7 ?_
  refine x_iload_n C dX0_move_10 rfl ?_
  refine x_iald C (n := 40) rfl (by decide) rfl (rfl) ((by omega : k < 40)) dX0_move_11 ?_
  refine x_iadd C dX0_move_12 ?_
  change V X g 0 0 _ _ (.int (cS 15 M k) :: _) M
  refine x_istore_n C (lo' := [(2, _), (0, _), (1, _)]) dX0_move_13 (by decide) rfl ?_
  refine x_iload_n C dX0_move_14 rfl ?_
  refine x_callSN0r C (q1_isStone l g _ _) cd_X1_isStone kl_X0_97 (as := [_]) rfl rfl ⟨⟨by decide, by decide⟩, by decide, by decide⟩ ⟨rfl, rfl⟩ (Nat.le_of_ble_eq_true rfl) dX0_move_15 ?_
  refine x_bif_ne C (tgt := 27) dX0_move_18 (by decide) (fun c18 => ?_) (fun c18 => ?_)
  · have hs := tn31 c18
    refine x_aload_n C dX0_move_27 rfl ?_
    refine x_getR C fl_X0_42 rfl (by decide) rfl dX0_move_28 ?_
    refine x_iload_n C dX0_move_31 rfl ?_
    refine x_iload_n C dX0_move_32 rfl ?_
    refine x_iast C (n := 40) rfl (by decide) rfl (rfl) ((by omega : k < 40)) dX0_move_33 ?_
    refine x_aload_n C dX0_move_34 rfl ?_
    refine x_getR C fl_X0_39 rfl (by decide) rfl dX0_move_35 ?_
    refine x_iload_n C dX0_move_38 rfl ?_
    refine x_dup2 C dX0_move_39 rfl rfl ?_
    refine x_iald C (n := 40) rfl (by decide) rfl (rfl) ((by omega : k < 40)) dX0_move_40 ?_
    refine x_iconst C (v := 1) dX0_move_41 (by decide) ?_
    refine x_aload_n C dX0_move_42 rfl ?_
    refine x_getR C fl_X0_9 rfl (by decide) rfl dX0_move_43 ?_
    refine x_iload_n C dX0_move_46 rfl ?_
    refine x_iald C (n := 32) rfl (by decide) rfl (nI_tn c18.1) (hs) dX0_move_47 ?_
    refine x_iadd C dX0_move_48 ?_
    refine x_isub C dX0_move_49 ?_
    refine x_iast C (n := 40) rfl (by decide) rfl (rfl) ((by omega : k < 40)) dX0_move_50 ?_
    refine x_mem (M' := cGo 15 M k (cS 15 M k)) rfl ?_
    refine x_aload_n C dX0_move_51 rfl ?_
    refine x_getR C fl_X0_15 rfl (by decide) rfl dX0_move_52 ?_
    refine x_iload_n C dX0_move_55 rfl ?_
    refine x_iald C (n := 32) rfl (by decide) rfl (nI_tn c18.1) (hs) dX0_move_56 ?_
    refine x_istore_n C (lo' := [(3, _), (2, _), (0, _), (1, _)]) dX0_move_57 (by decide) rfl ?_
    refine x_aload_n C dX0_move_58 rfl ?_
    refine x_getR C fl_X0_39 rfl (by decide) rfl dX0_move_59 ?_
    refine x_iload_n C dX0_move_62 rfl ?_
    refine x_iald C (n := 40) rfl (by decide) rfl (rfl) ((by omega : k < 40)) dX0_move_63 ?_
    refine x_if_le C (tgt := 78) dX0_move_64 (by decide) (fun c64 => ?_) (fun c64 => ?_)
    · first
        | refine x_mem (M' := cMv 15 M k (cS 15 M k)) rfl ?_
        | refine x_mem (M' := cMv 15 M k (cS 15 M k)) (show cGo 15 M k (cS 15 M k) = cMv 15 M k (cS 15 M k) from (if_neg (fun z => absurd c64 (Int32.not_le.mpr z.1))).symm) ?_
        | refine x_mem (M' := cMv 15 M k (cS 15 M k)) (show cGo 15 M k (cS 15 M k) = cMv 15 M k (cS 15 M k) from (if_neg (fun z => z.2 c69)).symm) ?_
      refine x_aload_n C dX0_move_78 rfl ?_
      refine x_getR C fl_X0_39 rfl (by decide) rfl dX0_move_79 ?_
      refine x_iload_n C dX0_move_82 rfl ?_
      refine x_iald C (n := 40) rfl (by decide) rfl (rfl) ((by omega : k < 40)) dX0_move_83 ?_
      refine x_if_gt C (tgt := 92) dX0_move_84 (by decide) (fun c84 => ?_) (fun c84 => ?_)
      · exact x_vret C hq ⟨by decide, by decide⟩ dX0_move_92 (rfl) ((if_pos c18).trans (by first | exact if_pos c84 | exact if_neg c84))
      · refine x_aload_n C dX0_move_87 rfl ?_
        refine x_iload_n C dX0_move_88 rfl ?_
        refine x_callV0v C (q0_hush15 l g _ k hk) cd_X0_hush kl_X0_101 ci0 rfl (by decide) (as := [_]) rfl rfl ⟨⟨by decide, by decide⟩, by decide, by decide⟩ ⟨rfl, rfl⟩ (Nat.le_of_ble_eq_true rfl) dX0_move_89 ?_
        exact x_vret C hq ⟨by decide, by decide⟩ dX0_move_92 (rfl) ((if_pos c18).trans (by first | exact if_pos c84 | exact if_neg c84))
    · skip
      refine x_iload_n C dX0_move_67 rfl ?_
      refine x_iconst C (v := (-1)) dX0_move_68 (by decide) ?_
      refine x_icmp_eq C (tgt := 78) dX0_move_69 (by decide) (fun c69 => ?_) (fun c69 => ?_)
      · first
          | refine x_mem (M' := cMv 15 M k (cS 15 M k)) rfl ?_
          | refine x_mem (M' := cMv 15 M k (cS 15 M k)) (show cGo 15 M k (cS 15 M k) = cMv 15 M k (cS 15 M k) from (if_neg (fun z => absurd c64 (Int32.not_le.mpr z.1))).symm) ?_
          | refine x_mem (M' := cMv 15 M k (cS 15 M k)) (show cGo 15 M k (cS 15 M k) = cMv 15 M k (cS 15 M k) from (if_neg (fun z => z.2 c69)).symm) ?_
        refine x_aload_n C dX0_move_78 rfl ?_
        refine x_getR C fl_X0_39 rfl (by decide) rfl dX0_move_79 ?_
        refine x_iload_n C dX0_move_82 rfl ?_
        refine x_iald C (n := 40) rfl (by decide) rfl (rfl) ((by omega : k < 40)) dX0_move_83 ?_
        refine x_if_gt C (tgt := 92) dX0_move_84 (by decide) (fun c84 => ?_) (fun c84 => ?_)
        · exact x_vret C hq ⟨by decide, by decide⟩ dX0_move_92 (rfl) ((if_pos c18).trans (by first | exact if_pos c84 | exact if_neg c84))
        · refine x_aload_n C dX0_move_87 rfl ?_
          refine x_iload_n C dX0_move_88 rfl ?_
          refine x_callV0v C (q0_hush15 l g _ k hk) cd_X0_hush kl_X0_101 ci0 rfl (by decide) (as := [_]) rfl rfl ⟨⟨by decide, by decide⟩, by decide, by decide⟩ ⟨rfl, rfl⟩ (Nat.le_of_ble_eq_true rfl) dX0_move_89 ?_
          exact x_vret C hq ⟨by decide, by decide⟩ dX0_move_92 (rfl) ((if_pos c18).trans (by first | exact if_pos c84 | exact if_neg c84))
      · have hg := h.mk (cGo_same 15 M k (cS 15 M k)) (cGo_s h.s k c18)
        have hw : 0 ≤ M 17 (tn (cS 15 M k)) ∧ M 17 (tn (cS 15 M k)) ≤ 9 := (h.2.2.1 _ hs).resolve_left c69
        have hw9 := tn9 hw
        have hwe : M 17 (tn (cS 15 M k)) = nI (tn (M 17 (tn (cS 15 M k)))) := nI_tn hw.1
        refine x_aload_n C dX0_move_72 rfl ?_
        refine x_iload_n C dX0_move_73 rfl ?_
        refine x_top (congrArg Value.int hwe) ?_
        refine x_iload_n C dX0_move_74 rfl ?_
        refine x_callV0v C (q0_turnAt15 l g _ hg (tn (M 17 (tn (cS 15 M k)))) k hw9 hk) cd_X0_turnAt kl_X0_104 ci0 rfl (by decide) (as := [_, _]) rfl rfl ⟨⟨by decide, by decide⟩, by decide, by decide⟩ ⟨rfl, rfl⟩ (Nat.le_of_ble_eq_true rfl) dX0_move_75 ?_
        have c64' := Int32.not_le.mp c64
        refine x_mem (M' := cMv 15 M k (cS 15 M k)) (show cTurn 15 (cGo 15 M k (cS 15 M k)) (tn (M 17 (tn (cS 15 M k)))) k = cMv 15 M k (cS 15 M k) from (if_pos ⟨c64', c69⟩).symm) ?_
        first
          | refine x_mem (M' := cMv 15 M k (cS 15 M k)) rfl ?_
          | refine x_mem (M' := cMv 15 M k (cS 15 M k)) (show cGo 15 M k (cS 15 M k) = cMv 15 M k (cS 15 M k) from (if_neg (fun z => absurd c64 (Int32.not_le.mpr z.1))).symm) ?_
          | refine x_mem (M' := cMv 15 M k (cS 15 M k)) (show cGo 15 M k (cS 15 M k) = cMv 15 M k (cS 15 M k) from (if_neg (fun z => z.2 c69)).symm) ?_
        refine x_aload_n C dX0_move_78 rfl ?_
        refine x_getR C fl_X0_39 rfl (by decide) rfl dX0_move_79 ?_
        refine x_iload_n C dX0_move_82 rfl ?_
        refine x_iald C (n := 40) rfl (by decide) rfl (rfl) ((by omega : k < 40)) dX0_move_83 ?_
        refine x_if_gt C (tgt := 92) dX0_move_84 (by decide) (fun c84 => ?_) (fun c84 => ?_)
        · exact x_vret C hq ⟨by decide, by decide⟩ dX0_move_92 (rfl) ((if_pos c18).trans (by first | exact if_pos c84 | exact if_neg c84))
        · refine x_aload_n C dX0_move_87 rfl ?_
          refine x_iload_n C dX0_move_88 rfl ?_
          refine x_callV0v C (q0_hush15 l g _ k hk) cd_X0_hush kl_X0_101 ci0 rfl (by decide) (as := [_]) rfl rfl ⟨⟨by decide, by decide⟩, by decide, by decide⟩ ⟨rfl, rfl⟩ (Nat.le_of_ble_eq_true rfl) dX0_move_89 ?_
          exact x_vret C hq ⟨by decide, by decide⟩ dX0_move_92 (rfl) ((if_pos c18).trans (by first | exact if_pos c84 | exact if_neg c84))
  · refine x_aload_n C dX0_move_21 rfl ?_
    refine x_iload_n C dX0_move_22 rfl ?_
    refine x_callV0v C (q0_hush15 l g _ k hk) cd_X0_hush kl_X0_101 ci0 rfl (by decide) (as := [_]) rfl rfl ⟨⟨by decide, by decide⟩, by decide, by decide⟩ ⟨rfl, rfl⟩ (Nat.le_of_ble_eq_true rfl) dX0_move_23 ?_
    exact x_vret C hq ⟨by decide, by decide⟩ dX0_move_26 (rfl) (if_neg c18)
set_option maxHeartbeats 1000000 in
set_option maxRecDepth 100000 in
theorem q0_settle15 (l : Launch) (g : GT) (M : Mem) (h : cOK 15 M) (k : Nat) (hk : k < 40) (hl : 0 < M 25 k) : CM l yX0_settle cX0_settle 4 none rmX0_settle g M [.ref (ga g 15), .int (nI k)] (none) (cSettle 15 M k) := by
  refine CM.of (by decide) (Nat.le_of_ble_eq_true rfl) (fun X C hq => ?_)
  have C : Cx X g l cX0_settle 4 RX0 none rmX0_settle := C
  show V X g 0 0 0 [(0, .ref (ga g 15)), (1, .int (nI k))] [] M
  have hp := h.2.2.2.2.2 k hk hl
  have hp9 := tn31 hp
  refine x_aload_n C dX0_settle_0 rfl ?_
  refine x_getR C fl_X0_42 rfl (by decide) rfl dX0_settle_1 ?_
  refine x_iload_n C dX0_settle_4 rfl ?_
  refine x_iald C (n := 40) rfl (by decide) rfl (rfl) ((by omega : k < 40)) dX0_settle_5 ?_
  refine x_istore_n C (lo' := [(2, _), (0, _), (1, _)]) dX0_settle_6 (by decide) rfl ?_
  refine x_aload_n C dX0_settle_7 rfl ?_
  refine x_getR C fl_X0_18 rfl (by decide) rfl dX0_settle_8 ?_
  refine x_iload_n C dX0_settle_11 rfl ?_
  refine x_iald C (n := 32) rfl (by decide) rfl (nI_tn hp.1) (hp9) dX0_settle_12 ?_
  refine x_istore_n C (lo' := [(3, _), (2, _), (0, _), (1, _)]) dX0_settle_13 (by decide) rfl ?_
  refine x_iload_n C dX0_settle_14 rfl ?_
  refine x_iconst C (v := (-1)) dX0_settle_15 (by decide) ?_
  refine x_icmp_ne C (tgt := 27) dX0_settle_16 (by decide) (fun c16 => ?_) (fun c16 => ?_)
  · have ho := (h.2.2.2.2.1 _ hp9).resolve_left c16
    have ho9 := tn39 ho
    refine x_aload_n C dX0_settle_27 rfl ?_
    refine x_dup C dX0_settle_28 rfl ?_
    refine x_getI C fl_X0_70 rfl (by decide) rfl dX0_settle_29 ?_
    refine x_iconst C (v := 1) dX0_settle_32 (by decide) ?_
    refine x_iadd C dX0_settle_33 ?_
    refine x_putI C fl_X0_70 rfl (by decide) rfl dX0_settle_34 ?_
    refine x_mem (M' := cOv 15 M) rfl ?_
    refine x_aload_n C dX0_settle_37 rfl ?_
    refine x_getR C fl_X0_39 rfl (by decide) rfl dX0_settle_38 ?_
    refine x_iload_n C dX0_settle_41 rfl ?_
    refine x_iald C (n := 40) rfl (by decide) rfl (rfl) ((by omega : k < 40)) dX0_settle_42 ?_
    refine x_aload_n C dX0_settle_43 rfl ?_
    refine x_getR C fl_X0_39 rfl (by decide) rfl dX0_settle_44 ?_
    refine x_iload_n C dX0_settle_47 rfl ?_
    refine x_iald C (n := 40) rfl (by decide) rfl (nI_tn ho.1) (ho9) dX0_settle_48 ?_
    refine x_icmp_le C (tgt := 67) dX0_settle_49 (by decide) (fun c49 => ?_) (fun c49 => ?_)
    · refine x_aload_n C dX0_settle_67 rfl ?_
      refine x_iload_n C dX0_settle_68 rfl ?_
      refine x_callV0v C (q0_hush15 l g _ k hk) cd_X0_hush kl_X0_101 ci0 rfl (by decide) (as := [_]) rfl rfl ⟨⟨by decide, by decide⟩, by decide, by decide⟩ ⟨rfl, rfl⟩ (Nat.le_of_ble_eq_true rfl) dX0_settle_69 ?_
      exact x_vret C hq ⟨by decide, by decide⟩ dX0_settle_72 (rfl) ((if_neg c16).trans (by first | (have z := Int32.not_le.mp c49; exact if_pos z) | (have z := Int32.not_lt.mpr c49; exact if_neg z)))
    · refine x_aload_n C dX0_settle_52 rfl ?_
      refine x_iload_n C dX0_settle_53 rfl ?_
      refine x_top (congrArg Value.int (nI_tn ho.1)) ?_
      refine x_callV0v C (q0_hush15 l g _ (tn (M 18 (tn (M 26 k)))) ho9) cd_X0_hush kl_X0_101 ci0 rfl (by decide) (as := [_]) rfl rfl ⟨⟨by decide, by decide⟩, by decide, by decide⟩ ⟨rfl, rfl⟩ (Nat.le_of_ble_eq_true rfl) dX0_settle_54 ?_
      refine x_aload_n C dX0_settle_57 rfl ?_
      refine x_getR C fl_X0_18 rfl (by decide) rfl dX0_settle_58 ?_
      refine x_iload_n C dX0_settle_61 rfl ?_
      refine x_iload_n C dX0_settle_62 rfl ?_
      refine x_iast C (n := 32) rfl (by decide) rfl (nI_tn hp.1) (hp9) dX0_settle_63 ?_
      refine x_goto C (tgt := 72) dX0_settle_64 (by decide) ?_
      exact x_vret C hq ⟨by decide, by decide⟩ dX0_settle_72 (rfl) ((if_neg c16).trans (by first | (have z := Int32.not_le.mp c49; exact if_pos z) | (have z := Int32.not_lt.mpr c49; exact if_neg z)))
  · refine x_aload_n C dX0_settle_19 rfl ?_
    refine x_getR C fl_X0_18 rfl (by decide) rfl dX0_settle_20 ?_
    refine x_iload_n C dX0_settle_23 rfl ?_
    refine x_iload_n C dX0_settle_24 rfl ?_
    refine x_iast C (n := 32) rfl (by decide) rfl (nI_tn hp.1) (hp9) dX0_settle_25 ?_
    exact x_vret C hq ⟨by decide, by decide⟩ dX0_settle_26 (rfl) (if_pos c16)
set_option maxHeartbeats 1000000 in
set_option maxRecDepth 100000 in
theorem q0_meet_lp15 {X : XT} {l : Launch} {g : GT} {M : Mem} (h : cOK 15 M) (C : Cx X g l cX0_meet 2 RX0 none rmX0_meet) (hq : Rt X g rmX0_meet none (cMeetL 15 M (cSh 15 M))) : ∀ (n i : Nat), i ≤ cSh 15 M → cSh 15 M + 1 ≤ i + n → V X g 0 0 10 [(1, .int (nI i)), (0, .ref (ga g 15))] [] (cMeetL 15 M i) := by
  intro n
  induction n with
  | zero =>
    intro i h1 h2; omega
  | succ n ih =>
    intro i h1 h2
    have hsh := h.sh
    have hki := h.mk (cMeetL_same 15 M i) (cMeetL_s h.s i (by omega))
    have e2 : cMeetL 15 M i 15 2 = M 15 2 := (cMeetL_same 15 M i).2.1
    refine x_iload_n C dX0_meet_10 rfl ?_
    refine x_aload_n C dX0_meet_11 rfl ?_
    refine x_getI C fl_X0_64 rfl (by decide) rfl dX0_meet_12 ?_
    refine x_icmp_ge C (tgt := 38) dX0_meet_15 (by decide) (fun c15 => ?_) (fun c15 => ?_)
    · rw [e2] at c15
      have he : i = cSh 15 M := Nat.le_antisymm h1 ((ge_tn h.2.1.1 (by omega)).mp c15)
      subst he
      exact x_vret C hq ⟨by decide, by decide⟩ dX0_meet_38 (rfl) (rfl)
    · rw [e2] at c15
      have hlt : i < cSh 15 M := lt_of_nge h.2.1.1 (by omega) c15
      refine x_aload_n C dX0_meet_18 rfl ?_
      refine x_getR C fl_X0_39 rfl (by decide) rfl dX0_meet_19 ?_
      refine x_iload_n C dX0_meet_22 rfl ?_
      refine x_iald C (n := 40) rfl (by decide) rfl (rfl) ((by omega : i < 40)) dX0_meet_23 ?_
      refine x_if_le C (tgt := 32) dX0_meet_24 (by decide) (fun c24 => ?_) (fun c24 => ?_)
      · refine x_iinc C (v := nI (i + 1)) (lo' := [(1, _), (0, _)]) dX0_meet_32 rfl (nI_inc _) (by decide) rfl ?_
        refine x_goto C (tgt := 10) dX0_meet_35 (by decide) ?_
        first
          | exact x_mem (show cMeetL 15 M (i + 1) = _ from if_pos z24).symm (ih (i + 1) hlt (by omega))
          | exact x_mem (show cMeetL 15 M (i + 1) = _ from if_neg (Int32.not_lt.mpr c24)).symm (ih (i + 1) hlt (by omega))
      · have z24 := Int32.not_le.mp c24
        refine x_aload_n C dX0_meet_27 rfl ?_
        refine x_iload_n C dX0_meet_28 rfl ?_
        refine x_callV0v C (q0_settle15 l g _ hki i (by omega) z24) cd_X0_settle kl_X0_108 ci0 rfl (by decide) (as := [_]) rfl rfl ⟨⟨by decide, by decide⟩, by decide, by decide⟩ ⟨rfl, rfl⟩ (Nat.le_of_ble_eq_true rfl) dX0_meet_29 ?_
        refine x_iinc C (v := nI (i + 1)) (lo' := [(1, _), (0, _)]) dX0_meet_32 rfl (nI_inc _) (by decide) rfl ?_
        refine x_goto C (tgt := 10) dX0_meet_35 (by decide) ?_
        first
          | exact x_mem (show cMeetL 15 M (i + 1) = _ from if_pos z24).symm (ih (i + 1) hlt (by omega))
          | exact x_mem (show cMeetL 15 M (i + 1) = _ from if_neg (Int32.not_lt.mpr c24)).symm (ih (i + 1) hlt (by omega))
set_option maxHeartbeats 1000000 in
set_option maxRecDepth 100000 in
theorem q0_meet15 (l : Launch) (g : GT) (M : Mem) (h : cOK 15 M) : CM l yX0_meet cX0_meet 2 none rmX0_meet g M [.ref (ga g 15)] (none) (cMeetL 15 M (cSh 15 M)) := by
  refine CM.of (by decide) (Nat.le_of_ble_eq_true rfl) (fun X C hq => ?_)
  have C : Cx X g l cX0_meet 2 RX0 none rmX0_meet := C
  show V X g 0 0 0 [(0, .ref (ga g 15))] [] M
  refine x_aload_n C dX0_meet_0 rfl ?_
  refine x_getR C fl_X0_18 rfl (by decide) rfl dX0_meet_1 ?_
  refine x_iconst C (v := (-1)) dX0_meet_4 (by decide) ?_
  refine x_callS0v C (q7_fill18 l g _ (-1)) cd_J7_fill_53178 kl_X0_51 (as := [_, _]) rfl rfl ⟨⟨by decide, by decide⟩, by decide, by decide⟩ ⟨rfl, rfl⟩ (Nat.le_of_ble_eq_true rfl) dX0_meet_5 ?_
  refine x_iconst C (v := 0) dX0_meet_8 (by decide) ?_
  refine x_istore_n C (lo' := [(1, _), (0, _)]) dX0_meet_9 (by decide) rfl ?_
  exact x_mem (M' := cMeetL 15 M 0) rfl (q0_meet_lp15 h C hq (cSh 15 M + 1) 0 (Nat.zero_le _) (by omega))
set_option maxHeartbeats 1000000 in
set_option maxRecDepth 100000 in
theorem q0_lose_lp15 {X : XT} {l : Launch} {g : GT} {M M' : Mem} {e : Nat} (h : cOK 15 M) (C : Cx X g l cX0_loseWall 3 RX0 none rmX0_loseWall) (hq : Rt X g rmX0_loseWall none M') : ∀ (n w : Nat), w + n = cWs 15 M → cLW 15 M e n w = M' → V X g 0 0 2 [(2, .int (nI w)), (0, .ref (ga g 15)), (1, .int (nI e))] [] M := by
  have hws := h.ws
  intro n
  induction n with
  | zero =>
    intro w h1 hr
    refine x_iload_n C dX0_loseWall_2 rfl ?_
    refine x_aload_n C dX0_loseWall_3 rfl ?_
    refine x_getI C fl_X0_61 rfl (by decide) rfl dX0_loseWall_4 ?_
    refine x_icmp_ge C (tgt := 47) dX0_loseWall_7 (by decide) (fun c7 => ?_) (fun c7 => absurd ((ge_tn h.1.1 (by omega)).mpr (show cWs 15 M ≤ w by omega)) c7)
    exact x_vret C hq ⟨by decide, by decide⟩ dX0_loseWall_47 (rfl) (hr.symm)
  | succ n ih =>
    intro w h1 hr
    refine x_iload_n C dX0_loseWall_2 rfl ?_
    refine x_aload_n C dX0_loseWall_3 rfl ?_
    refine x_getI C fl_X0_61 rfl (by decide) rfl dX0_loseWall_4 ?_
    refine x_icmp_ge C (tgt := 47) dX0_loseWall_7 (by decide) (fun c7 => ?_) (fun c7 => ?_)
    · exfalso; have hq9 : cWs 15 M ≤ w := (ge_tn h.1.1 (by omega)).mp c7; omega
    · refine x_aload_n C dX0_loseWall_10 rfl ?_
      refine x_getR C fl_X0_24 rfl (by decide) rfl dX0_loseWall_11 ?_
      refine x_iload_n C dX0_loseWall_14 rfl ?_
      refine x_iald C (n := 10) rfl (by decide) rfl (rfl) ((by omega : w < 10)) dX0_loseWall_15 ?_
      refine x_iload_n C dX0_loseWall_16 rfl ?_
      refine x_icmp_ne C (tgt := 41) dX0_loseWall_17 (by decide) (fun c17 => ?_) (fun c17 => ?_)
      · refine x_iinc C (v := nI (w + 1)) (lo' := [(2, _), (0, _), (1, _)]) dX0_loseWall_41 rfl (nI_inc _) (by decide) rfl ?_
        refine x_goto C (tgt := 2) dX0_loseWall_44 (by decide) ?_
        exact ih (w + 1) (by omega) ((if_neg c17).symm.trans hr)
      · refine x_aload_n C dX0_loseWall_20 rfl ?_
        refine x_getR C fl_X0_24 rfl (by decide) rfl dX0_loseWall_21 ?_
        refine x_iload_n C dX0_loseWall_24 rfl ?_
        refine x_iload_n C dX0_loseWall_25 rfl ?_
        refine x_callSN0r C (q1_otherEcho l g _ _) cd_X1_otherEcho kl_X0_114 (as := [_]) rfl rfl ⟨⟨by decide, by decide⟩, by decide, by decide⟩ ⟨rfl, rfl⟩ (Nat.le_of_ble_eq_true rfl) dX0_loseWall_26 ?_
        refine x_iast C (n := 10) rfl (by decide) rfl (rfl) ((by omega : w < 10)) dX0_loseWall_29 ?_
        refine x_aload_n C dX0_loseWall_30 rfl ?_
        refine x_dup C dX0_loseWall_31 rfl ?_
        refine x_getI C fl_X0_73 rfl (by decide) rfl dX0_loseWall_32 ?_
        refine x_iconst C (v := 1) dX0_loseWall_35 (by decide) ?_
        refine x_iadd C dX0_loseWall_36 ?_
        refine x_putI C fl_X0_73 rfl (by decide) rfl dX0_loseWall_37 ?_
        exact x_vret C hq ⟨by decide, by decide⟩ dX0_loseWall_40 (rfl) (hr.symm.trans (if_pos c17))
set_option maxHeartbeats 1000000 in
set_option maxRecDepth 100000 in
theorem q0_loseWall15 (l : Launch) (g : GT) (M : Mem) (h : cOK 15 M) (e : Nat) : CM l yX0_loseWall cX0_loseWall 3 none rmX0_loseWall g M [.ref (ga g 15), .int (nI e)] (none) (cLW 15 M e (cWs 15 M) 0) := by
  refine CM.of (by decide) (Nat.le_of_ble_eq_true rfl) (fun X C hq => ?_)
  have C : Cx X g l cX0_loseWall 3 RX0 none rmX0_loseWall := C
  show V X g 0 0 0 [(0, .ref (ga g 15)), (1, .int (nI e))] [] M
  refine x_iconst C (v := 0) dX0_loseWall_0 (by decide) ?_
  refine x_istore_n C (lo' := [(2, _), (0, _), (1, _)]) dX0_loseWall_1 (by decide) rfl ?_
  exact q0_lose_lp15 h C hq (cWs 15 M) 0 (Nat.zero_add _) rfl
set_option maxHeartbeats 1000000 in
set_option maxRecDepth 100000 in
theorem q0_listen15 (l : Launch) (g : GT) (M : Mem) (h : cOK 15 M) (e : Nat) (he : e < 2) (p : Int32) : CM l yX0_listen cX0_listen 3 none rmX0_listen g M [.ref (ga g 15), .int (nI e), .int p] (none) (cListen 15 M e p) := by
  refine CM.of (by decide) (Nat.le_of_ble_eq_true rfl) (fun X C hq => ?_)
  have C : Cx X g l cX0_listen 3 RX0 none rmX0_listen := C
  show V X g 0 0 0 [(0, .ref (ga g 15)), (1, .int (nI e)), (2, .int p)] [] M
  refine x_aload_n C dX0_listen_0 rfl ?_
  refine x_getR C fl_X0_36 rfl (by decide) rfl dX0_listen_1 ?_
  refine x_iload_n C dX0_listen_4 rfl ?_
  refine x_iload_n C dX0_listen_5 rfl ?_
  refine x_if_eq C (tgt := 13) dX0_listen_6 (by decide) (fun c6 => ?_) (fun c6 => ?_)
  · refine x_aload_n C dX0_listen_13 rfl ?_
    refine x_getR C fl_X0_36 rfl (by decide) rfl dX0_listen_14 ?_
    refine x_iload_n C dX0_listen_17 rfl ?_
    refine x_iald C (n := 2) rfl (by decide) rfl (rfl) ((by omega : e < 2)) dX0_listen_18 ?_
    refine x_iconst C (v := 1) dX0_listen_19 (by decide) ?_
    refine x_iadd C dX0_listen_20 ?_
    refine x_iast C (n := 2) rfl (by decide) rfl (rfl) ((by omega : e < 2)) dX0_listen_21 ?_
    first
      | refine x_mem (M' := cSil 15 M e p) (by unfold cSil; rw [if_pos c6]) ?_
      | refine x_mem (M' := cSil 15 M e p) (by unfold cSil; rw [if_neg c6]) ?_
    refine x_aload_n C dX0_listen_22 rfl ?_
    refine x_getR C fl_X0_36 rfl (by decide) rfl dX0_listen_23 ?_
    refine x_iload_n C dX0_listen_26 rfl ?_
    refine x_iald C (n := 2) rfl (by decide) rfl (rfl) ((by omega : e < 2)) dX0_listen_27 ?_
    refine x_bipush C (v := 12) dX0_listen_28 (by decide) ?_
    refine x_icmp_ne C (tgt := 45) dX0_listen_30 (by decide) (fun c30 => ?_) (fun c30 => ?_)
    · exact x_vret C hq ⟨by decide, by decide⟩ dX0_listen_45 (rfl) (by first | exact if_neg c30 | exact if_pos c30)
    · refine x_aload_n C dX0_listen_33 rfl ?_
      refine x_getR C fl_X0_36 rfl (by decide) rfl dX0_listen_34 ?_
      refine x_iload_n C dX0_listen_37 rfl ?_
      refine x_iconst C (v := 0) dX0_listen_38 (by decide) ?_
      refine x_iast C (n := 2) rfl (by decide) rfl (rfl) ((by omega : e < 2)) dX0_listen_39 ?_
      refine x_aload_n C dX0_listen_40 rfl ?_
      refine x_iload_n C dX0_listen_41 rfl ?_
      refine x_callV0v C (q0_loseWall15 l g _ (show cOK 15 (wr (wr M 24 e _) 24 e 0) from h.at9.at9) e) cd_X0_loseWall kl_X0_111 ci0 rfl (by decide) (as := [_]) rfl rfl ⟨⟨by decide, by decide⟩, by decide, by decide⟩ ⟨rfl, rfl⟩ (Nat.le_of_ble_eq_true rfl) dX0_listen_42 ?_
      exact x_vret C hq ⟨by decide, by decide⟩ dX0_listen_45 (rfl) (by first | exact if_neg c30 | exact if_pos c30)
  · refine x_iconst C (v := 0) dX0_listen_9 (by decide) ?_
    refine x_goto C (tgt := 21) dX0_listen_10 (by decide) ?_
    refine x_iast C (n := 2) rfl (by decide) rfl (rfl) ((by omega : e < 2)) dX0_listen_21 ?_
    first
      | refine x_mem (M' := cSil 15 M e p) (by unfold cSil; rw [if_pos c6]) ?_
      | refine x_mem (M' := cSil 15 M e p) (by unfold cSil; rw [if_neg c6]) ?_
    refine x_aload_n C dX0_listen_22 rfl ?_
    refine x_getR C fl_X0_36 rfl (by decide) rfl dX0_listen_23 ?_
    refine x_iload_n C dX0_listen_26 rfl ?_
    refine x_iald C (n := 2) rfl (by decide) rfl (rfl) ((by omega : e < 2)) dX0_listen_27 ?_
    refine x_bipush C (v := 12) dX0_listen_28 (by decide) ?_
    refine x_icmp_ne C (tgt := 45) dX0_listen_30 (by decide) (fun c30 => ?_) (fun c30 => ?_)
    · exact x_vret C hq ⟨by decide, by decide⟩ dX0_listen_45 (rfl) (by first | exact if_neg c30 | exact if_pos c30)
    · refine x_aload_n C dX0_listen_33 rfl ?_
      refine x_getR C fl_X0_36 rfl (by decide) rfl dX0_listen_34 ?_
      refine x_iload_n C dX0_listen_37 rfl ?_
      refine x_iconst C (v := 0) dX0_listen_38 (by decide) ?_
      refine x_iast C (n := 2) rfl (by decide) rfl (rfl) ((by omega : e < 2)) dX0_listen_39 ?_
      refine x_aload_n C dX0_listen_40 rfl ?_
      refine x_iload_n C dX0_listen_41 rfl ?_
      refine x_callV0v C (q0_loseWall15 l g _ (show cOK 15 (wr (wr M 24 e _) 24 e 0) from h.at9.at9) e) cd_X0_loseWall kl_X0_111 ci0 rfl (by decide) (as := [_]) rfl rfl ⟨⟨by decide, by decide⟩, by decide, by decide⟩ ⟨rfl, rfl⟩ (Nat.le_of_ble_eq_true rfl) dX0_listen_42 ?_
      exact x_vret C hq ⟨by decide, by decide⟩ dX0_listen_45 (rfl) (by first | exact if_neg c30 | exact if_pos c30)
set_option maxHeartbeats 1000000 in
set_option maxRecDepth 100000 in
theorem q0_goOn_lp15 {X : XT} {l : Launch} {g : GT} {M : Mem} (h : cOK 15 M) (C : Cx X g l cX0_goOn 4 RX0 none rmX0_goOn) (hq : Rt X g rmX0_goOn none (cBeat 15 M)) : ∀ (n i : Nat), i ≤ cSh 15 M → cSh 15 M + 1 ≤ i + n → V X g 0 0 16 [(3, .int (nI i)), (2, .int (M 23 1)), (1, .int (M 23 0)), (0, .ref (ga g 15))] [] (cMoveL 15 M i) := by
  intro n
  induction n with
  | zero =>
    intro i h1 h2; omega
  | succ n ih =>
    intro i h1 h2
    have hsh := h.sh
    have hki := h.mk (cMoveL_same 15 M i) (cMoveL_s h.s i)
    have e2 : cMoveL 15 M i 15 2 = M 15 2 := (cMoveL_same 15 M i).2.1
    refine x_iload_n C dX0_goOn_16 rfl ?_
    refine x_aload_n C dX0_goOn_17 rfl ?_
    refine x_getI C fl_X0_64 rfl (by decide) rfl dX0_goOn_18 ?_
    refine x_icmp_ge C (tgt := 44) dX0_goOn_21 (by decide) (fun c21 => ?_) (fun c21 => ?_)
    · rw [e2] at c21
      have he : i = cSh 15 M := Nat.le_antisymm h1 ((ge_tn h.2.1.1 (by omega)).mp c21)
      subst he
      refine x_mem (M' := cB1 15 M) rfl ?_
      refine x_aload_n C dX0_goOn_44 rfl ?_
      refine x_callV0v C (q0_meet15 l g _ (cB1_ok h).1) cd_X0_meet kl_X0_90 ci0 rfl (by decide) (as := []) rfl rfl ⟨⟨by decide, by decide⟩, by decide, by decide⟩ ⟨rfl, rfl⟩ (Nat.le_of_ble_eq_true rfl) dX0_goOn_45 ?_
      refine x_mem (M' := cB2 15 M) (by unfold cB2; rw [show cSh 15 (cB1 15 M) = cSh 15 M from congrArg tn (cB1_ok h).2.2.1]) ?_
      refine x_aload_n C dX0_goOn_48 rfl ?_
      refine x_iconst C (v := 0) dX0_goOn_49 (by decide) ?_
      refine x_aload_n C dX0_goOn_50 rfl ?_
      refine x_getR C fl_X0_33 rfl (by decide) rfl dX0_goOn_51 ?_
      refine x_iconst C (v := 0) dX0_goOn_54 (by decide) ?_
      refine x_iald C (n := 2) rfl (by decide) rfl (rfl) ((by decide : 0 < 2)) dX0_goOn_55 ?_
      refine x_iload_n C dX0_goOn_56 rfl ?_
      refine x_icmp_le C (tgt := 64) dX0_goOn_57 (by decide) (fun c57 => ?_) (fun c57 => ?_)
      · refine x_iconst C (v := 0) dX0_goOn_64 (by decide) ?_
        refine x_top (v' := .int (b2i (M 23 0 < cB2 15 M 23 0))) (by first | (have z := Int32.not_le.mp c57; rw [b2i_t z]; done) | (have z := Int32.not_lt.mpr c57; rw [b2i_f z]; done)) ?_
        refine x_callV0v C (q0_listen15 l g _ (cB2_ok h).1 0 (by decide) _) cd_X0_listen kl_X0_93 ci0 rfl (by decide) (as := [_, _]) rfl rfl ⟨⟨by decide, by decide⟩, by decide, by decide⟩ ⟨rfl, rfl⟩ (Nat.le_of_ble_eq_true rfl) dX0_goOn_65 ?_
        refine x_mem (M' := cB3 15 M) rfl ?_
        refine x_aload_n C dX0_goOn_68 rfl ?_
        refine x_iconst C (v := 1) dX0_goOn_69 (by decide) ?_
        refine x_aload_n C dX0_goOn_70 rfl ?_
        refine x_getR C fl_X0_33 rfl (by decide) rfl dX0_goOn_71 ?_
        refine x_iconst C (v := 1) dX0_goOn_74 (by decide) ?_
        refine x_iald C (n := 2) rfl (by decide) rfl (rfl) ((by decide : 1 < 2)) dX0_goOn_75 ?_
        refine x_iload_n C dX0_goOn_76 rfl ?_
        refine x_icmp_le C (tgt := 84) dX0_goOn_77 (by decide) (fun c77 => ?_) (fun c77 => ?_)
        · refine x_iconst C (v := 0) dX0_goOn_84 (by decide) ?_
          refine x_top (v' := .int (b2i (M 23 1 < cB3 15 M 23 1))) (by first | (have z := Int32.not_le.mp c77; rw [b2i_t z]; done) | (have z := Int32.not_lt.mpr c77; rw [b2i_f z]; done)) ?_
          refine x_callV0v C (q0_listen15 l g _ (cB3_ok h).1 1 (by decide) _) cd_X0_listen kl_X0_93 ci0 rfl (by decide) (as := [_, _]) rfl rfl ⟨⟨by decide, by decide⟩, by decide, by decide⟩ ⟨rfl, rfl⟩ (Nat.le_of_ble_eq_true rfl) dX0_goOn_85 ?_
          refine x_mem (M' := cB4 15 M) rfl ?_
          refine x_aload_n C dX0_goOn_88 rfl ?_
          refine x_dup C dX0_goOn_89 rfl ?_
          refine x_getI C fl_X0_57 rfl (by decide) rfl dX0_goOn_90 ?_
          refine x_iconst C (v := 1) dX0_goOn_93 (by decide) ?_
          refine x_iadd C dX0_goOn_94 ?_
          refine x_putI C fl_X0_57 rfl (by decide) rfl dX0_goOn_95 ?_
          exact x_vret C hq ⟨by decide, by decide⟩ dX0_goOn_98 (rfl) (rfl)
        · refine x_iconst C (v := 1) dX0_goOn_80 (by decide) ?_
          refine x_goto C (tgt := 85) dX0_goOn_81 (by decide) ?_
          refine x_top (v' := .int (b2i (M 23 1 < cB3 15 M 23 1))) (by first | (have z := Int32.not_le.mp c77; rw [b2i_t z]; done) | (have z := Int32.not_lt.mpr c77; rw [b2i_f z]; done)) ?_
          refine x_callV0v C (q0_listen15 l g _ (cB3_ok h).1 1 (by decide) _) cd_X0_listen kl_X0_93 ci0 rfl (by decide) (as := [_, _]) rfl rfl ⟨⟨by decide, by decide⟩, by decide, by decide⟩ ⟨rfl, rfl⟩ (Nat.le_of_ble_eq_true rfl) dX0_goOn_85 ?_
          refine x_mem (M' := cB4 15 M) rfl ?_
          refine x_aload_n C dX0_goOn_88 rfl ?_
          refine x_dup C dX0_goOn_89 rfl ?_
          refine x_getI C fl_X0_57 rfl (by decide) rfl dX0_goOn_90 ?_
          refine x_iconst C (v := 1) dX0_goOn_93 (by decide) ?_
          refine x_iadd C dX0_goOn_94 ?_
          refine x_putI C fl_X0_57 rfl (by decide) rfl dX0_goOn_95 ?_
          exact x_vret C hq ⟨by decide, by decide⟩ dX0_goOn_98 (rfl) (rfl)
      · refine x_iconst C (v := 1) dX0_goOn_60 (by decide) ?_
        refine x_goto C (tgt := 65) dX0_goOn_61 (by decide) ?_
        refine x_top (v' := .int (b2i (M 23 0 < cB2 15 M 23 0))) (by first | (have z := Int32.not_le.mp c57; rw [b2i_t z]; done) | (have z := Int32.not_lt.mpr c57; rw [b2i_f z]; done)) ?_
        refine x_callV0v C (q0_listen15 l g _ (cB2_ok h).1 0 (by decide) _) cd_X0_listen kl_X0_93 ci0 rfl (by decide) (as := [_, _]) rfl rfl ⟨⟨by decide, by decide⟩, by decide, by decide⟩ ⟨rfl, rfl⟩ (Nat.le_of_ble_eq_true rfl) dX0_goOn_65 ?_
        refine x_mem (M' := cB3 15 M) rfl ?_
        refine x_aload_n C dX0_goOn_68 rfl ?_
        refine x_iconst C (v := 1) dX0_goOn_69 (by decide) ?_
        refine x_aload_n C dX0_goOn_70 rfl ?_
        refine x_getR C fl_X0_33 rfl (by decide) rfl dX0_goOn_71 ?_
        refine x_iconst C (v := 1) dX0_goOn_74 (by decide) ?_
        refine x_iald C (n := 2) rfl (by decide) rfl (rfl) ((by decide : 1 < 2)) dX0_goOn_75 ?_
        refine x_iload_n C dX0_goOn_76 rfl ?_
        refine x_icmp_le C (tgt := 84) dX0_goOn_77 (by decide) (fun c77 => ?_) (fun c77 => ?_)
        · refine x_iconst C (v := 0) dX0_goOn_84 (by decide) ?_
          refine x_top (v' := .int (b2i (M 23 1 < cB3 15 M 23 1))) (by first | (have z := Int32.not_le.mp c77; rw [b2i_t z]; done) | (have z := Int32.not_lt.mpr c77; rw [b2i_f z]; done)) ?_
          refine x_callV0v C (q0_listen15 l g _ (cB3_ok h).1 1 (by decide) _) cd_X0_listen kl_X0_93 ci0 rfl (by decide) (as := [_, _]) rfl rfl ⟨⟨by decide, by decide⟩, by decide, by decide⟩ ⟨rfl, rfl⟩ (Nat.le_of_ble_eq_true rfl) dX0_goOn_85 ?_
          refine x_mem (M' := cB4 15 M) rfl ?_
          refine x_aload_n C dX0_goOn_88 rfl ?_
          refine x_dup C dX0_goOn_89 rfl ?_
          refine x_getI C fl_X0_57 rfl (by decide) rfl dX0_goOn_90 ?_
          refine x_iconst C (v := 1) dX0_goOn_93 (by decide) ?_
          refine x_iadd C dX0_goOn_94 ?_
          refine x_putI C fl_X0_57 rfl (by decide) rfl dX0_goOn_95 ?_
          exact x_vret C hq ⟨by decide, by decide⟩ dX0_goOn_98 (rfl) (rfl)
        · refine x_iconst C (v := 1) dX0_goOn_80 (by decide) ?_
          refine x_goto C (tgt := 85) dX0_goOn_81 (by decide) ?_
          refine x_top (v' := .int (b2i (M 23 1 < cB3 15 M 23 1))) (by first | (have z := Int32.not_le.mp c77; rw [b2i_t z]; done) | (have z := Int32.not_lt.mpr c77; rw [b2i_f z]; done)) ?_
          refine x_callV0v C (q0_listen15 l g _ (cB3_ok h).1 1 (by decide) _) cd_X0_listen kl_X0_93 ci0 rfl (by decide) (as := [_, _]) rfl rfl ⟨⟨by decide, by decide⟩, by decide, by decide⟩ ⟨rfl, rfl⟩ (Nat.le_of_ble_eq_true rfl) dX0_goOn_85 ?_
          refine x_mem (M' := cB4 15 M) rfl ?_
          refine x_aload_n C dX0_goOn_88 rfl ?_
          refine x_dup C dX0_goOn_89 rfl ?_
          refine x_getI C fl_X0_57 rfl (by decide) rfl dX0_goOn_90 ?_
          refine x_iconst C (v := 1) dX0_goOn_93 (by decide) ?_
          refine x_iadd C dX0_goOn_94 ?_
          refine x_putI C fl_X0_57 rfl (by decide) rfl dX0_goOn_95 ?_
          exact x_vret C hq ⟨by decide, by decide⟩ dX0_goOn_98 (rfl) (rfl)
    · rw [e2] at c21
      have hlt : i < cSh 15 M := lt_of_nge h.2.1.1 (by omega) c21
      refine x_aload_n C dX0_goOn_24 rfl ?_
      refine x_getR C fl_X0_39 rfl (by decide) rfl dX0_goOn_25 ?_
      refine x_iload_n C dX0_goOn_28 rfl ?_
      refine x_iald C (n := 40) rfl (by decide) rfl (rfl) ((by omega : i < 40)) dX0_goOn_29 ?_
      refine x_if_le C (tgt := 38) dX0_goOn_30 (by decide) (fun c30 => ?_) (fun c30 => ?_)
      · refine x_iinc C (v := nI (i + 1)) (lo' := [(3, _), (2, _), (1, _), (0, _)]) dX0_goOn_38 rfl (nI_inc _) (by decide) rfl ?_
        refine x_goto C (tgt := 16) dX0_goOn_41 (by decide) ?_
        first
          | exact x_mem (show cMoveL 15 M (i + 1) = _ from if_pos z30).symm (ih (i + 1) hlt (by omega))
          | exact x_mem (show cMoveL 15 M (i + 1) = _ from if_neg (Int32.not_lt.mpr c30)).symm (ih (i + 1) hlt (by omega))
      · have z30 := Int32.not_le.mp c30
        refine x_aload_n C dX0_goOn_33 rfl ?_
        refine x_iload_n C dX0_goOn_34 rfl ?_
        refine x_callV0v C (q0_move15 l g _ hki i (by omega)) cd_X0_move kl_X0_86 ci0 rfl (by decide) (as := [_]) rfl rfl ⟨⟨by decide, by decide⟩, by decide, by decide⟩ ⟨rfl, rfl⟩ (Nat.le_of_ble_eq_true rfl) dX0_goOn_35 ?_
        refine x_iinc C (v := nI (i + 1)) (lo' := [(3, _), (2, _), (1, _), (0, _)]) dX0_goOn_38 rfl (nI_inc _) (by decide) rfl ?_
        refine x_goto C (tgt := 16) dX0_goOn_41 (by decide) ?_
        first
          | exact x_mem (show cMoveL 15 M (i + 1) = _ from if_pos z30).symm (ih (i + 1) hlt (by omega))
          | exact x_mem (show cMoveL 15 M (i + 1) = _ from if_neg (Int32.not_lt.mpr c30)).symm (ih (i + 1) hlt (by omega))
set_option maxHeartbeats 1000000 in
set_option maxRecDepth 100000 in
theorem q0_goOn15 (l : Launch) (g : GT) (M : Mem) (h : cOK 15 M) : CM l yX0_goOn cX0_goOn 4 none rmX0_goOn g M [.ref (ga g 15)] (none) (cBeat 15 M) := by
  refine CM.of (by decide) (Nat.le_of_ble_eq_true rfl) (fun X C hq => ?_)
  have C : Cx X g l cX0_goOn 4 RX0 none rmX0_goOn := C
  show V X g 0 0 0 [(0, .ref (ga g 15))] [] M
  refine x_aload_n C dX0_goOn_0 rfl ?_
  refine x_getR C fl_X0_33 rfl (by decide) rfl dX0_goOn_1 ?_
  refine x_iconst C (v := 0) dX0_goOn_4 (by decide) ?_
  refine x_iald C (n := 2) rfl (by decide) rfl (rfl) ((by decide : 0 < 2)) dX0_goOn_5 ?_
  refine x_istore_n C (lo' := [(1, _), (0, _)]) dX0_goOn_6 (by decide) rfl ?_
  refine x_aload_n C dX0_goOn_7 rfl ?_
  refine x_getR C fl_X0_33 rfl (by decide) rfl dX0_goOn_8 ?_
  refine x_iconst C (v := 1) dX0_goOn_11 (by decide) ?_
  refine x_iald C (n := 2) rfl (by decide) rfl (rfl) ((by decide : 1 < 2)) dX0_goOn_12 ?_
  refine x_istore_n C (lo' := [(2, _), (1, _), (0, _)]) dX0_goOn_13 (by decide) rfl ?_
  refine x_iconst C (v := 0) dX0_goOn_14 (by decide) ?_
  refine x_istore_n C (lo' := [(3, _), (2, _), (1, _), (0, _)]) dX0_goOn_15 (by decide) rfl ?_
  exact q0_goOn_lp15 h C hq (cSh 15 M + 1) 0 (Nat.zero_le _) (by omega)
