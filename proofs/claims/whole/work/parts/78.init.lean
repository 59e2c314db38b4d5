/-! The constructors of the canyon and of the model. -/
theorem flf_X0_9 : FLF RX0 9 0 6 := ⟨TX0, 19, ci0, by decide, rfl, ⟨93, by decide +kernel⟩, rfl, _, rfl, fun _ => rfl, fun _ => rfl⟩
theorem flf_X0_15 : FLF RX0 15 0 7 := ⟨TX0, 19, ci0, by decide, rfl, ⟨95, by decide +kernel⟩, rfl, _, rfl, fun _ => rfl, fun _ => rfl⟩
theorem flf_X0_18 : FLF RX0 18 0 8 := ⟨TX0, 19, ci0, by decide, rfl, ⟨97, by decide +kernel⟩, rfl, _, rfl, fun _ => rfl, fun _ => rfl⟩
theorem flf_X0_21 : FLF RX0 21 0 9 := ⟨TX0, 19, ci0, by decide, rfl, ⟨99, by decide +kernel⟩, rfl, _, rfl, fun _ => rfl, fun _ => rfl⟩
theorem flf_X0_24 : FLF RX0 24 0 10 := ⟨TX0, 19, ci0, by decide, rfl, ⟨101, by decide +kernel⟩, rfl, _, rfl, fun _ => rfl, fun _ => rfl⟩
theorem flf_X0_27 : FLF RX0 27 0 11 := ⟨TX0, 19, ci0, by decide, rfl, ⟨103, by decide +kernel⟩, rfl, _, rfl, fun _ => rfl, fun _ => rfl⟩
theorem flf_X0_30 : FLF RX0 30 0 12 := ⟨TX0, 19, ci0, by decide, rfl, ⟨104, by decide +kernel⟩, rfl, _, rfl, fun _ => rfl, fun _ => rfl⟩
theorem flf_X0_33 : FLF RX0 33 0 13 := ⟨TX0, 19, ci0, by decide, rfl, ⟨106, by decide +kernel⟩, rfl, _, rfl, fun _ => rfl, fun _ => rfl⟩
theorem flf_X0_36 : FLF RX0 36 0 14 := ⟨TX0, 19, ci0, by decide, rfl, ⟨108, by decide +kernel⟩, rfl, _, rfl, fun _ => rfl, fun _ => rfl⟩
theorem flf_X0_39 : FLF RX0 39 0 15 := ⟨TX0, 19, ci0, by decide, rfl, ⟨110, by decide +kernel⟩, rfl, _, rfl, fun _ => rfl, fun _ => rfl⟩
theorem flf_X0_42 : FLF RX0 42 0 16 := ⟨TX0, 19, ci0, by decide, rfl, ⟨112, by decide +kernel⟩, rfl, _, rfl, fun _ => rfl, fun _ => rfl⟩
theorem flf_X0_45 : FLF RX0 45 0 17 := ⟨TX0, 19, ci0, by decide, rfl, ⟨114, by decide +kernel⟩, rfl, _, rfl, fun _ => rfl, fun _ => rfl⟩
theorem flf_X0_48 : FLF RX0 48 0 18 := ⟨TX0, 19, ci0, by decide, rfl, ⟨116, by decide +kernel⟩, rfl, _, rfl, fun _ => rfl, fun _ => rfl⟩
def canR (t : YT) (a : Nat) (ws : va_W) : Prop := ∃ q0 q1 q2 q3 q4 q5 q6 q7 q8 q9 q10 q11 q12 : Nat, ws = [(a, .inr (0, [.int 0, .int 0, .int 0, .int 0, .int 0, .int 0, .ref q0, .ref q1, .ref q2, .ref q3, .ref q4, .ref q5, .ref q6, .ref q7, .ref q8, .ref q9, .ref q10, .ref q11, .ref q12])), (q0, .inl (t.2.1, 32, .inl (fun _ => 0))), (q3, .inl (t.2.1, 10, .inl (fun _ => 0))), (q4, .inl (t.2.1, 10, .inl (fun _ => 0))), (q5, .inl (t.2.1, 10, .inl (fun _ => 0))), (q6, .inl (t.2.1, 10, .inl (fun _ => 0))), (q7, .inl (t.2.1, 2, .inl (fun _ => 0))), (q8, .inl (t.2.1, 2, .inl (fun _ => 0))), (q9, .inl (t.2.1, 40, .inl (fun _ => 0))), (q10, .inl (t.2.1, 40, .inl (fun _ => 0))), (q11, .inl (t.2.1, 40, .inl (fun _ => 0))), (q12, .inl (t.2.1, 40, .inl (fun _ => 0))), (q1, .inl (t.2.1, 32, .inl (cpn (fun _ => -1) (fun _ => 0) 32))), (q2, .inl (t.2.1, 32, .inl (cpn (fun _ => -1) (fun _ => 0) 32)))]
abbrev rmY_X0 : Room := { frames := 2, cells := 13, slots := 300, locals := 60 }
set_option maxHeartbeats 1000000 in
set_option maxRecDepth 100000 in
theorem qy_X0 (l : Launch) (t : YT) (a sz : Nat) : CMY l yX0_init cX0_init 1 rmY_X0 t [(a, .inr (0, [.int 0, .int 0, .int 0, .int 0, .int 0, .int 0, .null, .null, .null, .null, .null, .null, .null, .null, .null, .null, .null, .null, .null]))] sz [.ref a] (canR t a) := by
  refine CMY.of (by decide) (Nat.le_of_ble_eq_true rfl) (fun X C hin hq => ?_)
  have C : Cy X t (va_A [(a, .inr (0, [.int 0, .int 0, .int 0, .int 0, .int 0, .int 0, .null, .null, .null, .null, .null, .null, .null, .null, .null, .null, .null, .null, .null]))] sz) l cX0_init 1 RX0 none rmY_X0 := C
  show VE X t (va_A [(a, .inr (0, [.int 0, .int 0, .int 0, .int 0, .int 0, .int 0, .null, .null, .null, .null, .null, .null, .null, .null, .null, .null, .null, .null, .null]))] sz) [(a, .inr (0, [.int 0, .int 0, .int 0, .int 0, .int 0, .int 0, .null, .null, .null, .null, .null, .null, .null, .null, .null, .null, .null, .null, .null]))] 0 0 0 [(0, .ref a)] []
  refine e_aload_n C dX0_init_0 rfl ?_
  refine e_objInit C (i := 77) (by decide +kernel) ⟨by decide, by decide⟩ dX0_init_1 ?_
  refine e_aload_n C dX0_init_4 rfl ?_
  refine e_bipush C (v := 32) dX0_init_5 (by decide) ?_
  refine e_newI C (N := 32) (by decide) (by decide) (by decide) ⟨by decide, by decide⟩ dX0_init_7 (fun q0 => ?_)
  refine e_putF C hin flf_X0_9 (fs' := [.int 0, .int 0, .int 0, .int 0, .int 0, .int 0, .ref q0, .null, .null, .null, .null, .null, .null, .null, .null, .null, .null, .null, .null]) (Nat.le_of_ble_eq_true rfl) rfl dX0_init_9 ?_
  refine e_ws (ws' := [(a, .inr (0, [.int 0, .int 0, .int 0, .int 0, .int 0, .int 0, .ref q0, .null, .null, .null, .null, .null, .null, .null, .null, .null, .null, .null, .null])), (q0, .inl (t.2.1, 32, .inl (fun _ => 0)))]) rfl ?_
  refine e_aload_n C dX0_init_12 rfl ?_
  refine e_bipush C (v := 32) dX0_init_13 (by decide) ?_
  refine e_newI C (N := 32) (by decide) (by decide) (by decide) ⟨by decide, by decide⟩ dX0_init_15 (fun q1 => ?_)
  refine e_putF C hin flf_X0_15 (fs' := [.int 0, .int 0, .int 0, .int 0, .int 0, .int 0, .ref q0, .ref q1, .null, .null, .null, .null, .null, .null, .null, .null, .null, .null, .null]) (Nat.le_of_ble_eq_true rfl) rfl dX0_init_17 ?_
  refine e_ws (ws' := [(a, .inr (0, [.int 0, .int 0, .int 0, .int 0, .int 0, .int 0, .ref q0, .ref q1, .null, .null, .null, .null, .null, .null, .null, .null, .null, .null, .null])), (q0, .inl (t.2.1, 32, .inl (fun _ => 0))), (q1, .inl (t.2.1, 32, .inl (fun _ => 0)))]) rfl ?_
  refine e_aload_n C dX0_init_20 rfl ?_
  refine e_bipush C (v := 32) dX0_init_21 (by decide) ?_
  refine e_newI C (N := 32) (by decide) (by decide) (by decide) ⟨by decide, by decide⟩ dX0_init_23 (fun q2 => ?_)
  refine e_putF C hin flf_X0_18 (fs' := [.int 0, .int 0, .int 0, .int 0, .int 0, .int 0, .ref q0, .ref q1, .ref q2, .null, .null, .null, .null, .null, .null, .null, .null, .null, .null]) (Nat.le_of_ble_eq_true rfl) rfl dX0_init_25 ?_
  refine e_ws (ws' := [(a, .inr (0, [.int 0, .int 0, .int 0, .int 0, .int 0, .int 0, .ref q0, .ref q1, .ref q2, .null, .null, .null, .null, .null, .null, .null, .null, .null, .null])), (q0, .inl (t.2.1, 32, .inl (fun _ => 0))), (q1, .inl (t.2.1, 32, .inl (fun _ => 0))), (q2, .inl (t.2.1, 32, .inl (fun _ => 0)))]) rfl ?_
  refine e_aload_n C dX0_init_28 rfl ?_
  refine e_bipush C (v := 10) dX0_init_29 (by decide) ?_
  refine e_newI C (N := 10) (by decide) (by decide) (by decide) ⟨by decide, by decide⟩ dX0_init_31 (fun q3 => ?_)
  refine e_putF C hin flf_X0_21 (fs' := [.int 0, .int 0, .int 0, .int 0, .int 0, .int 0, .ref q0, .ref q1, .ref q2, .ref q3, .null, .null, .null, .null, .null, .null, .null, .null, .null]) (Nat.le_of_ble_eq_true rfl) rfl dX0_init_33 ?_
  refine e_ws (ws' := [(a, .inr (0, [.int 0, .int 0, .int 0, .int 0, .int 0, .int 0, .ref q0, .ref q1, .ref q2, .ref q3, .null, .null, .null, .null, .null, .null, .null, .null, .null])), (q0, .inl (t.2.1, 32, .inl (fun _ => 0))), (q1, .inl (t.2.1, 32, .inl (fun _ => 0))), (q2, .inl (t.2.1, 32, .inl (fun _ => 0))), (q3, .inl (t.2.1, 10, .inl (fun _ => 0)))]) rfl ?_
  refine e_aload_n C dX0_init_36 rfl ?_
  refine e_bipush C (v := 10) dX0_init_37 (by decide) ?_
  refine e_newI C (N := 10) (by decide) (by decide) (by decide) ⟨by decide, by decide⟩ dX0_init_39 (fun q4 => ?_)
  refine e_putF C hin flf_X0_24 (fs' := [.int 0, .int 0, .int 0, .int 0, .int 0, .int 0, .ref q0, .ref q1, .ref q2, .ref q3, .ref q4, .null, .null, .null, .null, .null, .null, .null, .null]) (Nat.le_of_ble_eq_true rfl) rfl dX0_init_41 ?_
  refine e_ws (ws' := [(a, .inr (0, [.int 0, .int 0, .int 0, .int 0, .int 0, .int 0, .ref q0, .ref q1, .ref q2, .ref q3, .ref q4, .null, .null, .null, .null, .null, .null, .null, .null])), (q0, .inl (t.2.1, 32, .inl (fun _ => 0))), (q1, .inl (t.2.1, 32, .inl (fun _ => 0))), (q2, .inl (t.2.1, 32, .inl (fun _ => 0))), (q3, .inl (t.2.1, 10, .inl (fun _ => 0))), (q4, .inl (t.2.1, 10, .inl (fun _ => 0)))]) rfl ?_
  refine e_aload_n C dX0_init_44 rfl ?_
  refine e_bipush C (v := 10) dX0_init_45 (by decide) ?_
  refine e_newI C (N := 10) (by decide) (by decide) (by decide) ⟨by decide, by decide⟩ dX0_init_47 (fun q5 => ?_)
  refine e_putF C hin flf_X0_27 (fs' := [.int 0, .int 0, .int 0, .int 0, .int 0, .int 0, .ref q0, .ref q1, .ref q2, .ref q3, .ref q4, .ref q5, .null, .null, .null, .null, .null, .null, .null]) (Nat.le_of_ble_eq_true rfl) rfl dX0_init_49 ?_
  refine e_ws (ws' := [(a, .inr (0, [.int 0, .int 0, .int 0, .int 0, .int 0, .int 0, .ref q0, .ref q1, .ref q2, .ref q3, .ref q4, .ref q5, .null, .null, .null, .null, .null, .null, .null])), (q0, .inl (t.2.1, 32, .inl (fun _ => 0))), (q1, .inl (t.2.1, 32, .inl (fun _ => 0))), (q2, .inl (t.2.1, 32, .inl (fun _ => 0))), (q3, .inl (t.2.1, 10, .inl (fun _ => 0))), (q4, .inl (t.2.1, 10, .inl (fun _ => 0))), (q5, .inl (t.2.1, 10, .inl (fun _ => 0)))]) rfl ?_
  refine e_aload_n C dX0_init_52 rfl ?_
  refine e_bipush C (v := 10) dX0_init_53 (by decide) ?_
  refine e_newI C (N := 10) (by decide) (by decide) (by decide) ⟨by decide, by decide⟩ dX0_init_55 (fun q6 => ?_)
  refine e_putF C hin flf_X0_30 (fs' := [.int 0, .int 0, .int 0, .int 0, .int 0, .int 0, .ref q0, .ref q1, .ref q2, .ref q3, .ref q4, .ref q5, .ref q6, .null, .null, .null, .null, .null, .null]) (Nat.le_of_ble_eq_true rfl) rfl dX0_init_57 ?_
  refine e_ws (ws' := [(a, .inr (0, [.int 0, .int 0, .int 0, .int 0, .int 0, .int 0, .ref q0, .ref q1, .ref q2, .ref q3, .ref q4, .ref q5, .ref q6, .null, .null, .null, .null, .null, .null])), (q0, .inl (t.2.1, 32, .inl (fun _ => 0))), (q1, .inl (t.2.1, 32, .inl (fun _ => 0))), (q2, .inl (t.2.1, 32, .inl (fun _ => 0))), (q3, .inl (t.2.1, 10, .inl (fun _ => 0))), (q4, .inl (t.2.1, 10, .inl (fun _ => 0))), (q5, .inl (t.2.1, 10, .inl (fun _ => 0))), (q6, .inl (t.2.1, 10, .inl (fun _ => 0)))]) rfl ?_
  refine e_aload_n C dX0_init_60 rfl ?_
  refine e_iconst C (v := 2) dX0_init_61 (by decide) ?_
  refine e_newI C (N := 2) (by decide) (by decide) (by decide) ⟨by decide, by decide⟩ dX0_init_62 (fun q7 => ?_)
  refine e_putF C hin flf_X0_33 (fs' := [.int 0, .int 0, .int 0, .int 0, .int 0, .int 0, .ref q0, .ref q1, .ref q2, .ref q3, .ref q4, .ref q5, .ref q6, .ref q7, .null, .null, .null, .null, .null]) (Nat.le_of_ble_eq_true rfl) rfl dX0_init_64 ?_
  refine e_ws (ws' := [(a, .inr (0, [.int 0, .int 0, .int 0, .int 0, .int 0, .int 0, .ref q0, .ref q1, .ref q2, .ref q3, .ref q4, .ref q5, .ref q6, .ref q7, .null, .null, .null, .null, .null])), (q0, .inl (t.2.1, 32, .inl (fun _ => 0))), (q1, .inl (t.2.1, 32, .inl (fun _ => 0))), (q2, .inl (t.2.1, 32, .inl (fun _ => 0))), (q3, .inl (t.2.1, 10, .inl (fun _ => 0))), (q4, .inl (t.2.1, 10, .inl (fun _ => 0))), (q5, .inl (t.2.1, 10, .inl (fun _ => 0))), (q6, .inl (t.2.1, 10, .inl (fun _ => 0))), (q7, .inl (t.2.1, 2, .inl (fun _ => 0)))]) rfl ?_
  refine e_aload_n C dX0_init_67 rfl ?_
  refine e_iconst C (v := 2) dX0_init_68 (by decide) ?_
  refine e_newI C (N := 2) (by decide) (by decide) (by decide) ⟨by decide, by decide⟩ dX0_init_69 (fun q8 => ?_)
  refine e_putF C hin flf_X0_36 (fs' := [.int 0, .int 0, .int 0, .int 0, .int 0, .int 0, .ref q0, .ref q1, .ref q2, .ref q3, .ref q4, .ref q5, .ref q6, .ref q7, .ref q8, .null, .null, .null, .null]) (Nat.le_of_ble_eq_true rfl) rfl dX0_init_71 ?_
  refine e_ws (ws' := [(a, .inr (0, [.int 0, .int 0, .int 0, .int 0, .int 0, .int 0, .ref q0, .ref q1, .ref q2, .ref q3, .ref q4, .ref q5, .ref q6, .ref q7, .ref q8, .null, .null, .null, .null])), (q0, .inl (t.2.1, 32, .inl (fun _ => 0))), (q1, .inl (t.2.1, 32, .inl (fun _ => 0))), (q2, .inl (t.2.1, 32, .inl (fun _ => 0))), (q3, .inl (t.2.1, 10, .inl (fun _ => 0))), (q4, .inl (t.2.1, 10, .inl (fun _ => 0))), (q5, .inl (t.2.1, 10, .inl (fun _ => 0))), (q6, .inl (t.2.1, 10, .inl (fun _ => 0))), (q7, .inl (t.2.1, 2, .inl (fun _ => 0))), (q8, .inl (t.2.1, 2, .inl (fun _ => 0)))]) rfl ?_
  refine e_aload_n C dX0_init_74 rfl ?_
  refine e_bipush C (v := 40) dX0_init_75 (by decide) ?_
  refine e_newI C (N := 40) (by decide) (by decide) (by decide) ⟨by decide, by decide⟩ dX0_init_77 (fun q9 => ?_)
  refine e_putF C hin flf_X0_39 (fs' := [.int 0, .int 0, .int 0, .int 0, .int 0, .int 0, .ref q0, .ref q1, .ref q2, .ref q3, .ref q4, .ref q5, .ref q6, .ref q7, .ref q8, .ref q9, .null, .null, .null]) (Nat.le_of_ble_eq_true rfl) rfl dX0_init_79 ?_
  refine e_ws (ws' := [(a, .inr (0, [.int 0, .int 0, .int 0, .int 0, .int 0, .int 0, .ref q0, .ref q1, .ref q2, .ref q3, .ref q4, .ref q5, .ref q6, .ref q7, .ref q8, .ref q9, .null, .null, .null])), (q0, .inl (t.2.1, 32, .inl (fun _ => 0))), (q1, .inl (t.2.1, 32, .inl (fun _ => 0))), (q2, .inl (t.2.1, 32, .inl (fun _ => 0))), (q3, .inl (t.2.1, 10, .inl (fun _ => 0))), (q4, .inl (t.2.1, 10, .inl (fun _ => 0))), (q5, .inl (t.2.1, 10, .inl (fun _ => 0))), (q6, .inl (t.2.1, 10, .inl (fun _ => 0))), (q7, .inl (t.2.1, 2, .inl (fun _ => 0))), (q8, .inl (t.2.1, 2, .inl (fun _ => 0))), (q9, .inl (t.2.1, 40, .inl (fun _ => 0)))]) rfl ?_
  refine e_aload_n C dX0_init_82 rfl ?_
  refine e_bipush C (v := 40) dX0_init_83 (by decide) ?_
  refine e_newI C (N := 40) (by decide) (by decide) (by decide) ⟨by decide, by decide⟩ dX0_init_85 (fun q10 => ?_)
  refine e_putF C hin flf_X0_42 (fs' := [.int 0, .int 0, .int 0, .int 0, .int 0, .int 0, .ref q0, .ref q1, .ref q2, .ref q3, .ref q4, .ref q5, .ref q6, .ref q7, .ref q8, .ref q9, .ref q10, .null, .null]) (Nat.le_of_ble_eq_true rfl) rfl dX0_init_87 ?_
  refine e_ws (ws' := [(a, .inr (0, [.int 0, .int 0, .int 0, .int 0, .int 0, .int 0, .ref q0, .ref q1, .ref q2, .ref q3, .ref q4, .ref q5, .ref q6, .ref q7, .ref q8, .ref q9, .ref q10, .null, .null])), (q0, .inl (t.2.1, 32, .inl (fun _ => 0))), (q1, .inl (t.2.1, 32, .inl (fun _ => 0))), (q2, .inl (t.2.1, 32, .inl (fun _ => 0))), (q3, .inl (t.2.1, 10, .inl (fun _ => 0))), (q4, .inl (t.2.1, 10, .inl (fun _ => 0))), (q5, .inl (t.2.1, 10, .inl (fun _ => 0))), (q6, .inl (t.2.1, 10, .inl (fun _ => 0))), (q7, .inl (t.2.1, 2, .inl (fun _ => 0))), (q8, .inl (t.2.1, 2, .inl (fun _ => 0))), (q9, .inl (t.2.1, 40, .inl (fun _ => 0))), (q10, .inl (t.2.1, 40, .inl (fun _ => 0)))]) rfl ?_
  refine e_aload_n C dX0_init_90 rfl ?_
  refine e_bipush C (v := 40) dX0_init_91 (by decide) ?_
  refine e_newI C (N := 40) (by decide) (by decide) (by decide) ⟨by decide, by decide⟩ dX0_init_93 (fun q11 => ?_)
  refine e_putF C hin flf_X0_45 (fs' := [.int 0, .int 0, .int 0, .int 0, .int 0, .int 0, .ref q0, .ref q1, .ref q2, .ref q3, .ref q4, .ref q5, .ref q6, .ref q7, .ref q8, .ref q9, .ref q10, .ref q11, .null]) (Nat.le_of_ble_eq_true rfl) rfl dX0_init_95 ?_
  refine e_ws (ws' := [(a, .inr (0, [.int 0, .int 0, .int 0, .int 0, .int 0, .int 0, .ref q0, .ref q1, .ref q2, .ref q3, .ref q4, .ref q5, .ref q6, .ref q7, .ref q8, .ref q9, .ref q10, .ref q11, .null])), (q0, .inl (t.2.1, 32, .inl (fun _ => 0))), (q1, .inl (t.2.1, 32, .inl (fun _ => 0))), (q2, .inl (t.2.1, 32, .inl (fun _ => 0))), (q3, .inl (t.2.1, 10, .inl (fun _ => 0))), (q4, .inl (t.2.1, 10, .inl (fun _ => 0))), (q5, .inl (t.2.1, 10, .inl (fun _ => 0))), (q6, .inl (t.2.1, 10, .inl (fun _ => 0))), (q7, .inl (t.2.1, 2, .inl (fun _ => 0))), (q8, .inl (t.2.1, 2, .inl (fun _ => 0))), (q9, .inl (t.2.1, 40, .inl (fun _ => 0))), (q10, .inl (t.2.1, 40, .inl (fun _ => 0))), (q11, .inl (t.2.1, 40, .inl (fun _ => 0)))]) rfl ?_
  refine e_aload_n C dX0_init_98 rfl ?_
  refine e_bipush C (v := 40) dX0_init_99 (by decide) ?_
  refine e_newI C (N := 40) (by decide) (by decide) (by decide) ⟨by decide, by decide⟩ dX0_init_101 (fun q12 => ?_)
  refine e_putF C hin flf_X0_48 (fs' := [.int 0, .int 0, .int 0, .int 0, .int 0, .int 0, .ref q0, .ref q1, .ref q2, .ref q3, .ref q4, .ref q5, .ref q6, .ref q7, .ref q8, .ref q9, .ref q10, .ref q11, .ref q12]) (Nat.le_of_ble_eq_true rfl) rfl dX0_init_103 ?_
  refine e_ws (ws' := [(a, .inr (0, [.int 0, .int 0, .int 0, .int 0, .int 0, .int 0, .ref q0, .ref q1, .ref q2, .ref q3, .ref q4, .ref q5, .ref q6, .ref q7, .ref q8, .ref q9, .ref q10, .ref q11, .ref q12])), (q0, .inl (t.2.1, 32, .inl (fun _ => 0))), (q1, .inl (t.2.1, 32, .inl (fun _ => 0))), (q2, .inl (t.2.1, 32, .inl (fun _ => 0))), (q3, .inl (t.2.1, 10, .inl (fun _ => 0))), (q4, .inl (t.2.1, 10, .inl (fun _ => 0))), (q5, .inl (t.2.1, 10, .inl (fun _ => 0))), (q6, .inl (t.2.1, 10, .inl (fun _ => 0))), (q7, .inl (t.2.1, 2, .inl (fun _ => 0))), (q8, .inl (t.2.1, 2, .inl (fun _ => 0))), (q9, .inl (t.2.1, 40, .inl (fun _ => 0))), (q10, .inl (t.2.1, 40, .inl (fun _ => 0))), (q11, .inl (t.2.1, 40, .inl (fun _ => 0))), (q12, .inl (t.2.1, 40, .inl (fun _ => 0)))]) rfl ?_
  refine e_aload_n C dX0_init_106 rfl ?_
  refine e_getF C 0 fl_X0_15 rfl rfl dX0_init_107 ?_
  refine e_iconst C (v := (-1)) dX0_init_110 (by decide) ?_
  refine e_callS C (as := [_, _]) (wr := [(a, .inr (0, [.int 0, .int 0, .int 0, .int 0, .int 0, .int 0, .ref q0, .ref q1, .ref q2, .ref q3, .ref q4, .ref q5, .ref q6, .ref q7, .ref q8, .ref q9, .ref q10, .ref q11, .ref q12])), (q0, .inl (t.2.1, 32, .inl (fun _ => 0))), (q2, .inl (t.2.1, 32, .inl (fun _ => 0))), (q3, .inl (t.2.1, 10, .inl (fun _ => 0))), (q4, .inl (t.2.1, 10, .inl (fun _ => 0))), (q5, .inl (t.2.1, 10, .inl (fun _ => 0))), (q6, .inl (t.2.1, 10, .inl (fun _ => 0))), (q7, .inl (t.2.1, 2, .inl (fun _ => 0))), (q8, .inl (t.2.1, 2, .inl (fun _ => 0))), (q9, .inl (t.2.1, 40, .inl (fun _ => 0))), (q10, .inl (t.2.1, 40, .inl (fun _ => 0))), (q11, .inl (t.2.1, 40, .inl (fun _ => 0))), (q12, .inl (t.2.1, 40, .inl (fun _ => 0)))]) [2] [0, 1, 3, 4, 5, 6, 7, 8, 9, 10, 11, 12, 13] (fun sz => qy_fill l t q1 sz (-1) (fun _ => 0)) cd_J7_fill_53178 kl_X0_51 rfl rfl ⟨⟨by decide, by decide⟩, by decide, by decide⟩ (Nat.le_of_ble_eq_true rfl) dX0_init_111 rfl rfl rfl rfl rfl (by decide) (fun w1 hw1 => ?_)
  subst hw1
  refine e_ws (ws' := [(a, .inr (0, [.int 0, .int 0, .int 0, .int 0, .int 0, .int 0, .ref q0, .ref q1, .ref q2, .ref q3, .ref q4, .ref q5, .ref q6, .ref q7, .ref q8, .ref q9, .ref q10, .ref q11, .ref q12])), (q0, .inl (t.2.1, 32, .inl (fun _ => 0))), (q2, .inl (t.2.1, 32, .inl (fun _ => 0))), (q3, .inl (t.2.1, 10, .inl (fun _ => 0))), (q4, .inl (t.2.1, 10, .inl (fun _ => 0))), (q5, .inl (t.2.1, 10, .inl (fun _ => 0))), (q6, .inl (t.2.1, 10, .inl (fun _ => 0))), (q7, .inl (t.2.1, 2, .inl (fun _ => 0))), (q8, .inl (t.2.1, 2, .inl (fun _ => 0))), (q9, .inl (t.2.1, 40, .inl (fun _ => 0))), (q10, .inl (t.2.1, 40, .inl (fun _ => 0))), (q11, .inl (t.2.1, 40, .inl (fun _ => 0))), (q12, .inl (t.2.1, 40, .inl (fun _ => 0))), (q1, .inl (t.2.1, 32, .inl (cpn (fun _ => -1) (fun _ => 0) 32)))]) rfl ?_
  refine e_aload_n C dX0_init_114 rfl ?_
  refine e_getF C 0 fl_X0_18 rfl rfl dX0_init_115 ?_
  refine e_iconst C (v := (-1)) dX0_init_118 (by decide) ?_
  refine e_callS C (as := [_, _]) (wr := [(a, .inr (0, [.int 0, .int 0, .int 0, .int 0, .int 0, .int 0, .ref q0, .ref q1, .ref q2, .ref q3, .ref q4, .ref q5, .ref q6, .ref q7, .ref q8, .ref q9, .ref q10, .ref q11, .ref q12])), (q0, .inl (t.2.1, 32, .inl (fun _ => 0))), (q3, .inl (t.2.1, 10, .inl (fun _ => 0))), (q4, .inl (t.2.1, 10, .inl (fun _ => 0))), (q5, .inl (t.2.1, 10, .inl (fun _ => 0))), (q6, .inl (t.2.1, 10, .inl (fun _ => 0))), (q7, .inl (t.2.1, 2, .inl (fun _ => 0))), (q8, .inl (t.2.1, 2, .inl (fun _ => 0))), (q9, .inl (t.2.1, 40, .inl (fun _ => 0))), (q10, .inl (t.2.1, 40, .inl (fun _ => 0))), (q11, .inl (t.2.1, 40, .inl (fun _ => 0))), (q12, .inl (t.2.1, 40, .inl (fun _ => 0))), (q1, .inl (t.2.1, 32, .inl (cpn (fun _ => -1) (fun _ => 0) 32)))]) [2] [0, 1, 3, 4, 5, 6, 7, 8, 9, 10, 11, 12, 13] (fun sz => qy_fill l t q2 sz (-1) (fun _ => 0)) cd_J7_fill_53178 kl_X0_51 rfl rfl ⟨⟨by decide, by decide⟩, by decide, by decide⟩ (Nat.le_of_ble_eq_true rfl) dX0_init_119 rfl rfl rfl rfl rfl (by decide) (fun w1 hw1 => ?_)
  subst hw1
  refine e_ws (ws' := [(a, .inr (0, [.int 0, .int 0, .int 0, .int 0, .int 0, .int 0, .ref q0, .ref q1, .ref q2, .ref q3, .ref q4, .ref q5, .ref q6, .ref q7, .ref q8, .ref q9, .ref q10, .ref q11, .ref q12])), (q0, .inl (t.2.1, 32, .inl (fun _ => 0))), (q3, .inl (t.2.1, 10, .inl (fun _ => 0))), (q4, .inl (t.2.1, 10, .inl (fun _ => 0))), (q5, .inl (t.2.1, 10, .inl (fun _ => 0))), (q6, .inl (t.2.1, 10, .inl (fun _ => 0))), (q7, .inl (t.2.1, 2, .inl (fun _ => 0))), (q8, .inl (t.2.1, 2, .inl (fun _ => 0))), (q9, .inl (t.2.1, 40, .inl (fun _ => 0))), (q10, .inl (t.2.1, 40, .inl (fun _ => 0))), (q11, .inl (t.2.1, 40, .inl (fun _ => 0))), (q12, .inl (t.2.1, 40, .inl (fun _ => 0))), (q1, .inl (t.2.1, 32, .inl (cpn (fun _ => -1) (fun _ => 0) 32))), (q2, .inl (t.2.1, 32, .inl (cpn (fun _ => -1) (fun _ => 0) 32)))]) rfl ?_
  exact e_vret C hq ⟨by decide, by decide⟩ dX0_init_122 ⟨q0, q1, q2, q3, q4, q5, q6, q7, q8, q9, q10, q11, q12, rfl⟩
theorem flf_X2_9 : FLF RX2 9 2 3 := ⟨TX2, 10, ci2, by decide, rfl, ⟨628, by decide +kernel⟩, rfl, _, rfl, fun _ => rfl, fun _ => rfl⟩
theorem flf_X2_13 : FLF RX2 13 2 4 := ⟨TX2, 10, ci2, by decide, rfl, ⟨629, by decide +kernel⟩, rfl, _, rfl, fun _ => rfl, fun _ => rfl⟩
theorem flf_X2_16 : FLF RX2 16 2 5 := ⟨TX2, 10, ci2, by decide, rfl, ⟨630, by decide +kernel⟩, rfl, _, rfl, fun _ => rfl, fun _ => rfl⟩
theorem flf_X2_19 : FLF RX2 19 2 6 := ⟨TX2, 10, ci2, by decide, rfl, ⟨631, by decide +kernel⟩, rfl, _, rfl, fun _ => rfl, fun _ => rfl⟩
theorem flf_X2_22 : FLF RX2 22 2 7 := ⟨TX2, 10, ci2, by decide, rfl, ⟨632, by decide +kernel⟩, rfl, _, rfl, fun _ => rfl, fun _ => rfl⟩
theorem flf_X2_25 : FLF RX2 25 2 8 := ⟨TX2, 10, ci2, by decide, rfl, ⟨633, by decide +kernel⟩, rfl, _, rfl, fun _ => rfl, fun _ => rfl⟩
theorem flf_X2_28 : FLF RX2 28 2 9 := ⟨TX2, 10, ci2, by decide, rfl, ⟨634, by decide +kernel⟩, rfl, _, rfl, fun _ => rfl, fun _ => rfl⟩
def modR (t : YT) (a : Nat) (ws : va_W) : Prop := ∃ q0 q1 q2 q3 q4 q5 q6 : Nat, ws = [(a, .inr (2, [.int 0, .int 0, .int 0, .ref q0, .ref q1, .ref q2, .ref q3, .ref q4, .ref q5, .ref q6])), (q0, .inl (t.2.1, 32, .inl (fun _ => 0))), (q1, .inl (t.2.1, 32, .inl (cpn (fun _ => -1) (fun _ => 0) 32))), (q2, .inl (t.2.1, 10, .inl (fun _ => 0))), (q3, .inl (t.2.1, 10, .inl (fun _ => 0))), (q4, .inl (t.2.1, 187, .inl (fun _ => 0))), (q5, .inl (t.2.1, 187, .inl (fun _ => 0))), (q6, .inl (t.2.2.1, 2, .inl (fun _ => 0)))]
abbrev rmY_X2 : Room := { frames := 1, cells := 7, slots := 460, locals := 30 }
set_option maxHeartbeats 1000000 in
set_option maxRecDepth 100000 in
theorem qy_X2_lp {X : XT} {t : YT} {l : Launch} {A : Nat → Prop} {a sz q0 q1 q2 q3 q4 q5 q6 : Nat} {ws0 : va_W} (hA : A = va_A ws0 sz) (C : Cy X t A l cX2_init 2 RX2 none rmY_X2) (hq : RtY X t ws0 sz rmY_X2 (modR t a)) : ∀ (n i : Nat), i ≤ 32 → 33 ≤ i + n → VE X t A [(a, .inr (2, [.int 0, .int 0, .int 0, .ref q0, .ref q1, .ref q2, .ref q3, .ref q4, .ref q5, .ref q6])), (q0, .inl (t.2.1, 32, .inl (fun _ => 0))), (q1, .inl (t.2.1, 32, .inl (cpn (fun _ => -1) (fun _ => 0) i))), (q2, .inl (t.2.1, 10, .inl (fun _ => 0))), (q3, .inl (t.2.1, 10, .inl (fun _ => 0))), (q4, .inl (t.2.1, 187, .inl (fun _ => 0))), (q5, .inl (t.2.1, 187, .inl (fun _ => 0))), (q6, .inl (t.2.2.1, 2, .inl (fun _ => 0)))] 7 460 63 [(1, .int (nI i)), (0, .ref a)] [] := by
  intro n
  induction n with
  | zero => intro i h1 h2; omega
  | succ n ih =>
    intro i h1 h2
    refine e_iload_n C dX2_init_63 rfl ?_
    refine e_bipush C (v := nI 32) dX2_init_64 (by decide) ?_
    refine e_icmp_ge C (tgt := 82) dX2_init_66 (by decide) (fun c => ?_) (fun c => ?_)
    · have hi : i = 32 := by
        have := (nI_leI (a := 32) (b := i) (by omega) (by omega)).mp c
        omega
      subst hi
      subst hA
      exact e_vret C hq ⟨by decide, by decide⟩ dX2_init_82 ⟨q0, q1, q2, q3, q4, q5, q6, rfl⟩
    · have hi : i < 32 := by
        have hne : ¬ 32 ≤ i := fun z => c ((nI_leI (a := 32) (b := i) (by omega) (by omega)).mpr z)
        omega
      refine e_aload_n C dX2_init_69 rfl ?_
      refine e_getF C 0 fl_X2_13 rfl rfl dX2_init_70 ?_
      refine e_iload_n C dX2_init_73 rfl ?_
      refine e_iconst C (v := (-1)) dX2_init_74 (by decide) ?_
      refine e_iast C 2 rfl rfl hi (by decide) dX2_init_75 ?_
      refine e_ws (ws' := [(a, .inr (2, [.int 0, .int 0, .int 0, .ref q0, .ref q1, .ref q2, .ref q3, .ref q4, .ref q5, .ref q6])), (q0, .inl (t.2.1, 32, .inl (fun _ => 0))), (q1, .inl (t.2.1, 32, .inl (cpn (fun _ => -1) (fun _ => 0) (i + 1)))), (q2, .inl (t.2.1, 10, .inl (fun _ => 0))), (q3, .inl (t.2.1, 10, .inl (fun _ => 0))), (q4, .inl (t.2.1, 187, .inl (fun _ => 0))), (q5, .inl (t.2.1, 187, .inl (fun _ => 0))), (q6, .inl (t.2.2.1, 2, .inl (fun _ => 0)))]) (by rw [cpn_s]; rfl) ?_
      refine e_iinc C (v := nI (i + 1)) (lo' := [(1, _), (0, _)]) dX2_init_76 rfl (nI_inc _) (by decide) rfl ?_
      refine e_goto C (tgt := 63) dX2_init_79 (by decide) ?_
      exact ih (i + 1) (by omega) (by omega)
set_option maxHeartbeats 1000000 in
set_option maxRecDepth 100000 in
theorem qy_X2 (l : Launch) (t : YT) (a sz : Nat) : CMY l yX2_init cX2_init 2 rmY_X2 t [(a, .inr (2, [.int 0, .int 0, .int 0, .null, .null, .null, .null, .null, .null, .null]))] sz [.ref a] (modR t a) := by
  refine CMY.of (by decide) (Nat.le_of_ble_eq_true rfl) (fun X C hin hq => ?_)
  have C : Cy X t (va_A [(a, .inr (2, [.int 0, .int 0, .int 0, .null, .null, .null, .null, .null, .null, .null]))] sz) l cX2_init 2 RX2 none rmY_X2 := C
  show VE X t (va_A [(a, .inr (2, [.int 0, .int 0, .int 0, .null, .null, .null, .null, .null, .null, .null]))] sz) [(a, .inr (2, [.int 0, .int 0, .int 0, .null, .null, .null, .null, .null, .null, .null]))] 0 0 0 [(0, .ref a)] []
  refine e_aload_n C dX2_init_0 rfl ?_
  refine e_objInit C (i := 624) (by decide +kernel) ⟨by decide, by decide⟩ dX2_init_1 ?_
  refine e_aload_n C dX2_init_4 rfl ?_
  refine e_bipush C (v := 32) dX2_init_5 (by decide) ?_
  refine e_newI C (N := 32) (by decide) (by decide) (by decide) ⟨by decide, by decide⟩ dX2_init_7 (fun q0 => ?_)
  refine e_putF C hin flf_X2_9 (fs' := [.int 0, .int 0, .int 0, .ref q0, .null, .null, .null, .null, .null, .null]) (Nat.le_of_ble_eq_true rfl) rfl dX2_init_9 ?_
  refine e_ws (ws' := [(a, .inr (2, [.int 0, .int 0, .int 0, .ref q0, .null, .null, .null, .null, .null, .null])), (q0, .inl (t.2.1, 32, .inl (fun _ => 0)))]) rfl ?_
  refine e_aload_n C dX2_init_12 rfl ?_
  refine e_bipush C (v := 32) dX2_init_13 (by decide) ?_
  refine e_newI C (N := 32) (by decide) (by decide) (by decide) ⟨by decide, by decide⟩ dX2_init_15 (fun q1 => ?_)
  refine e_putF C hin flf_X2_13 (fs' := [.int 0, .int 0, .int 0, .ref q0, .ref q1, .null, .null, .null, .null, .null]) (Nat.le_of_ble_eq_true rfl) rfl dX2_init_17 ?_
  refine e_ws (ws' := [(a, .inr (2, [.int 0, .int 0, .int 0, .ref q0, .ref q1, .null, .null, .null, .null, .null])), (q0, .inl (t.2.1, 32, .inl (fun _ => 0))), (q1, .inl (t.2.1, 32, .inl (fun _ => 0)))]) rfl ?_
  refine e_aload_n C dX2_init_20 rfl ?_
  refine e_bipush C (v := 10) dX2_init_21 (by decide) ?_
  refine e_newI C (N := 10) (by decide) (by decide) (by decide) ⟨by decide, by decide⟩ dX2_init_23 (fun q2 => ?_)
  refine e_putF C hin flf_X2_16 (fs' := [.int 0, .int 0, .int 0, .ref q0, .ref q1, .ref q2, .null, .null, .null, .null]) (Nat.le_of_ble_eq_true rfl) rfl dX2_init_25 ?_
  refine e_ws (ws' := [(a, .inr (2, [.int 0, .int 0, .int 0, .ref q0, .ref q1, .ref q2, .null, .null, .null, .null])), (q0, .inl (t.2.1, 32, .inl (fun _ => 0))), (q1, .inl (t.2.1, 32, .inl (fun _ => 0))), (q2, .inl (t.2.1, 10, .inl (fun _ => 0)))]) rfl ?_
  refine e_aload_n C dX2_init_28 rfl ?_
  refine e_bipush C (v := 10) dX2_init_29 (by decide) ?_
  refine e_newI C (N := 10) (by decide) (by decide) (by decide) ⟨by decide, by decide⟩ dX2_init_31 (fun q3 => ?_)
  refine e_putF C hin flf_X2_19 (fs' := [.int 0, .int 0, .int 0, .ref q0, .ref q1, .ref q2, .ref q3, .null, .null, .null]) (Nat.le_of_ble_eq_true rfl) rfl dX2_init_33 ?_
  refine e_ws (ws' := [(a, .inr (2, [.int 0, .int 0, .int 0, .ref q0, .ref q1, .ref q2, .ref q3, .null, .null, .null])), (q0, .inl (t.2.1, 32, .inl (fun _ => 0))), (q1, .inl (t.2.1, 32, .inl (fun _ => 0))), (q2, .inl (t.2.1, 10, .inl (fun _ => 0))), (q3, .inl (t.2.1, 10, .inl (fun _ => 0)))]) rfl ?_
  refine e_aload_n C dX2_init_36 rfl ?_
  refine e_sipush C (v := 187) dX2_init_37 (by decide) ?_
  refine e_newI C (N := 187) (by decide) (by decide) (by decide) ⟨by decide, by decide⟩ dX2_init_40 (fun q4 => ?_)
  refine e_putF C hin flf_X2_22 (fs' := [.int 0, .int 0, .int 0, .ref q0, .ref q1, .ref q2, .ref q3, .ref q4, .null, .null]) (Nat.le_of_ble_eq_true rfl) rfl dX2_init_42 ?_
  refine e_ws (ws' := [(a, .inr (2, [.int 0, .int 0, .int 0, .ref q0, .ref q1, .ref q2, .ref q3, .ref q4, .null, .null])), (q0, .inl (t.2.1, 32, .inl (fun _ => 0))), (q1, .inl (t.2.1, 32, .inl (fun _ => 0))), (q2, .inl (t.2.1, 10, .inl (fun _ => 0))), (q3, .inl (t.2.1, 10, .inl (fun _ => 0))), (q4, .inl (t.2.1, 187, .inl (fun _ => 0)))]) rfl ?_
  refine e_aload_n C dX2_init_45 rfl ?_
  refine e_sipush C (v := 187) dX2_init_46 (by decide) ?_
  refine e_newI C (N := 187) (by decide) (by decide) (by decide) ⟨by decide, by decide⟩ dX2_init_49 (fun q5 => ?_)
  refine e_putF C hin flf_X2_25 (fs' := [.int 0, .int 0, .int 0, .ref q0, .ref q1, .ref q2, .ref q3, .ref q4, .ref q5, .null]) (Nat.le_of_ble_eq_true rfl) rfl dX2_init_51 ?_
  refine e_ws (ws' := [(a, .inr (2, [.int 0, .int 0, .int 0, .ref q0, .ref q1, .ref q2, .ref q3, .ref q4, .ref q5, .null])), (q0, .inl (t.2.1, 32, .inl (fun _ => 0))), (q1, .inl (t.2.1, 32, .inl (fun _ => 0))), (q2, .inl (t.2.1, 10, .inl (fun _ => 0))), (q3, .inl (t.2.1, 10, .inl (fun _ => 0))), (q4, .inl (t.2.1, 187, .inl (fun _ => 0))), (q5, .inl (t.2.1, 187, .inl (fun _ => 0)))]) rfl ?_
  refine e_aload_n C dX2_init_54 rfl ?_
  refine e_iconst C (v := 2) dX2_init_55 (by decide) ?_
  refine e_newZ C (N := 2) (by decide) (by decide) (by decide) ⟨by decide, by decide⟩ dX2_init_56 (fun q6 => ?_)
  refine e_putF C hin flf_X2_28 (fs' := [.int 0, .int 0, .int 0, .ref q0, .ref q1, .ref q2, .ref q3, .ref q4, .ref q5, .ref q6]) (Nat.le_of_ble_eq_true rfl) rfl dX2_init_58 ?_
  refine e_ws (ws' := [(a, .inr (2, [.int 0, .int 0, .int 0, .ref q0, .ref q1, .ref q2, .ref q3, .ref q4, .ref q5, .ref q6])), (q0, .inl (t.2.1, 32, .inl (fun _ => 0))), (q1, .inl (t.2.1, 32, .inl (fun _ => 0))), (q2, .inl (t.2.1, 10, .inl (fun _ => 0))), (q3, .inl (t.2.1, 10, .inl (fun _ => 0))), (q4, .inl (t.2.1, 187, .inl (fun _ => 0))), (q5, .inl (t.2.1, 187, .inl (fun _ => 0))), (q6, .inl (t.2.2.1, 2, .inl (fun _ => 0)))]) rfl ?_
  refine e_iconst C (v := 0) dX2_init_61 (by decide) ?_
  refine e_istore_n C (lo' := [(1, _), (0, _)]) dX2_init_62 (by decide) rfl ?_
  refine e_ws (ws' := [(a, .inr (2, [.int 0, .int 0, .int 0, .ref q0, .ref q1, .ref q2, .ref q3, .ref q4, .ref q5, .ref q6])), (q0, .inl (t.2.1, 32, .inl (fun _ => 0))), (q1, .inl (t.2.1, 32, .inl (cpn (fun _ => -1) (fun _ => 0) 0))), (q2, .inl (t.2.1, 10, .inl (fun _ => 0))), (q3, .inl (t.2.1, 10, .inl (fun _ => 0))), (q4, .inl (t.2.1, 187, .inl (fun _ => 0))), (q5, .inl (t.2.1, 187, .inl (fun _ => 0))), (q6, .inl (t.2.2.1, 2, .inl (fun _ => 0)))]) (by rw [cpn_0]) ?_
  exact qy_X2_lp rfl C hq 33 0 (by decide) (by decide)
