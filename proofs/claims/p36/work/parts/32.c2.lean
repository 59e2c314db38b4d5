/-! The canyon's copies and beginnings; the class's guards. -/
/-- ahead filled from now -/
def cCopy (M : Mem) : Mem := wrc (wrc (wrc (wrc (wrc (wrc (wrc (wrc (wrc (wrc (wrc (wrc (wrc (wr (wr (wr (wr (wr (wr (M) 15 0 (M 1 0)) 15 1 (M 1 1)) 15 2 (M 1 2)) 15 3 (M 1 3)) 15 4 (M 1 4)) 15 5 (M 1 5)) 16 (cpn (M 2) (M 16) 32)) 17 (cpn (M 3) (M 17) 32)) 18 (cpn (M 4) (M 18) 32)) 19 (cpn (M 5) (M 19) 10)) 20 (cpn (M 6) (M 20) 10)) 21 (cpn (M 7) (M 21) 10)) 22 (cpn (M 8) (M 22) 10)) 23 (cpn (M 9) (M 23) 2)) 24 (cpn (M 10) (M 24) 2)) 25 (cpn (M 11) (M 25) 40)) 26 (cpn (M 12) (M 26) 40)) 27 (cpn (M 13) (M 27) 40)) 28 (cpn (M 14) (M 28) 40)
abbrev rmX0_copyFrom : Room := { frames := 1, cells := 0, slots := 0, locals := 60 }
set_option maxHeartbeats 1000000 in
set_option maxRecDepth 100000 in
theorem q0_copyFrom (l : Launch) (g : GT) (M : Mem) : CM l yX0_copyFrom cX0_copyFrom 2 none rmX0_copyFrom g M [.ref (ga g 15), .ref (ga g 1)] (none) (cCopy M) := by
  refine CM.of (by decide) (Nat.le_of_ble_eq_true rfl) (fun X C hq => ?_)
  have C : Cx X g l cX0_copyFrom 2 RX0 none rmX0_copyFrom := C
  show V X g 0 0 0 [(0, .ref (ga g 15)), (1, .ref (ga g 1))] [] M
  refine x_aload_n C dX0_copyFrom_0 rfl ?_
  refine x_aload_n C dX0_copyFrom_1 rfl ?_
  refine x_getI C fl_X0_57 rfl (by decide) rfl dX0_copyFrom_2 ?_
  refine x_putI C fl_X0_57 rfl (by decide) rfl dX0_copyFrom_5 ?_
  refine x_aload_n C dX0_copyFrom_8 rfl ?_
  refine x_aload_n C dX0_copyFrom_9 rfl ?_
  refine x_getI C fl_X0_61 rfl (by decide) rfl dX0_copyFrom_10 ?_
  refine x_putI C fl_X0_61 rfl (by decide) rfl dX0_copyFrom_13 ?_
  refine x_aload_n C dX0_copyFrom_16 rfl ?_
  refine x_aload_n C dX0_copyFrom_17 rfl ?_
  refine x_getI C fl_X0_64 rfl (by decide) rfl dX0_copyFrom_18 ?_
  refine x_putI C fl_X0_64 rfl (by decide) rfl dX0_copyFrom_21 ?_
  refine x_aload_n C dX0_copyFrom_24 rfl ?_
  refine x_aload_n C dX0_copyFrom_25 rfl ?_
  refine x_getI C fl_X0_67 rfl (by decide) rfl dX0_copyFrom_26 ?_
  refine x_putI C fl_X0_67 rfl (by decide) rfl dX0_copyFrom_29 ?_
  refine x_aload_n C dX0_copyFrom_32 rfl ?_
  refine x_aload_n C dX0_copyFrom_33 rfl ?_
  refine x_getI C fl_X0_70 rfl (by decide) rfl dX0_copyFrom_34 ?_
  refine x_putI C fl_X0_70 rfl (by decide) rfl dX0_copyFrom_37 ?_
  refine x_aload_n C dX0_copyFrom_40 rfl ?_
  refine x_aload_n C dX0_copyFrom_41 rfl ?_
  refine x_getI C fl_X0_73 rfl (by decide) rfl dX0_copyFrom_42 ?_
  refine x_putI C fl_X0_73 rfl (by decide) rfl dX0_copyFrom_45 ?_
  refine x_aload_n C dX0_copyFrom_48 rfl ?_
  refine x_getR C fl_X0_9 rfl (by decide) rfl dX0_copyFrom_49 ?_
  refine x_iconst C (v := 0) dX0_copyFrom_52 (by decide) ?_
  refine x_aload_n C dX0_copyFrom_53 rfl ?_
  refine x_getR C fl_X0_9 rfl (by decide) rfl dX0_copyFrom_54 ?_
  refine x_iconst C (v := 0) dX0_copyFrom_57 (by decide) ?_
  refine x_bipush C (v := 32) dX0_copyFrom_58 (by decide) ?_
  refine x_acopy C (i := 363) (by decide +kernel) rfl rfl (by decide) (by decide) (N := 32) rfl rfl rfl ⟨by decide, Nat.le_of_ble_eq_true rfl⟩ dX0_copyFrom_60 ?_
  refine x_aload_n C dX0_copyFrom_63 rfl ?_
  refine x_getR C fl_X0_15 rfl (by decide) rfl dX0_copyFrom_64 ?_
  refine x_iconst C (v := 0) dX0_copyFrom_67 (by decide) ?_
  refine x_aload_n C dX0_copyFrom_68 rfl ?_
  refine x_getR C fl_X0_15 rfl (by decide) rfl dX0_copyFrom_69 ?_
  refine x_iconst C (v := 0) dX0_copyFrom_72 (by decide) ?_
  refine x_bipush C (v := 32) dX0_copyFrom_73 (by decide) ?_
  refine x_acopy C (i := 363) (by decide +kernel) rfl rfl (by decide) (by decide) (N := 32) rfl rfl rfl ⟨by decide, Nat.le_of_ble_eq_true rfl⟩ dX0_copyFrom_75 ?_
  refine x_aload_n C dX0_copyFrom_78 rfl ?_
  refine x_getR C fl_X0_18 rfl (by decide) rfl dX0_copyFrom_79 ?_
  refine x_iconst C (v := 0) dX0_copyFrom_82 (by decide) ?_
  refine x_aload_n C dX0_copyFrom_83 rfl ?_
  refine x_getR C fl_X0_18 rfl (by decide) rfl dX0_copyFrom_84 ?_
  refine x_iconst C (v := 0) dX0_copyFrom_87 (by decide) ?_
  refine x_bipush C (v := 32) dX0_copyFrom_88 (by decide) ?_
  refine x_acopy C (i := 363) (by decide +kernel) rfl rfl (by decide) (by decide) (N := 32) rfl rfl rfl ⟨by decide, Nat.le_of_ble_eq_true rfl⟩ dX0_copyFrom_90 ?_
  refine x_aload_n C dX0_copyFrom_93 rfl ?_
  refine x_getR C fl_X0_21 rfl (by decide) rfl dX0_copyFrom_94 ?_
  refine x_iconst C (v := 0) dX0_copyFrom_97 (by decide) ?_
  refine x_aload_n C dX0_copyFrom_98 rfl ?_
  refine x_getR C fl_X0_21 rfl (by decide) rfl dX0_copyFrom_99 ?_
  refine x_iconst C (v := 0) dX0_copyFrom_102 (by decide) ?_
  refine x_bipush C (v := 10) dX0_copyFrom_103 (by decide) ?_
  refine x_acopy C (i := 363) (by decide +kernel) rfl rfl (by decide) (by decide) (N := 10) rfl rfl rfl ⟨by decide, Nat.le_of_ble_eq_true rfl⟩ dX0_copyFrom_105 ?_
  refine x_aload_n C dX0_copyFrom_108 rfl ?_
  refine x_getR C fl_X0_24 rfl (by decide) rfl dX0_copyFrom_109 ?_
  refine x_iconst C (v := 0) dX0_copyFrom_112 (by decide) ?_
  refine x_aload_n C dX0_copyFrom_113 rfl ?_
  refine x_getR C fl_X0_24 rfl (by decide) rfl dX0_copyFrom_114 ?_
  refine x_iconst C (v := 0) dX0_copyFrom_117 (by decide) ?_
  refine x_bipush C (v := 10) dX0_copyFrom_118 (by decide) ?_
  refine x_acopy C (i := 363) (by decide +kernel) rfl rfl (by decide) (by decide) (N := 10) rfl rfl rfl ⟨by decide, Nat.le_of_ble_eq_true rfl⟩ dX0_copyFrom_120 ?_
  refine x_aload_n C dX0_copyFrom_123 rfl ?_
  refine x_getR C fl_X0_27 rfl (by decide) rfl dX0_copyFrom_124 ?_
  refine x_iconst C (v := 0) dX0_copyFrom_127 (by decide) ?_
  refine x_aload_n C dX0_copyFrom_128 rfl ?_
  refine x_getR C fl_X0_27 rfl (by decide) rfl dX0_copyFrom_129 ?_
  refine x_iconst C (v := 0) dX0_copyFrom_132 (by decide) ?_
  refine x_bipush C (v := 10) dX0_copyFrom_133 (by decide) ?_
  refine x_acopy C (i := 363) (by decide +kernel) rfl rfl (by decide) (by decide) (N := 10) rfl rfl rfl ⟨by decide, Nat.le_of_ble_eq_true rfl⟩ dX0_copyFrom_135 ?_
  refine x_aload_n C dX0_copyFrom_138 rfl ?_
  refine x_getR C fl_X0_30 rfl (by decide) rfl dX0_copyFrom_139 ?_
  refine x_iconst C (v := 0) dX0_copyFrom_142 (by decide) ?_
  refine x_aload_n C dX0_copyFrom_143 rfl ?_
  refine x_getR C fl_X0_30 rfl (by decide) rfl dX0_copyFrom_144 ?_
  refine x_iconst C (v := 0) dX0_copyFrom_147 (by decide) ?_
  refine x_bipush C (v := 10) dX0_copyFrom_148 (by decide) ?_
  refine x_acopy C (i := 363) (by decide +kernel) rfl rfl (by decide) (by decide) (N := 10) rfl rfl rfl ⟨by decide, Nat.le_of_ble_eq_true rfl⟩ dX0_copyFrom_150 ?_
  refine x_aload_n C dX0_copyFrom_153 rfl ?_
  refine x_getR C fl_X0_33 rfl (by decide) rfl dX0_copyFrom_154 ?_
  refine x_iconst C (v := 0) dX0_copyFrom_157 (by decide) ?_
  refine x_aload_n C dX0_copyFrom_158 rfl ?_
  refine x_getR C fl_X0_33 rfl (by decide) rfl dX0_copyFrom_159 ?_
  refine x_iconst C (v := 0) dX0_copyFrom_162 (by decide) ?_
  refine x_iconst C (v := 2) dX0_copyFrom_163 (by decide) ?_
  refine x_acopy C (i := 363) (by decide +kernel) rfl rfl (by decide) (by decide) (N := 2) rfl rfl rfl ⟨by decide, Nat.le_of_ble_eq_true rfl⟩ dX0_copyFrom_164 ?_
  refine x_aload_n C dX0_copyFrom_167 rfl ?_
  refine x_getR C fl_X0_36 rfl (by decide) rfl dX0_copyFrom_168 ?_
  refine x_iconst C (v := 0) dX0_copyFrom_171 (by decide) ?_
  refine x_aload_n C dX0_copyFrom_172 rfl ?_
  refine x_getR C fl_X0_36 rfl (by decide) rfl dX0_copyFrom_173 ?_
  refine x_iconst C (v := 0) dX0_copyFrom_176 (by decide) ?_
  refine x_iconst C (v := 2) dX0_copyFrom_177 (by decide) ?_
  refine x_acopy C (i := 363) (by decide +kernel) rfl rfl (by decide) (by decide) (N := 2) rfl rfl rfl ⟨by decide, Nat.le_of_ble_eq_true rfl⟩ dX0_copyFrom_178 ?_
  refine x_aload_n C dX0_copyFrom_181 rfl ?_
  refine x_getR C fl_X0_39 rfl (by decide) rfl dX0_copyFrom_182 ?_
  refine x_iconst C (v := 0) dX0_copyFrom_185 (by decide) ?_
  refine x_aload_n C dX0_copyFrom_186 rfl ?_
  refine x_getR C fl_X0_39 rfl (by decide) rfl dX0_copyFrom_187 ?_
  refine x_iconst C (v := 0) dX0_copyFrom_190 (by decide) ?_
  refine x_bipush C (v := 40) dX0_copyFrom_191 (by decide) ?_
  refine x_acopy C (i := 363) (by decide +kernel) rfl rfl (by decide) (by decide) (N := 40) rfl rfl rfl ⟨by decide, Nat.le_of_ble_eq_true rfl⟩ dX0_copyFrom_193 ?_
  refine x_aload_n C dX0_copyFrom_196 rfl ?_
  refine x_getR C fl_X0_42 rfl (by decide) rfl dX0_copyFrom_197 ?_
  refine x_iconst C (v := 0) dX0_copyFrom_200 (by decide) ?_
  refine x_aload_n C dX0_copyFrom_201 rfl ?_
  refine x_getR C fl_X0_42 rfl (by decide) rfl dX0_copyFrom_202 ?_
  refine x_iconst C (v := 0) dX0_copyFrom_205 (by decide) ?_
  refine x_bipush C (v := 40) dX0_copyFrom_206 (by decide) ?_
  refine x_acopy C (i := 363) (by decide +kernel) rfl rfl (by decide) (by decide) (N := 40) rfl rfl rfl ⟨by decide, Nat.le_of_ble_eq_true rfl⟩ dX0_copyFrom_208 ?_
  refine x_aload_n C dX0_copyFrom_211 rfl ?_
  refine x_getR C fl_X0_45 rfl (by decide) rfl dX0_copyFrom_212 ?_
  refine x_iconst C (v := 0) dX0_copyFrom_215 (by decide) ?_
  refine x_aload_n C dX0_copyFrom_216 rfl ?_
  refine x_getR C fl_X0_45 rfl (by decide) rfl dX0_copyFrom_217 ?_
  refine x_iconst C (v := 0) dX0_copyFrom_220 (by decide) ?_
  refine x_bipush C (v := 40) dX0_copyFrom_221 (by decide) ?_
  refine x_acopy C (i := 363) (by decide +kernel) rfl rfl (by decide) (by decide) (N := 40) rfl rfl rfl ⟨by decide, Nat.le_of_ble_eq_true rfl⟩ dX0_copyFrom_223 ?_
  refine x_aload_n C dX0_copyFrom_226 rfl ?_
  refine x_getR C fl_X0_48 rfl (by decide) rfl dX0_copyFrom_227 ?_
  refine x_iconst C (v := 0) dX0_copyFrom_230 (by decide) ?_
  refine x_aload_n C dX0_copyFrom_231 rfl ?_
  refine x_getR C fl_X0_48 rfl (by decide) rfl dX0_copyFrom_232 ?_
  refine x_iconst C (v := 0) dX0_copyFrom_235 (by decide) ?_
  refine x_bipush C (v := 40) dX0_copyFrom_236 (by decide) ?_
  refine x_acopy C (i := 363) (by decide +kernel) rfl rfl (by decide) (by decide) (N := 40) rfl rfl rfl ⟨by decide, Nat.le_of_ble_eq_true rfl⟩ dX0_copyFrom_238 ?_
  exact x_vret C hq ⟨by decide, by decide⟩ dX0_copyFrom_241 (rfl) (rfl)
def cBuild (M : Mem) (s e k : Int32) : Mem :=
  wr (wr (wr (wr (wr (wr M 5 (tn (M 1 1)) s) 6 (tn (M 1 1)) e) 7 (tn (M 1 1)) k) 8 (tn (M 1 1)) 0) 3 (tn s) (M 1 1)) 1 1 (M 1 1 + 1)
abbrev rmX0_build : Room := { frames := 0, cells := 0, slots := 0, locals := 0 }
set_option maxHeartbeats 1000000 in
set_option maxRecDepth 100000 in
theorem q0_build (l : Launch) (g : GT) (M : Mem) (h : 0 ≤ M 1 1 ∧ M 1 1 ≤ 9) (s e k : Int32) (hs : 0 ≤ s ∧ s ≤ 31) : CM l yX0_build cX0_build 5 (some .int) rmX0_build g M [.ref (ga g 1), .int s, .int e, .int k] (some (.int (M 1 1))) (cBuild M s e k) := by
  refine CM.of (by decide) (Nat.le_of_ble_eq_true rfl) (fun X C hq => ?_)
  have C : Cx X g l cX0_build 5 RX0 (some .int) rmX0_build := C
  show V X g 0 0 0 [(0, .ref (ga g 1)), (1, .int s), (2, .int e), (3, .int k)] [] M
  have hw := tn9 h
  refine x_aload_n C dX0_build_0 rfl ?_
  refine x_getI C fl_X0_61 rfl (by decide) rfl dX0_build_1 ?_
  refine x_istore C (lo' := [(4, _), (0, _), (1, _), (2, _), (3, _)]) dX0_build_4 (by decide) rfl ?_
  refine x_aload_n C dX0_build_6 rfl ?_
  refine x_getR C fl_X0_21 rfl (by decide) rfl dX0_build_7 ?_
  refine x_iload C dX0_build_10 rfl ?_
  refine x_iload_n C dX0_build_12 rfl ?_
  refine x_iast C (n := 10) rfl (by decide) rfl (nI_tn h.1) (hw) dX0_build_13 ?_
  refine x_aload_n C dX0_build_14 rfl ?_
  refine x_getR C fl_X0_24 rfl (by decide) rfl dX0_build_15 ?_
  refine x_iload C dX0_build_18 rfl ?_
  refine x_iload_n C dX0_build_20 rfl ?_
  refine x_iast C (n := 10) rfl (by decide) rfl (nI_tn h.1) (hw) dX0_build_21 ?_
  refine x_aload_n C dX0_build_22 rfl ?_
  refine x_getR C fl_X0_27 rfl (by decide) rfl dX0_build_23 ?_
  refine x_iload C dX0_build_26 rfl ?_
  refine x_iload_n C dX0_build_28 rfl ?_
  refine x_iast C (n := 10) rfl (by decide) rfl (nI_tn h.1) (hw) dX0_build_29 ?_
  refine x_aload_n C dX0_build_30 rfl ?_
  refine x_getR C fl_X0_30 rfl (by decide) rfl dX0_build_31 ?_
  refine x_iload C dX0_build_34 rfl ?_
  refine x_iconst C (v := 0) dX0_build_36 (by decide) ?_
  refine x_iast C (n := 10) rfl (by decide) rfl (nI_tn h.1) (hw) dX0_build_37 ?_
  refine x_aload_n C dX0_build_38 rfl ?_
  refine x_getR C fl_X0_15 rfl (by decide) rfl dX0_build_39 ?_
  refine x_iload_n C dX0_build_42 rfl ?_
  refine x_iload C dX0_build_43 rfl ?_
  refine x_iast C (n := 32) rfl (by decide) rfl (nI_tn hs.1) (tn31 hs) dX0_build_45 ?_
  refine x_aload_n C dX0_build_46 rfl ?_
  refine x_dup C dX0_build_47 rfl ?_
  refine x_getI C fl_X0_61 rfl (by decide) rfl dX0_build_48 ?_
  refine x_iconst C (v := 1) dX0_build_51 (by decide) ?_
  refine x_iadd C dX0_build_52 ?_
  refine x_putI C fl_X0_61 rfl (by decide) rfl dX0_build_53 ?_
  refine x_iload C dX0_build_56 rfl ?_
  exact x_iret C hq ⟨by decide, by decide⟩ dX0_build_58 (rfl) (rfl)
def cStart (b : Nat) (M : Mem) (s wy ld : Int32) : Mem :=
  wr (wr (wr (wr (wr (wr (wr M (b + 10) (tn (M b 2)) ld) (b + 11) (tn (M b 2)) s) (b + 12) (tn (M b 2)) wy) (b + 13) (tn (M b 2)) 0) (b + 3) (tn s) (M b 2)) b 2 (M b 2 + 1)) b 3 (M b 3 + 1)
abbrev rmX0_start : Room := { frames := 0, cells := 0, slots := 0, locals := 0 }
set_option maxHeartbeats 1000000 in
set_option maxRecDepth 100000 in
theorem q0_start1 (l : Launch) (g : GT) (M : Mem) (h : 0 ≤ M 1 2 ∧ M 1 2 ≤ 39) (s r ld : Int32) (hs : 0 ≤ s ∧ s ≤ 31) : CM l yX0_start cX0_start 5 (some .int) rmX0_start g M [.ref (ga g 1), .int s, .int r, .int ld] (some (.int (M 1 2))) (cStart 1 M s (if r = 0 then -1 else 1) ld) := by
  refine CM.of (by decide) (Nat.le_of_ble_eq_true rfl) (fun X C hq => ?_)
  have C : Cx X g l cX0_start 5 RX0 (some .int) rmX0_start := C
  show V X g 0 0 0 [(0, .ref (ga g 1)), (1, .int s), (2, .int r), (3, .int ld)] [] M
  have hw := tn39 h
  refine x_aload_n C dX0_start_0 rfl ?_
  refine x_getI C fl_X0_64 rfl (by decide) rfl dX0_start_1 ?_
  refine x_istore C (lo' := [(4, _), (0, _), (1, _), (2, _), (3, _)]) dX0_start_4 (by decide) rfl ?_
  refine x_aload_n C dX0_start_6 rfl ?_
  refine x_getR C fl_X0_39 rfl (by decide) rfl dX0_start_7 ?_
  refine x_iload C dX0_start_10 rfl ?_
  refine x_iload_n C dX0_start_12 rfl ?_
  refine x_iast C (n := 40) rfl (by decide) rfl (nI_tn h.1) (hw) dX0_start_13 ?_
  refine x_aload_n C dX0_start_14 rfl ?_
  refine x_getR C fl_X0_42 rfl (by decide) rfl dX0_start_15 ?_
  refine x_iload C dX0_start_18 rfl ?_
  refine x_iload_n C dX0_start_20 rfl ?_
  refine x_iast C (n := 40) rfl (by decide) rfl (nI_tn h.1) (hw) dX0_start_21 ?_
  refine x_aload_n C dX0_start_22 rfl ?_
  refine x_getR C fl_X0_45 rfl (by decide) rfl dX0_start_23 ?_
  refine x_iload C dX0_start_26 rfl ?_
  refine x_iload_n C dX0_start_28 rfl ?_
  refine x_if_eq C (tgt := 36) dX0_start_29 (by decide) (fun c29 => ?_) (fun c29 => ?_)
  · refine x_iconst C (v := (-1)) dX0_start_36 (by decide) ?_
    refine x_iast C (n := 40) rfl (by decide) rfl (nI_tn h.1) (hw) dX0_start_37 ?_
    refine x_aload_n C dX0_start_38 rfl ?_
    refine x_getR C fl_X0_48 rfl (by decide) rfl dX0_start_39 ?_
    refine x_iload C dX0_start_42 rfl ?_
    refine x_iconst C (v := 0) dX0_start_44 (by decide) ?_
    refine x_iast C (n := 40) rfl (by decide) rfl (nI_tn h.1) (hw) dX0_start_45 ?_
    refine x_aload_n C dX0_start_46 rfl ?_
    refine x_getR C fl_X0_18 rfl (by decide) rfl dX0_start_47 ?_
    refine x_iload_n C dX0_start_50 rfl ?_
    refine x_iload C dX0_start_51 rfl ?_
    refine x_iast C (n := 32) rfl (by decide) rfl (nI_tn hs.1) (tn31 hs) dX0_start_53 ?_
    refine x_aload_n C dX0_start_54 rfl ?_
    refine x_dup C dX0_start_55 rfl ?_
    refine x_getI C fl_X0_64 rfl (by decide) rfl dX0_start_56 ?_
    refine x_iconst C (v := 1) dX0_start_59 (by decide) ?_
    refine x_iadd C dX0_start_60 ?_
    refine x_putI C fl_X0_64 rfl (by decide) rfl dX0_start_61 ?_
    refine x_aload_n C dX0_start_64 rfl ?_
    refine x_dup C dX0_start_65 rfl ?_
    refine x_getI C fl_X0_67 rfl (by decide) rfl dX0_start_66 ?_
    refine x_iconst C (v := 1) dX0_start_69 (by decide) ?_
    refine x_iadd C dX0_start_70 ?_
    refine x_putI C fl_X0_67 rfl (by decide) rfl dX0_start_71 ?_
    refine x_iload C dX0_start_74 rfl ?_
    exact x_iret C hq ⟨by decide, by decide⟩ dX0_start_76 (rfl) (by first | exact congrArg (fun z => cStart 1 M s z ld) (if_pos c29) | exact congrArg (fun z => cStart 1 M s z ld) (if_neg c29))
  · refine x_iconst C (v := 1) dX0_start_32 (by decide) ?_
    refine x_goto C (tgt := 37) dX0_start_33 (by decide) ?_
    refine x_iast C (n := 40) rfl (by decide) rfl (nI_tn h.1) (hw) dX0_start_37 ?_
    refine x_aload_n C dX0_start_38 rfl ?_
    refine x_getR C fl_X0_48 rfl (by decide) rfl dX0_start_39 ?_
    refine x_iload C dX0_start_42 rfl ?_
    refine x_iconst C (v := 0) dX0_start_44 (by decide) ?_
    refine x_iast C (n := 40) rfl (by decide) rfl (nI_tn h.1) (hw) dX0_start_45 ?_
    refine x_aload_n C dX0_start_46 rfl ?_
    refine x_getR C fl_X0_18 rfl (by decide) rfl dX0_start_47 ?_
    refine x_iload_n C dX0_start_50 rfl ?_
    refine x_iload C dX0_start_51 rfl ?_
    refine x_iast C (n := 32) rfl (by decide) rfl (nI_tn hs.1) (tn31 hs) dX0_start_53 ?_
    refine x_aload_n C dX0_start_54 rfl ?_
    refine x_dup C dX0_start_55 rfl ?_
    refine x_getI C fl_X0_64 rfl (by decide) rfl dX0_start_56 ?_
    refine x_iconst C (v := 1) dX0_start_59 (by decide) ?_
    refine x_iadd C dX0_start_60 ?_
    refine x_putI C fl_X0_64 rfl (by decide) rfl dX0_start_61 ?_
    refine x_aload_n C dX0_start_64 rfl ?_
    refine x_dup C dX0_start_65 rfl ?_
    refine x_getI C fl_X0_67 rfl (by decide) rfl dX0_start_66 ?_
    refine x_iconst C (v := 1) dX0_start_69 (by decide) ?_
    refine x_iadd C dX0_start_70 ?_
    refine x_putI C fl_X0_67 rfl (by decide) rfl dX0_start_71 ?_
    refine x_iload C dX0_start_74 rfl ?_
    exact x_iret C hq ⟨by decide, by decide⟩ dX0_start_76 (rfl) (by first | exact congrArg (fun z => cStart 1 M s z ld) (if_pos c29) | exact congrArg (fun z => cStart 1 M s z ld) (if_neg c29))
set_option maxHeartbeats 1000000 in
set_option maxRecDepth 100000 in
theorem q0_start15 (l : Launch) (g : GT) (M : Mem) (h : 0 ≤ M 15 2 ∧ M 15 2 ≤ 39) (s r ld : Int32) (hs : 0 ≤ s ∧ s ≤ 31) : CM l yX0_start cX0_start 5 (some .int) rmX0_start g M [.ref (ga g 15), .int s, .int r, .int ld] (some (.int (M 15 2))) (cStart 15 M s (if r = 0 then -1 else 1) ld) := by
  refine CM.of (by decide) (Nat.le_of_ble_eq_true rfl) (fun X C hq => ?_)
  have C : Cx X g l cX0_start 5 RX0 (some .int) rmX0_start := C
  show V X g 0 0 0 [(0, .ref (ga g 15)), (1, .int s), (2, .int r), (3, .int ld)] [] M
  have hw := tn39 h
  refine x_aload_n C dX0_start_0 rfl ?_
  refine x_getI C fl_X0_64 rfl (by decide) rfl dX0_start_1 ?_
  refine x_istore C (lo' := [(4, _), (0, _), (1, _), (2, _), (3, _)]) dX0_start_4 (by decide) rfl ?_
  refine x_aload_n C dX0_start_6 rfl ?_
  refine x_getR C fl_X0_39 rfl (by decide) rfl dX0_start_7 ?_
  refine x_iload C dX0_start_10 rfl ?_
  refine x_iload_n C dX0_start_12 rfl ?_
  refine x_iast C (n := 40) rfl (by decide) rfl (nI_tn h.1) (hw) dX0_start_13 ?_
  refine x_aload_n C dX0_start_14 rfl ?_
  refine x_getR C fl_X0_42 rfl (by decide) rfl dX0_start_15 ?_
  refine x_iload C dX0_start_18 rfl ?_
  refine x_iload_n C dX0_start_20 rfl ?_
  refine x_iast C (n := 40) rfl (by decide) rfl (nI_tn h.1) (hw) dX0_start_21 ?_
  refine x_aload_n C dX0_start_22 rfl ?_
  refine x_getR C fl_X0_45 rfl (by decide) rfl dX0_start_23 ?_
  refine x_iload C dX0_start_26 rfl ?_
  refine x_iload_n C dX0_start_28 rfl ?_
  refine x_if_eq C (tgt := 36) dX0_start_29 (by decide) (fun c29 => ?_) (fun c29 => ?_)
  · refine x_iconst C (v := (-1)) dX0_start_36 (by decide) ?_
    refine x_iast C (n := 40) rfl (by decide) rfl (nI_tn h.1) (hw) dX0_start_37 ?_
    refine x_aload_n C dX0_start_38 rfl ?_
    refine x_getR C fl_X0_48 rfl (by decide) rfl dX0_start_39 ?_
    refine x_iload C dX0_start_42 rfl ?_
    refine x_iconst C (v := 0) dX0_start_44 (by decide) ?_
    refine x_iast C (n := 40) rfl (by decide) rfl (nI_tn h.1) (hw) dX0_start_45 ?_
    refine x_aload_n C dX0_start_46 rfl ?_
    refine x_getR C fl_X0_18 rfl (by decide) rfl dX0_start_47 ?_
    refine x_iload_n C dX0_start_50 rfl ?_
    refine x_iload C dX0_start_51 rfl ?_
    refine x_iast C (n := 32) rfl (by decide) rfl (nI_tn hs.1) (tn31 hs) dX0_start_53 ?_
    refine x_aload_n C dX0_start_54 rfl ?_
    refine x_dup C dX0_start_55 rfl ?_
    refine x_getI C fl_X0_64 rfl (by decide) rfl dX0_start_56 ?_
    refine x_iconst C (v := 1) dX0_start_59 (by decide) ?_
    refine x_iadd C dX0_start_60 ?_
    refine x_putI C fl_X0_64 rfl (by decide) rfl dX0_start_61 ?_
    refine x_aload_n C dX0_start_64 rfl ?_
    refine x_dup C dX0_start_65 rfl ?_
    refine x_getI C fl_X0_67 rfl (by decide) rfl dX0_start_66 ?_
    refine x_iconst C (v := 1) dX0_start_69 (by decide) ?_
    refine x_iadd C dX0_start_70 ?_
    refine x_putI C fl_X0_67 rfl (by decide) rfl dX0_start_71 ?_
    refine x_iload C dX0_start_74 rfl ?_
    exact x_iret C hq ⟨by decide, by decide⟩ dX0_start_76 (rfl) (by first | exact congrArg (fun z => cStart 15 M s z ld) (if_pos c29) | exact congrArg (fun z => cStart 15 M s z ld) (if_neg c29))
  · refine x_iconst C (v := 1) dX0_start_32 (by decide) ?_
    refine x_goto C (tgt := 37) dX0_start_33 (by decide) ?_
    refine x_iast C (n := 40) rfl (by decide) rfl (nI_tn h.1) (hw) dX0_start_37 ?_
    refine x_aload_n C dX0_start_38 rfl ?_
    refine x_getR C fl_X0_48 rfl (by decide) rfl dX0_start_39 ?_
    refine x_iload C dX0_start_42 rfl ?_
    refine x_iconst C (v := 0) dX0_start_44 (by decide) ?_
    refine x_iast C (n := 40) rfl (by decide) rfl (nI_tn h.1) (hw) dX0_start_45 ?_
    refine x_aload_n C dX0_start_46 rfl ?_
    refine x_getR C fl_X0_18 rfl (by decide) rfl dX0_start_47 ?_
    refine x_iload_n C dX0_start_50 rfl ?_
    refine x_iload C dX0_start_51 rfl ?_
    refine x_iast C (n := 32) rfl (by decide) rfl (nI_tn hs.1) (tn31 hs) dX0_start_53 ?_
    refine x_aload_n C dX0_start_54 rfl ?_
    refine x_dup C dX0_start_55 rfl ?_
    refine x_getI C fl_X0_64 rfl (by decide) rfl dX0_start_56 ?_
    refine x_iconst C (v := 1) dX0_start_59 (by decide) ?_
    refine x_iadd C dX0_start_60 ?_
    refine x_putI C fl_X0_64 rfl (by decide) rfl dX0_start_61 ?_
    refine x_aload_n C dX0_start_64 rfl ?_
    refine x_dup C dX0_start_65 rfl ?_
    refine x_getI C fl_X0_67 rfl (by decide) rfl dX0_start_66 ?_
    refine x_iconst C (v := 1) dX0_start_69 (by decide) ?_
    refine x_iadd C dX0_start_70 ?_
    refine x_putI C fl_X0_67 rfl (by decide) rfl dX0_start_71 ?_
    refine x_iload C dX0_start_74 rfl ?_
    exact x_iret C hq ⟨by decide, by decide⟩ dX0_start_76 (rfl) (by first | exact congrArg (fun z => cStart 15 M s z ld) (if_pos c29) | exact congrArg (fun z => cStart 15 M s z ld) (if_neg c29))
def cAl0 (M : Mem) : Mem := cFill 15 (wr (wr M 15 2 0) 15 3 0)
def cAlone (M : Mem) (s wy ld : Int32) : Mem := cStart 15 (cAl0 M) s wy ld
abbrev rmX0_startAlone : Room := { frames := 1, cells := 0, slots := 0, locals := 24 }
set_option maxHeartbeats 1000000 in
set_option maxRecDepth 100000 in
theorem q0_startAlone (l : Launch) (g : GT) (M : Mem) (s r ld : Int32) (hs : 0 ≤ s ∧ s ≤ 31) : CM l yX0_startAlone cX0_startAlone 4 none rmX0_startAlone g M [.ref (ga g 15), .int s, .int r, .int ld] (none) (cAlone M s (if r = 0 then -1 else 1) ld) := by
  refine CM.of (by decide) (Nat.le_of_ble_eq_true rfl) (fun X C hq => ?_)
  have C : Cx X g l cX0_startAlone 4 RX0 none rmX0_startAlone := C
  show V X g 0 0 0 [(0, .ref (ga g 15)), (1, .int s), (2, .int r), (3, .int ld)] [] M
  refine x_aload_n C dX0_startAlone_0 rfl ?_
  refine x_iconst C (v := 0) dX0_startAlone_1 (by decide) ?_
  refine x_putI C fl_X0_64 rfl (by decide) rfl dX0_startAlone_2 ?_
  refine x_aload_n C dX0_startAlone_5 rfl ?_
  refine x_iconst C (v := 0) dX0_startAlone_6 (by decide) ?_
  refine x_putI C fl_X0_67 rfl (by decide) rfl dX0_startAlone_7 ?_
  refine x_aload_n C dX0_startAlone_10 rfl ?_
  refine x_getR C fl_X0_18 rfl (by decide) rfl dX0_startAlone_11 ?_
  refine x_iconst C (v := (-1)) dX0_startAlone_14 (by decide) ?_
  refine x_callS0v C (q7_fill18 l g _ (-1)) cd_J7_fill_53178 kl_X0_51 (as := [_, _]) rfl rfl ⟨⟨by decide, by decide⟩, by decide, by decide⟩ ⟨rfl, rfl⟩ (Nat.le_of_ble_eq_true rfl) dX0_startAlone_15 ?_
  refine x_mem (M' := cAl0 M) rfl ?_
  refine x_aload_n C dX0_startAlone_18 rfl ?_
  refine x_iload_n C dX0_startAlone_19 rfl ?_
  refine x_iload_n C dX0_startAlone_20 rfl ?_
  refine x_iload_n C dX0_startAlone_21 rfl ?_
  refine x_callV0r C (q0_start15 l g _ (show 0 ≤ cAl0 M 15 2 ∧ cAl0 M 15 2 ≤ 39 from ⟨Int32.le_refl 0, (by decide : (0 : Int32) ≤ 39)⟩) s r ld hs) cd_X0_start kl_X0_82 ci0 rfl (by decide) (as := [_, _, _]) rfl rfl ⟨⟨by decide, by decide⟩, by decide, by decide⟩ ⟨rfl, rfl⟩ (Nat.le_of_ble_eq_true rfl) dX0_startAlone_22 ?_
  refine x_pop C dX0_startAlone_25 rfl ?_
  exact x_vret C hq ⟨by decide, by decide⟩ dX0_startAlone_26 (rfl) (rfl)
abbrev rmX1_needStone : Room := { frames := 1, cells := 0, slots := 0, locals := 20 }
set_option maxHeartbeats 1000000 in
set_option maxRecDepth 100000 in
theorem q1_needStone (l : Launch) (g : GT) (M : Mem) (s : Int32) (hc : (0 ≤ s ∧ s ≤ 31)) : CM l yX1_needStone cX1_needStone 1 none rmX1_needStone g M [.int s] (none) (M) := by
  refine CM.of (by decide) (Nat.le_of_ble_eq_true rfl) (fun X C hq => ?_)
  have C : Cx X g l cX1_needStone 1 RX1 none rmX1_needStone := C
  show V X g 0 0 0 [(0, .int s)] [] M
  refine x_iload_n C dX1_needStone_0 rfl ?_
  refine x_callS0r C (q1_isStone l g _ s) cd_X1_isStone kl_X1_243 (as := [_]) rfl rfl ⟨⟨by decide, by decide⟩, by decide, by decide⟩ ⟨rfl, rfl⟩ (Nat.le_of_ble_eq_true rfl) dX1_needStone_1 ?_
  refine x_bif_ne C (tgt := 17) dX1_needStone_4 (by decide) (fun c4 => ?_) (fun c4 => absurd hc c4)
  exact x_vret C hq ⟨by decide, by decide⟩ dX1_needStone_17 (rfl) (rfl)
abbrev rmX1_needStone_x : Room := { frames := 6, cells := 1, slots := 6, locals := 90 }
set_option maxHeartbeats 1000000 in
set_option maxRecDepth 100000 in
theorem q1x_needStone (l : Launch) (hl : l.stackTraces = false) (g : GT) (M : Mem) (s : Int32) (hc : ¬ (0 ≤ s ∧ s ≤ 31)) : CE l yX1_needStone cX1_needStone 1 none rmX1_needStone_x g M [.int s] eB := by
  refine CE.of (by decide) (Nat.le_of_ble_eq_true rfl) (fun X C hq => ?_)
  have C : Cx X g l cX1_needStone 1 RX1 none rmX1_needStone_x := C
  show V X g 0 0 0 [(0, .int s)] [] M
  refine x_iload_n C dX1_needStone_0 rfl ?_
  refine x_callS0r C (q1_isStone l g _ s) cd_X1_isStone kl_X1_243 (as := [_]) rfl rfl ⟨⟨by decide, by decide⟩, by decide, by decide⟩ ⟨rfl, rfl⟩ (Nat.le_of_ble_eq_true rfl) dX1_needStone_1 ?_
  refine x_bif_ne C (tgt := 17) dX1_needStone_4 (by decide) (fun c4 => absurd c4 hc) (fun c4 => ?_)
  exact x_throw C hl hq xi_eB (is := 248) (text := "no such stone") (by decide) dX1_needStone_7 dX1_needStone_10 dX1_needStone_11 dX1_needStone_13 dX1_needStone_16 ⟨by decide, Nat.le_of_ble_eq_true rfl, by decide, by decide⟩
theorem lt2 {e : Int32} : e < 2 ↔ e ≤ 1 := by
  have z : (2 : Int32).toInt = 2 := rfl
  rw [i_lt, i_le, z, i_c1]; omega
theorem lt1 {e : Int32} : e < 1 ↔ ¬ 1 ≤ e := by rw [Int32.not_le]
abbrev rmX1_needEcho : Room := { frames := 0, cells := 0, slots := 0, locals := 0 }
set_option maxHeartbeats 1000000 in
set_option maxRecDepth 100000 in
theorem q1_needEcho (l : Launch) (g : GT) (M : Mem) (e : Int32) (hc : (0 ≤ e ∧ e ≤ 1)) : CM l yX1_needEcho cX1_needEcho 1 none rmX1_needEcho g M [.int e] (none) (M) := by
  refine CM.of (by decide) (Nat.le_of_ble_eq_true rfl) (fun X C hq => ?_)
  have C : Cx X g l cX1_needEcho 1 RX1 none rmX1_needEcho := C
  show V X g 0 0 0 [(0, .int e)] [] M
  refine x_iload_n C dX1_needEcho_0 rfl ?_
  refine x_if_lt C (tgt := 9) dX1_needEcho_1 (by decide) (fun c1 => absurd c1 (Int32.not_lt.mpr hc.1)) (fun c1 => ?_)
  refine x_iload_n C dX1_needEcho_4 rfl ?_
  refine x_iconst C (v := 2) dX1_needEcho_5 (by decide) ?_
  refine x_icmp_lt C (tgt := 19) dX1_needEcho_6 (by decide) (fun c6 => ?_) (fun c6 => absurd (lt2.mpr hc.2) c6)
  exact x_vret C hq ⟨by decide, by decide⟩ dX1_needEcho_19 (rfl) (rfl)
abbrev rmX1_needEcho_x : Room := { frames := 6, cells := 1, slots := 6, locals := 90 }
set_option maxHeartbeats 1000000 in
set_option maxRecDepth 100000 in
theorem q1x_needEcho (l : Launch) (hl : l.stackTraces = false) (g : GT) (M : Mem) (e : Int32) (hc : ¬ (0 ≤ e ∧ e ≤ 1)) : CE l yX1_needEcho cX1_needEcho 1 none rmX1_needEcho_x g M [.int e] eB := by
  refine CE.of (by decide) (Nat.le_of_ble_eq_true rfl) (fun X C hq => ?_)
  have C : Cx X g l cX1_needEcho 1 RX1 none rmX1_needEcho_x := C
  show V X g 0 0 0 [(0, .int e)] [] M
  refine x_iload_n C dX1_needEcho_0 rfl ?_
  refine x_if_lt C (tgt := 9) dX1_needEcho_1 (by decide) (fun c1 => ?_) (fun c1 => ?_)
  · exact x_throw C hl hq xi_eB (is := 251) (text := "no such echo") (by decide) dX1_needEcho_9 dX1_needEcho_12 dX1_needEcho_13 dX1_needEcho_15 dX1_needEcho_18 ⟨by decide, Nat.le_of_ble_eq_true rfl, by decide, by decide⟩
  · refine x_iload_n C dX1_needEcho_4 rfl ?_
    refine x_iconst C (v := 2) dX1_needEcho_5 (by decide) ?_
    refine x_icmp_lt C (tgt := 19) dX1_needEcho_6 (by decide) (fun c6 => absurd ⟨Int32.not_lt.mp c1, lt2.mp c6⟩ hc) (fun c6 => ?_)
    exact x_throw C hl hq xi_eB (is := 251) (text := "no such echo") (by decide) dX1_needEcho_9 dX1_needEcho_12 dX1_needEcho_13 dX1_needEcho_15 dX1_needEcho_18 ⟨by decide, Nat.le_of_ble_eq_true rfl, by decide, by decide⟩
abbrev rmX1_needWall : Room := { frames := 0, cells := 0, slots := 0, locals := 0 }
set_option maxHeartbeats 1000000 in
set_option maxRecDepth 100000 in
theorem q1_needWall (l : Launch) (g : GT) (M : Mem) (w : Int32) (hc : (0 ≤ w ∧ w < M 1 1)) : CM l yX1_needWall cX1_needWall 2 none rmX1_needWall g M [.ref (ga g 0), .int w] (none) (M) := by
  refine CM.of (by decide) (Nat.le_of_ble_eq_true rfl) (fun X C hq => ?_)
  have C : Cx X g l cX1_needWall 2 RX1 none rmX1_needWall := C
  show V X g 0 0 0 [(0, .ref (ga g 0)), (1, .int w)] [] M
  refine x_iload_n C dX1_needWall_0 rfl ?_
  refine x_if_lt C (tgt := 15) dX1_needWall_1 (by decide) (fun c1 => absurd c1 (Int32.not_lt.mpr hc.1)) (fun c1 => ?_)
  refine x_iload_n C dX1_needWall_4 rfl ?_
  refine x_aload_n C dX1_needWall_5 rfl ?_
  refine x_getR C fl_X1_10 rfl (by decide) rfl dX1_needWall_6 ?_
  refine x_getI C fl_X1_33 rfl (by decide) rfl dX1_needWall_9 ?_
  refine x_icmp_lt C (tgt := 25) dX1_needWall_12 (by decide) (fun c12 => ?_) (fun c12 => absurd hc.2 c12)
  exact x_vret C hq ⟨by decide, by decide⟩ dX1_needWall_25 (rfl) (rfl)
abbrev rmX1_needWall_x : Room := { frames := 6, cells := 1, slots := 6, locals := 90 }
set_option maxHeartbeats 1000000 in
set_option maxRecDepth 100000 in
theorem q1x_needWall (l : Launch) (hl : l.stackTraces = false) (g : GT) (M : Mem) (w : Int32) (hc : ¬ (0 ≤ w ∧ w < M 1 1)) : CE l yX1_needWall cX1_needWall 2 none rmX1_needWall_x g M [.ref (ga g 0), .int w] eB := by
  refine CE.of (by decide) (Nat.le_of_ble_eq_true rfl) (fun X C hq => ?_)
  have C : Cx X g l cX1_needWall 2 RX1 none rmX1_needWall_x := C
  show V X g 0 0 0 [(0, .ref (ga g 0)), (1, .int w)] [] M
  refine x_iload_n C dX1_needWall_0 rfl ?_
  refine x_if_lt C (tgt := 15) dX1_needWall_1 (by decide) (fun c1 => ?_) (fun c1 => ?_)
  · exact x_throw C hl hq xi_eB (is := 253) (text := "no such wall") (by decide) dX1_needWall_15 dX1_needWall_18 dX1_needWall_19 dX1_needWall_21 dX1_needWall_24 ⟨by decide, Nat.le_of_ble_eq_true rfl, by decide, by decide⟩
  · refine x_iload_n C dX1_needWall_4 rfl ?_
    refine x_aload_n C dX1_needWall_5 rfl ?_
    refine x_getR C fl_X1_10 rfl (by decide) rfl dX1_needWall_6 ?_
    refine x_getI C fl_X1_33 rfl (by decide) rfl dX1_needWall_9 ?_
    refine x_icmp_lt C (tgt := 25) dX1_needWall_12 (by decide) (fun c12 => absurd ⟨Int32.not_lt.mp c1, c12⟩ hc) (fun c12 => ?_)
    exact x_throw C hl hq xi_eB (is := 253) (text := "no such wall") (by decide) dX1_needWall_15 dX1_needWall_18 dX1_needWall_19 dX1_needWall_21 dX1_needWall_24 ⟨by decide, Nat.le_of_ble_eq_true rfl, by decide, by decide⟩
abbrev rmX1_needShout : Room := { frames := 0, cells := 0, slots := 0, locals := 0 }
set_option maxHeartbeats 1000000 in
set_option maxRecDepth 100000 in
theorem q1_needShout (l : Launch) (g : GT) (M : Mem) (w : Int32) (hc : (0 ≤ w ∧ w < M 1 2)) : CM l yX1_needShout cX1_needShout 2 none rmX1_needShout g M [.ref (ga g 0), .int w] (none) (M) := by
  refine CM.of (by decide) (Nat.le_of_ble_eq_true rfl) (fun X C hq => ?_)
  have C : Cx X g l cX1_needShout 2 RX1 none rmX1_needShout := C
  show V X g 0 0 0 [(0, .ref (ga g 0)), (1, .int w)] [] M
  refine x_iload_n C dX1_needShout_0 rfl ?_
  refine x_if_lt C (tgt := 15) dX1_needShout_1 (by decide) (fun c1 => absurd c1 (Int32.not_lt.mpr hc.1)) (fun c1 => ?_)
  refine x_iload_n C dX1_needShout_4 rfl ?_
  refine x_aload_n C dX1_needShout_5 rfl ?_
  refine x_getR C fl_X1_10 rfl (by decide) rfl dX1_needShout_6 ?_
  refine x_getI C fl_X1_68 rfl (by decide) rfl dX1_needShout_9 ?_
  refine x_icmp_lt C (tgt := 25) dX1_needShout_12 (by decide) (fun c12 => ?_) (fun c12 => absurd hc.2 c12)
  exact x_vret C hq ⟨by decide, by decide⟩ dX1_needShout_25 (rfl) (rfl)
abbrev rmX1_needShout_x : Room := { frames := 6, cells := 1, slots := 6, locals := 90 }
set_option maxHeartbeats 1000000 in
set_option maxRecDepth 100000 in
theorem q1x_needShout (l : Launch) (hl : l.stackTraces = false) (g : GT) (M : Mem) (w : Int32) (hc : ¬ (0 ≤ w ∧ w < M 1 2)) : CE l yX1_needShout cX1_needShout 2 none rmX1_needShout_x g M [.ref (ga g 0), .int w] eB := by
  refine CE.of (by decide) (Nat.le_of_ble_eq_true rfl) (fun X C hq => ?_)
  have C : Cx X g l cX1_needShout 2 RX1 none rmX1_needShout_x := C
  show V X g 0 0 0 [(0, .ref (ga g 0)), (1, .int w)] [] M
  refine x_iload_n C dX1_needShout_0 rfl ?_
  refine x_if_lt C (tgt := 15) dX1_needShout_1 (by decide) (fun c1 => ?_) (fun c1 => ?_)
  · exact x_throw C hl hq xi_eB (is := 255) (text := "no such shout") (by decide) dX1_needShout_15 dX1_needShout_18 dX1_needShout_19 dX1_needShout_21 dX1_needShout_24 ⟨by decide, Nat.le_of_ble_eq_true rfl, by decide, by decide⟩
  · refine x_iload_n C dX1_needShout_4 rfl ?_
    refine x_aload_n C dX1_needShout_5 rfl ?_
    refine x_getR C fl_X1_10 rfl (by decide) rfl dX1_needShout_6 ?_
    refine x_getI C fl_X1_68 rfl (by decide) rfl dX1_needShout_9 ?_
    refine x_icmp_lt C (tgt := 25) dX1_needShout_12 (by decide) (fun c12 => absurd ⟨Int32.not_lt.mp c1, c12⟩ hc) (fun c12 => ?_)
    exact x_throw C hl hq xi_eB (is := 255) (text := "no such shout") (by decide) dX1_needShout_15 dX1_needShout_18 dX1_needShout_19 dX1_needShout_21 dX1_needShout_24 ⟨by decide, Nat.le_of_ble_eq_true rfl, by decide, by decide⟩
abbrev rmX1_needLoud : Room := { frames := 0, cells := 0, slots := 0, locals := 0 }
set_option maxHeartbeats 1000000 in
set_option maxRecDepth 100000 in
theorem q1_needLoud (l : Launch) (g : GT) (M : Mem) (ld : Int32) (hc : (1 ≤ ld ∧ ld ≤ 99)) : CM l yX1_needLoud cX1_needLoud 1 none rmX1_needLoud g M [.int ld] (none) (M) := by
  refine CM.of (by decide) (Nat.le_of_ble_eq_true rfl) (fun X C hq => ?_)
  have C : Cx X g l cX1_needLoud 1 RX1 none rmX1_needLoud := C
  show V X g 0 0 0 [(0, .int ld)] [] M
  refine x_iload_n C dX1_needLoud_0 rfl ?_
  refine x_iconst C (v := 1) dX1_needLoud_1 (by decide) ?_
  refine x_icmp_lt C (tgt := 11) dX1_needLoud_2 (by decide) (fun c2 => absurd hc.1 (lt1.mp c2)) (fun c2 => ?_)
  refine x_iload_n C dX1_needLoud_5 rfl ?_
  refine x_bipush C (v := 99) dX1_needLoud_6 (by decide) ?_
  refine x_icmp_le C (tgt := 22) dX1_needLoud_8 (by decide) (fun c8 => ?_) (fun c8 => absurd hc.2 c8)
  exact x_vret C hq ⟨by decide, by decide⟩ dX1_needLoud_22 (rfl) (rfl)
abbrev rmX1_needLoud_x : Room := { frames := 6, cells := 1, slots := 6, locals := 90 }
set_option maxHeartbeats 1000000 in
set_option maxRecDepth 100000 in
theorem q1x_needLoud (l : Launch) (hl : l.stackTraces = false) (g : GT) (M : Mem) (ld : Int32) (hc : ¬ (1 ≤ ld ∧ ld ≤ 99)) : CE l yX1_needLoud cX1_needLoud 1 none rmX1_needLoud_x g M [.int ld] eA := by
  refine CE.of (by decide) (Nat.le_of_ble_eq_true rfl) (fun X C hq => ?_)
  have C : Cx X g l cX1_needLoud 1 RX1 none rmX1_needLoud_x := C
  show V X g 0 0 0 [(0, .int ld)] [] M
  refine x_iload_n C dX1_needLoud_0 rfl ?_
  refine x_iconst C (v := 1) dX1_needLoud_1 (by decide) ?_
  refine x_icmp_lt C (tgt := 11) dX1_needLoud_2 (by decide) (fun c2 => ?_) (fun c2 => ?_)
  · exact x_throwW C hl hq xi_eA (is := 257) (text := "loud is not 1 to 99") (by decide) dX1_needLoud_11 dX1_needLoud_14 dX1_needLoud_15 dX1_needLoud_18 dX1_needLoud_21 ⟨by decide, Nat.le_of_ble_eq_true rfl, by decide, by decide⟩
  · refine x_iload_n C dX1_needLoud_5 rfl ?_
    refine x_bipush C (v := 99) dX1_needLoud_6 (by decide) ?_
    refine x_icmp_le C (tgt := 22) dX1_needLoud_8 (by decide) (fun c8 => absurd ⟨Int32.not_lt.mp c2, c8⟩ hc) (fun c8 => ?_)
    exact x_throwW C hl hq xi_eA (is := 257) (text := "loud is not 1 to 99") (by decide) dX1_needLoud_11 dX1_needLoud_14 dX1_needLoud_15 dX1_needLoud_18 dX1_needLoud_21 ⟨by decide, Nat.le_of_ble_eq_true rfl, by decide, by decide⟩
abbrev rmX1_needBeats : Room := { frames := 0, cells := 0, slots := 0, locals := 0 }
set_option maxHeartbeats 1000000 in
set_option maxRecDepth 100000 in
theorem q1_needBeats (l : Launch) (g : GT) (M : Mem) (b : Int32) (hc : (1 ≤ b ∧ b ≤ 100)) : CM l yX1_needBeats cX1_needBeats 1 none rmX1_needBeats g M [.int b] (none) (M) := by
  refine CM.of (by decide) (Nat.le_of_ble_eq_true rfl) (fun X C hq => ?_)
  have C : Cx X g l cX1_needBeats 1 RX1 none rmX1_needBeats := C
  show V X g 0 0 0 [(0, .int b)] [] M
  refine x_iload_n C dX1_needBeats_0 rfl ?_
  refine x_iconst C (v := 1) dX1_needBeats_1 (by decide) ?_
  refine x_icmp_lt C (tgt := 11) dX1_needBeats_2 (by decide) (fun c2 => absurd hc.1 (lt1.mp c2)) (fun c2 => ?_)
  refine x_iload_n C dX1_needBeats_5 rfl ?_
  refine x_bipush C (v := 100) dX1_needBeats_6 (by decide) ?_
  refine x_icmp_le C (tgt := 22) dX1_needBeats_8 (by decide) (fun c8 => ?_) (fun c8 => absurd hc.2 c8)
  exact x_vret C hq ⟨by decide, by decide⟩ dX1_needBeats_22 (rfl) (rfl)
abbrev rmX1_needBeats_x : Room := { frames := 6, cells := 1, slots := 6, locals := 90 }
set_option maxHeartbeats 1000000 in
set_option maxRecDepth 100000 in
theorem q1x_needBeats (l : Launch) (hl : l.stackTraces = false) (g : GT) (M : Mem) (b : Int32) (hc : ¬ (1 ≤ b ∧ b ≤ 100)) : CE l yX1_needBeats cX1_needBeats 1 none rmX1_needBeats_x g M [.int b] eA := by
  refine CE.of (by decide) (Nat.le_of_ble_eq_true rfl) (fun X C hq => ?_)
  have C : Cx X g l cX1_needBeats 1 RX1 none rmX1_needBeats_x := C
  show V X g 0 0 0 [(0, .int b)] [] M
  refine x_iload_n C dX1_needBeats_0 rfl ?_
  refine x_iconst C (v := 1) dX1_needBeats_1 (by decide) ?_
  refine x_icmp_lt C (tgt := 11) dX1_needBeats_2 (by decide) (fun c2 => ?_) (fun c2 => ?_)
  · exact x_throwW C hl hq xi_eA (is := 259) (text := "beats is not 1 to 100") (by decide) dX1_needBeats_11 dX1_needBeats_14 dX1_needBeats_15 dX1_needBeats_18 dX1_needBeats_21 ⟨by decide, Nat.le_of_ble_eq_true rfl, by decide, by decide⟩
  · refine x_iload_n C dX1_needBeats_5 rfl ?_
    refine x_bipush C (v := 100) dX1_needBeats_6 (by decide) ?_
    refine x_icmp_le C (tgt := 22) dX1_needBeats_8 (by decide) (fun c8 => absurd ⟨Int32.not_lt.mp c2, c8⟩ hc) (fun c8 => ?_)
    exact x_throwW C hl hq xi_eA (is := 259) (text := "beats is not 1 to 100") (by decide) dX1_needBeats_11 dX1_needBeats_14 dX1_needBeats_15 dX1_needBeats_18 dX1_needBeats_21 ⟨by decide, Nat.le_of_ble_eq_true rfl, by decide, by decide⟩
