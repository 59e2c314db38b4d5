/-! The class's looks, walked. -/
def cRun (c j : Nat) : Nat → Mem → Mem
  | 0, M => M
  | n + 1, M => if 0 < M c j then cRun c j n (cBeat 15 M) else M
def cCnt (c j : Nat) : Nat → Mem → Nat
  | 0, _ => 0
  | n + 1, M => if 0 < M c j then cCnt c j n (cBeat 15 M) + 1 else 0
theorem cRun_ok (c j : Nat) : ∀ (n : Nat) {M : Mem}, cOK 15 M → cOK 15 (cRun c j n M)
  | 0, _, h => h
  | n + 1, M, h => by
    unfold cRun
    split
    · exact cRun_ok c j n (cBeat_ok h).1
    · exact h
theorem cCopy_ok {M : Mem} (h : cOK 1 M) : cOK 15 (cCopy M) := by
  obtain ⟨h1, h2, h3, h4, h5, h6⟩ := h
  refine ⟨h1, h2, fun s hs => ?_, fun w hw => ?_, fun s hs => ?_, fun k hk => ?_⟩
  · show cpn (M 3) (M 17) 32 s = -1 ∨ (0 ≤ cpn (M 3) (M 17) 32 s ∧ cpn (M 3) (M 17) 32 s ≤ 9)
    unfold cpn; rw [if_pos hs]; exact h3 s hs
  · show 0 ≤ cpn (M 6) (M 20) 10 w ∧ cpn (M 6) (M 20) 10 w ≤ 1
    unfold cpn; rw [if_pos hw]; exact h4 w hw
  · show cpn (M 4) (M 18) 32 s = -1 ∨ (0 ≤ cpn (M 4) (M 18) 32 s ∧ cpn (M 4) (M 18) 32 s ≤ 39)
    unfold cpn; rw [if_pos hs]; exact h5 s hs
  · show 0 < cpn (M 11) (M 25) 40 k → (0 ≤ cpn (M 12) (M 26) 40 k ∧ cpn (M 12) (M 26) 40 k ≤ 31)
    unfold cpn; rw [if_pos hk, if_pos hk]; exact h6 k hk
abbrev rmX1_beatsUntilGone_x : Room := { frames := 7, cells := 1, slots := 6, locals := 111 }
set_option maxHeartbeats 1000000 in
set_option maxRecDepth 100000 in
theorem q1x_beatsUntilGone (l : Launch) (hl : l.stackTraces = false) (g : GT) (M : Mem) (w : Int32) (hb : ¬ (0 ≤ w ∧ w < M 1 2)) : CE l yX1_beatsUntilGone cX1_beatsUntilGone 3 (some .int) rmX1_beatsUntilGone_x g M [.ref (ga g 0), .int w] eB := by
  refine CE.of (by decide) (Nat.le_of_ble_eq_true rfl) (fun X C hq => ?_)
  have C : Cx X g l cX1_beatsUntilGone 3 RX1 (some .int) rmX1_beatsUntilGone_x := C
  show V X g 0 0 0 [(0, .ref (ga g 0)), (1, .int w)] [] M
  refine x_aload_n C dX1_beatsUntilGone_0 rfl ?_
  refine x_iload_n C dX1_beatsUntilGone_1 rfl ?_
  refine x_callVx C hq (q1x_needShout l hl g _ w hb) cd_X1_needShout kl_X1_115 ci1 rfl (by decide) (as := [_]) rfl rfl ⟨⟨by decide, by decide⟩, by decide, by decide⟩ (Nat.le_of_ble_eq_true rfl) dX1_beatsUntilGone_2
abbrev rmX1_beatsUntilGone : Room := { frames := 4, cells := 0, slots := 0, locals := 88 }
set_option maxHeartbeats 1000000 in
set_option maxRecDepth 100000 in
theorem q1_gone_lp {X : XT} {l : Launch} {g : GT} {k t : Nat} {MF : Mem} (hk : k < 40) (C : Cx X g l cX1_beatsUntilGone 3 RX1 (some .int) rmX1_beatsUntilGone) (hq : Rt X g rmX1_beatsUntilGone (some (.int (nI t))) MF) : ∀ (n i : Nat) (Q : Mem), i + n = 99 → cOK 15 Q → i + cCnt 25 k n Q = t → cRun 25 k n Q = MF → V X g 0 0 18 [(2, .int (nI i)), (0, .ref (ga g 0)), (1, .int (nI k))] [] Q := by
  intro n
  induction n with
  | zero =>
    intro i Q hi hQ hc hm
    refine x_iload_n C dX1_beatsUntilGone_18 rfl ?_
    refine x_bipush C (v := 99) dX1_beatsUntilGone_19 (by decide) ?_
    refine x_icmp_ge C (tgt := 49) dX1_beatsUntilGone_21 (by decide) (fun c21 => ?_) (fun c21 => absurd (nI_le (a := 99) (b := i) (by omega) (by omega)) c21)
    refine x_iload_n C dX1_beatsUntilGone_49 rfl ?_
    exact x_iret C hq ⟨by decide, by decide⟩ dX1_beatsUntilGone_50 (congrArg (fun z => some (Value.int (nI z))) hc.symm) (hm.symm)
  | succ n ih =>
    intro i Q hi hQ hc hm
    refine x_iload_n C dX1_beatsUntilGone_18 rfl ?_
    refine x_bipush C (v := 99) dX1_beatsUntilGone_19 (by decide) ?_
    refine x_icmp_ge C (tgt := 49) dX1_beatsUntilGone_21 (by decide) (fun c21 => absurd c21 (fun z => by have q := (nI_leI (a := 99) (b := i) (by decide) (by omega)).mp z; omega)) (fun c21 => ?_)
    refine x_aload_n C dX1_beatsUntilGone_24 rfl ?_
    refine x_getR C fl_X1_16 rfl (by decide) rfl dX1_beatsUntilGone_25 ?_
    refine x_getR C fl_X1_118 rfl (by decide) rfl dX1_beatsUntilGone_28 ?_
    refine x_iload_n C dX1_beatsUntilGone_31 rfl ?_
    refine x_iald C (n := 40) rfl (by decide) rfl (rfl) ((by omega : k < 40)) dX1_beatsUntilGone_32 ?_
    refine x_if_le C (tgt := 49) dX1_beatsUntilGone_33 (by decide) (fun c33 => ?_) (fun c33 => ?_)
    · refine x_iload_n C dX1_beatsUntilGone_49 rfl ?_
      exact x_iret C hq ⟨by decide, by decide⟩ dX1_beatsUntilGone_50 (by rw [← hc, show cCnt 25 k (n + 1) Q = 0 from if_neg (Int32.not_lt.mpr c33)]; rfl) (hm.symm.trans (if_neg (Int32.not_lt.mpr c33)))
    · have z33 := Int32.not_le.mp c33
      refine x_aload_n C dX1_beatsUntilGone_36 rfl ?_
      refine x_getR C fl_X1_16 rfl (by decide) rfl dX1_beatsUntilGone_37 ?_
      refine x_callVN0v C (q0_goOn15 l g _ hQ) cd_X0_goOn kl_X1_91 ci0 rfl (by decide) (as := []) rfl rfl ⟨⟨by decide, by decide⟩, by decide, by decide⟩ ⟨rfl, rfl⟩ (Nat.le_of_ble_eq_true rfl) dX1_beatsUntilGone_40 ?_
      refine x_iinc C (v := nI (i + 1)) (lo' := [(2, _), (0, _), (1, _)]) dX1_beatsUntilGone_43 rfl (nI_inc _) (by decide) rfl ?_
      refine x_goto C (tgt := 18) dX1_beatsUntilGone_46 (by decide) ?_
      exact ih (i + 1) _ (by omega) (cBeat_ok hQ).1 (by rw [← hc, show cCnt 25 k (n + 1) Q = _ from if_pos z33]; omega) ((if_pos z33).symm.trans hm)
set_option maxHeartbeats 1000000 in
set_option maxRecDepth 100000 in
theorem q1_beatsUntilGone (l : Launch) (g : GT) (M : Mem) (h : cOK 1 M) (k : Nat) (hk : k < cSh 1 M) : CM l yX1_beatsUntilGone cX1_beatsUntilGone 3 (some .int) rmX1_beatsUntilGone g M [.ref (ga g 0), .int (nI k)] (some (.int (nI (cCnt 25 k 99 (cCopy M))))) (cRun 25 k 99 (cCopy M)) := by
  refine CM.of (by decide) (Nat.le_of_ble_eq_true rfl) (fun X C hq => ?_)
  have C : Cx X g l cX1_beatsUntilGone 3 RX1 (some .int) rmX1_beatsUntilGone := C
  show V X g 0 0 0 [(0, .ref (ga g 0)), (1, .int (nI k))] [] M
  have hsh := h.sh
  refine x_aload_n C dX1_beatsUntilGone_0 rfl ?_
  refine x_iload_n C dX1_beatsUntilGone_1 rfl ?_
  refine x_callV0v C (q1_needShout l g _ (nI k) ⟨nI_pos' (by omega), by rw [nI_tn h.2.1.1]; exact nI_lt hk (Nat.lt_of_le_of_lt h.sh (by decide))⟩) cd_X1_needShout kl_X1_115 ci1 rfl (by decide) (as := [_]) rfl rfl ⟨⟨by decide, by decide⟩, by decide, by decide⟩ ⟨rfl, rfl⟩ (Nat.le_of_ble_eq_true rfl) dX1_beatsUntilGone_2 ?_
  refine x_aload_n C dX1_beatsUntilGone_5 rfl ?_
  refine x_getR C fl_X1_16 rfl (by decide) rfl dX1_beatsUntilGone_6 ?_
  refine x_aload_n C dX1_beatsUntilGone_9 rfl ?_
  refine x_getR C fl_X1_10 rfl (by decide) rfl dX1_beatsUntilGone_10 ?_
  refine x_callVN0v C (q0_copyFrom l g _) cd_X0_copyFrom kl_X1_130 ci0 rfl (by decide) (as := [_]) rfl rfl ⟨⟨by decide, by decide⟩, by decide, by decide⟩ ⟨rfl, rfl⟩ (Nat.le_of_ble_eq_true rfl) dX1_beatsUntilGone_13 ?_
  refine x_iconst C (v := 0) dX1_beatsUntilGone_16 (by decide) ?_
  refine x_istore_n C (lo' := [(2, _), (0, _), (1, _)]) dX1_beatsUntilGone_17 (by decide) rfl ?_
  exact x_lsub [0, 1, 2] rfl (q1_gone_lp (by omega) C hq 99 0 (cCopy M) rfl (cCopy_ok h) (Nat.zero_add _) rfl)
abbrev rmX1_beatsUntilQuiet : Room := { frames := 4, cells := 0, slots := 0, locals := 88 }
set_option maxHeartbeats 1000000 in
set_option maxRecDepth 100000 in
theorem q1_quiet_lp {X : XT} {l : Launch} {g : GT} {t : Nat} {MF : Mem}  (C : Cx X g l cX1_beatsUntilQuiet 2 RX1 (some .int) rmX1_beatsUntilQuiet) (hq : Rt X g rmX1_beatsUntilQuiet (some (.int (nI t))) MF) : ∀ (n i : Nat) (Q : Mem), i + n = 99 → cOK 15 Q → i + cCnt 15 3 n Q = t → cRun 15 3 n Q = MF → V X g 0 0 13 [(1, .int (nI i)), (0, .ref (ga g 0))] [] Q := by
  intro n
  induction n with
  | zero =>
    intro i Q hi hQ hc hm
    refine x_iload_n C dX1_beatsUntilQuiet_13 rfl ?_
    refine x_bipush C (v := 99) dX1_beatsUntilQuiet_14 (by decide) ?_
    refine x_icmp_ge C (tgt := 42) dX1_beatsUntilQuiet_16 (by decide) (fun c16 => ?_) (fun c16 => absurd (nI_le (a := 99) (b := i) (by omega) (by omega)) c16)
    refine x_iload_n C dX1_beatsUntilQuiet_42 rfl ?_
    exact x_iret C hq ⟨by decide, by decide⟩ dX1_beatsUntilQuiet_43 (congrArg (fun z => some (Value.int (nI z))) hc.symm) (hm.symm)
  | succ n ih =>
    intro i Q hi hQ hc hm
    refine x_iload_n C dX1_beatsUntilQuiet_13 rfl ?_
    refine x_bipush C (v := 99) dX1_beatsUntilQuiet_14 (by decide) ?_
    refine x_icmp_ge C (tgt := 42) dX1_beatsUntilQuiet_16 (by decide) (fun c16 => absurd c16 (fun z => by have q := (nI_leI (a := 99) (b := i) (by decide) (by omega)).mp z; omega)) (fun c16 => ?_)
    refine x_aload_n C dX1_beatsUntilQuiet_19 rfl ?_
    refine x_getR C fl_X1_16 rfl (by decide) rfl dX1_beatsUntilQuiet_20 ?_
    refine x_getI C fl_X1_71 rfl (by decide) rfl dX1_beatsUntilQuiet_23 ?_
    refine x_if_le C (tgt := 42) dX1_beatsUntilQuiet_26 (by decide) (fun c26 => ?_) (fun c26 => ?_)
    · refine x_iload_n C dX1_beatsUntilQuiet_42 rfl ?_
      exact x_iret C hq ⟨by decide, by decide⟩ dX1_beatsUntilQuiet_43 (by rw [← hc, show cCnt 15 3 (n + 1) Q = 0 from if_neg (Int32.not_lt.mpr c26)]; rfl) (hm.symm.trans (if_neg (Int32.not_lt.mpr c26)))
    · have z26 := Int32.not_le.mp c26
      refine x_aload_n C dX1_beatsUntilQuiet_29 rfl ?_
      refine x_getR C fl_X1_16 rfl (by decide) rfl dX1_beatsUntilQuiet_30 ?_
      refine x_callVN0v C (q0_goOn15 l g _ hQ) cd_X0_goOn kl_X1_91 ci0 rfl (by decide) (as := []) rfl rfl ⟨⟨by decide, by decide⟩, by decide, by decide⟩ ⟨rfl, rfl⟩ (Nat.le_of_ble_eq_true rfl) dX1_beatsUntilQuiet_33 ?_
      refine x_iinc C (v := nI (i + 1)) (lo' := [(1, _), (0, _)]) dX1_beatsUntilQuiet_36 rfl (nI_inc _) (by decide) rfl ?_
      refine x_goto C (tgt := 13) dX1_beatsUntilQuiet_39 (by decide) ?_
      exact ih (i + 1) _ (by omega) (cBeat_ok hQ).1 (by rw [← hc, show cCnt 15 3 (n + 1) Q = _ from if_pos z26]; omega) ((if_pos z26).symm.trans hm)
set_option maxHeartbeats 1000000 in
set_option maxRecDepth 100000 in
theorem q1_beatsUntilQuiet (l : Launch) (g : GT) (M : Mem) (h : cOK 1 M) : CM l yX1_beatsUntilQuiet cX1_beatsUntilQuiet 2 (some .int) rmX1_beatsUntilQuiet g M [.ref (ga g 0)] (some (.int (nI (cCnt 15 3 99 (cCopy M))))) (cRun 15 3 99 (cCopy M)) := by
  refine CM.of (by decide) (Nat.le_of_ble_eq_true rfl) (fun X C hq => ?_)
  have C : Cx X g l cX1_beatsUntilQuiet 2 RX1 (some .int) rmX1_beatsUntilQuiet := C
  show V X g 0 0 0 [(0, .ref (ga g 0))] [] M
  refine x_aload_n C dX1_beatsUntilQuiet_0 rfl ?_
  refine x_getR C fl_X1_16 rfl (by decide) rfl dX1_beatsUntilQuiet_1 ?_
  refine x_aload_n C dX1_beatsUntilQuiet_4 rfl ?_
  refine x_getR C fl_X1_10 rfl (by decide) rfl dX1_beatsUntilQuiet_5 ?_
  refine x_callVN0v C (q0_copyFrom l g _) cd_X0_copyFrom kl_X1_130 ci0 rfl (by decide) (as := [_]) rfl rfl ⟨⟨by decide, by decide⟩, by decide, by decide⟩ ⟨rfl, rfl⟩ (Nat.le_of_ble_eq_true rfl) dX1_beatsUntilQuiet_8 ?_
  refine x_iconst C (v := 0) dX1_beatsUntilQuiet_11 (by decide) ?_
  refine x_istore_n C (lo' := [(1, _), (0, _)]) dX1_beatsUntilQuiet_12 (by decide) rfl ?_
  exact q1_quiet_lp C hq 99 0 (cCopy M) rfl (cCopy_ok h) (Nat.zero_add _) rfl
abbrev rmX1_coinsIn_x : Room := { frames := 7, cells := 1, slots := 6, locals := 110 }
set_option maxHeartbeats 1000000 in
set_option maxRecDepth 100000 in
theorem q1x_coinsIn_1 (l : Launch) (hl : l.stackTraces = false) (g : GT) (M : Mem) (e b : Int32) (hb : ¬ (0 ≤ e ∧ e ≤ 1)) : CE l yX1_coinsIn cX1_coinsIn 4 (some .int) rmX1_coinsIn_x g M [.ref (ga g 0), .int e, .int b] eB := by
  refine CE.of (by decide) (Nat.le_of_ble_eq_true rfl) (fun X C hq => ?_)
  have C : Cx X g l cX1_coinsIn 4 RX1 (some .int) rmX1_coinsIn_x := C
  show V X g 0 0 0 [(0, .ref (ga g 0)), (1, .int e), (2, .int b)] [] M
  refine x_iload_n C dX1_coinsIn_0 rfl ?_
  refine x_callSx C hq (q1x_needEcho l hl g _ e hb) cd_X1_needEcho kl_X1_23 (as := [_]) rfl rfl ⟨⟨by decide, by decide⟩, by decide, by decide⟩ (Nat.le_of_ble_eq_true rfl) dX1_coinsIn_1
set_option maxHeartbeats 1000000 in
set_option maxRecDepth 100000 in
theorem q1x_coinsIn_2 (l : Launch) (hl : l.stackTraces = false) (g : GT) (M : Mem) (e b : Int32) (hc : (0 ≤ e ∧ e ≤ 1)) (hb : ¬ (1 ≤ b ∧ b ≤ 100)) : CE l yX1_coinsIn cX1_coinsIn 4 (some .int) rmX1_coinsIn_x g M [.ref (ga g 0), .int e, .int b] eA := by
  refine CE.of (by decide) (Nat.le_of_ble_eq_true rfl) (fun X C hq => ?_)
  have C : Cx X g l cX1_coinsIn 4 RX1 (some .int) rmX1_coinsIn_x := C
  show V X g 0 0 0 [(0, .ref (ga g 0)), (1, .int e), (2, .int b)] [] M
  refine x_iload_n C dX1_coinsIn_0 rfl ?_
  refine x_callS0v C (q1_needEcho l g _ e hc) cd_X1_needEcho kl_X1_23 (as := [_]) rfl rfl ⟨⟨by decide, by decide⟩, by decide, by decide⟩ ⟨rfl, rfl⟩ (Nat.le_of_ble_eq_true rfl) dX1_coinsIn_1 ?_
  refine x_iload_n C dX1_coinsIn_4 rfl ?_
  refine x_callSx C hq (q1x_needBeats l hl g _ b hb) cd_X1_needBeats kl_X1_85 (as := [_]) rfl rfl ⟨⟨by decide, by decide⟩, by decide, by decide⟩ (Nat.le_of_ble_eq_true rfl) dX1_coinsIn_5
abbrev rmX1_coinsIn : Room := { frames := 4, cells := 0, slots := 0, locals := 88 }
set_option maxHeartbeats 1000000 in
set_option maxRecDepth 100000 in
theorem q1_coinsIn_lp {X : XT} {l : Launch} {g : GT} {e b : Int32} {MF : Mem} (he : 0 ≤ e ∧ e ≤ 1) (hb : 0 ≤ b) (C : Cx X g l cX1_coinsIn 4 RX1 (some .int) rmX1_coinsIn) (hq : Rt X g rmX1_coinsIn (some (.int (MF 23 (tn e) - MF 9 (tn e)))) MF) : ∀ (n i : Nat) (Q : Mem), i + n = tn b → cOK 15 Q → cRun 15 3 n Q = MF → V X g 0 0 21 [(3, .int (nI i)), (0, .ref (ga g 0)), (1, .int e), (2, .int b)] [] Q := by
  intro n
  induction n with
  | zero =>
    intro i Q hi hQ hm
    have hsm := tn_sm b
    refine x_iload_n C dX1_coinsIn_21 rfl ?_
    refine x_iload_n C dX1_coinsIn_22 rfl ?_
    refine x_icmp_ge C (tgt := 49) dX1_coinsIn_23 (by decide) (fun c23 => ?_) (fun c23 => absurd ((ge_tn hb (by omega)).mpr (by omega)) c23)
    refine x_aload_n C dX1_coinsIn_49 rfl ?_
    refine x_getR C fl_X1_16 rfl (by decide) rfl dX1_coinsIn_50 ?_
    refine x_getR C fl_X1_88 rfl (by decide) rfl dX1_coinsIn_53 ?_
    refine x_iload_n C dX1_coinsIn_56 rfl ?_
    refine x_iald C (n := 2) rfl (by decide) rfl (nI_tn he.1) (tn1 he) dX1_coinsIn_57 ?_
    refine x_aload_n C dX1_coinsIn_58 rfl ?_
    refine x_getR C fl_X1_10 rfl (by decide) rfl dX1_coinsIn_59 ?_
    refine x_getR C fl_X1_88 rfl (by decide) rfl dX1_coinsIn_62 ?_
    refine x_iload_n C dX1_coinsIn_65 rfl ?_
    refine x_iald C (n := 2) rfl (by decide) rfl (nI_tn he.1) (tn1 he) dX1_coinsIn_66 ?_
    refine x_isub C dX1_coinsIn_67 ?_
    exact x_iret C hq ⟨by decide, by decide⟩ dX1_coinsIn_68 (by rw [← hm]; rfl) (hm.symm)
  | succ n ih =>
    intro i Q hi hQ hm
    have hsm := tn_sm b
    refine x_iload_n C dX1_coinsIn_21 rfl ?_
    refine x_iload_n C dX1_coinsIn_22 rfl ?_
    refine x_icmp_ge C (tgt := 49) dX1_coinsIn_23 (by decide) (fun c23 => absurd c23 (fun z => by have q := (ge_tn hb (by omega)).mp z; omega)) (fun c23 => ?_)
    refine x_aload_n C dX1_coinsIn_26 rfl ?_
    refine x_getR C fl_X1_16 rfl (by decide) rfl dX1_coinsIn_27 ?_
    refine x_getI C fl_X1_71 rfl (by decide) rfl dX1_coinsIn_30 ?_
    refine x_if_le C (tgt := 49) dX1_coinsIn_33 (by decide) (fun c33 => ?_) (fun c33 => ?_)
    · refine x_aload_n C dX1_coinsIn_49 rfl ?_
      refine x_getR C fl_X1_16 rfl (by decide) rfl dX1_coinsIn_50 ?_
      refine x_getR C fl_X1_88 rfl (by decide) rfl dX1_coinsIn_53 ?_
      refine x_iload_n C dX1_coinsIn_56 rfl ?_
      refine x_iald C (n := 2) rfl (by decide) rfl (nI_tn he.1) (tn1 he) dX1_coinsIn_57 ?_
      refine x_aload_n C dX1_coinsIn_58 rfl ?_
      refine x_getR C fl_X1_10 rfl (by decide) rfl dX1_coinsIn_59 ?_
      refine x_getR C fl_X1_88 rfl (by decide) rfl dX1_coinsIn_62 ?_
      refine x_iload_n C dX1_coinsIn_65 rfl ?_
      refine x_iald C (n := 2) rfl (by decide) rfl (nI_tn he.1) (tn1 he) dX1_coinsIn_66 ?_
      refine x_isub C dX1_coinsIn_67 ?_
      exact x_iret C hq ⟨by decide, by decide⟩ dX1_coinsIn_68 (by rw [← hm, show cRun 15 3 (n + 1) Q = Q from if_neg (Int32.not_lt.mpr c33)]) (hm.symm.trans (if_neg (Int32.not_lt.mpr c33)))
    · have z33 := Int32.not_le.mp c33
      refine x_aload_n C dX1_coinsIn_36 rfl ?_
      refine x_getR C fl_X1_16 rfl (by decide) rfl dX1_coinsIn_37 ?_
      refine x_callVN0v C (q0_goOn15 l g _ hQ) cd_X0_goOn kl_X1_91 ci0 rfl (by decide) (as := []) rfl rfl ⟨⟨by decide, by decide⟩, by decide, by decide⟩ ⟨rfl, rfl⟩ (Nat.le_of_ble_eq_true rfl) dX1_coinsIn_40 ?_
      refine x_iinc C (v := nI (i + 1)) (lo' := [(3, _), (0, _), (1, _), (2, _)]) dX1_coinsIn_43 rfl (nI_inc _) (by decide) rfl ?_
      refine x_goto C (tgt := 21) dX1_coinsIn_46 (by decide) ?_
      exact ih (i + 1) _ (by omega) (cBeat_ok hQ).1 ((if_pos z33).symm.trans hm)
set_option maxHeartbeats 1000000 in
set_option maxRecDepth 100000 in
theorem q1_coinsIn (l : Launch) (g : GT) (M : Mem) (h : cOK 1 M) (e b : Int32) (hc : (0 ≤ e ∧ e ≤ 1)) (hb : (1 ≤ b ∧ b ≤ 100)) : CM l yX1_coinsIn cX1_coinsIn 4 (some .int) rmX1_coinsIn g M [.ref (ga g 0), .int e, .int b] (some (.int (cRun 15 3 (tn b) (cCopy M) 23 (tn e) - cRun 15 3 (tn b) (cCopy M) 9 (tn e)))) (cRun 15 3 (tn b) (cCopy M)) := by
  refine CM.of (by decide) (Nat.le_of_ble_eq_true rfl) (fun X C hq => ?_)
  have C : Cx X g l cX1_coinsIn 4 RX1 (some .int) rmX1_coinsIn := C
  show V X g 0 0 0 [(0, .ref (ga g 0)), (1, .int e), (2, .int b)] [] M
  refine x_iload_n C dX1_coinsIn_0 rfl ?_
  refine x_callS0v C (q1_needEcho l g _ e hc) cd_X1_needEcho kl_X1_23 (as := [_]) rfl rfl ⟨⟨by decide, by decide⟩, by decide, by decide⟩ ⟨rfl, rfl⟩ (Nat.le_of_ble_eq_true rfl) dX1_coinsIn_1 ?_
  refine x_iload_n C dX1_coinsIn_4 rfl ?_
  refine x_callS0v C (q1_needBeats l g _ b hb) cd_X1_needBeats kl_X1_85 (as := [_]) rfl rfl ⟨⟨by decide, by decide⟩, by decide, by decide⟩ ⟨rfl, rfl⟩ (Nat.le_of_ble_eq_true rfl) dX1_coinsIn_5 ?_
  refine x_aload_n C dX1_coinsIn_8 rfl ?_
  refine x_getR C fl_X1_16 rfl (by decide) rfl dX1_coinsIn_9 ?_
  refine x_aload_n C dX1_coinsIn_12 rfl ?_
  refine x_getR C fl_X1_10 rfl (by decide) rfl dX1_coinsIn_13 ?_
  refine x_callVN0v C (q0_copyFrom l g _) cd_X0_copyFrom kl_X1_130 ci0 rfl (by decide) (as := [_]) rfl rfl ⟨⟨by decide, by decide⟩, by decide, by decide⟩ ⟨rfl, rfl⟩ (Nat.le_of_ble_eq_true rfl) dX1_coinsIn_16 ?_
  refine x_iconst C (v := 0) dX1_coinsIn_19 (by decide) ?_
  refine x_istore_n C (lo' := [(3, _), (0, _), (1, _), (2, _)]) dX1_coinsIn_20 (by decide) rfl ?_
  exact x_lsub [0, 1, 2, 3] rfl (q1_coinsIn_lp hc (Int32.le_trans (by decide) hb.1) C hq (tn b) 0 (cCopy M) (Nat.zero_add _) (cCopy_ok h) rfl)
abbrev rmX1_loudestOn_x : Room := { frames := 7, cells := 1, slots := 6, locals := 110 }
set_option maxHeartbeats 1000000 in
set_option maxRecDepth 100000 in
theorem q1x_loudestOn_1 (l : Launch) (hl : l.stackTraces = false) (g : GT) (M : Mem) (s b : Int32) (hb : ¬ (0 ≤ s ∧ s ≤ 31)) : CE l yX1_loudestOn cX1_loudestOn 5 (some .int) rmX1_loudestOn_x g M [.ref (ga g 0), .int s, .int b] eB := by
  refine CE.of (by decide) (Nat.le_of_ble_eq_true rfl) (fun X C hq => ?_)
  have C : Cx X g l cX1_loudestOn 5 RX1 (some .int) rmX1_loudestOn_x := C
  show V X g 0 0 0 [(0, .ref (ga g 0)), (1, .int s), (2, .int b)] [] M
  refine x_iload_n C dX1_loudestOn_0 rfl ?_
  refine x_callSx C hq (q1x_needStone l hl g _ s hb) cd_X1_needStone kl_X1_19 (as := [_]) rfl rfl ⟨⟨by decide, by decide⟩, by decide, by decide⟩ (Nat.le_of_ble_eq_true rfl) dX1_loudestOn_1
set_option maxHeartbeats 1000000 in
set_option maxRecDepth 100000 in
theorem q1x_loudestOn_2 (l : Launch) (hl : l.stackTraces = false) (g : GT) (M : Mem) (s b : Int32) (hc : (0 ≤ s ∧ s ≤ 31)) (hb : ¬ (1 ≤ b ∧ b ≤ 100)) : CE l yX1_loudestOn cX1_loudestOn 5 (some .int) rmX1_loudestOn_x g M [.ref (ga g 0), .int s, .int b] eA := by
  refine CE.of (by decide) (Nat.le_of_ble_eq_true rfl) (fun X C hq => ?_)
  have C : Cx X g l cX1_loudestOn 5 RX1 (some .int) rmX1_loudestOn_x := C
  show V X g 0 0 0 [(0, .ref (ga g 0)), (1, .int s), (2, .int b)] [] M
  refine x_iload_n C dX1_loudestOn_0 rfl ?_
  refine x_callS0v C (q1_needStone l g _ s hc) cd_X1_needStone kl_X1_19 (as := [_]) rfl rfl ⟨⟨by decide, by decide⟩, by decide, by decide⟩ ⟨rfl, rfl⟩ (Nat.le_of_ble_eq_true rfl) dX1_loudestOn_1 ?_
  refine x_iload_n C dX1_loudestOn_4 rfl ?_
  refine x_callSx C hq (q1x_needBeats l hl g _ b hb) cd_X1_needBeats kl_X1_85 (as := [_]) rfl rfl ⟨⟨by decide, by decide⟩, by decide, by decide⟩ (Nat.le_of_ble_eq_true rfl) dX1_loudestOn_5
abbrev rmX1_loudestOn : Room := { frames := 4, cells := 0, slots := 0, locals := 88 }
def cLo (s : Int32) : Nat → Mem → Int32 → Int32
  | 0, _, a => a
  | n + 1, M, a => if 0 < M 15 3 then cLo s n (cBeat 15 M) (if a < cLA 15 (cBeat 15 M) s then cLA 15 (cBeat 15 M) s else a) else a
set_option maxHeartbeats 1000000 in
set_option maxRecDepth 100000 in
theorem q1_loudestOn_lp {X : XT} {l : Launch} {g : GT} {s b v : Int32} {MF : Mem} (hs : 0 ≤ s ∧ s ≤ 31) (hb : 0 ≤ b) (C : Cx X g l cX1_loudestOn 5 RX1 (some .int) rmX1_loudestOn) (hq : Rt X g rmX1_loudestOn (some (.int v)) MF) : ∀ (n i : Nat) (Q : Mem) (a : Int32), i + n = tn b → cOK 15 Q → cLo s n Q a = v → cRun 15 3 n Q = MF → V X g 0 0 24 [(4, .int (nI i)), (3, .int a), (0, .ref (ga g 0)), (1, .int s), (2, .int b)] [] Q := by
  intro n
  induction n with
  | zero =>
    intro i Q a hi hQ hc hm
    have hsm := tn_sm b
    refine x_iload C dX1_loudestOn_24 rfl ?_
    refine x_iload_n C dX1_loudestOn_26 rfl ?_
    refine x_icmp_ge C (tgt := 66) dX1_loudestOn_27 (by decide) (fun c27 => ?_) (fun c27 => absurd ((ge_tn hb (by omega)).mpr (by omega)) c27)
    refine x_iload_n C dX1_loudestOn_66 rfl ?_
    exact x_iret C hq ⟨by decide, by decide⟩ dX1_loudestOn_67 (congrArg (fun z => some (Value.int z)) hc.symm) (hm.symm)
  | succ n ih =>
    intro i Q a hi hQ hc hm
    have hsm := tn_sm b
    refine x_iload C dX1_loudestOn_24 rfl ?_
    refine x_iload_n C dX1_loudestOn_26 rfl ?_
    refine x_icmp_ge C (tgt := 66) dX1_loudestOn_27 (by decide) (fun c27 => absurd c27 (fun z => by have q := (ge_tn hb (by omega)).mp z; omega)) (fun c27 => ?_)
    refine x_aload_n C dX1_loudestOn_30 rfl ?_
    refine x_getR C fl_X1_16 rfl (by decide) rfl dX1_loudestOn_31 ?_
    refine x_getI C fl_X1_71 rfl (by decide) rfl dX1_loudestOn_34 ?_
    refine x_if_le C (tgt := 66) dX1_loudestOn_37 (by decide) (fun c37 => ?_) (fun c37 => ?_)
    · refine x_iload_n C dX1_loudestOn_66 rfl ?_
      exact x_iret C hq ⟨by decide, by decide⟩ dX1_loudestOn_67 (congrArg (fun z => some (Value.int z)) (hc.symm.trans (if_neg (Int32.not_lt.mpr c37)))) (hm.symm.trans (if_neg (Int32.not_lt.mpr c37)))
    · have z37 := Int32.not_le.mp c37
      refine x_aload_n C dX1_loudestOn_40 rfl ?_
      refine x_getR C fl_X1_16 rfl (by decide) rfl dX1_loudestOn_41 ?_
      refine x_callVN0v C (q0_goOn15 l g _ hQ) cd_X0_goOn kl_X1_91 ci0 rfl (by decide) (as := []) rfl rfl ⟨⟨by decide, by decide⟩, by decide, by decide⟩ ⟨rfl, rfl⟩ (Nat.le_of_ble_eq_true rfl) dX1_loudestOn_44 ?_
      refine x_iload_n C dX1_loudestOn_47 rfl ?_
      refine x_aload_n C dX1_loudestOn_48 rfl ?_
      refine x_getR C fl_X1_16 rfl (by decide) rfl dX1_loudestOn_49 ?_
      refine x_iload_n C dX1_loudestOn_52 rfl ?_
      refine x_callVN0r C (q0_loudAt15 l g _ (cBeat_ok hQ).1 s hs) cd_X0_loudAt kl_X1_100 ci0 rfl (by decide) (as := [_]) rfl rfl ⟨⟨by decide, by decide⟩, by decide, by decide⟩ ⟨rfl, rfl⟩ (Nat.le_of_ble_eq_true rfl) dX1_loudestOn_53 ?_
      refine x_max C (i := 378) (by decide +kernel) ⟨by decide, Nat.le_of_ble_eq_true rfl, Nat.le_of_ble_eq_true rfl, Nat.le_of_ble_eq_true rfl⟩ dX1_loudestOn_56 ?_
      refine x_istore_n C (lo' := [(3, _), (4, _), (0, _), (1, _), (2, _)]) dX1_loudestOn_59 (by decide) rfl ?_
      refine x_iinc C (v := nI (i + 1)) (lo' := [(4, _), (3, _), (0, _), (1, _), (2, _)]) dX1_loudestOn_60 rfl (nI_inc _) (by decide) rfl ?_
      refine x_goto C (tgt := 24) dX1_loudestOn_63 (by decide) ?_
      exact ih (i + 1) _ _ (by omega) (cBeat_ok hQ).1 ((if_pos z37).symm.trans hc) ((if_pos z37).symm.trans hm)
set_option maxHeartbeats 1000000 in
set_option maxRecDepth 100000 in
theorem q1_loudestOn (l : Launch) (g : GT) (M : Mem) (h : cOK 1 M) (s b : Int32) (hc : (0 ≤ s ∧ s ≤ 31)) (hb : (1 ≤ b ∧ b ≤ 100)) : CM l yX1_loudestOn cX1_loudestOn 5 (some .int) rmX1_loudestOn g M [.ref (ga g 0), .int s, .int b] (some (.int (cLo s (tn b) (cCopy M) 0))) (cRun 15 3 (tn b) (cCopy M)) := by
  refine CM.of (by decide) (Nat.le_of_ble_eq_true rfl) (fun X C hq => ?_)
  have C : Cx X g l cX1_loudestOn 5 RX1 (some .int) rmX1_loudestOn := C
  show V X g 0 0 0 [(0, .ref (ga g 0)), (1, .int s), (2, .int b)] [] M
  refine x_iload_n C dX1_loudestOn_0 rfl ?_
  refine x_callS0v C (q1_needStone l g _ s hc) cd_X1_needStone kl_X1_19 (as := [_]) rfl rfl ⟨⟨by decide, by decide⟩, by decide, by decide⟩ ⟨rfl, rfl⟩ (Nat.le_of_ble_eq_true rfl) dX1_loudestOn_1 ?_
  refine x_iload_n C dX1_loudestOn_4 rfl ?_
  refine x_callS0v C (q1_needBeats l g _ b hb) cd_X1_needBeats kl_X1_85 (as := [_]) rfl rfl ⟨⟨by decide, by decide⟩, by decide, by decide⟩ ⟨rfl, rfl⟩ (Nat.le_of_ble_eq_true rfl) dX1_loudestOn_5 ?_
  refine x_aload_n C dX1_loudestOn_8 rfl ?_
  refine x_getR C fl_X1_16 rfl (by decide) rfl dX1_loudestOn_9 ?_
  refine x_aload_n C dX1_loudestOn_12 rfl ?_
  refine x_getR C fl_X1_10 rfl (by decide) rfl dX1_loudestOn_13 ?_
  refine x_callVN0v C (q0_copyFrom l g _) cd_X0_copyFrom kl_X1_130 ci0 rfl (by decide) (as := [_]) rfl rfl ⟨⟨by decide, by decide⟩, by decide, by decide⟩ ⟨rfl, rfl⟩ (Nat.le_of_ble_eq_true rfl) dX1_loudestOn_16 ?_
  refine x_iconst C (v := 0) dX1_loudestOn_19 (by decide) ?_
  refine x_istore_n C (lo' := [(3, _), (0, _), (1, _), (2, _)]) dX1_loudestOn_20 (by decide) rfl ?_
  refine x_iconst C (v := 0) dX1_loudestOn_21 (by decide) ?_
  refine x_istore C (lo' := [(4, _), (3, _), (0, _), (1, _), (2, _)]) dX1_loudestOn_22 (by decide) rfl ?_
  exact x_lsub [0, 1, 2, 3, 4] rfl (q1_loudestOn_lp hc (Int32.le_trans (by decide) hb.1) C hq (tn b) 0 (cCopy M) 0 (Nat.zero_add _) (cCopy_ok h) rfl rfl)
theorem cMove_ok15 {M : Mem} (h : cOK 15 M) (k : Nat) : cOK 15 (cMove 15 M k) := h.mk (cMove_same _ _ _) (cMove_s h.s k)
def cLWr (th : Int32) : Nat → Mem → Int32
  | 0, _ => -1
  | n + 1, M => if 0 < M 25 0 then (if cMove 15 M 0 26 0 = th then 99 - cMove 15 M 0 25 0 + 1 else cLWr th n (cMove 15 M 0)) else -1
def cLWm (th : Int32) : Nat → Mem → Mem
  | 0, M => M
  | n + 1, M => if 0 < M 25 0 then (if cMove 15 M 0 26 0 = th then cMove 15 M 0 else cLWm th n (cMove 15 M 0)) else M
theorem cAl0_ok {M : Mem} (h : cOK 15 M) : cOK 15 (cAl0 M) := by
  obtain ⟨h1, h2, h3, h4, h5, h6⟩ := h
  have hq : cOK 15 (wr (wr M 15 2 0) 15 3 0) := ⟨h1, ⟨Int32.le_refl 0, (by decide : (0 : Int32) ≤ 40)⟩, h3, h4, h5, h6⟩
  exact hq.mk (cSame.wc (by omega)) (cFill_s hq.s)
theorem cAlone_ok {M : Mem} (h : cOK 15 M) (s wy ld : Int32) (hs : 0 ≤ s ∧ s ≤ 31) : cOK 15 (cAlone M s wy ld) := by
  have h0 := cAl0_ok h
  have e2 : cAl0 M 15 2 = 0 := rfl
  unfold cAlone
  generalize cAl0 M = Q at h0 e2 ⊢
  obtain ⟨h1, h2, h3, h4, h5, h6⟩ := h0
  unfold cStart
  rw [e2]
  refine ⟨?_, ?_, fun q hq => ?_, fun w hw => ?_, fun q hq => ?_, fun k hk hl => ?_⟩
  · simp only [wr_ap]; simpa using h1
  · simp only [wr_ap]; simp
  · simp only [wr_ap]; simpa using h3 q hq
  · simp only [wr_ap]; simpa using h4 w hw
  · rw [wr_ne (by omega), wr_ne (by omega), wr_ap]
    split
    · exact Or.inr ⟨Int32.le_refl 0, by decide⟩
    · rw [wr_ne (by omega), wr_ne (by omega), wr_ne (by omega), wr_ne (by omega)]; exact h5 q hq
  · rw [wr_ne (by omega), wr_ne (by omega), wr_ne (by omega), wr_ne (by omega), wr_ne (by omega), wr_ap]
    rw [wr_ne (by omega), wr_ne (by omega), wr_ne (by omega), wr_ne (by omega), wr_ne (by omega), wr_ne (by omega), wr_ap] at hl
    split
    · exact hs
    · rename_i hn
      rw [if_neg (fun z => hn ⟨rfl, z.2⟩)] at hl
      rw [wr_ne (by omega)]
      exact h6 k hk hl
abbrev rmX1_loudnessWanted_x : Room := { frames := 7, cells := 1, slots := 6, locals := 110 }
set_option maxHeartbeats 1000000 in
set_option maxRecDepth 100000 in
theorem q1x_loudnessWanted_1 (l : Launch) (hl : l.stackTraces = false) (g : GT) (M : Mem) (s r th : Int32) (hb : ¬ (0 ≤ s ∧ s ≤ 31)) : CE l yX1_loudnessWanted cX1_loudnessWanted 5 (some .int) rmX1_loudnessWanted_x g M [.ref (ga g 0), .int s, .int r, .int th] eB := by
  refine CE.of (by decide) (Nat.le_of_ble_eq_true rfl) (fun X C hq => ?_)
  have C : Cx X g l cX1_loudnessWanted 5 RX1 (some .int) rmX1_loudnessWanted_x := C
  show V X g 0 0 0 [(0, .ref (ga g 0)), (1, .int s), (2, .int r), (3, .int th)] [] M
  refine x_iload_n C dX1_loudnessWanted_0 rfl ?_
  refine x_callSx C hq (q1x_needStone l hl g _ s hb) cd_X1_needStone kl_X1_19 (as := [_]) rfl rfl ⟨⟨by decide, by decide⟩, by decide, by decide⟩ (Nat.le_of_ble_eq_true rfl) dX1_loudnessWanted_1
set_option maxHeartbeats 1000000 in
set_option maxRecDepth 100000 in
theorem q1x_loudnessWanted_2 (l : Launch) (hl : l.stackTraces = false) (g : GT) (M : Mem) (s r th : Int32) (hc : (0 ≤ s ∧ s ≤ 31)) (hb : ¬ (0 ≤ th ∧ th ≤ 31)) : CE l yX1_loudnessWanted cX1_loudnessWanted 5 (some .int) rmX1_loudnessWanted_x g M [.ref (ga g 0), .int s, .int r, .int th] eB := by
  refine CE.of (by decide) (Nat.le_of_ble_eq_true rfl) (fun X C hq => ?_)
  have C : Cx X g l cX1_loudnessWanted 5 RX1 (some .int) rmX1_loudnessWanted_x := C
  show V X g 0 0 0 [(0, .ref (ga g 0)), (1, .int s), (2, .int r), (3, .int th)] [] M
  refine x_iload_n C dX1_loudnessWanted_0 rfl ?_
  refine x_callS0v C (q1_needStone l g _ s hc) cd_X1_needStone kl_X1_19 (as := [_]) rfl rfl ⟨⟨by decide, by decide⟩, by decide, by decide⟩ ⟨rfl, rfl⟩ (Nat.le_of_ble_eq_true rfl) dX1_loudnessWanted_1 ?_
  refine x_iload_n C dX1_loudnessWanted_4 rfl ?_
  refine x_callSx C hq (q1x_needStone l hl g _ th hb) cd_X1_needStone kl_X1_19 (as := [_]) rfl rfl ⟨⟨by decide, by decide⟩, by decide, by decide⟩ (Nat.le_of_ble_eq_true rfl) dX1_loudnessWanted_5
abbrev rmX1_loudnessWanted : Room := { frames := 2, cells := 0, slots := 0, locals := 81 }
set_option maxHeartbeats 1000000 in
set_option maxRecDepth 100000 in
theorem q1_lw_lp {X : XT} {l : Launch} {g : GT} {s r th v : Int32} {MF : Mem}  (C : Cx X g l cX1_loudnessWanted 5 RX1 (some .int) rmX1_loudnessWanted) (hq : Rt X g rmX1_loudnessWanted (some (.int v)) MF) : ∀ (n i : Nat) (Q : Mem), i + n = 99 → cOK 15 Q → cLWr th n Q = v → cLWm th n Q = MF → V X g 0 0 33 [(4, .int (nI i)), (0, .ref (ga g 0)), (1, .int s), (2, .int r), (3, .int th)] [] Q := by
  intro n
  induction n with
  | zero =>
    intro i Q hi hQ hc hm
    refine x_iload C dX1_loudnessWanted_33 rfl ?_
    refine x_bipush C (v := 99) dX1_loudnessWanted_35 (by decide) ?_
    refine x_icmp_ge C (tgt := 94) dX1_loudnessWanted_37 (by decide) (fun c37 => ?_) (fun c37 => absurd (nI_le (a := 99) (b := i) (by omega) (by omega)) c37)
    refine x_iconst C (v := (-1)) dX1_loudnessWanted_94 (by decide) ?_
    exact x_iret C hq ⟨by decide, by decide⟩ dX1_loudnessWanted_95 (congrArg (fun z => some (Value.int z)) hc.symm) (hm.symm)
  | succ n ih =>
    intro i Q hi hQ hc hm
    refine x_iload C dX1_loudnessWanted_33 rfl ?_
    refine x_bipush C (v := 99) dX1_loudnessWanted_35 (by decide) ?_
    refine x_icmp_ge C (tgt := 94) dX1_loudnessWanted_37 (by decide) (fun c37 => absurd c37 (fun z => by have q := (nI_leI (a := 99) (b := i) (by decide) (by omega)).mp z; omega)) (fun c37 => ?_)
    refine x_aload_n C dX1_loudnessWanted_40 rfl ?_
    refine x_getR C fl_X1_16 rfl (by decide) rfl dX1_loudnessWanted_41 ?_
    refine x_getR C fl_X1_118 rfl (by decide) rfl dX1_loudnessWanted_44 ?_
    refine x_iconst C (v := 0) dX1_loudnessWanted_47 (by decide) ?_
    refine x_iald C (n := 40) rfl (by decide) rfl (rfl) ((by decide : 0 < 40)) dX1_loudnessWanted_48 ?_
    refine x_if_le C (tgt := 94) dX1_loudnessWanted_49 (by decide) (fun c49 => ?_) (fun c49 => ?_)
    · refine x_iconst C (v := (-1)) dX1_loudnessWanted_94 (by decide) ?_
      exact x_iret C hq ⟨by decide, by decide⟩ dX1_loudnessWanted_95 (congrArg (fun z => some (Value.int z)) (hc.symm.trans (if_neg (Int32.not_lt.mpr c49)))) (hm.symm.trans (if_neg (Int32.not_lt.mpr c49)))
    · have z49 := Int32.not_le.mp c49
      refine x_aload_n C dX1_loudnessWanted_52 rfl ?_
      refine x_getR C fl_X1_16 rfl (by decide) rfl dX1_loudnessWanted_53 ?_
      refine x_iconst C (v := 0) dX1_loudnessWanted_56 (by decide) ?_
      refine x_callVN0v C (q0_move15 l g _ hQ 0 (by decide)) cd_X0_move kl_X1_144 ci0 rfl (by decide) (as := [_]) rfl rfl ⟨⟨by decide, by decide⟩, by decide, by decide⟩ ⟨rfl, rfl⟩ (Nat.le_of_ble_eq_true rfl) dX1_loudnessWanted_57 ?_
      refine x_aload_n C dX1_loudnessWanted_60 rfl ?_
      refine x_getR C fl_X1_16 rfl (by decide) rfl dX1_loudnessWanted_61 ?_
      refine x_getR C fl_X1_121 rfl (by decide) rfl dX1_loudnessWanted_64 ?_
      refine x_iconst C (v := 0) dX1_loudnessWanted_67 (by decide) ?_
      refine x_iald C (n := 40) rfl (by decide) rfl (rfl) ((by decide : 0 < 40)) dX1_loudnessWanted_68 ?_
      refine x_iload_n C dX1_loudnessWanted_69 rfl ?_
      refine x_icmp_ne C (tgt := 88) dX1_loudnessWanted_70 (by decide) (fun c70 => ?_) (fun c70 => ?_)
      · refine x_iinc C (v := nI (i + 1)) (lo' := [(4, _), (0, _), (1, _), (2, _), (3, _)]) dX1_loudnessWanted_88 rfl (nI_inc _) (by decide) rfl ?_
        refine x_goto C (tgt := 33) dX1_loudnessWanted_91 (by decide) ?_
        exact ih (i + 1) _ (by omega) (cMove_ok15 hQ 0) (((if_pos z49).trans (if_neg c70)).symm.trans hc) (((if_pos z49).trans (if_neg c70)).symm.trans hm)
      · refine x_bipush C (v := 99) dX1_loudnessWanted_73 (by decide) ?_
        refine x_aload_n C dX1_loudnessWanted_75 rfl ?_
        refine x_getR C fl_X1_16 rfl (by decide) rfl dX1_loudnessWanted_76 ?_
        refine x_getR C fl_X1_118 rfl (by decide) rfl dX1_loudnessWanted_79 ?_
        refine x_iconst C (v := 0) dX1_loudnessWanted_82 (by decide) ?_
        refine x_iald C (n := 40) rfl (by decide) rfl (rfl) ((by decide : 0 < 40)) dX1_loudnessWanted_83 ?_
        refine x_isub C dX1_loudnessWanted_84 ?_
        refine x_iconst C (v := 1) dX1_loudnessWanted_85 (by decide) ?_
        refine x_iadd C dX1_loudnessWanted_86 ?_
        exact x_iret C hq ⟨by decide, by decide⟩ dX1_loudnessWanted_87 (congrArg (fun z => some (Value.int z)) (hc.symm.trans ((if_pos z49).trans (if_pos c70)))) (hm.symm.trans ((if_pos z49).trans (if_pos c70)))
set_option maxHeartbeats 1000000 in
set_option maxRecDepth 100000 in
theorem q1_loudnessWanted (l : Launch) (g : GT) (M : Mem) (h : cOK 1 M) (s r th : Int32) (hc : (0 ≤ s ∧ s ≤ 31)) (ht : 0 ≤ th ∧ th ≤ 31) : CM l yX1_loudnessWanted cX1_loudnessWanted 5 (some .int) rmX1_loudnessWanted g M [.ref (ga g 0), .int s, .int r, .int th] (some (.int (cLWr th 99 (cAlone (cCopy M) s (if r = 0 then -1 else 1) 99)))) (cLWm th 99 (cAlone (cCopy M) s (if r = 0 then -1 else 1) 99)) := by
  refine CM.of (by decide) (Nat.le_of_ble_eq_true rfl) (fun X C hq => ?_)
  have C : Cx X g l cX1_loudnessWanted 5 RX1 (some .int) rmX1_loudnessWanted := C
  show V X g 0 0 0 [(0, .ref (ga g 0)), (1, .int s), (2, .int r), (3, .int th)] [] M
  refine x_iload_n C dX1_loudnessWanted_0 rfl ?_
  refine x_callS0v C (q1_needStone l g _ s hc) cd_X1_needStone kl_X1_19 (as := [_]) rfl rfl ⟨⟨by decide, by decide⟩, by decide, by decide⟩ ⟨rfl, rfl⟩ (Nat.le_of_ble_eq_true rfl) dX1_loudnessWanted_1 ?_
  refine x_iload_n C dX1_loudnessWanted_4 rfl ?_
  refine x_callS0v C (q1_needStone l g _ th ht) cd_X1_needStone kl_X1_19 (as := [_]) rfl rfl ⟨⟨by decide, by decide⟩, by decide, by decide⟩ ⟨rfl, rfl⟩ (Nat.le_of_ble_eq_true rfl) dX1_loudnessWanted_5 ?_
  refine x_aload_n C dX1_loudnessWanted_8 rfl ?_
  refine x_getR C fl_X1_16 rfl (by decide) rfl dX1_loudnessWanted_9 ?_
  refine x_aload_n C dX1_loudnessWanted_12 rfl ?_
  refine x_getR C fl_X1_10 rfl (by decide) rfl dX1_loudnessWanted_13 ?_
  refine x_callVN0v C (q0_copyFrom l g _) cd_X0_copyFrom kl_X1_130 ci0 rfl (by decide) (as := [_]) rfl rfl ⟨⟨by decide, by decide⟩, by decide, by decide⟩ ⟨rfl, rfl⟩ (Nat.le_of_ble_eq_true rfl) dX1_loudnessWanted_16 ?_
  refine x_aload_n C dX1_loudnessWanted_19 rfl ?_
  refine x_getR C fl_X1_16 rfl (by decide) rfl dX1_loudnessWanted_20 ?_
  refine x_iload_n C dX1_loudnessWanted_23 rfl ?_
  refine x_iload_n C dX1_loudnessWanted_24 rfl ?_
  refine x_bipush C (v := 99) dX1_loudnessWanted_25 (by decide) ?_
  refine x_callVN0v C (q0_startAlone l g _ s r 99 hc) cd_X0_startAlone kl_X1_140 ci0 rfl (by decide) (as := [_, _, _]) rfl rfl ⟨⟨by decide, by decide⟩, by decide, by decide⟩ ⟨rfl, rfl⟩ (Nat.le_of_ble_eq_true rfl) dX1_loudnessWanted_27 ?_
  refine x_iconst C (v := 0) dX1_loudnessWanted_30 (by decide) ?_
  refine x_istore C (lo' := [(4, _), (0, _), (1, _), (2, _), (3, _)]) dX1_loudnessWanted_31 (by decide) rfl ?_
  exact x_lsub [0, 1, 2, 3, 4] rfl (q1_lw_lp C hq 99 0 _ rfl (cAlone_ok (cCopy_ok h) _ _ _ hc) rfl rfl)
def cTA : Nat → Mem → Mem
  | 0, M => M
  | n + 1, M => if 0 < M 25 0 then cTA n (cMove 15 M 0) else M
theorem cTA_ok : ∀ (n : Nat) {M : Mem}, cOK 15 M → cOK 15 (cTA n M)
  | 0, _, h => h
  | n + 1, M, h => by
    unfold cTA
    split
    · exact cTA_ok n (cMove_ok15 h 0)
    · exact h
def cOne (M : Mem) (s ld : Int32) : Mem := cTA 99 (cAlone M s 1 ld)
def cBM (M : Mem) (ld : Int32) : Nat → Mem
  | 0 => M
  | i + 1 => cOne (cBM M ld i) (nI i) ld
def cTs (M : Mem) (ld : Int32) (i : Nat) : Int32 := cOne (cBM M ld i) (nI i) ld 28 0
def cMost (M : Mem) (ld : Int32) : Nat → Int32
  | 0 => 0
  | i + 1 => if cMost M ld i < cTs M ld i then cTs M ld i else cMost M ld i
def cBest (M : Mem) (ld : Int32) : Nat → Int32
  | 0 => 0
  | i + 1 => if cMost M ld i < cTs M ld i then nI i else cBest M ld i
theorem cBM_ok {M : Mem} (h : cOK 15 M) (ld : Int32) : ∀ i, i ≤ 32 → cOK 15 (cBM M ld i)
  | 0, _ => h
  | i + 1, hi => cTA_ok 99 (cAlone_ok (cBM_ok h ld i (by omega)) _ _ _ ⟨nI_pos' (by omega), nI_le (b := 31) (by omega) (by decide)⟩)
abbrev rmX1_turnsAlone : Room := { frames := 2, cells := 0, slots := 0, locals := 47 }
set_option maxHeartbeats 1000000 in
set_option maxRecDepth 100000 in
theorem q1_ta_lp {X : XT} {l : Launch} {g : GT} {s ld : Int32} {MF : Mem}  (C : Cx X g l cX1_turnsAlone 4 RX1 (some .int) rmX1_turnsAlone) (hq : Rt X g rmX1_turnsAlone (some (.int (MF 28 0))) MF) : ∀ (n i : Nat) (Q : Mem), i + n = 99 → cOK 15 Q → cTA n Q = MF → V X g 0 0 12 [(3, .int (nI i)), (0, .ref (ga g 0)), (1, .int s), (2, .int ld)] [] Q := by
  intro n
  induction n with
  | zero =>
    intro i Q hi hQ hm
    refine x_iload_n C dX1_turnsAlone_12 rfl ?_
    refine x_bipush C (v := 99) dX1_turnsAlone_13 (by decide) ?_
    refine x_icmp_ge C (tgt := 44) dX1_turnsAlone_15 (by decide) (fun c15 => ?_) (fun c15 => absurd (nI_le (a := 99) (b := i) (by omega) (by omega)) c15)
    refine x_aload_n C dX1_turnsAlone_44 rfl ?_
    refine x_getR C fl_X1_16 rfl (by decide) rfl dX1_turnsAlone_45 ?_
    refine x_getR C fl_X1_127 rfl (by decide) rfl dX1_turnsAlone_48 ?_
    refine x_iconst C (v := 0) dX1_turnsAlone_51 (by decide) ?_
    refine x_iald C (n := 40) rfl (by decide) rfl (rfl) ((by decide : 0 < 40)) dX1_turnsAlone_52 ?_
    exact x_iret C hq ⟨by decide, by decide⟩ dX1_turnsAlone_53 (by rw [← hm]; rfl) (hm.symm)
  | succ n ih =>
    intro i Q hi hQ hm
    refine x_iload_n C dX1_turnsAlone_12 rfl ?_
    refine x_bipush C (v := 99) dX1_turnsAlone_13 (by decide) ?_
    refine x_icmp_ge C (tgt := 44) dX1_turnsAlone_15 (by decide) (fun c15 => absurd c15 (fun z => by have q := (nI_leI (a := 99) (b := i) (by decide) (by omega)).mp z; omega)) (fun c15 => ?_)
    refine x_aload_n C dX1_turnsAlone_18 rfl ?_
    refine x_getR C fl_X1_16 rfl (by decide) rfl dX1_turnsAlone_19 ?_
    refine x_getR C fl_X1_118 rfl (by decide) rfl dX1_turnsAlone_22 ?_
    refine x_iconst C (v := 0) dX1_turnsAlone_25 (by decide) ?_
    refine x_iald C (n := 40) rfl (by decide) rfl (rfl) ((by decide : 0 < 40)) dX1_turnsAlone_26 ?_
    refine x_if_le C (tgt := 44) dX1_turnsAlone_27 (by decide) (fun c27 => ?_) (fun c27 => ?_)
    · refine x_aload_n C dX1_turnsAlone_44 rfl ?_
      refine x_getR C fl_X1_16 rfl (by decide) rfl dX1_turnsAlone_45 ?_
      refine x_getR C fl_X1_127 rfl (by decide) rfl dX1_turnsAlone_48 ?_
      refine x_iconst C (v := 0) dX1_turnsAlone_51 (by decide) ?_
      refine x_iald C (n := 40) rfl (by decide) rfl (rfl) ((by decide : 0 < 40)) dX1_turnsAlone_52 ?_
      exact x_iret C hq ⟨by decide, by decide⟩ dX1_turnsAlone_53 (by rw [← hm, show cTA (n + 1) Q = Q from if_neg (Int32.not_lt.mpr c27)]) (hm.symm.trans (if_neg (Int32.not_lt.mpr c27)))
    · have z27 := Int32.not_le.mp c27
      refine x_aload_n C dX1_turnsAlone_30 rfl ?_
      refine x_getR C fl_X1_16 rfl (by decide) rfl dX1_turnsAlone_31 ?_
      refine x_iconst C (v := 0) dX1_turnsAlone_34 (by decide) ?_
      refine x_callVN0v C (q0_move15 l g _ hQ 0 (by decide)) cd_X0_move kl_X1_144 ci0 rfl (by decide) (as := [_]) rfl rfl ⟨⟨by decide, by decide⟩, by decide, by decide⟩ ⟨rfl, rfl⟩ (Nat.le_of_ble_eq_true rfl) dX1_turnsAlone_35 ?_
      refine x_iinc C (v := nI (i + 1)) (lo' := [(3, _), (0, _), (1, _), (2, _)]) dX1_turnsAlone_38 rfl (nI_inc _) (by decide) rfl ?_
      refine x_goto C (tgt := 12) dX1_turnsAlone_41 (by decide) ?_
      exact ih (i + 1) _ (by omega) (cMove_ok15 hQ 0) ((if_pos z27).symm.trans hm)
set_option maxHeartbeats 1000000 in
set_option maxRecDepth 100000 in
theorem q1_turnsAlone (l : Launch) (g : GT) (M : Mem) (h : cOK 15 M) (s ld : Int32) (hs : 0 ≤ s ∧ s ≤ 31) : CM l yX1_turnsAlone cX1_turnsAlone 4 (some .int) rmX1_turnsAlone g M [.ref (ga g 0), .int s, .int ld] (some (.int (cOne M s ld 28 0))) (cOne M s ld) := by
  refine CM.of (by decide) (Nat.le_of_ble_eq_true rfl) (fun X C hq => ?_)
  have C : Cx X g l cX1_turnsAlone 4 RX1 (some .int) rmX1_turnsAlone := C
  show V X g 0 0 0 [(0, .ref (ga g 0)), (1, .int s), (2, .int ld)] [] M
  refine x_aload_n C dX1_turnsAlone_0 rfl ?_
  refine x_getR C fl_X1_16 rfl (by decide) rfl dX1_turnsAlone_1 ?_
  refine x_iload_n C dX1_turnsAlone_4 rfl ?_
  refine x_iconst C (v := 1) dX1_turnsAlone_5 (by decide) ?_
  refine x_iload_n C dX1_turnsAlone_6 rfl ?_
  refine x_callVN0v C (q0_startAlone l g _ s 1 ld hs) cd_X0_startAlone kl_X1_140 ci0 rfl (by decide) (as := [_, _, _]) rfl rfl ⟨⟨by decide, by decide⟩, by decide, by decide⟩ ⟨rfl, rfl⟩ (Nat.le_of_ble_eq_true rfl) dX1_turnsAlone_7 ?_
  refine x_iconst C (v := 0) dX1_turnsAlone_10 (by decide) ?_
  refine x_istore_n C (lo' := [(3, _), (0, _), (1, _), (2, _)]) dX1_turnsAlone_11 (by decide) rfl ?_
  exact x_mem (M' := cAlone M s 1 ld) (by rw [if_neg (by decide)]) (x_lsub [0, 1, 2, 3] rfl (q1_ta_lp C hq 99 0 _ rfl (cAlone_ok h _ _ _ hs) rfl))
abbrev rmX1_bestStone_x : Room := { frames := 7, cells := 1, slots := 6, locals := 110 }
set_option maxHeartbeats 1000000 in
set_option maxRecDepth 100000 in
theorem q1x_bestStone (l : Launch) (hl : l.stackTraces = false) (g : GT) (M : Mem) (ld : Int32) (hb : ¬ (1 ≤ ld ∧ ld ≤ 99)) : CE l yX1_bestStone cX1_bestStone 6 (some .int) rmX1_bestStone_x g M [.ref (ga g 0), .int ld] eA := by
  refine CE.of (by decide) (Nat.le_of_ble_eq_true rfl) (fun X C hq => ?_)
  have C : Cx X g l cX1_bestStone 6 RX1 (some .int) rmX1_bestStone_x := C
  show V X g 0 0 0 [(0, .ref (ga g 0)), (1, .int ld)] [] M
  refine x_iload_n C dX1_bestStone_0 rfl ?_
  refine x_callSx C hq (q1x_needLoud l hl g _ ld hb) cd_X1_needLoud kl_X1_65 (as := [_]) rfl rfl ⟨⟨by decide, by decide⟩, by decide, by decide⟩ (Nat.le_of_ble_eq_true rfl) dX1_bestStone_1
abbrev rmX1_bestStone : Room := { frames := 3, cells := 0, slots := 0, locals := 81 }
set_option maxHeartbeats 1000000 in
set_option maxRecDepth 100000 in
theorem q1_best_lp {X : XT} {l : Launch} {g : GT} {A : Mem} {ld : Int32} (h : cOK 15 A) (C : Cx X g l cX1_bestStone 6 RX1 (some .int) rmX1_bestStone) (hq : Rt X g rmX1_bestStone (some (.int (cBest A ld 32))) (cBM A ld 32)) : ∀ (n i : Nat), i ≤ 32 → 33 ≤ i + n → V X g 0 0 22 [(4, .int (nI i)), (3, .int (cMost A ld i)), (2, .int (cBest A ld i)), (0, .ref (ga g 0)), (1, .int ld)] [] (cBM A ld i) := by
  intro n
  induction n with
  | zero =>
    intro i h1 h2; omega
  | succ n ih =>
    intro i h1 h2
    refine x_iload C dX1_bestStone_22 rfl ?_
    refine x_bipush C (v := 32) dX1_bestStone_24 (by decide) ?_
    refine x_icmp_ge C (tgt := 56) dX1_bestStone_26 (by decide) (fun c26 => ?_) (fun c26 => ?_)
    · have he : i = 32 := by
        have z := (nI_leI (a := 32) (b := i) (by decide) (by omega)).mp c26
        omega
      subst he
      refine x_iload_n C dX1_bestStone_56 rfl ?_
      exact x_iret C hq ⟨by decide, by decide⟩ dX1_bestStone_57 (rfl) (rfl)
    · have hlt : i < 32 := Nat.lt_of_not_le (fun z => c26 (nI_le (a := 32) z (by omega)))
      have hs : 0 ≤ nI i ∧ nI i ≤ 31 := ⟨nI_pos' (by omega), nI_le (b := 31) (by omega) (by decide)⟩
      refine x_aload_n C dX1_bestStone_29 rfl ?_
      refine x_iload C dX1_bestStone_30 rfl ?_
      refine x_iload_n C dX1_bestStone_32 rfl ?_
      refine x_callV0r C (q1_turnsAlone l g _ (cBM_ok h ld i (by omega)) (nI i) ld hs) cd_X1_turnsAlone kl_X1_147 ci1 rfl (by decide) (as := [_, _]) rfl rfl ⟨⟨by decide, by decide⟩, by decide, by decide⟩ ⟨rfl, rfl⟩ (Nat.le_of_ble_eq_true rfl) dX1_bestStone_33 ?_
      refine x_istore C (lo' := [(5, _), (4, _), (3, _), (2, _), (0, _), (1, _)]) dX1_bestStone_36 (by decide) rfl ?_
      refine x_iload C dX1_bestStone_38 rfl ?_
      refine x_iload_n C dX1_bestStone_40 rfl ?_
      refine x_icmp_le C (tgt := 50) dX1_bestStone_41 (by decide) (fun c41 => ?_) (fun c41 => ?_)
      · refine x_iinc C (v := nI (i + 1)) (lo' := [(4, _), (5, _), (3, _), (2, _), (0, _), (1, _)]) dX1_bestStone_50 rfl (nI_inc _) (by decide) rfl ?_
        refine x_goto C (tgt := 22) dX1_bestStone_53 (by decide) ?_
        first
          | (have z41 := Int32.not_le.mp c41
             have e1 : cMost A ld (i + 1) = cTs A ld i := if_pos z41
             have e2 : cBest A ld (i + 1) = nI i := if_pos z41
             have q := ih (i + 1) hlt (by omega)
             rw [e1, e2] at q
             exact x_lsub [0, 2, 1, 3, 4] rfl (x_lsub [0, 2, 1, 3, 4] rfl (x_lsub [0, 1, 2, 4, 5] rfl (x_lsub [0, 2, 1, 3, 4, 5] rfl q))))
          | (have z41 := Int32.not_le.mp c41
             have e1 : cMost A ld (i + 1) = cTs A ld i := if_pos z41
             have e2 : cBest A ld (i + 1) = nI i := if_pos z41
             have q := ih (i + 1) hlt (by omega)
             rw [e1, e2] at q
             exact x_lsub [0, 2, 1, 4, 5] rfl q)
          | (have z41 := Int32.not_lt.mpr c41
             have e1 : cMost A ld (i + 1) = cMost A ld i := if_neg z41
             have e2 : cBest A ld (i + 1) = cBest A ld i := if_neg z41
             have q := ih (i + 1) hlt (by omega)
             rw [e1, e2] at q
             exact x_lsub [0, 2, 3, 4, 5] rfl q)
      · refine x_iload C dX1_bestStone_44 rfl ?_
        refine x_istore_n C (lo' := [(3, _), (5, _), (4, _), (2, _), (0, _), (1, _)]) dX1_bestStone_46 (by decide) rfl ?_
        refine x_iload C dX1_bestStone_47 rfl ?_
        refine x_istore_n C (lo' := [(2, _), (3, _), (5, _), (4, _), (0, _), (1, _)]) dX1_bestStone_49 (by decide) rfl ?_
        refine x_iinc C (v := nI (i + 1)) (lo' := [(4, _), (2, _), (3, _), (5, _), (0, _), (1, _)]) dX1_bestStone_50 rfl (nI_inc _) (by decide) rfl ?_
        refine x_goto C (tgt := 22) dX1_bestStone_53 (by decide) ?_
        first
          | (have z41 := Int32.not_le.mp c41
             have e1 : cMost A ld (i + 1) = cTs A ld i := if_pos z41
             have e2 : cBest A ld (i + 1) = nI i := if_pos z41
             have q := ih (i + 1) hlt (by omega)
             rw [e1, e2] at q
             exact x_lsub [0, 2, 1, 3, 4] rfl (x_lsub [0, 2, 1, 3, 4] rfl (x_lsub [0, 1, 2, 4, 5] rfl (x_lsub [0, 2, 1, 3, 4, 5] rfl q))))
          | (have z41 := Int32.not_le.mp c41
             have e1 : cMost A ld (i + 1) = cTs A ld i := if_pos z41
             have e2 : cBest A ld (i + 1) = nI i := if_pos z41
             have q := ih (i + 1) hlt (by omega)
             rw [e1, e2] at q
             exact x_lsub [0, 2, 1, 4, 5] rfl q)
          | (have z41 := Int32.not_lt.mpr c41
             have e1 : cMost A ld (i + 1) = cMost A ld i := if_neg z41
             have e2 : cBest A ld (i + 1) = cBest A ld i := if_neg z41
             have q := ih (i + 1) hlt (by omega)
             rw [e1, e2] at q
             exact x_lsub [0, 2, 3, 4, 5] rfl q)
set_option maxHeartbeats 1000000 in
set_option maxRecDepth 100000 in
theorem q1_bestStone (l : Launch) (g : GT) (M : Mem) (h : cOK 1 M) (ld : Int32) (hld : (1 ≤ ld ∧ ld ≤ 99)) : CM l yX1_bestStone cX1_bestStone 6 (some .int) rmX1_bestStone g M [.ref (ga g 0), .int ld] (some (.int (cBest (cCopy M) ld 32))) (cBM (cCopy M) ld 32) := by
  refine CM.of (by decide) (Nat.le_of_ble_eq_true rfl) (fun X C hq => ?_)
  have C : Cx X g l cX1_bestStone 6 RX1 (some .int) rmX1_bestStone := C
  show V X g 0 0 0 [(0, .ref (ga g 0)), (1, .int ld)] [] M
  refine x_iload_n C dX1_bestStone_0 rfl ?_
  refine x_callS0v C (q1_needLoud l g _ ld hld) cd_X1_needLoud kl_X1_65 (as := [_]) rfl rfl ⟨⟨by decide, by decide⟩, by decide, by decide⟩ ⟨rfl, rfl⟩ (Nat.le_of_ble_eq_true rfl) dX1_bestStone_1 ?_
  refine x_aload_n C dX1_bestStone_4 rfl ?_
  refine x_getR C fl_X1_16 rfl (by decide) rfl dX1_bestStone_5 ?_
  refine x_aload_n C dX1_bestStone_8 rfl ?_
  refine x_getR C fl_X1_10 rfl (by decide) rfl dX1_bestStone_9 ?_
  refine x_callVN0v C (q0_copyFrom l g _) cd_X0_copyFrom kl_X1_130 ci0 rfl (by decide) (as := [_]) rfl rfl ⟨⟨by decide, by decide⟩, by decide, by decide⟩ ⟨rfl, rfl⟩ (Nat.le_of_ble_eq_true rfl) dX1_bestStone_12 ?_
  refine x_iconst C (v := 0) dX1_bestStone_15 (by decide) ?_
  refine x_istore_n C (lo' := [(2, _), (0, _), (1, _)]) dX1_bestStone_16 (by decide) rfl ?_
  refine x_iconst C (v := 0) dX1_bestStone_17 (by decide) ?_
  refine x_istore_n C (lo' := [(3, _), (2, _), (0, _), (1, _)]) dX1_bestStone_18 (by decide) rfl ?_
  refine x_iconst C (v := 0) dX1_bestStone_19 (by decide) ?_
  refine x_istore C (lo' := [(4, _), (3, _), (2, _), (0, _), (1, _)]) dX1_bestStone_20 (by decide) rfl ?_
  exact q1_best_lp (cCopy_ok h) C hq 33 0 (by decide) (by decide)
