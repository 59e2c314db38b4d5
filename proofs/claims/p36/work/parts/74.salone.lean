/-! The same canyon with one shout alone. -/
def mAl (P : Mem) (s w l : Int32) : Mem := wr (wr (wr (wr (wr P 29 2 1) 34 27 l) 34 67 s) 34 107 w) 34 147 0
theorem mAl_n (P : Mem) (s w l : Int32) : mWs (mAl P s w l) = mWs P ∧ mSh (mAl P s w l) = 1 := ⟨rfl, rfl⟩
theorem mAl_r {P : Mem} {s w l : Int32} : mAl P s w l 34 27 = l ∧ mAl P s w l 34 67 = s ∧ mAl P s w l 34 107 = w ∧ mAl P s w l 34 147 = 0 ∧ (∀ j, j ≠ 27 → j ≠ 67 → j ≠ 107 → j ≠ 147 → mAl P s w l 34 j = P 34 j) ∧ ∀ c, c ≠ 34 → c ≠ 29 → mAl P s w l c = P c := by
  unfold mAl
  refine ⟨?_, ?_, ?_, ?_, fun j h1 h2 h3 h4 => ?_, fun c h1 h2 => ?_⟩
  · rw [wr_ne (by omega), wr_ne (by omega), wr_ne (by omega), wr_eq]
  · rw [wr_ne (by omega), wr_ne (by omega), wr_eq]
  · rw [wr_ne (by omega), wr_eq]
  · rw [wr_eq]
  · rw [wr_ne (by omega), wr_ne (by omega), wr_ne (by omega), wr_ne (by omega), wr_ne (by omega)]
  · rw [wr_cell h1, wr_cell h1, wr_cell h1, wr_cell h1, wr_cell h2]
theorem PK.al {P : Mem} (h : PK P) {s w l : Int32} (hs : 0 ≤ s ∧ s ≤ 31) (hw : w = 1 ∨ w = -1) (hl : 1 ≤ l ∧ l ≤ 99) : PK (mAl P s w l) := by
  obtain ⟨r1, r2, r3, r4, r5, r6⟩ := mAl_r (P := P) (s := s) (w := w) (l := l)
  have e31 : mAl P s w l 31 = P 31 := r6 31 (by decide) (by decide)
  refine ⟨⟨h.1.1, ?_, fun q hq => by rw [e31]; exact h.1.2.2.1 q hq, fun q hq => by rw [r5 _ (by omega) (by omega) (by omega) (by omega)]; exact h.1.2.2.2 q hq⟩, ⟨fun q hq => by rw [r6 30 (by decide) (by decide)]; exact h.2.1.1 q hq, fun q hq => by rw [r6 33 (by decide) (by decide)]; exact h.2.1.2 q hq⟩, ⟨fun q hq => ?_, fun q hq => ?_⟩, fun k hk => ?_⟩
  · show (0 : Int32) ≤ 1 ∧ (1 : Int32) ≤ 40
    decide
  · rw [r6 32 (by decide) (by decide), e31]
    exact h.2.2.1.1 q hq
  · rw [r6 32 (by decide) (by decide), e31]
    exact h.2.2.1.2 q hq
  · by_cases e : k = 0
    · subst e
      show (0 ≤ mAl P s w l 34 27 ∧ mAl P s w l 34 27 ≤ 99) ∧ (0 < mAl P s w l 34 27 → (0 ≤ mAl P s w l 34 67 ∧ mAl P s w l 34 67 ≤ 31) ∧ (mAl P s w l 34 107 = 1 ∨ mAl P s w l 34 107 = -1))
      rw [r1, r2, r3]
      exact ⟨⟨Int32.le_trans (by decide) hl.1, hl.2⟩, fun _ => ⟨hs, hw⟩⟩
    · rw [r5 _ (by omega) (by omega) (by omega) (by omega), r5 _ (by omega) (by omega) (by omega) (by omega), r5 _ (by omega) (by omega) (by omega) (by omega)]
      exact h.2.2.2 k hk
abbrev rmX2_alone : Room := { frames := 3, cells := 62, slots := 315, locals := 120 }
theorem z4_all {g : GT} {D : DM} {q : Nat} {a b c d : Int32} (h : IA g D q 4 (upd (upd (upd (upd (fun _ => 0) 0 a) 1 b) 2 c) 3 d)) : IA g D q 4 (q4 a b c d) := h.ext (fun j hj => by
  rcases (show j = 0 ∨ j = 1 ∨ j = 2 ∨ j = 3 by omega) with rfl | rfl | rfl | rfl <;> rfl)
set_option maxHeartbeats 1000000 in
set_option maxRecDepth 100000 in
theorem qs_alone (l : Launch) (g : GT) (M : Mem) (D : DM) {ad : Nat → Nat} {P : Mem} (h : SP g D ad P) (s w ld : Int32) : CU l yX2_alone cX2_alone 5 (some (.object "CanyonEchoesLaw$Sim")) rmX2_alone g M D [.ref (ad 0), .int s, .int w, .int ld] (fun r M1 D1 => M1 = M ∧ ∃ A, r = some (.ref (A 0)) ∧ A 1 = ad 1 ∧ SP g D1 A (mAl P s w ld) ∧ Le D D1 ∧ ∀ i, su (mWs P) 1 i → i ≠ 1 → D (A i) = none) := by
  refine CU.of (by decide) (Nat.le_of_ble_eq_true rfl) (fun X C hq => ?_)
  have C : Cx X g l cX2_alone 5 RX2 (some (.object "CanyonEchoesLaw$Sim")) rmX2_alone := C
  show UX X g 0 0 0 [(0, .ref (ad 0)), (1, .int s), (2, .int w), (3, .int ld)] [] M D
  refine u_aload_n C dX2_alone_0 rfl ?_
  refine u_callV C (qs_copy l g M _ h) cd_X2_copy kl_X2_59 ci2 (h.ob nm0) (as := []) rfl rfl ⟨⟨by decide, by decide⟩, by decide, by decide⟩ (Nat.le_of_ble_eq_true rfl) dX2_alone_1 (fun v9 M9 D9 e9 => ?_)
  obtain ⟨rfl, A, rfl, hA1, sm, hle, hz⟩ := e9
  have hn := sm.n
  have ob := sm.ob nm0
  show UX X g 60 310 4 [(0, .ref (ad 0)), (1, .int s), (2, .int w), (3, .int ld)] [.ref (A 0)] M9 D9
  refine u_astore C (lo' := [(4, _), (0, _), (1, _), (2, _), (3, _)]) dX2_alone_4 (by decide) rfl ?_
  refine u_aload C dX2_alone_6 rfl ?_
  refine u_iconst C (v := 1) dX2_alone_8 (by decide) ?_
  refine u_newR C (by decide +kernel) (N := 1) (rfl) (by decide) ⟨by decide, by decide⟩ dX2_alone_9 (fun qns D1 z1 o1 r1 => ?_)
  have l1 := Le.ot o1 z1
  have z0s : D qns = none := hle.none z1
  have nqs : ∀ i, su (mWs P) (mSh P) i → A i ≠ qns := fun i hi e => sm.told hi nm0 (by rw [e]; exact z1)
  have sm := sm.le l1
  have ns := r1
  have hle := hle.tr l1
  refine u_dup C dX2_alone_12 rfl ?_
  refine u_iconst C (v := 0) dX2_alone_13 (by decide) ?_
  refine u_iconst C (v := 4) dX2_alone_14 (by decide) ?_
  refine u_newI C (N := 4) (rfl) (by decide) ⟨by decide, by decide⟩ dX2_alone_15 (fun qnr D2 z2 o2 r2 => ?_)
  have l2 := Le.ot o2 z2
  have z0r : D qnr = none := hle.none z2
  have nqr : ∀ i, su (mWs P) (mSh P) i → A i ≠ qnr := fun i hi e => sm.told hi nm0 (by rw [e]; exact z2)
  have hsr : qns ≠ qnr := fun e => ns.some (by rw [e]; exact z2)
  have sm := sm.le l2
  have ns := ns.le l2
  have nr := r2
  have hle := hle.tr l2
  refine u_dup C dX2_alone_17 rfl ?_
  refine u_iconst C (v := 0) dX2_alone_18 (by decide) ?_
  refine u_iload_n C dX2_alone_19 rfl ?_
  refine u_iast C (nr) rfl (by decide : 0 < 4) (by decide) dX2_alone_20 (fun D3 o3 r3 => ?_)
  have sm := sm.ot o3 (fun i hi _ => nqr i hi)
  have ns := ns.ot o3 hsr
  have nr := r3
  have hle := hle.wr o3 z0r
  refine u_dup C dX2_alone_21 rfl ?_
  refine u_iconst C (v := 1) dX2_alone_22 (by decide) ?_
  refine u_iload_n C dX2_alone_23 rfl ?_
  refine u_iast C (nr) rfl (by decide : 1 < 4) (by decide) dX2_alone_24 (fun D4 o4 r4 => ?_)
  have sm := sm.ot o4 (fun i hi _ => nqr i hi)
  have ns := ns.ot o4 hsr
  have nr := r4
  have hle := hle.wr o4 z0r
  refine u_dup C dX2_alone_25 rfl ?_
  refine u_iconst C (v := 2) dX2_alone_26 (by decide) ?_
  refine u_iload_n C dX2_alone_27 rfl ?_
  refine u_iast C (nr) rfl (by decide : 2 < 4) (by decide) dX2_alone_28 (fun D5 o5 r5 => ?_)
  have sm := sm.ot o5 (fun i hi _ => nqr i hi)
  have ns := ns.ot o5 hsr
  have nr := r5
  have hle := hle.wr o5 z0r
  refine u_dup C dX2_alone_29 rfl ?_
  refine u_iconst C (v := 3) dX2_alone_30 (by decide) ?_
  refine u_iconst C (v := 0) dX2_alone_31 (by decide) ?_
  refine u_iast C (nr) rfl (by decide : 3 < 4) (by decide) dX2_alone_32 (fun D6 o6 r6 => ?_)
  have sm := sm.ot o6 (fun i hi _ => nqr i hi)
  have ns := ns.ot o6 hsr
  have nr := r6
  have hle := hle.wr o6 z0r
  have nr := z4_all nr
  refine u_aast C (ns) (nr) rfl (by decide : 0 < 1) (by decide) dX2_alone_33 (fun D7 o7 r7 => ?_)
  have sm := sm.ot o7 (fun i hi _ => nqs i hi)
  have nr := nr.ot o7 (Ne.symm hsr)
  have ns := r7
  have hle := hle.wr o7 z0s
  have ob := sm.ob nm0
  refine u_putR C fn_X2_18 (ob) (Nat.le_of_ble_eq_true rfl) dX2_alone_34 (fun D8 o8 r8 => ?_)
  have ob : OB D8 (A 0) 2 [.ref (A 1), .ref (A 2), .ref qns, .ref (A 4), .ref (A 5), .int (P 34 0), .int (P 34 1), .int (P 34 2)] := r8
  have sm := (sm.mask (mk' := [0]) (fun i hi => absurd hi List.not_mem_nil)).otm o8 (su_c (by omega)) List.mem_cons_self
  have ns := ns.ot o8 (Ne.symm (nqs 0 (su_c (by omega))))
  have nr := nr.ot o8 (Ne.symm (nqr 0 (su_c (by omega))))
  have hle := hle.wr o8 (hz 0 (su_c (by omega)) (by decide))
  have hs20 : ∀ i, su (mWs P) 1 i → i = 20 ∨ (i ≠ 20 ∧ su (mWs P) (mSh P) i) := fun i hi => by unfold su at hi ⊢; omega
  obtain ⟨k1, k2, k3, k4, k5, k6⟩ := mAl_r (P := P) (s := s) (w := w) (l := ld)
  have fin9 : SP g D8 (fun i => if i = 3 then qns else if i = 20 then qnr else A i) (mAl P s w ld) := by
    refine SM.mk' ⟨hn.1, by show (1 : Nat) ≤ 40; omega⟩ (fun i j hi hj e => ?_) ?_ ?_ ?_ ?_ ?_ ?_ (fun q hq => ?_) (fun k hk => ?_)
    · rcases hs20 i hi with rfl | ⟨i20, hi⟩ <;> rcases hs20 j hj with rfl | ⟨j20, hj⟩
      · rfl
      · by_cases j3 : j = 3
        · subst j3; exact absurd (show qnr = qns from e).symm hsr
        · rw [if_neg (by decide), if_pos rfl, if_neg j3, if_neg j20] at e
          exact absurd e.symm (nqr j hj)
      · by_cases i3 : i = 3
        · subst i3; exact absurd (show qns = qnr from e) hsr
        · rw [if_neg i3, if_neg i20, if_neg (by decide), if_pos rfl] at e
          exact absurd e (nqr i hi)
      · rw [if_neg i20, if_neg j20] at e
        by_cases i3 : i = 3
        · by_cases j3 : j = 3
          · rw [i3, j3]
          · rw [if_pos i3, if_neg j3] at e
            exact absurd e.symm (nqs j hj)
        · by_cases j3 : j = 3
          · rw [if_neg i3, if_pos j3] at e
            exact absurd e (nqs i hi)
          · rw [if_neg i3, if_neg j3] at e
            exact sm.2.1 i j hi hj e
    · rw [k5 0 (by decide) (by decide) (by decide) (by decide), k5 1 (by decide) (by decide) (by decide) (by decide), k5 2 (by decide) (by decide) (by decide) (by decide)]
      exact ob
    · rw [k6 30 (by decide) (by decide)]
      exact sm.snow (nm1 (by decide))
    · exact (sm.walls (nm1 (by decide))).ext (fun q hq => by
        have hq : q < mWs P := hq
        rw [if_neg (by omega), if_neg (by omega)])
    · exact ns.ext (fun q hq => by
        have hq : q < 1 := hq
        obtain rfl : q = 0 := by omega
        rfl)
    · exact (sm.coins (nm1 (by decide))).ext (fun e he => (k5 _ (by omega) (by omega) (by omega) (by omega)).symm)
    · exact (sm.silent (nm1 (by decide))).ext (fun e he => (k5 _ (by omega) (by omega) (by omega) (by omega)).symm)
    · have hq : q < mWs P := hq
      rw [if_neg (by omega), if_neg (by omega)]
      exact (sm.wrow hq (nm1 (by omega))).ext (fun j hj => by
        unfold rW
        rw [k5 (7 + q) (by omega) (by omega) (by omega) (by omega), k5 (17 + q) (by omega) (by omega) (by omega) (by omega), k6 32 (by decide) (by decide), k6 33 (by decide) (by decide)])
    · have hk : k < 1 := hk
      obtain rfl : k = 0 := by omega
      exact ⟨_, nr, k1.symm, k4.symm, fun _ => ⟨k2.symm, k3.symm⟩⟩
  refine u_aload C dX2_alone_37 rfl ?_
  exact u_aret C (Or.inl ⟨_, rfl⟩) hq ⟨by decide, by decide⟩ dX2_alone_39 (⟨rfl, fun i => if i = 3 then qns else if i = 20 then qnr else A i, rfl, hA1, fin9, hle, fun i hi h1 => by
    rcases hs20 i hi with rfl | ⟨i20, hi⟩
    · exact z0r
    · by_cases i3 : i = 3
      · subst i3; exact z0s
      · show D (if i = 3 then qns else if i = 20 then qnr else A i) = none; rw [if_neg i3, if_neg i20]; exact hz i hi h1⟩)
abbrev rmX2_turns : Room := { frames := 4, cells := 270, slots := 4800, locals := 150 }
theorem mBeats_pk {P : Mem} (h : PK P) (t : Nat) : PK (mBeats P t) ∧ mSh (mBeats P t) = mSh P ∧ mWs (mBeats P t) = mWs P := ⟨h.beats t, (mBeats_n P h t).2, (mBeats_n P h t).1⟩
/-- what is free at the start stays free of the canyon's own cells but the snow -/
theorem Le.fr {D0 D D' : DM} {A : Nat → Nat} {nW nS : Nat} (h : Le D0 D) (f : Fr A nW nS D D') (z : ∀ i, su nW nS i → i ≠ 1 → D0 (A i) = Option.none) : Le D0 D' := fun a e x => f a e (h a e x) (fun i hi h1 e2 => by
  rw [e2, z i hi h1] at x
  cases x)
set_option maxHeartbeats 1000000 in
set_option maxRecDepth 100000 in
theorem qs_turns_lp {X : XT} {l : Launch} {g : GT} {R : Option Value → Mem → DM → Prop} {M : Mem} {D0 : DM} {A : Nat → Nat} {Q : Mem} (pq : PK Q) (hq1 : mSh Q = 1) (z : ∀ i, su (mWs Q) 1 i → i ≠ 1 → D0 (A i) = none) (hR : ∀ (t : Nat) {D : DM}, SP g D A (mBeats Q t) → Le D0 D → (∀ j, j < t → 0 < mBeats Q j 34 27) → ¬ 0 < mBeats Q t 34 27 → R (some (.int (mBeats Q t 34 147))) M D) (C : Cx X g l cX2_turns 4 RX2 (some .int) rmX2_turns) (hq : RU X g rmX2_turns R) : ∀ (n t : Nat) (D : DM), (mBeats Q t 34 27).toInt + t ≤ 99 ∧ 100 ≤ t + n → SP g D A (mBeats Q t) → Le D0 D → (∀ j, j < t → 0 < mBeats Q j 34 27) → UX X g (62 + 2 * t) (315 + 42 * t) 8 [(3, .ref (A 0))] [] M D := by
  intro n
  induction n with
  | zero =>
    intro t D ht h hle hal
    exact absurd ht.1 (by
      obtain ⟨pt, n1, n2⟩ := mBeats_pk pq t
      have := i_le.mp (pt.lv (k := 0) (by omega)).1.1
      rw [i_c0] at this
      have e7 : (mBeats Q t 34 (27 + 0)).toInt = (mBeats Q t 34 27).toInt := rfl
      omega)
  | succ n ih =>
    intro t D ht h hle hal
    obtain ⟨pt, n1, n2⟩ := mBeats_pk pq t
    have hk0 : (0 : Nat) < mSh (mBeats Q t) := by omega
    have hl99 := (pt.lv hk0).1.2
    obtain ⟨f, r0, s0, s3, s1⟩ := h.srow hk0 nm0
    have s0 : f 0 = mBeats Q t 34 27 := s0
    have s3 : f 3 = mBeats Q t 34 147 := s3
    have s1 : 0 < mBeats Q t 34 27 → f 1 = mBeats Q t 34 67 ∧ f 2 = mBeats Q t 34 107 := s1
    have r0 := r0.qq
    rw [s0, s3] at r0
    refine u_aload_n C dX2_turns_8 rfl ?_
    refine u_getF C fl_X2_18 (h.ob nm0) rfl dX2_turns_9 ?_
    refine u_iconst C (v := 0) dX2_turns_12 (by decide) ?_
    refine u_aald C (h.shouts nm0) rfl hk0 (by omega) rfl dX2_turns_13 ?_
    refine u_iconst C (v := 0) dX2_turns_14 (by decide) ?_
    refine u_ialv C (r0) rfl (by decide) (by decide) (v := mBeats Q t 34 27) rfl dX2_turns_15 ?_
    refine u_if_le C (tgt := 27) dX2_turns_16 (by decide) (fun c16 => ?_) (fun c16 => ?_)
    · have ht99 : t ≤ 99 := by have := i_le.mp (pt.lv hk0).1.1; rw [i_c0] at this; have e7 : (mBeats Q t 34 (27 + 0)).toInt = (mBeats Q t 34 27).toInt := rfl; omega
      refine u_aload_n C dX2_turns_27 rfl ?_
      refine u_getF C fl_X2_18 (h.ob nm0) rfl dX2_turns_28 ?_
      refine u_iconst C (v := 0) dX2_turns_31 (by decide) ?_
      refine u_aald C (h.shouts nm0) rfl hk0 (by omega) rfl dX2_turns_32 ?_
      refine u_iconst C (v := 3) dX2_turns_33 (by decide) ?_
      refine u_ialv C (r0) rfl (by decide) (by decide) (v := mBeats Q t 34 147) rfl dX2_turns_34 ?_
      exact u_iret C hq ⟨by show 62 + 2 * t ≤ 270; omega, by show 315 + 42 * t ≤ 4800; omega⟩ dX2_turns_35 (hR t h hle hal (Int32.not_lt.mpr c16))
    · have hl := Int32.not_le.mp c16
      have hl2 := i_lt.mp hl
      rw [i_c0] at hl2
      refine u_aload_n C dX2_turns_19 rfl ?_
      refine u_callV C (qs_pass l g M _ pt h) cd_X2_pass kl_X2_55 ci2 (h.ob nm0) (as := []) rfl rfl ⟨⟨by decide, by decide⟩, by show 62 + 2 * t + 2 ≤ 270; omega, by show 315 + 42 * t + 42 ≤ 4800; omega⟩ (Nat.le_of_ble_eq_true rfl) dX2_turns_20 (fun v9 M9 D9 e9 => ?_)
      obtain ⟨rfl, rfl, h9, f9⟩ := e9
      have bq := (beat_quieter pt hk0).2 hl
      have h9 : SP g D9 A (mBeats Q (t + 1)) := h9
      have hle2 := hle.fr f9 (by rw [n1, n2, hq1]; exact z)
      refine u_pop C dX2_turns_23 rfl ?_
      refine u_goto C (tgt := 8) dX2_turns_24 (by decide) ?_
      refine u_widen (kc' := 62 + 2 * (t + 1)) (ks' := 315 + 42 * (t + 1)) (by show 62 + 2 * t + 2 ≤ _; omega) (by show 315 + 42 * t + 42 ≤ _; omega) ?_
      exact u_lsub [0] rfl (ih (t + 1) D9 ⟨by have b2 : (mBeats Q (t + 1) 34 27).toInt + 1 ≤ (mBeats Q t 34 27).toInt := bq.2; omega, by omega⟩ h9 hle2 (fun j hj => by
        by_cases e : j = t
        · subst e; exact hl
        · exact hal j (by omega)))
set_option maxHeartbeats 1000000 in
set_option maxRecDepth 100000 in
theorem qs_turns (l : Launch) (g : GT) (M : Mem) (D : DM) {ad : Nat → Nat} {P : Mem} (hp : PK P) (h : SP g D ad P) {s ld : Int32} (hs : 0 ≤ s ∧ s ≤ 31) (hl : 1 ≤ ld ∧ ld ≤ 99) : CU l yX2_turns cX2_turns 4 (some .int) rmX2_turns g M D [.ref (ad 0), .int s, .int ld] (fun r M1 D1 => M1 = M ∧ Le D D1 ∧ ∃ t, r = some (.int (mBeats (mAl P s 1 ld) t 34 147)) ∧ (∀ j, j < t → 0 < mBeats (mAl P s 1 ld) j 34 27) ∧ ¬ 0 < mBeats (mAl P s 1 ld) t 34 27) := by
  refine CU.of (by decide) (Nat.le_of_ble_eq_true rfl) (fun X C hq => ?_)
  have C : Cx X g l cX2_turns 4 RX2 (some .int) rmX2_turns := C
  show UX X g 0 0 0 [(0, .ref (ad 0)), (1, .int s), (2, .int ld)] [] M D
  refine u_aload_n C dX2_turns_0 rfl ?_
  refine u_iload_n C dX2_turns_1 rfl ?_
  refine u_iconst C (v := 1) dX2_turns_2 (by decide) ?_
  refine u_iload_n C dX2_turns_3 rfl ?_
  refine u_callV C (qs_alone l g M _ h s 1 ld) cd_X2_alone kl_X2_63 ci2 (h.ob nm0) (as := [_, _, _]) rfl rfl ⟨⟨by decide, by decide⟩, by decide, by decide⟩ (Nat.le_of_ble_eq_true rfl) dX2_turns_4 (fun v9 M9 D9 e9 => ?_)
  obtain ⟨rfl, A, rfl, hA1, sm, hle, hz⟩ := e9
  have pq := hp.al hs (Or.inl rfl) hl
  show UX X g 62 315 7 [(0, .ref (ad 0)), (1, .int s), (2, .int ld)] [.ref (A 0)] M9 D9
  refine u_astore_n C (lo' := [(3, _), (0, _), (1, _), (2, _)]) dX2_turns_7 (by decide) rfl ?_
  exact u_lsub [0] rfl (qs_turns_lp pq rfl hz (fun t D1 h1 l1 a1 a2 => ⟨rfl, l1, t, rfl, a1, a2⟩) C hq 100 0 D9 ⟨by have := i_le.mp hl.2; rw [i_c99] at this; show (mAl P s 1 ld 34 27).toInt + 0 ≤ 99; rw [mAl_r.1]; omega, by omega⟩ sm hle (fun j hj => absurd hj (Nat.not_lt_zero _)))
