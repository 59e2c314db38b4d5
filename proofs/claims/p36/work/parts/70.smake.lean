/-! Sim's beats; Sim made and copied. -/
def mGts (P : Mem) : Nat → Int32
  | 0 => 0
  | n + 1 => mGts P n + mGt (mBeats P n)
theorem mGts_is (P : Mem) : ∀ n, mGts P n = (mBeats P n 34 3 - P 34 3) + (mBeats P n 34 4 - P 34 4)
  | 0 => by
    show (0 : Int32) = (P 34 3 - P 34 3) + (P 34 4 - P 34 4)
    rw [Int32.sub_self, Int32.sub_self]
    rfl
  | n + 1 => by
    show mGts P n + mGt (mBeats P n) = _
    rw [mGts_is P n]
    unfold mGt
    show _ = (mBeat (mBeats P n) 34 3 - P 34 3) + (mBeat (mBeats P n) 34 4 - P 34 4)
    grind
theorem mBeat_n (P : Mem) (hp : PK P) : mWs (mBeat P) = mWs P ∧ mSh (mBeat P) = mSh P := by
  have e := (mBeat_ok hp.1).2.1
  exact ⟨by show tn (mBeat P 29 1) = tn (P 29 1); rw [e], by show tn (mBeat P 29 2) = tn (P 29 2); rw [e]⟩
theorem mBeats_n (P : Mem) (hp : PK P) : ∀ n, mWs (mBeats P n) = mWs P ∧ mSh (mBeats P n) = mSh P := fun n => by
  have e := (mBeats_ok hp.1 n).2.1
  exact ⟨by show tn (mBeats P n 29 1) = tn (P 29 1); rw [e], by show tn (mBeats P n 29 2) = tn (P 29 2); rw [e]⟩
abbrev rmX2_pass_ : Room := { frames := 2, cells := 200, slots := 4200, locals := 100 }
set_option maxHeartbeats 1000000 in
set_option maxRecDepth 100000 in
theorem qs_pass_lp {X : XT} {l : Launch} {g : GT} {R : Option Value → Mem → DM → Prop} {M : Mem} {D0 : DM} {ad : Nat → Nat} {P : Mem} {b : Nat} (hb : b ≤ 100) (hp : PK P) (hR : ∀ D, SP g D ad (mBeats P b) → Fr ad (mWs P) (mSh P) D0 D → R (some (.int (mGts P b))) M D) (C : Cx X g l cX2_pass_ 4 RX2 (some .int) rmX2_pass_) (hq : RU X g rmX2_pass_ R) : ∀ (n i : Nat) (D : DM), i ≤ b → b + 1 ≤ i + n → SP g D ad (mBeats P i) → Fr ad (mWs P) (mSh P) D0 D → UX X g (2 * i) (42 * i) 4 [(3, .int (nI i)), (2, .int (mGts P i)), (0, .ref (ad 0)), (1, .int (nI b))] [] M D := by
  intro n
  induction n with
  | zero =>
    intro i D h1 h2; omega
  | succ n ih =>
    intro i D h1 h2 h fr
    have pq := hp.beats i
    obtain ⟨n1, n2⟩ := mBeats_n P hp i
    refine u_iload_n C dX2_pass__4 rfl ?_
    refine u_iload_n C dX2_pass__5 rfl ?_
    refine u_icmp_ge C (tgt := 22) dX2_pass__6 (by decide) (fun c6 => ?_) (fun c6 => ?_)
    · have he : i = b := Nat.le_antisymm h1 ((nI_leI (a := b) (b := i) (by omega) (by omega)).mp c6)
      subst he
      refine u_iload_n C dX2_pass__22 rfl ?_
      exact u_iret C hq ⟨by show 2 * _ ≤ 200; omega, by show 42 * _ ≤ 4200; omega⟩ dX2_pass__23 (hR _ h fr)
    · have hlt : i < b := Nat.lt_of_not_le (fun z => c6 ((nI_leI (a := b) (b := i) (by omega) (by omega)).mpr z))
      refine u_iload_n C dX2_pass__9 rfl ?_
      refine u_aload_n C dX2_pass__10 rfl ?_
      refine u_callV C (qs_pass l g M _ pq h) cd_X2_pass kl_X2_55 ci2 (h.ob nm0) (as := []) rfl rfl ⟨⟨by decide, by decide⟩, by show 2 * i + 2 ≤ 200; omega, by show 42 * i + 42 ≤ 4200; omega⟩ (Nat.le_of_ble_eq_true rfl) dX2_pass__11 (fun v9 M9 D9 e9 => ?_)
      obtain ⟨rfl, rfl, h9, f9⟩ := e9
      rw [n1, n2] at f9
      refine u_iadd C dX2_pass__14 ?_
      refine u_istore_n C (lo' := [(2, _), (3, _), (0, _), (1, _)]) dX2_pass__15 (by decide) rfl ?_
      refine u_iinc C (v := nI (i + 1)) (lo' := [(3, _), (2, _), (0, _), (1, _)]) dX2_pass__16 rfl (nI_inc _) (by decide) rfl ?_
      refine u_goto C (tgt := 4) dX2_pass__19 (by decide) ?_
      refine u_widen (kc' := 2 * (i + 1)) (ks' := 42 * (i + 1)) (by show 2 * i + 2 ≤ _; omega) (by show 42 * i + 42 ≤ _; omega) ?_
      exact u_lsub [0, 1, 2, 3] rfl (ih (i + 1) D9 hlt (by omega) h9 (fr.tr f9))
set_option maxHeartbeats 1000000 in
set_option maxRecDepth 100000 in
theorem qs_pass_ (l : Launch) (g : GT) (M : Mem) (D : DM) {ad : Nat → Nat} {P : Mem} (hp : PK P) (h : SP g D ad P) {b : Nat} (hb : b ≤ 100) : CU l yX2_pass_ cX2_pass_ 4 (some .int) rmX2_pass_ g M D [.ref (ad 0), .int (nI b)] (fun r M1 D1 => r = some (.int (mGts P b)) ∧ M1 = M ∧ SP g D1 ad (mBeats P b) ∧ Fr ad (mWs P) (mSh P) D D1) := by
  refine CU.of (by decide) (Nat.le_of_ble_eq_true rfl) (fun X C hq => ?_)
  have C : Cx X g l cX2_pass_ 4 RX2 (some .int) rmX2_pass_ := C
  show UX X g 0 0 0 [(0, .ref (ad 0)), (1, .int (nI b))] [] M D
  refine u_iconst C (v := 0) dX2_pass__0 (by decide) ?_
  refine u_istore_n C (lo' := [(2, _), (0, _), (1, _)]) dX2_pass__1 (by decide) rfl ?_
  refine u_iconst C (v := 0) dX2_pass__2 (by decide) ?_
  refine u_istore_n C (lo' := [(3, _), (2, _), (0, _), (1, _)]) dX2_pass__3 (by decide) rfl ?_
  exact u_lsub [0, 1, 2, 3] rfl (qs_pass_lp hb hp (fun D2 h2 f2 => ⟨rfl, rfl, h2, f2⟩) C hq (b + 1) 0 D (Nat.zero_le _) (by omega) h Fr.rf)
/-- logical cells that have an address: all apart, all told -/
def AI (D : DM) (ad : Nat → Nat) (dm : Nat → Prop) : Prop := (∀ i j, dm i → dm j → ad i = ad j → i = j) ∧ ∀ i, dm i → D (ad i) ≠ none
def aN (ad : Nat → Nat) (t q : Nat) : Nat → Nat := fun i => if i = t then q else ad i
theorem aN_eq (ad : Nat → Nat) (t q : Nat) : aN ad t q t = q := if_pos rfl
theorem aN_ne {ad : Nat → Nat} {t q i : Nat} (h : i ≠ t) : aN ad t q i = ad i := if_neg h
def Tl (D D' : DM) : Prop := ∀ x, D x ≠ none → D' x ≠ none
theorem Tl.tr {D D' D'' : DM} (h : Tl D D') (k : Tl D' D'') : Tl D D'' := fun x z => k x (h x z)
theorem Tl.rf {D : DM} : Tl D D := fun _ h => h
theorem Tl.ot {D D' : DM} {a : Nat} (o : Ot D D' a) (t : D' a ≠ none) : Tl D D' := fun x z => by
  by_cases e : x = a
  · rw [e]; exact t
  · rw [o x e]; exact z
theorem AI.tl {D D' : DM} {ad : Nat → Nat} {dm : Nat → Prop} (h : AI D ad dm) (t : Tl D D') : AI D' ad dm := ⟨h.1, fun i hi => t _ (h.2 i hi)⟩
theorem AI.add {D D' : DM} {ad : Nat → Nat} {dm : Nat → Prop} (h : AI D ad dm) {t q : Nat} (hq : D q = none) (ht : Tl D D') (hq' : D' q ≠ none) {dm' : Nat → Prop} (hd : ∀ i, dm' i → i = t ∨ dm i) (hnt : ¬ dm t) : AI D' (aN ad t q) dm' := by
  have ne : ∀ i, dm i → i ≠ t := fun i hi e => hnt (by rw [← e]; exact hi)
  have nq : ∀ i, dm i → ad i ≠ q := fun i hi e => h.2 i hi (by rw [e]; exact hq)
  refine ⟨fun i j hi hj e => ?_, fun i hi => ?_⟩
  · rcases hd i hi with rfl | hi' <;> rcases hd j hj with rfl | hj'
    · rfl
    · rw [aN_eq, aN_ne (ne j hj')] at e
      exact absurd e.symm (nq j hj')
    · rw [aN_eq, aN_ne (ne i hi')] at e
      exact absurd e (nq i hi')
    · rw [aN_ne (ne i hi'), aN_ne (ne j hj')] at e
      exact h.1 i j hi' hj' e
  · rcases hd i hi with rfl | hi'
    · rw [aN_eq]; exact hq'
    · rw [aN_ne (ne i hi')]; exact ht _ (h.2 i hi')
theorem Le.wr {D0 D D' : DM} {a : Nat} (h : Le D0 D) (o : Ot D D' a) (z : D0 a = none) : Le D0 D' := fun q e x => by
  rw [o q (fun w => by subst w; rw [z] at x; cases x)]
  exact h q e x
theorem Le.none {D0 D : DM} (h : Le D0 D) {a : Nat} (z : D a = none) : D0 a = none := by
  cases e : D0 a with
  | none => rfl
  | some x => rw [h a x e] at z; cases z
abbrev rmX2_init : Room := { frames := 1, cells := 5, slots := 36, locals := 40 }
/-- an object just made: its arrays are new and apart -/
def NO (g : GT) (D D1 : DM) (a a1 a2 a3 a4 a5 : Nat) : Prop :=
  OB D1 a 2 [.ref a1, .ref a2, .ref a3, .ref a4, .ref a5, .int 0, .int 0, .int 0] ∧ IA g D1 a1 32 (fun _ => 0) ∧ RA g D1 a2 0 (fun _ => none) ∧ RA g D1 a3 0 (fun _ => none) ∧ IA g D1 a4 2 (fun _ => 0) ∧ IA g D1 a5 2 (fun _ => 0) ∧
  (D a1 = none ∧ D a2 = none ∧ D a3 = none ∧ D a4 = none ∧ D a5 = none) ∧ (a1 ≠ a2 ∧ a1 ≠ a3 ∧ a1 ≠ a4 ∧ a1 ≠ a5 ∧ a2 ≠ a3 ∧ a2 ≠ a4 ∧ a2 ≠ a5 ∧ a3 ≠ a4 ∧ a3 ≠ a5 ∧ a4 ≠ a5) ∧ ∀ q e, q ≠ a → D q = some e → D1 q = some e
/-- all but the object a keeps what is known -/
def LeB (a : Nat) (D D' : DM) : Prop := ∀ (q : Nat) (e : va_E), q ≠ a → D q = some e → D' q = some e
theorem LeB.trs {a : Nat} {D D' D'' : DM} (h : LeB a D D') (k : Le D' D'') : LeB a D D'' := fun q e n x => k q e (h q e n x)
theorem LeB.ob {a : Nat} {D D' D'' : DM} (h : LeB a D D') (o : Ot D' D'' a) : LeB a D D'' := fun q e n x => by rw [o q n]; exact h q e n x
theorem LeB.wr {a b : Nat} {D D' D'' : DM} (h : LeB a D D') (o : Ot D' D'' b) (z : D b = none) : LeB a D D'' := fun q e n x => by
  rw [o q (fun w => by subst w; rw [z] at x; cases x)]
  exact h q e n x
theorem LeB.none {a : Nat} {D D' : DM} (h : LeB a D D') (ha : D' a ≠ none) {q : Nat} (z : D' q = none) : D q = none := by
  cases e : D q with
  | none => rfl
  | some x =>
    have n : q ≠ a := fun w => ha (by rw [← w]; exact z)
    rw [h q x n e] at z
    cases z
set_option maxHeartbeats 1000000 in
set_option maxRecDepth 100000 in
theorem qs_init (l : Launch) (g : GT) (M : Mem) (D : DM) {a : Nat} (ob : OB D a 2 simV) : CU l yX2_init cX2_init 1 none rmX2_init g M D [.ref a] (fun r M1 D1 => r = none ∧ M1 = M ∧ ∃ a1 a2 a3 a4 a5, NO g D D1 a a1 a2 a3 a4 a5) := by
  refine CU.of (by decide) (Nat.le_of_ble_eq_true rfl) (fun X C hq => ?_)
  have C : Cx X g l cX2_init 1 RX2 none rmX2_init := C
  show UX X g 0 0 0 [(0, .ref a)] [] M D
  have LeX : LeB a D D := fun _ _ _ x => x
  refine u_aload_n C dX2_init_0 rfl ?_
  refine u_objInit C (i := 497) (by decide +kernel) ⟨by decide, by decide⟩ dX2_init_1 ?_
  refine u_aload_n C dX2_init_4 rfl ?_
  refine u_bipush C (v := 32) dX2_init_5 (by decide) ?_
  refine u_newI C (N := 32) (rfl) (by decide) ⟨by decide, by decide⟩ dX2_init_7 (fun qa1 D1 z1 o1 r1 => ?_)
  have nz1 : D qa1 = none := LeX.none ob.some z1
  have hq1 : a ≠ qa1 := fun e => ob.some (by rw [e]; exact z1)
  have ob := ob.le (Le.ot o1 z1)
  have i1 := r1
  have LeX := LeX.trs (Le.ot o1 z1)
  refine u_putR C fn_X2_7 (ob) (Nat.le_of_ble_eq_true rfl) dX2_init_9 (fun D2 o2 r2 => ?_)
  have ob : OB D2 a 2 [.ref qa1, .null, .null, .null, .null, .int 0, .int 0, .int 0] := r2
  have i1 := i1.ot o2 (Ne.symm hq1)
  have LeX := LeX.ob o2
  refine u_aload_n C dX2_init_12 rfl ?_
  refine u_iconst C (v := 0) dX2_init_13 (by decide) ?_
  refine u_newR C (by decide +kernel) (N := 0) (rfl) (by decide) ⟨by decide, by decide⟩ dX2_init_14 (fun qa2 D3 z3 o3 r3 => ?_)
  have nz2 : D qa2 = none := LeX.none ob.some z3
  have hq2 : a ≠ qa2 := fun e => ob.some (by rw [e]; exact z3)
  have ob := ob.le (Le.ot o3 z3)
  have e12 : qa1 ≠ qa2 := fun e => i1.some (by rw [e]; exact z3)
  have i1 := i1.le (Le.ot o3 z3)
  have i2 := r3
  have LeX := LeX.trs (Le.ot o3 z3)
  refine u_putR C fn_X2_14 (ob) (Nat.le_of_ble_eq_true rfl) dX2_init_17 (fun D4 o4 r4 => ?_)
  have ob : OB D4 a 2 [.ref qa1, .ref qa2, .null, .null, .null, .int 0, .int 0, .int 0] := r4
  have i1 := i1.ot o4 (Ne.symm hq1)
  have i2 := i2.ot o4 (Ne.symm hq2)
  have LeX := LeX.ob o4
  refine u_aload_n C dX2_init_20 rfl ?_
  refine u_iconst C (v := 0) dX2_init_21 (by decide) ?_
  refine u_newR C (by decide +kernel) (N := 0) (rfl) (by decide) ⟨by decide, by decide⟩ dX2_init_22 (fun qa3 D5 z5 o5 r5 => ?_)
  have nz3 : D qa3 = none := LeX.none ob.some z5
  have hq3 : a ≠ qa3 := fun e => ob.some (by rw [e]; exact z5)
  have ob := ob.le (Le.ot o5 z5)
  have e13 : qa1 ≠ qa3 := fun e => i1.some (by rw [e]; exact z5)
  have i1 := i1.le (Le.ot o5 z5)
  have e23 : qa2 ≠ qa3 := fun e => i2.some (by rw [e]; exact z5)
  have i2 := i2.le (Le.ot o5 z5)
  have i3 := r5
  have LeX := LeX.trs (Le.ot o5 z5)
  refine u_putR C fn_X2_18 (ob) (Nat.le_of_ble_eq_true rfl) dX2_init_25 (fun D6 o6 r6 => ?_)
  have ob : OB D6 a 2 [.ref qa1, .ref qa2, .ref qa3, .null, .null, .int 0, .int 0, .int 0] := r6
  have i1 := i1.ot o6 (Ne.symm hq1)
  have i2 := i2.ot o6 (Ne.symm hq2)
  have i3 := i3.ot o6 (Ne.symm hq3)
  have LeX := LeX.ob o6
  refine u_aload_n C dX2_init_28 rfl ?_
  refine u_iconst C (v := 2) dX2_init_29 (by decide) ?_
  refine u_newI C (N := 2) (rfl) (by decide) ⟨by decide, by decide⟩ dX2_init_30 (fun qa4 D7 z7 o7 r7 => ?_)
  have nz4 : D qa4 = none := LeX.none ob.some z7
  have hq4 : a ≠ qa4 := fun e => ob.some (by rw [e]; exact z7)
  have ob := ob.le (Le.ot o7 z7)
  have e14 : qa1 ≠ qa4 := fun e => i1.some (by rw [e]; exact z7)
  have i1 := i1.le (Le.ot o7 z7)
  have e24 : qa2 ≠ qa4 := fun e => i2.some (by rw [e]; exact z7)
  have i2 := i2.le (Le.ot o7 z7)
  have e34 : qa3 ≠ qa4 := fun e => i3.some (by rw [e]; exact z7)
  have i3 := i3.le (Le.ot o7 z7)
  have i4 := r7
  have LeX := LeX.trs (Le.ot o7 z7)
  refine u_dup C dX2_init_32 rfl ?_
  refine u_iconst C (v := 0) dX2_init_33 (by decide) ?_
  refine u_iconst C (v := 0) dX2_init_34 (by decide) ?_
  refine u_iast C (i4) rfl (by decide : 0 < 2) (by decide) dX2_init_35 (fun D8 o8 r8 => ?_)
  have ob := ob.ot o8 hq4
  have i1 := i1.ot o8 e14
  have i2 := i2.ot o8 e24
  have i3 := i3.ot o8 e34
  have i4 := r8
  have LeX := LeX.wr o8 nz4
  refine u_dup C dX2_init_36 rfl ?_
  refine u_iconst C (v := 1) dX2_init_37 (by decide) ?_
  refine u_iconst C (v := 0) dX2_init_38 (by decide) ?_
  refine u_iast C (i4) rfl (by decide : 1 < 2) (by decide) dX2_init_39 (fun D9 o9 r9 => ?_)
  have ob := ob.ot o9 hq4
  have i1 := i1.ot o9 e14
  have i2 := i2.ot o9 e24
  have i3 := i3.ot o9 e34
  have i4 := r9
  have LeX := LeX.wr o9 nz4
  refine u_putR C fn_X2_21 (ob) (Nat.le_of_ble_eq_true rfl) dX2_init_40 (fun D10 o10 r10 => ?_)
  have ob : OB D10 a 2 [.ref qa1, .ref qa2, .ref qa3, .ref qa4, .null, .int 0, .int 0, .int 0] := r10
  have i1 := i1.ot o10 (Ne.symm hq1)
  have i2 := i2.ot o10 (Ne.symm hq2)
  have i3 := i3.ot o10 (Ne.symm hq3)
  have i4 := i4.ot o10 (Ne.symm hq4)
  have LeX := LeX.ob o10
  refine u_aload_n C dX2_init_43 rfl ?_
  refine u_iconst C (v := 2) dX2_init_44 (by decide) ?_
  refine u_newI C (N := 2) (rfl) (by decide) ⟨by decide, by decide⟩ dX2_init_45 (fun qa5 D11 z11 o11 r11 => ?_)
  have nz5 : D qa5 = none := LeX.none ob.some z11
  have hq5 : a ≠ qa5 := fun e => ob.some (by rw [e]; exact z11)
  have ob := ob.le (Le.ot o11 z11)
  have e15 : qa1 ≠ qa5 := fun e => i1.some (by rw [e]; exact z11)
  have i1 := i1.le (Le.ot o11 z11)
  have e25 : qa2 ≠ qa5 := fun e => i2.some (by rw [e]; exact z11)
  have i2 := i2.le (Le.ot o11 z11)
  have e35 : qa3 ≠ qa5 := fun e => i3.some (by rw [e]; exact z11)
  have i3 := i3.le (Le.ot o11 z11)
  have e45 : qa4 ≠ qa5 := fun e => i4.some (by rw [e]; exact z11)
  have i4 := i4.le (Le.ot o11 z11)
  have i5 := r11
  have LeX := LeX.trs (Le.ot o11 z11)
  refine u_dup C dX2_init_47 rfl ?_
  refine u_iconst C (v := 0) dX2_init_48 (by decide) ?_
  refine u_iconst C (v := 0) dX2_init_49 (by decide) ?_
  refine u_iast C (i5) rfl (by decide : 0 < 2) (by decide) dX2_init_50 (fun D12 o12 r12 => ?_)
  have ob := ob.ot o12 hq5
  have i1 := i1.ot o12 e15
  have i2 := i2.ot o12 e25
  have i3 := i3.ot o12 e35
  have i4 := i4.ot o12 e45
  have i5 := r12
  have LeX := LeX.wr o12 nz5
  refine u_dup C dX2_init_51 rfl ?_
  refine u_iconst C (v := 1) dX2_init_52 (by decide) ?_
  refine u_iconst C (v := 0) dX2_init_53 (by decide) ?_
  refine u_iast C (i5) rfl (by decide : 1 < 2) (by decide) dX2_init_54 (fun D13 o13 r13 => ?_)
  have ob := ob.ot o13 hq5
  have i1 := i1.ot o13 e15
  have i2 := i2.ot o13 e25
  have i3 := i3.ot o13 e35
  have i4 := i4.ot o13 e45
  have i5 := r13
  have LeX := LeX.wr o13 nz5
  refine u_putR C fn_X2_24 (ob) (Nat.le_of_ble_eq_true rfl) dX2_init_55 (fun D14 o14 r14 => ?_)
  have ob : OB D14 a 2 [.ref qa1, .ref qa2, .ref qa3, .ref qa4, .ref qa5, .int 0, .int 0, .int 0] := r14
  have i1 := i1.ot o14 (Ne.symm hq1)
  have i2 := i2.ot o14 (Ne.symm hq2)
  have i3 := i3.ot o14 (Ne.symm hq3)
  have i4 := i4.ot o14 (Ne.symm hq4)
  have i5 := i5.ot o14 (Ne.symm hq5)
  have LeX := LeX.ob o14
  exact u_vret C hq ⟨by decide, by decide⟩ dX2_init_58 (⟨rfl, rfl, _, _, _, _, _, ob, i1, i2, i3, i4.ext (fun j hj => by rcases (show j = 0 ∨ j = 1 by omega) with rfl | rfl <;> rfl), i5.ext (fun j hj => by rcases (show j = 0 ∨ j = 1 by omega) with rfl | rfl <;> rfl), ⟨nz1, nz2, nz3, nz4, nz5⟩, ⟨e12, e13, e14, e15, e23, e24, e25, e34, e35, e45⟩, LeX⟩)
