/-! The law's body, put together. -/
set_option maxHeartbeats 1000000 in
set_option maxRecDepth 100000 in
theorem q_beat {X : XT} {l : Launch} {g : GT} {b t : Nat} {x : Int32}  {ad : Nat → Nat} {Q : Mem} {nb th qq jj q20 q24 : Nat} {v19 v21 hv : Int32} {L0 : List AE}  {kc ks : Nat}  (hk : kc ≤ 50000 ∧ ks ≤ 800000) {M : Mem} {D : DM} (hnb : nb + 100 ≤ 100000) (li : LI nb M Q) (h : SP g D ad Q) (A : AR g D (mWs Q) (mSh Q) ad L0) (lth : th < 32) (hjq : jj ≤ 1000 ∧ qq ≤ 1000) (hqt : mMany (mBeat Q) = 0 ↔ qq ≤ jj) (hsil : ∀ e, e < 2 → 0 ≤ Q 34 (5 + e) ∧ Q 34 (5 + e) ≤ 11)  (hcn : ∀ e, e < 2 → 0 ≤ (Q 34 (3 + e)).toInt ∧ (Q 34 (3 + e)).toInt ≤ 900000)  (hK : ∀ (M : Mem) (D : DM), LI (nb + 1) M (mBeat Q) → SP g D ad (mBeat Q) → AR g D (mWs Q) (mSh Q) ad L0 → UX X g (kc + 9) (ks + 224) 775 [(0, .ref b), (1, .ref (ga g 0)), (2, .ref (ad 0)), (3, .int (nI t)), (4, .int x), (7, .int (nI (mSh Q))), (8, .int (nI (mWs Q))), (14, .int (nI th)), (19, .int v19), (20, .ref q20), (21, .int v21), (22, .int (nI qq)), (23, .int (if hv < mLA (mBeat Q) (nI th) then mLA (mBeat Q) (nI th) else hv)), (24, .ref q24), (25, .int (nI (jj + 1)))] [] M D) (C : Cx X g l cL_law 39 RL (some .boolean) room_1) : UX X g (kc) (ks) 782 [(0, .ref b), (1, .ref (ga g 0)), (2, .ref (ad 0)), (3, .int (nI t)), (4, .int x), (7, .int (nI (mSh Q))), (8, .int (nI (mWs Q))), (14, .int (nI th)), (19, .int v19), (20, .ref q20), (21, .int v21), (22, .int (nI qq)), (23, .int hv), (24, .ref q24), (25, .int (nI jj))] [] M D :=
  q_b_new hk li h A (fun D qa ql qt qr qo qs h A => q_b_l1 (kc := kc + 6) (ks := ks + 180) (by omega) li (fun D f5 f4 f3 f2 hf h A => q_b_l2 (kc := kc + 6) (ks := ks + 180) (by omega) li (fun D h A => q_b_pass (kc := kc + 6) (ks := ks + 180) (by omega) hnb li h hf A (fun M D qc li' h' A' =>
    q_b_l3 (kc := kc + 9) (ks := ks + 224) (by omega) li.pk li' h' A' lth hjq hqt hsil (hK M D li' h') hcn C (mSh Q + 1) 0 (by omega) (by omega)) C) C (mWs Q + 1) 0 D _ (by omega) (by omega) (fun i hi => absurd hi (by omega)) h A) C (mSh Q + 1) 0 D _ _ _ _ (by omega) (by omega) (fun i hi => absurd hi (by omega)) h A) C
theorem q_beats_x {nb : Nat} {M P : Mem} (li : LI nb M P) : Rel 1 nb M P := li.1
set_option maxHeartbeats 1000000 in
set_option maxRecDepth 100000 in
theorem q_beats {X : XT} {l : Launch} {g : GT} {b t : Nat} {x : Int32}  {kc ks nb : Nat} {ad : Nat → Nat} {P : Mem} {th qq qd qh bt : Nat}  (hk : kc ≤ 45000 ∧ ks ≤ 750000) {M0 : Mem} (hrel : Rel 1 nb M0 P) (hp : PK P) (hnb : nb ≤ 20000) (lth : th < 32) (hbt : 1 ≤ bt ∧ bt ≤ 20) (hq : Qt P qq) (hK : ∀ (M : Mem) (D : DM), LI (nb + bt) M (mBeats P bt) → SP g D ad (mBeats P bt) → UX X g (kc + 9 * bt) (ks + 224 * bt) 22 [(0, .ref b), (1, .ref (ga g 0)), (2, .ref (ad 0)), (3, .int (nI (t + 1)))] [] M D) (C : Cx X g l cL_law 39 RL (some .boolean) room_1) : ∀ (n j : Nat) (M : Mem) (D : DM), j ≤ bt → bt + 1 ≤ j + n → LI (nb + j) M (mBeats P j) → SP g D ad (mBeats P j) → AR g D (mWs P) (mSh P) ad [(qh, 2, .inl (fun e => P 34 (3 + e))), (qd, 2, .inl (fun e => mBeats P bt 34 (3 + e) - P 34 (3 + e)))] → UX X g (kc + 9 * j) (ks + 224 * j) 775 [(0, .ref b), (1, .ref (ga g 0)), (2, .ref (ad 0)), (3, .int (nI t)), (4, .int x), (7, .int (nI (mSh P))), (8, .int (nI (mWs P))), (14, .int (nI th)), (19, .int (nI bt)), (20, .ref qd), (21, .int (mLOL (mKeep P) (nI th) bt)), (22, .int (nI qq)), (23, .int (mLOL (mKeep P) (nI th) j)), (24, .ref qh), (25, .int (nI (j + 1)))] [] M D := by
  intro n
  induction n with
  | zero => intro j M D h1 h2; omega
  | succ n ih =>
    intro j M D h1 h2 li h A
    refine u_iload C dL_law_775 rfl ?_
    refine u_iload C dL_law_777 rfl ?_
    refine u_icmp_gt C (tgt := 1440) dL_law_779 (by decide) (fun c779 => ?_) (fun c779 => ?_)
    · have hjb : bt < j + 1 := (nI_ltI (a := bt) (b := j + 1) (by omega) (by omega)).mp c779
      obtain rfl : j = bt := by omega
      exact u_lsub [0, 1, 2, 3, 4, 5, 6, 7, 8, 9, 10, 11, 12, 13, 14] rfl (q_last (nb := 0) (kc := kc + 9 * j) (ks := ks + 224 * j) (by omega) li h A (hK M D li h) C)
    · have hjb : j < bt := Nat.lt_of_not_le (fun z => c779 ((nI_ltI (a := bt) (b := j + 1) (by omega) (by omega)).mpr (by omega)))
      obtain ⟨pj, e7, e8⟩ := mBeats_pk hp j
      have hqt : mMany (mBeats P (j + 1)) = 0 ↔ qq ≤ j + 1 := ⟨fun z => Nat.le_of_not_lt (fun y => (many_0 (hp.beats (j + 1))).mp z (hq.2.1 (j + 1) y)), fun z => (many_0 (hp.beats (j + 1))).mpr (hq.2.2 (j + 1) z)⟩
      have e23 : (if mLOL (mKeep P) (nI th) j < mLA (mBeats P (j + 1)) (nI th) then mLA (mBeats P (j + 1)) (nI th) else mLOL (mKeep P) (nI th) j) = mLOL (mKeep P) (nI th) (j + 1) := by
        have e9 : mLA (mBeats (mKeep P) (j + 1)) (nI th) = mLA (mBeats P (j + 1)) (nI th) := (keep_b hrel (j + 1) (by omega)).2.2.2 _ (in_s lth)
        rw [← e9]
        rfl
      have hQ1 : mBeats P (j + 1) = mBeat (mBeats P j) := rfl
      obtain ⟨Q', hQ'⟩ : ∃ Q', Q' = mBeats P (j + 1) := ⟨_, rfl⟩
      obtain ⟨Q, hQ⟩ : ∃ Q, Q = mBeats P j := ⟨_, rfl⟩
      rw [← hQ] at hQ1 e7 e8 li h pj
      rw [hQ1] at hqt e23 hQ'
      have hk0 := ih (j + 1)
      rw [hQ1] at hk0
      rw [← e7, ← e8]
      refine u_lsub [0, 1, 2, 3, 4, 5, 6, 7, 8, 9, 10, 11, 12, 13, 14] rfl (q_beat (Q := Q) (kc := kc + 9 * j) (ks := ks + 224 * j) (by omega) (by omega) li h (A.nn e8 e7) lth ⟨by omega, by have := hq.1; omega⟩ hqt (fun e he => li.sil he) (fun e he => by have := li.coin he; omega) (fun M9 D9 li9 h9 A9 => ?_) C)
      rw [e7, e8, e23]
      refine u_widen (kc' := kc + 9 * (j + 1)) (ks' := ks + 224 * (j + 1)) (by omega) (by omega) ?_
      exact hk0 M9 D9 (by omega) (by omega) li9 h9 (A9.nn e8.symm e7.symm)
set_option maxHeartbeats 1000000 in
set_option maxRecDepth 100000 in
theorem q_loop {X : XT} {l : Launch} {g : GT} {b L : Nat} {xs : Nat → Int32} (hl : l.stackTraces = false) (hS : SX X g b L xs) (E : ∀ (M : Mem) (D : DM) (lo : List (Nat × Value)) (kc ks : Nat), kc ≤ 60000 → ks ≤ 900000 → UX X g kc ks 1494 lo [.int 1] M D)  (C : Cx X g l cL_law 39 RL (some .boolean) room_1) : ∀ (n t : Nat) (M : Mem) (D : DM) (ad : Nat → Nat) (P : Mem), t ≤ 6 → 7 ≤ t + n → LI (3500 + 500 * t) M P → SP g D ad P → UX X g (10000 + 4000 * t) (200000 + 70000 * t) 22 [(0, .ref b), (1, .ref (ga g 0)), (2, .ref (ad 0)), (3, .int (nI t))] [] M D := by
  intro n
  induction n with
  | zero => intro t M D ad P h1 h2; omega
  | succ n ih =>
    intro t M D ad P h1 h2 li h
    refine u_iload_n C dL_law_22 rfl ?_
    refine u_bipush C (v := 6) dL_law_23 (by decide) ?_
    refine u_icmp_ge C (tgt := 1489) dL_law_25 (by decide) (fun c25 => ?_) (fun c25 => ?_)
    · refine u_aload_n C dL_law_1489 rfl ?_
      refine u_aload_n C dL_law_1490 rfl ?_
      refine u_callV0 C (qs_isSame l g _ _ li h) cd_X2_isSame kl_L_165 ci2 (h.ob nm0) (as := [_]) rfl rfl (rm_l ⟨by decide, by decide⟩ ⟨by decide, by decide⟩ (by omega)) ⟨rfl, rfl⟩ (Nat.le_of_ble_eq_true rfl) dL_law_1491 ?_
      exact E _ _ _ _ _ (by omega) (by omega)
    · have hlt : t < 6 := Nat.lt_of_not_le (fun z => c25 ((nI_leI (a := 6) (b := t) (by omega) (by omega)).mpr z))
      refine u_aload_n C dL_law_28 rfl ?_
      refine u_iload_n C dL_law_29 rfl ?_
      refine u_iconst C (v := 1) dL_law_30 (by decide) ?_
      refine u_iadd C dL_law_31 ?_
      rw [nI_1]
      refine u_callSS C hS (qL_cell l g _ _ (k := t + 1) (by omega)) cd_L_cell kl_L_71 (as := [_, _]) rfl rfl (rm_l ⟨by decide, by decide⟩ ⟨by decide, by decide⟩ (by omega)) (Nat.le_of_ble_eq_true rfl) dL_law_32 (fun v9 M9 D9 e9 => ?_)
      obtain ⟨⟨v, rfl⟩, em, ed⟩ := e9
      have em := em.symm
      have ed := ed.symm
      subst em
      subst ed
      refine u_widen (kc' := 10000 + 4000 * t) (ks' := 200000 + 70000 * t) (by show _ + 0 ≤ _; omega) (by show _ + 0 ≤ _; omega) ?_
      rw [show Option.toList (some (Value.int v)) = [Value.int v] from rfl]
      refine u_iconst C (v := 2) dL_law_35 (by decide) ?_
      refine u_ishr C dL_law_36 ?_
      refine u_bipush C (v := 53) dL_law_37 (by decide) ?_
      refine u_iload_n C dL_law_39 rfl ?_
      refine u_imul C dL_law_40 ?_
      refine u_iadd C dL_law_41 ?_
      refine u_istore C (lo' := [(4, _), (0, _), (1, _), (2, _), (3, _)]) dL_law_42 (by decide) rfl ?_
      refine u_iconst C (v := 0) dL_law_44 (by decide) ?_
      refine u_istore C (lo' := [(5, _), (4, _), (0, _), (1, _), (2, _), (3, _)]) dL_law_45 (by decide) rfl ?_
      exact u_lsub [2, 3, 4, 5, 1, 0] rfl (q_acts (kc := 10000 + 4000 * t) (ks := 200000 + 70000 * t) (nb := 3500 + 500 * t) hl (by omega) (by omega) (fun M D ad P li h =>
        q_first (kc := 10000 + 4000 * t + 840) (ks := 200000 + 70000 * t + 17600) (by omega) (by omega) li h (fun d M D q9 f hd li h A htk =>
        q_walls0 (kc := 10000 + 4000 * t + 841) (ks := 200000 + 70000 * t + 17632) (by omega) li h A htk
        (q_want0 (kc := 10000 + 4000 * t + 841) (ks := 200000 + 70000 * t + 17632) (by omega) li h (fun s1 th M D ls1 lth li h =>
        q_best (kc := 10000 + 4000 * t + 1381) (ks := 200000 + 70000 * t + 27232) (by omega) li h ls1 (fun M D li h =>
        q_ahead (kc := 10000 + 4000 * t + 2461) (ks := 200000 + 70000 * t + 46432) (by omega) li h (by omega) lth hd (fun M D qd qh bt qq hbt hq li h A =>
        q_beats (kc := 10000 + 4000 * t + 2463) (ks := 200000 + 70000 * t + 46436) (by omega) li.1 li.pk (by omega) lth hbt hq (fun M D li h =>
          u_widen (kc' := 10000 + 4000 * (t + 1)) (ks' := 200000 + 70000 * (t + 1)) (by omega) (by omega) (ih (t + 1) M D ad _ (by omega) (by omega) (li.le (by omega)) h)) C (bt + 1) 0 M D (by omega) (by omega) li h A) C) C) C) C) C) C 5 0 M D ad P (by omega) (by omega) (li.le (by omega)) h)
set_option maxHeartbeats 1000000 in
set_option maxRecDepth 100000 in
theorem q_law {X : XT} {l : Launch} {g : GT} {b L : Nat} {xs : Nat → Int32} (hl : l.stackTraces = false) (hS : SX X g b L xs) (E : ∀ (M : Mem) (D : DM) (lo : List (Nat × Value)) (kc ks : Nat), kc ≤ 60000 → ks ≤ 900000 → UX X g kc ks 1494 lo [.int 1] M D)  {kc ks : Nat} (hk : kc ≤ 100 ∧ ks ≤ 2000) {M : Mem} {D : DM} (li : LI 0 M M0) (C : Cx X g l cL_law 39 RL (some .boolean) room_1) : UX X g kc ks 8 [(0, .ref b), (1, .ref (ga g 0))] [] M D := by
  refine u_aload_n C dL_law_8 rfl ?_
  refine u_aload_n C dL_law_9 rfl ?_
  refine u_callSS C hS (qL_build l g _ _ hl li) cd_L_build kl_L_80 (as := [_, _]) rfl rfl (rm_l ⟨by decide, by decide⟩ ⟨by decide, by decide⟩ (by omega)) (Nat.le_of_ble_eq_true rfl) dL_law_10 (fun v9 M9 D9 e9 => ?_)
  obtain ⟨ad, P1, rfl, li, h⟩ := e9
  refine u_widen (kc' := 10000) (ks' := 200000) (by show _ + 8000 ≤ _; omega) (by show _ + 170000 ≤ _; omega) ?_
  rw [show Option.toList (some (Value.ref (ad 0))) = [Value.ref (ad 0)] from rfl]
  refine u_astore_n C (lo' := [(2, _), (0, _), (1, _)]) dL_law_13 (by decide) rfl ?_
  refine u_aload_n C dL_law_14 rfl ?_
  refine u_ifnonnull C (tgt := 20) dL_law_15 (by decide) ?_
  refine u_iconst C (v := 0) dL_law_20 (by decide) ?_
  refine u_istore_n C (lo' := [(3, _), (2, _), (0, _), (1, _)]) dL_law_21 (by decide) rfl ?_
  exact u_lsub [2, 3, 1, 0] rfl (q_loop hl hS E C 7 0 _ _ ad P1 (by omega) (by omega) (li.le (by omega)) h)
