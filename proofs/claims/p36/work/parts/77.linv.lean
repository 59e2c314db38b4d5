/-! What stays of the sums and places over a beat and over what is done by hand. -/
theorem sN_ext {f h : Nat → Int32} : ∀ n, (∀ i, i < n → f i = h i) → sN f n = sN h n
  | 0, _ => rfl
  | n + 1, e => by
    unfold sN
    rw [sN_ext n (fun i hi => e i (by omega)), e n (by omega)]
theorem sN_one {f h : Nat → Int32} {j : Nat} : ∀ n, j < n → (∀ i, i < n → i ≠ j → h i = f i) → h j = f j + 1 → sN h n = sN f n + 1
  | 0, hn, _, _ => by omega
  | n + 1, hn, e, e1 => by
    unfold sN
    by_cases c : n = j
    · subst c
      rw [e1, sN_ext (f := h) (h := f) n (fun i hi => e i (by omega) (by omega))]
      grind
    · rw [sN_one n (by omega) (fun i hi hij => e i (by omega) hij) e1, e n (by omega) c]
      grind
def SU (P : Mem) : Prop := P 34 3 + P 34 4 = tS P (mWs P) ∧ uS P (mSh P) = tS P (mWs P)
theorem SU.same {P Q : Mem} (h : SU P) (e29 : Q 29 1 = P 29 1 ∧ Q 29 2 = P 29 2) (e3 : Q 34 3 = P 34 3 ∧ Q 34 4 = P 34 4) (ew : ∀ w, w < mWs P → Q 34 (17 + w) = P 34 (17 + w)) (es : ∀ k, k < mSh P → Q 34 (147 + k) = P 34 (147 + k)) : SU Q := by
  have w1 : mWs Q = mWs P := by show tn (Q 29 1) = tn (P 29 1); rw [e29.1]
  have w2 : mSh Q = mSh P := by show tn (Q 29 2) = tn (P 29 2); rw [e29.2]
  unfold SU tS uS
  rw [w1, w2, e3.1, e3.2, sN_ext (mWs P) ew, sN_ext (mSh P) es]
  exact h
theorem SU.step {Q : Mem} (h : PK Q) (s : SU Q) {k : Nat} (hk : k < mSh Q) (hl : 0 < Q 34 (27 + k)) : SU (mStep Q k) := by
  have hsh := h.1.sh
  have hws := h.1.ws
  have e29 := mStep_fr Q k 29 (by decide) (by decide)
  rcases ms_cases h (by omega) hl with ⟨c, e⟩ | ⟨c, c2, e⟩ | ⟨e1, w, c, c1, c2, c3, hw10, c4, c5, he2, e⟩
  · refine s.same ⟨by rw [e29], by rw [e29]⟩ ⟨?_, ?_⟩ (fun w hw => ?_) (fun j hj => ?_) <;> rw [e, wr_ne (by omega)]
  · refine s.same ⟨by rw [e29], by rw [e29]⟩ ⟨?_, ?_⟩ (fun w hw => ?_) (fun j hj => ?_) <;> rw [e, wr_ne (by omega), wr_ne (by omega)]
  · have w1 : mWs (mStep Q k) = mWs Q := by show tn (mStep Q k 29 1) = tn (Q 29 1); rw [e29]
    have w2 : mSh (mStep Q k) = mSh Q := by show tn (mStep Q k 29 2) = tn (Q 29 2); rw [e29]
    have a1 : tS (mStep Q k) (mWs Q) = tS Q (mWs Q) + 1 := sN_one (j := w) (mWs Q) c3 (fun i hi hij => by
      show mStep Q k 34 (17 + i) = Q 34 (17 + i)
      rw [e, wr_ne (by omega), wr_ne (by omega), wr_ne (by omega), wr_ne (by omega), wr_ne (by omega), wr_ne (by omega), wr_ne (by omega)]) (by
      show mStep Q k 34 (17 + w) = Q 34 (17 + w) + 1
      rw [e, wr_ne (by omega), wr_ne (by omega), wr_ne (by omega), wr_eq])
    have a2 : uS (mStep Q k) (mSh Q) = uS Q (mSh Q) + 1 := sN_one (j := k) (mSh Q) hk (fun i hi hij => by
      show mStep Q k 34 (147 + i) = Q 34 (147 + i)
      rw [e, wr_ne (by omega), wr_ne (by omega), wr_ne (by omega), wr_ne (by omega), wr_ne (by omega), wr_ne (by omega), wr_ne (by omega)]) (by
      show mStep Q k 34 (147 + k) = Q 34 (147 + k) + 1
      rw [e, wr_ne (by omega), wr_ne (by omega), wr_eq])
    have a3 : mStep Q k 34 3 + mStep Q k 34 4 = Q 34 3 + Q 34 4 + 1 := by
      have r : ∀ j, j < 5 → 3 ≤ j → mStep Q k 34 j = if j = 3 + e1 then Q 34 (3 + e1) + 1 else Q 34 j := fun j hj hj3 => by
        rw [e, wr_ne (by omega), wr_ne (by omega), wr_ne (by omega), wr_ne (by omega), wr_ne (by omega), wr_ap, wr_ne (by omega)]
        by_cases z : j = 3 + e1
        · rw [if_pos ⟨rfl, z⟩, if_pos z]
        · rw [if_neg (fun y => z y.2), if_neg z]
      rw [r 3 (by omega) (by omega), r 4 (by omega) (by omega)]
      rcases (show e1 = 0 ∨ e1 = 1 by omega) with rfl | rfl
      · rw [if_pos (by decide), if_neg (by decide)]
        show Q 34 3 + 1 + Q 34 4 = _
        grind
      · rw [if_neg (by decide), if_pos (by decide)]
        show Q 34 3 + (Q 34 4 + 1) = _
        grind
    unfold SU
    rw [w1, w2, a1, a2, a3, s.1, s.2]
    exact ⟨rfl, rfl⟩
theorem SU.stepL {P : Mem} (h : PK P) (s : SU P) : ∀ k, k ≤ mSh P → SU (mStepL P k)
  | 0, _ => s
  | k + 1, hk => by
    have ih := SU.stepL h s k (by omega)
    have hsh := h.1.sh
    have e : mSh (mStepL P k) = mSh P := by show tn (mStepL P k 29 2) = tn (P 29 2); rw [mStepL_fr P k 29 (by decide) (by decide)]
    unfold mStepL
    split
    · rename_i c
      exact ih.step (h.stepL k (by omega)) (by omega) c
    · exact ih
theorem SU.beat {P : Mem} (h : PK P) (s : SU P) : SU (mBeat P) := by
  have hsh := h.1.sh
  have hws := h.1.ws
  have g34 : mGot0 P 34 = P 34 := by show wr (wr P 36 0 0) 36 1 0 34 = _; rw [wr_cell (by decide), wr_cell (by decide)]
  have s0 : SU (mGot0 P) := s.same ⟨rfl, rfl⟩ ⟨by rw [g34], by rw [g34]⟩ (fun w _ => by rw [g34]) (fun k _ => by rw [g34])
  have s1 : SU (mB1 P) := s0.stepL h.got0 _ (Nat.le_refl _)
  obtain ⟨p1, n1, n2⟩ := h.b1
  obtain ⟨m1, m2, m3, m4⟩ := mm_all p1.1 (mSh P) (by omega)
  have e29 := (mBeat_ok h.1).2.1
  have f29 : mB1 P 29 = P 29 := (mStepL_fr (mGot0 P) _ 29 (by decide) (by decide)).trans rfl
  refine s1.same ⟨by rw [e29, f29], by rw [e29, f29]⟩ ⟨mBeat_coin h (e := 0) (by decide), mBeat_coin h (e := 1) (by decide)⟩ (fun w hw => ?_) (fun k hk => ?_)
  · rw [mBeat_34 h (by omega)]
    exact m3 _ (by omega) (by omega)
  · rw [mBeat_34 h (by omega)]
    exact m3 _ (by omega) (by omega)
theorem DP.beat {P : Mem} (h : PK P) : DP (mBeat P) := by
  have hsh := h.1.sh
  have n := (mBeat_n P h).2
  have key : ∀ k, k < mSh P → 0 < mBeat P 34 (27 + k) → mLoudest (mB1 P) (mBeat P 34 (67 + k)) = nI k := fun k hk hl => by
    have e := mBeat_row h hk
    have e1 : mBeat P 34 (27 + k) = _ := congrArg Prod.fst e
    have e2 : mBeat P 34 (67 + k) = _ := congrArg (fun r : Rw4 => r.2.1) e
    rw [e1] at hl
    rw [e2]
    by_cases c : 0 < (sR P (rw4 P k)).1 ∧ mLoudest (mB1 P) (sR P (rw4 P k)).2.1 ≠ nI k
    · rw [if_pos c] at hl
      exact absurd (show (0 : Int32) < 0 from hl) (by decide)
    · rw [if_neg c] at hl ⊢
      exact Classical.byContradiction (fun z => c ⟨hl, z⟩)
  intro j k hj hk lj lk e
  rw [n] at hj hk
  have a := key j hj lj
  have b := key k hk lk
  rw [e, b] at a
  exact (nI_inj' (by omega) (by omega) a).symm
theorem EX.beat {P : Mem} (h : PK P) (e : EX P) : EX (mBeat P) := ⟨SU.beat h e.1, DP.beat h⟩
theorem EX.beats {P : Mem} (h : PK P) (e : EX P) : ∀ n, EX (mBeats P n)
  | 0 => e
  | n + 1 => EX.beat (h.beats n) (EX.beats h e n)
theorem LI.beats {nb : Nat} {M P : Mem} (h : LI nb M P) (n : Nat) (hn : nb + n ≤ 100000) : LI (nb + n) (cBeats 1 M n) (mBeats P n) :=
  ⟨beats_rel h.1 n hn, cBeats_z h.ok h.2.1 n, Nat.le_trans (beats_live h.1 n hn) h.2.2.1, h.pk.beats n, h.2.2.2.2.beats h.pk n⟩
theorem LI.le {nb nb' : Nat} {M P : Mem} (h : LI nb M P) (hn : nb ≤ nb') : LI nb' M P := by
  obtain ⟨h1, h2⟩ := h
  obtain ⟨a1, a2, a3, a4, a5, a6, a7, a8⟩ := h1
  exact ⟨⟨a1, a2, a3, a4, a5, a6, fun e he => ⟨(a7 e he).1, by have := (a7 e he).2; omega⟩, a8⟩, h2⟩
theorem no_live {P : Mem} (h : mOK P) {s : Int32} (e : mLoudest P s = -1) : ∀ k, k < mSh P → 0 < P 34 (27 + k) → P 34 (67 + k) ≠ s := by
  have hsh := h.sh
  have hw := mLdL_win P s (mSh P) (by omega)
  have e' : mLdL P s (mSh P) = -1 := e
  rw [e'] at hw
  rcases hw with ⟨-, a⟩ | ⟨j, hj, a, -⟩
  · exact a
  · exact absurd a.symm (nI_m1 (by omega))
/-- a wall is built -/
theorem LI.build {nb : Nat} {M P : Mem} (h : LI nb M P) {s e so : Int32} (hs : 0 ≤ s ∧ s ≤ 31) (he : 0 ≤ e ∧ e ≤ 1) (hso : 0 ≤ so ∧ so ≤ 5) (h10 : mWs P < 10) (hw : P 31 (tn s) = -1) : LI nb (cBuild M s e so) (mAW P s e so) := by
  have hws := h.pk.1.ws
  have n10 : ¬ M 1 1 = 10 := by
    rw [h.w1.1]
    intro z
    have := congrArg tn z
    rw [tn_nI (by omega)] at this
    have e10 : tn (10 : Int32) = 10 := by decide
    omega
  obtain ⟨r1, r2⟩ := op_build h.1 h.2.1 hs he hso n10
  have e1 : P 29 1 = nI (mWs P) := nI_tn h.pk.1.1.1
  have et : tn (P 29 1) = mWs P := rfl
  have b29 : mAW P s e so 29 1 = nI (mWs P + 1) := by unfold mAW; rw [wr_eq, e1]; exact nI_1 _
  have b29' : mAW P s e so 29 2 = P 29 2 := by unfold mAW; rw [wr_ne (by omega), wr_ne (by omega), wr_ne (by omega), wr_ne (by omega), wr_ne (by omega), wr_ne (by omega)]
  have w1 : mWs (mAW P s e so) = mWs P + 1 := by show tn (mAW P s e so 29 1) = _; rw [b29, tn_nI (by omega)]
  have w2 : mSh (mAW P s e so) = mSh P := by show tn (mAW P s e so 29 2) = _; rw [b29']
  have b31 : ∀ q, mAW P s e so 31 q = if q = tn s then nI (mWs P) else P 31 q := fun q => by
    unfold mAW
    rw [wr_ne (by omega), wr_ne (by omega), wr_ne (by omega), wr_ne (by omega), wr_ap, e1]
    by_cases z : q = tn s
    · rw [if_pos ⟨rfl, z⟩, if_pos z]
    · rw [if_neg (fun y => z y.2), if_neg z, wr_ne (by omega)]
  have b32 : ∀ q, mAW P s e so 32 q = if q = mWs P then s else P 32 q := fun q => by
    unfold mAW
    rw [wr_ne (by omega), wr_ne (by omega), wr_ne (by omega), wr_ap, et]
    by_cases z : q = mWs P
    · rw [if_pos ⟨rfl, z⟩, if_pos z]
    · rw [if_neg (fun y => z y.2), if_neg z, wr_ne (by omega), wr_ne (by omega)]
  have b34 : ∀ j, j ≠ 7 + mWs P → mAW P s e so 34 j = P 34 j := fun j hj => by
    unfold mAW
    rw [wr_ne (by omega), et, wr_ne (by omega), wr_ne (by omega), wr_ne (by omega), wr_ne (by omega), wr_ne (by omega)]
  refine ⟨r1, r2, h.2.2.1, ⟨r1.2.2.2.1, r1.2.2.2.2.1, ⟨fun w hwn => ?_, fun q hq => ?_⟩, fun k hk => ?_⟩, ⟨⟨?_, ?_⟩, fun j k hj hk lj lk ee => ?_⟩⟩
  · rw [w1] at hwn
    rw [b32, b31]
    by_cases z : w = mWs P
    · subst z
      rw [if_pos rfl, if_pos rfl]
      exact ⟨hs, rfl⟩
    · rw [if_neg z]
      obtain ⟨a1, a2⟩ := h.pk.2.2.1.1 w (by omega)
      refine ⟨a1, ?_⟩
      rw [if_neg (fun y => ?_)]
      · exact a2
      · rw [y, hw] at a2
        exact nI_m1 (by omega) a2.symm
  · rw [b31, w1]
    by_cases z : q = tn s
    · rw [if_pos z]
      exact Or.inr ⟨mWs P, by omega, rfl, by rw [b32, if_pos rfl, z]; exact nI_tn hs.1⟩
    · rw [if_neg z]
      rcases h.pk.2.2.1.2 q hq with a | ⟨w, a1, a2, a3⟩
      · exact Or.inl a
      · exact Or.inr ⟨w, by omega, a2, by rw [b32, if_neg (by omega)]; exact a3⟩
  · rw [b34 _ (by omega), b34 _ (by omega), b34 _ (by omega)]
    exact h.pk.2.2.2 k hk
  · rw [b34 3 (by omega), b34 4 (by omega), w1, h.2.2.2.2.1.1]
    show _ = sN (fun w => mAW P s e so 34 (17 + w)) (mWs P) + mAW P s e so 34 (17 + mWs P)
    have z0 : P 34 (17 + mWs P) = 0 := by
      rw [← (show M 8 (mWs P) = P 34 (17 + mWs P) from (h.1.1.2.2.1 _ h10).2.2.2)]
      exact h.2.1.1 _ (by rw [h.w1.1, tn_nI (by omega)]; exact Nat.le_refl _) h10
    rw [b34 _ (by omega), z0, Int32.add_zero]
    exact (sN_ext _ (fun i hi => b34 _ (by omega))).symm
  · rw [w1, w2]
    show uS (mAW P s e so) (mSh P) = sN (fun w => mAW P s e so 34 (17 + w)) (mWs P) + mAW P s e so 34 (17 + mWs P)
    have z0 : P 34 (17 + mWs P) = 0 := by
      rw [← (show M 8 (mWs P) = P 34 (17 + mWs P) from (h.1.1.2.2.1 _ h10).2.2.2)]
      exact h.2.1.1 _ (by rw [h.w1.1, tn_nI (by omega)]; exact Nat.le_refl _) h10
    rw [b34 _ (by omega), z0, Int32.add_zero]
    have u1 : uS (mAW P s e so) (mSh P) = uS P (mSh P) := sN_ext _ (fun i hi => b34 _ (by omega))
    rw [u1, h.2.2.2.2.1.2]
    exact (sN_ext _ (fun i hi => b34 _ (by omega))).symm
  · rw [w2] at hj hk
    have hsh := h.pk.1.sh
    rw [b34 _ (by omega)] at lj lk
    rw [b34 _ (by omega), b34 _ (by omega)] at ee
    exact h.2.2.2.2.2 j k hj hk lj lk ee
/-- a shout begins -/
theorem LI.shout {nb : Nat} {M P : Mem} (h : LI nb M P) {s wy ld : Int32} (hs : 0 ≤ s ∧ s ≤ 31) (hwy : wy = 1 ∨ wy = -1) (hl : 1 ≤ ld ∧ ld ≤ 99) (h40 : mSh P < 40) (h8 : liveN (M 11) 40 < 8) (hno : mLoudest P s = -1) : LI nb (cStart 1 M s wy ld) (mSho1 P s wy ld) := by
  have hsh := h.pk.1.sh
  have n40 : ¬ M 1 2 = 40 := by
    rw [h.w1.2]
    intro z
    have := congrArg tn z
    rw [tn_nI (by omega)] at this
    have e10 : tn (40 : Int32) = 40 := by decide
    omega
  have hno4 : M 4 (tn s) = -1 := by
    have := h.1.2.1 _ (tn31 hs)
    rw [← nI_tn hs.1, hno] at this
    exact this
  obtain ⟨r1, r2, r3⟩ := op_shout h.1 h.2.1 (wy := wy) hs hl n40 hno4
  have e1 : P 29 2 = nI (mSh P) := nI_tn h.pk.1.2.1.1
  have et : tn (P 29 2) = mSh P := rfl
  have b29 : mSho1 P s wy ld 29 2 = nI (mSh P + 1) := by unfold mSho1; rw [wr_eq, e1]; exact nI_1 _
  have b29' : mSho1 P s wy ld 29 1 = P 29 1 := by unfold mSho1; rw [wr_ne (by omega), wr_ne (by omega), wr_ne (by omega), wr_ne (by omega), wr_ne (by omega), wr_ne (by omega)]
  have w1 : mSh (mSho1 P s wy ld) = mSh P + 1 := by show tn (mSho1 P s wy ld 29 2) = _; rw [b29, tn_nI (by omega)]
  have w2 : mWs (mSho1 P s wy ld) = mWs P := by show tn (mSho1 P s wy ld 29 1) = _; rw [b29']
  have b3 : ∀ c, c ≠ 29 → c ≠ 34 → mSho1 P s wy ld c = P c := fun c h1 h2 => by
    unfold mSho1
    rw [wr_cell h1, wr_cell h2, wr_cell h2, wr_cell h2, wr_cell h2, wr_cell h1]
  have b34 : ∀ j, j ≠ 27 + mSh P → j ≠ 67 + mSh P → j ≠ 107 + mSh P → j ≠ 147 + mSh P → mSho1 P s wy ld 34 j = P 34 j := fun j h1 h2 h3 h4 => by
    unfold mSho1
    rw [et, wr_ne (by omega), wr_ne (by omega), wr_ne (by omega), wr_ne (by omega), wr_ne (by omega), wr_ne (by omega)]
  have c1 : mSho1 P s wy ld 34 (27 + mSh P) = ld := by unfold mSho1; rw [et, wr_ne (by omega), wr_ne (by omega), wr_ne (by omega), wr_ne (by omega), wr_eq]
  have c2 : mSho1 P s wy ld 34 (67 + mSh P) = s := by unfold mSho1; rw [et, wr_ne (by omega), wr_ne (by omega), wr_ne (by omega), wr_eq]
  have c3 : mSho1 P s wy ld 34 (107 + mSh P) = wy := by unfold mSho1; rw [et, wr_ne (by omega), wr_ne (by omega), wr_eq]
  have c4 : mSho1 P s wy ld 34 (147 + mSh P) = 0 := by unfold mSho1; rw [et, wr_ne (by omega), wr_eq]
  have hws := h.pk.1.ws
  refine ⟨r1, r2, by rw [r3]; omega, ⟨r1.2.2.2.1, r1.2.2.2.2.1, ⟨fun w hwn => ?_, fun q hq => ?_⟩, fun k hk => ?_⟩, ⟨⟨?_, ?_⟩, fun j k hj hk lj lk ee => ?_⟩⟩
  · rw [w2] at hwn
    rw [b3 32 (by decide) (by decide), b3 31 (by decide) (by decide)]
    exact h.pk.2.2.1.1 w hwn
  · rw [w2, b3 32 (by decide) (by decide), b3 31 (by decide) (by decide)]
    exact h.pk.2.2.1.2 q hq
  · by_cases z : k = mSh P
    · subst z
      rw [c1, c2, c3]
      exact ⟨⟨Int32.le_trans (by decide) hl.1, hl.2⟩, fun _ => ⟨hs, hwy⟩⟩
    · rw [b34 _ (by omega) (by omega) (by omega) (by omega), b34 _ (by omega) (by omega) (by omega) (by omega), b34 _ (by omega) (by omega) (by omega) (by omega)]
      exact h.pk.2.2.2 k hk
  · rw [b34 3 (by omega) (by omega) (by omega) (by omega), b34 4 (by omega) (by omega) (by omega) (by omega), w2, h.2.2.2.2.1.1]
    exact (sN_ext _ (fun i hi => b34 _ (by omega) (by omega) (by omega) (by omega))).symm
  · rw [w1, w2]
    show sN (fun w => mSho1 P s wy ld 34 (147 + w)) (mSh P) + mSho1 P s wy ld 34 (147 + mSh P) = tS (mSho1 P s wy ld) (mWs P)
    have t1 : tS (mSho1 P s wy ld) (mWs P) = tS P (mWs P) := sN_ext _ (fun i hi => b34 _ (by omega) (by omega) (by omega) (by omega))
    rw [c4, Int32.add_zero, t1, ← h.2.2.2.2.1.2]
    exact sN_ext _ (fun i hi => b34 _ (by omega) (by omega) (by omega) (by omega))
  · rw [w1] at hj hk
    have old : ∀ i, i < mSh P → 0 < mSho1 P s wy ld 34 (27 + i) → mSho1 P s wy ld 34 (67 + i) ≠ s := fun i hi li => by
      rw [b34 _ (by omega) (by omega) (by omega) (by omega)] at li ⊢
      exact no_live h.pk.1 hno i hi li
    by_cases zj : j = mSh P <;> by_cases zk : k = mSh P
    · rw [zj, zk]
    · subst zj
      exact absurd (ee.symm.trans c2) (old k (by omega) lk)
    · subst zk
      exact absurd (ee.trans c2) (old j (by omega) lj)
    · rw [b34 _ (by omega) (by omega) (by omega) (by omega)] at lj lk
      rw [b34 _ (by omega) (by omega) (by omega) (by omega), b34 _ (by omega) (by omega) (by omega) (by omega)] at ee
      exact h.2.2.2.2.2 j k (by omega) (by omega) lj lk ee
/-- a wall handed over; snow -/
theorem LI.hand {nb : Nat} {M P : Mem} (h : LI nb M P) {w : Nat} (hw : w < mWs P) {x : Int32} (hx : 0 ≤ x ∧ x ≤ 1) : LI nb (wr M 6 w x) (wr (wr P 29 0 0) 34 (7 + w) x) := by
  have hws := h.pk.1.ws
  have hsh := h.pk.1.sh
  obtain ⟨r1, r2⟩ := op_hand h.1 h.2.1 (w := w) (by omega) hx
  have b : ∀ j, j ≠ 7 + w → wr (wr P 29 0 0) 34 (7 + w) x 34 j = P 34 j := fun j hj => by rw [wr_ne (by omega), wr_ne (by omega)]
  refine ⟨r1, r2, h.2.2.1, ⟨r1.2.2.2.1, r1.2.2.2.2.1, h.pk.2.2.1, fun k hk => ?_⟩, ⟨SU.same h.2.2.2.2.1 ⟨rfl, rfl⟩ ⟨b _ (by omega), b _ (by omega)⟩ (fun w _ => b _ (by omega)) (fun k _ => b _ (by omega)), fun j k hj hk lj lk ee => ?_⟩⟩
  · rw [b _ (by omega), b _ (by omega), b _ (by omega)]
    exact h.pk.2.2.2 k hk
  · rw [b _ (by omega)] at lj lk
    rw [b _ (by omega), b _ (by omega)] at ee
    exact h.2.2.2.2.2 j k hj hk lj lk ee
theorem LI.snow {nb : Nat} {M P : Mem} (h : LI nb M P) {s : Nat} {x : Int32} (hx : 0 ≤ x ∧ x ≤ 5) : LI nb (wr M 2 s x) (wr (wr P 29 0 0) 30 s x) := by
  obtain ⟨r1, r2⟩ := op_snow h.1 h.2.1 (s := s) hx
  exact ⟨r1, r2, h.2.2.1, ⟨r1.2.2.2.1, r1.2.2.2.2.1, h.pk.2.2.1, h.pk.2.2.2⟩, h.2.2.2.2⟩
