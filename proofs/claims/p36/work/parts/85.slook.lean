/-! What is told of one state, and ahead. -/
abbrev lvF (P : Mem) : Nat → Int32 := fun k => P 34 (27 + k)
theorem many_is {P : Mem} (h : PK P) : mMany P = nI (liveN (lvF P) (mSh P)) := mManyL_live P _ (by have := h.1.sh; omega)
theorem liveN_all {f : Nat → Int32} {n : Nat} (h : liveN f n = 0) : ∀ k, k < n → ¬ 0 < f k := fun k hk hl => by
  have := liveN_pos (f := f) hl n hk
  omega
theorem many_pos {P : Mem} (h : PK P) : 0 < mMany P ↔ ∃ k, k < mSh P ∧ 0 < P 34 (27 + k) := by
  have hsh := h.1.sh
  have hle := liveN_le (lvF P) (mSh P)
  rw [many_is h, show (0 : Int32) = nI 0 from rfl, nI_ltI (by omega) (by omega)]
  constructor
  · intro z
    refine Classical.byContradiction (fun y => ?_)
    have := liveN_zero (f := lvF P) (mSh P) (fun k hk hl => y ⟨k, hk, hl⟩)
    omega
  · rintro ⟨k, hk, hl⟩
    exact liveN_pos (f := lvF P) hl _ hk
theorem many_0 {P : Mem} (h : PK P) : mMany P = 0 ↔ ¬ 0 < mMany P := by
  have hsh := h.1.sh
  have hle := liveN_le (lvF P) (mSh P)
  rw [many_is h]
  constructor
  · intro z
    rw [z]
    decide
  · intro z
    have : ¬ 0 < liveN (lvF P) (mSh P) := fun y => z ((nI_ltI (a := 0) (by omega) (by omega)).mpr y)
    rw [show liveN (lvF P) (mSh P) = 0 by omega]
    rfl
/-- gone stays gone -/
theorem live_back {P : Mem} (h : PK P) {k : Nat} (hk : k < mSh P) {t : Nat} (hl : 0 < mBeats P (t + 1) 34 (27 + k)) : 0 < mBeats P t 34 (27 + k) := by
  obtain ⟨p, n, -⟩ := mBeats_pk h t
  refine Classical.byContradiction (fun z => z ?_)
  have e := (beat_quieter p (k := k) (by omega)).1 z
  rw [show mBeats P (t + 1) = mBeat (mBeats P t) from rfl, e] at hl
  exact hl
theorem live_le {P : Mem} (h : PK P) {k : Nat} (hk : k < mSh P) {t : Nat} : ∀ u, 0 < mBeats P (t + u) 34 (27 + k) → 0 < mBeats P t 34 (27 + k)
  | 0, hl => hl
  | u + 1, hl => live_le h hk u (live_back h hk hl)
theorem loud_t {P : Mem} (h : PK P) {k : Nat} (hk : k < mSh P) : ∀ t, (∀ j, j < t → 0 < mBeats P j 34 (27 + k)) → (mBeats P t 34 (27 + k)).toInt + t ≤ (P 34 (27 + k)).toInt ∧ 0 ≤ (mBeats P t 34 (27 + k)).toInt
  | 0, _ => by
    have := i_le.mp (h.lv hk).1.1
    rw [i_c0] at this
    exact ⟨by show (P 34 (27 + k)).toInt + ((0 : Nat) : Int) ≤ _; omega, this⟩
  | t + 1, hl => by
    have ih := (loud_t h hk t (fun j hj => hl j (by omega))).1
    obtain ⟨p, n, -⟩ := mBeats_pk h t
    have q := (beat_quieter p (k := k) (by omega)).2 (hl t (by omega))
    have e : mBeats P (t + 1) = mBeat (mBeats P t) := rfl
    rw [e]
    omega
section LOOKS
variable {nb : Nat} {M P : Mem}
theorem LI.gone (li : LI nb M P) (hnb : nb + 100 ≤ 100000) {k : Nat} (hk : k < mSh P) : cCnt 25 k 99 (cCopy M) ≤ 99 ∧ (∀ j, j < cCnt 25 k 99 (cCopy M) → 0 < mBeats P j 34 (27 + k)) ∧ ¬ 0 < mBeats P (cCnt 25 k 99 (cCopy M)) 34 (27 + k) := by
  have hsh := li.pk.1.sh
  have a1 := (run_is (z_gone k (by omega)) 99 nb (cCopy M) (mKeep P) li.1.copy (by omega) li.1.c99).1
  obtain ⟨b1, b2⟩ := look_gone li.1 hnb (k := k) (by omega)
  refine ⟨a1, fun j hj => ?_, ?_⟩
  · rw [← (keep_b li.1 j (by omega)).1 k (by omega)]; exact b1 j hj
  · rw [← (keep_b li.1 _ (by omega)).1 k (by omega)]; exact b2
theorem LI.quiet (li : LI nb M P) (hnb : nb + 100 ≤ 100000) : cCnt 15 3 99 (cCopy M) ≤ 99 ∧ (∀ j, j < cCnt 15 3 99 (cCopy M) → 0 < mMany (mBeats P j)) ∧ ∀ j, cCnt 15 3 99 (cCopy M) ≤ j → ¬ 0 < mMany (mBeats P j) := by
  have hsh := li.pk.1.sh
  have a1 := (run_is z_quiet 99 nb (cCopy M) (mKeep P) li.1.copy (by omega) li.1.c99).1
  obtain ⟨b1, b2⟩ := look_quiet li.1 hnb
  refine ⟨a1, fun j hj => ?_, fun j hj hm => ?_⟩
  · rw [← (keep_b li.1 j (by omega)).2.2.1]; exact b1 j hj
  · rw [(keep_b li.1 _ (by omega)).2.2.1] at b2
    refine b2 ?_
    obtain ⟨p, n, -⟩ := mBeats_pk li.pk j
    obtain ⟨p2, n2, -⟩ := mBeats_pk li.pk (cCnt 15 3 99 (cCopy M))
    obtain ⟨k, hk, hl⟩ := (many_pos p).mp hm
    refine (many_pos p2).mpr ⟨k, by omega, ?_⟩
    rw [show j = cCnt 15 3 99 (cCopy M) + (j - cCnt 15 3 99 (cCopy M)) by omega] at hl
    exact live_le li.pk (by omega) _ hl
/-- what the law asks of the beats until a shout is gone -/
theorem LI.gone_is (li : LI nb M P) (hnb : nb + 100 ≤ 100000) {k : Nat} (hk : k < mSh P) : nI (cCnt 25 k 99 (cCopy M)) ≤ P 34 (27 + k) ∧ (nI (cCnt 25 k 99 (cCopy M)) = 0 ↔ P 34 (27 + k) = 0) := by
  obtain ⟨a1, a2, a3⟩ := li.gone hnb hk
  have l1 := loud_t li.pk hk _ a2
  have v := (li.pk.lv hk).1
  have ec := i_nI (n := cCnt 25 k 99 (cCopy M)) (by omega)
  refine ⟨i_le.mpr (by omega), ?_⟩
  constructor
  · intro z
    have z1 := congrArg Int32.toInt z
    rw [ec, i_c0] at z1
    rw [show cCnt 25 k 99 (cCopy M) = 0 by omega] at a3
    exact Int32.le_antisymm (Int32.not_lt.mp a3) v.1
  · intro z
    have z1 := congrArg Int32.toInt z
    rw [i_c0] at z1
    exact i_eq.mpr (by rw [ec, i_c0]; omega)
theorem LI.gone_q {M' : Mem} (li : LI nb M P) (li' : LI nb M' P) (hnb : nb + 100 ≤ 100000) {k : Nat} (hk : k < mSh P) : nI (cCnt 25 k 99 (cCopy M)) ≤ nI (cCnt 15 3 99 (cCopy M')) := by
  obtain ⟨a1, a2, a3⟩ := li.gone hnb hk
  obtain ⟨b1, b2, b3⟩ := li'.quiet hnb
  refine (nI_leI (by omega) (by omega)).mpr (Nat.le_of_not_lt (fun z => ?_))
  obtain ⟨p, n, -⟩ := mBeats_pk li.pk (cCnt 15 3 99 (cCopy M'))
  exact b3 _ (Nat.le_refl _) ((many_pos p).mpr ⟨k, by omega, a2 _ z⟩)
/-- the loudest on a stone is the only one -/
theorem LI.own (li : LI nb M P) {k : Nat} (hk : k < mSh P) (hl : 0 < P 34 (27 + k)) : mLA P (P 34 (67 + k)) = P 34 (27 + k) := by
  have hsh := li.pk.1.sh
  have hw := mLdL_win P (P 34 (67 + k)) (mSh P) (by omega)
  have e : mLoudest P (P 34 (67 + k)) = nI k := by
    rcases hw with ⟨-, a⟩ | ⟨j, hj, a, a1, a2, -⟩
    · exact absurd rfl (a k hk hl)
    · have := li.2.2.2.2.2 j k hj hk a1 hl a2
      subst this
      exact a
  unfold mLA
  rw [e, if_neg (nI_m1 (by omega)), tn_nI (by omega)]
theorem LI.none_on (li : LI nb M P) {s : Int32} (hn : ∀ k, k < mSh P → 0 < P 34 (27 + k) → P 34 (67 + k) ≠ s) : mLA P s = 0 := by
  have hsh := li.pk.1.sh
  have hw := mLdL_win P s (mSh P) (by omega)
  refine if_pos ?_
  rcases hw with ⟨a, -⟩ | ⟨j, hj, a, a1, a2, -⟩
  · exact a
  · exact absurd a2 (hn j hj a1)
theorem LI.sil (li : LI nb M P) {e : Nat} (he : e < 2) : 0 ≤ P 34 (5 + e) ∧ P 34 (5 + e) ≤ 11 := by
  have a := li.1.2.2.2.2.2.2.2 e he
  rw [show M (1 + 9) e = P 34 (5 + e) from (li.1.1.2.2.2.1 e he).2] at a
  refine ⟨a.1, ?_⟩
  have h2 := i_lt.mp a.2
  have e12 : (12 : Int32).toInt = 12 := rfl
  have e11 : (11 : Int32).toInt = 11 := rfl
  exact i_le.mpr (by omega)
theorem LI.coin (li : LI nb M P) {e : Nat} (he : e < 2) : 0 ≤ (P 34 (3 + e)).toInt ∧ (P 34 (3 + e)).toInt ≤ 40 * nb := by
  have a := li.1.2.2.2.2.2.2.1 e he
  rw [show M (1 + 8) e = P 34 (3 + e) from (li.1.1.2.2.2.1 e he).1] at a
  exact a
theorem LI.many8 (li : LI nb M P) : mMany P ≤ 8 := by
  rw [rel_many li.1, li.1.1.2.2.2.2.2.2.2.2]
  exact nI_le (b := 8) li.2.2.1 (by decide)
end LOOKS
/-- walls of both -/
theorem wol_sum {P : Mem} (h : mOK P) : ∀ n, n ≤ 10 → mWOL P 0 n + mWOL P 1 n = nI n
  | 0, _ => rfl
  | n + 1, hn => by
    have ih := wol_sum h n (by omega)
    have ho := h.2.2.2 n (by omega)
    unfold mWOL
    have a1 := i_le.mp ho.1
    have a2 := i_le.mp ho.2
    rw [i_c0] at a1
    rw [i_c1] at a2
    rw [← nI_1, ← ih]
    by_cases c : P 34 (7 + n) = 0
    · rw [if_pos c, if_neg (by rw [c]; decide)]
      grind
    · have c1 : P 34 (7 + n) = 1 := i_eq.mpr (by rw [i_c1]; have : (P 34 (7 + n)).toInt ≠ 0 := fun z => c (i_eq.mpr (by rw [i_c0]; exact z)); omega)
      rw [if_neg c, if_pos c1]
      grind
