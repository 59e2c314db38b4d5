/-! .. and what the class and the model answer of it. -/
theorem Rel.wd {nb : Nat} {A P : Mem} (h : Rel 15 nb A P) : Wd A P := by
  obtain ⟨⟨h1, h2, h3, -⟩, -, hc, ho, ho2, -⟩ := h
  exact ⟨fun s hs => ⟨(h2 s hs).1, (h2 s hs).2, ho.2.2.1 s hs⟩, fun w hw => (h3 w hw).2.2.1, ho2⟩
theorem Wd.alone {A P : Mem} (h : Wd A P) (s wy ld : Int32) : Wd (cAlone A s wy ld) P := h.cells rfl rfl rfl
theorem al_at (A : Mem) (s wy ld : Int32) : cAlone A s wy ld 25 0 = ld ∧ cAlone A s wy ld 26 0 = s ∧ cAlone A s wy ld 27 0 = wy ∧ cAlone A s wy ld 28 0 = 0 := ⟨rfl, rfl, rfl, rfl⟩
theorem look_lw {nb : Nat} {M P : Mem} (h : Rel 1 nb M P) {s wy th : Int32} (hth : 0 ≤ th) : cLWr th 99 (cAlone (cCopy M) s wy 99) = mLW P s wy th := by
  have hw : Wd (cCopy M) (mKeep P) := h.copy.wd
  have hw2 : Wd (cCopy M) P := hw
  obtain ⟨a1, a2, a3, -⟩ := al_at (cCopy M) s wy 99
  have e := lw_is hth 99 (cAlone (cCopy M) s wy 99) 0 (hw2.alone s wy 99) (by rw [a1]; decide) (by rw [a1]; decide) (by rw [a1]; decide) (by rw [a1]; decide)
  rw [e, a2, a3]
  rfl
theorem Wd.ta {P : Mem} : ∀ (n : Nat) {Q : Mem}, Wd Q P → Wd (cTA n Q) P
  | 0, _, h => h
  | n + 1, Q, h => by
    unfold cTA
    split
    · exact Wd.ta n h.move
    · exact h
theorem Wd.bm {A P : Mem} (h : Wd A P) (ld : Int32) : ∀ i, Wd (cBM A ld i) P
  | 0 => h
  | i + 1 => Wd.ta 99 ((Wd.bm h ld i).alone (nI i) 1 ld)
theorem ts_is {A P : Mem} (h : Wd A P) {ld : Int32} (hl : 1 ≤ ld ∧ ld ≤ 99) (i : Nat) : cTs A ld i = mTurns P (nI i) ld := by
  have hl1 := i_le.mp hl.1
  have hl2 := i_le.mp hl.2
  rw [i_c1] at hl1
  rw [i_c99] at hl2
  obtain ⟨a1, a2, a3, a4⟩ := al_at (cBM A ld i) (nI i) 1 ld
  have e := ta_is (P := P) 99 101 (cAlone (cBM A ld i) (nI i) 1 ld) (by omega) ((h.bm ld i).alone (nI i) 1 ld) (by rw [a1, i_lt, i_c0]; omega) (by rw [a1]; omega) (by rw [a1]; exact hl2)
  rw [a1, a2, a3, a4] at e
  exact e
theorem mTn_ge {P : Mem} : ∀ (n : Nat) (s way left sum : Int32), 0 ≤ sum.toInt → sum.toInt + n ≤ 100000 → 0 ≤ (mTn P n s way left sum).toInt
  | 0, _, _, _, _, h, _ => h
  | n + 1, s, way, left, sum, h, hn => by
    unfold mTn
    split
    · split
      · exact mTn_ge n _ _ _ _ h (by omega)
      · have e : (sum + 1).toInt = sum.toInt + 1 := i_inc (by omega) (by omega)
        exact mTn_ge n _ _ _ _ (by omega) (by omega)
    · exact h
theorem best_is {A P : Mem} (h : Wd A P) {ld : Int32} (hl : 1 ≤ ld ∧ ld ≤ 99) : ∀ i, cBest A ld (i + 1) = mBestL P ld (i + 1) ∧ cMost A ld (i + 1) = mTurns P (mBestL P ld (i + 1)) ld
  | 0 => by
    have t0 := ts_is h hl 0
    have hm : mBestL P ld (0 + 1) = 0 := by
      show (if mTurns P 0 ld < mTurns P (nI 0) ld then nI 0 else 0) = 0
      split
      · rfl
      · rfl
    have g : 0 ≤ mTurns P (nI 0) ld := by
      rw [i_le, i_c0]
      exact mTn_ge 101 _ _ _ _ (by rw [i_c0]; omega) (by rw [i_c0]; omega)
    refine ⟨?_, ?_⟩
    · rw [hm]
      show (if (0 : Int32) < cTs A ld 0 then nI 0 else 0) = 0
      split
      · rfl
      · rfl
    · rw [hm]
      show (if (0 : Int32) < cTs A ld 0 then cTs A ld 0 else 0) = mTurns P 0 ld
      rw [t0]
      by_cases c : 0 < mTurns P (nI 0) ld
      · rw [if_pos c]; rfl
      · rw [if_neg c]
        exact (Int32.le_antisymm (Int32.not_lt.mp c) g).symm
  | i + 1 => by
    obtain ⟨a1, a2⟩ := best_is h hl i
    have t := ts_is h hl (i + 1)
    show (if cMost A ld (i + 1) < cTs A ld (i + 1) then nI (i + 1) else cBest A ld (i + 1)) = (if mTurns P (mBestL P ld (i + 1)) ld < mTurns P (nI (i + 1)) ld then nI (i + 1) else mBestL P ld (i + 1)) ∧ (if cMost A ld (i + 1) < cTs A ld (i + 1) then cTs A ld (i + 1) else cMost A ld (i + 1)) = mTurns P (if mTurns P (mBestL P ld (i + 1)) ld < mTurns P (nI (i + 1)) ld then nI (i + 1) else mBestL P ld (i + 1)) ld
    rw [a1, a2, t]
    by_cases c : mTurns P (mBestL P ld (i + 1)) ld < mTurns P (nI (i + 1)) ld
    · rw [if_pos c, if_pos c]
      exact ⟨rfl, rfl⟩
    · rw [if_neg c, if_neg c]
      exact ⟨rfl, rfl⟩
theorem look_best {nb : Nat} {M P : Mem} (h : Rel 1 nb M P) {ld : Int32} (hl : 1 ≤ ld ∧ ld ≤ 99) : cBest (cCopy M) ld 32 = mBest P ld := by
  have hw : Wd (cCopy M) (mKeep P) := h.copy.wd
  have hw2 : Wd (cCopy M) P := hw
  exact (best_is hw2 hl 31).1
theorem sum_is {nb : Nat} {M P : Mem} (h : Rel 1 nb M P) : ∀ k, k ≤ 40 → cSumL M k = mSumL P k
  | 0, _ => rfl
  | k + 1, hk => by
    unfold cSumL mSumL
    rw [sum_is h k (by omega), ← (h.1.2.2.2.2.1 k (by omega)).1]
theorem Rel.sh {b nb : Nat} {M P : Mem} (h : Rel b nb M P) : cSh b M = mSh P := by
  show tn (M b 2) = tn (P 29 2)
  rw [h.1.1.2.2.1]
theorem Rel.ws {b nb : Nat} {M P : Mem} (h : Rel b nb M P) : cWs b M = mWs P := by
  show tn (M b 1) = tn (P 29 1)
  rw [h.1.1.2.1]
theorem mean_is {nb : Nat} {M P : Mem} (h : Rel 1 nb M P) : cMean M = mMean P := by
  unfold cMean mMean
  rw [rel_many h, h.sh, sum_is h _ h.2.2.2.1.sh]
theorem wo_is {nb : Nat} {M P : Mem} (h : Rel 1 nb M P) (e : Int32) : cWO M e = mWO P e := by
  have hws := h.2.2.2.1.ws
  have aux : ∀ k, k ≤ 10 → cWOL M e k = mWOL P e k := fun k => by
    induction k with
    | zero => intro _; rfl
    | succ k ih =>
      intro hk
      unfold cWOL mWOL
      have e5 : M 6 k = P 34 (7 + k) := (h.1.2.2.1 k (by omega)).2.1
      rw [ih (by omega), e5]
      by_cases c : P 34 (7 + k) = e
      · rw [if_pos c, if_pos c]
      · rw [if_neg c, if_neg c]
        exact (Int32.add_zero _).symm
  unfold cWO mWO
  rw [h.ws]
  exact aux _ hws
theorem nx_is {nb : Nat} {M P : Mem} (h : Rel 1 nb M P) (way : Int32) : ∀ (n : Nat) (s : Int32), cNx M way n s = mNx P way n s
  | 0, _ => rfl
  | n + 1, s => by
    unfold cNx mNx
    by_cases c : 0 ≤ s ∧ s ≤ 31
    · have e : M 3 (tn s) = P 31 (tn s) := (h.1.2.1 _ (tn31 c)).2
      rw [if_pos c, if_pos c, e, nx_is h way n]
    · rw [if_neg c, if_neg c]
theorem pl_is {nb : Nat} {M P : Mem} (h : Rel 1 nb M P) {k : Nat} (hk : k < mSh P) : M 12 k = mPl P k ∧ (0 < M 13 k ↔ mRt P k) := by
  have hsh := h.2.2.2.1.sh
  have e1 : M 11 k = P 34 (27 + k) := (h.1.2.2.2.2.1 k (by omega)).1
  by_cases c : 0 < M 11 k
  · obtain ⟨a1, a2⟩ := h.1.2.2.2.2.2.1 k (by omega) c
    unfold mPl mRt
    rw [← e1, if_pos c]
    exact ⟨a1, fun z => ⟨c, by rw [← show M 13 k = _ from a2]; exact z⟩, fun z => by rw [show M 13 k = _ from a2]; exact z.2⟩
  · obtain ⟨a1, a2⟩ := h.1.2.2.2.2.2.2.1 k hk c
    unfold mPl mRt
    rw [← e1, if_neg c]
    exact ⟨a1, fun z => absurd z (by rw [show M 13 k = 0 from a2]; decide), fun z => absurd z.1 c⟩
