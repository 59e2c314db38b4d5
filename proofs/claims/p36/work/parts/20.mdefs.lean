/-! The model's methods as functions of the memory. Cells: 29 the object (thrown, walls, shouts), 30 snow, 31 wall, 32 stone, 33 soaks, 34 now, 35 kept, 36 got. -/
abbrev mWs (M : Mem) : Nat := tn (M 29 1)
abbrev mSh (M : Mem) : Nat := tn (M 29 2)
/-- what the model's reads need: its indices stay in range -/
def mOK (M : Mem) : Prop := (0 ≤ M 29 1 ∧ M 29 1 ≤ 10) ∧ (0 ≤ M 29 2 ∧ M 29 2 ≤ 40) ∧ (∀ s, s < 32 → M 31 s = -1 ∨ (0 ≤ M 31 s ∧ M 31 s ≤ 9)) ∧ (∀ w, w < 10 → 0 ≤ M 34 (7 + w) ∧ M 34 (7 + w) ≤ 1)
theorem ix_t (a : Nat) {w : Int32} (h : 0 ≤ w) : nI a + w = nI (a + tn w) := by
  rw [← nI_add, ← nI_tn h]
theorem ge_tn {x : Int32} (h0 : 0 ≤ x) {i : Nat} (hi : i < 2 ^ 31) : nI i ≥ x ↔ tn x ≤ i := by
  obtain ⟨j, h1, rfl⟩ := nI_of (Int32.not_lt.mpr h0)
  rw [tn_nI h1]
  exact nI_leI h1 hi
theorem tn31 {x : Int32} (h : 0 ≤ x ∧ x ≤ 31) : tn x < 32 := Nat.lt_succ_of_le (tn_le (n := 31) h.1 (by decide) h.2)
theorem tn9 {x : Int32} (h : 0 ≤ x ∧ x ≤ 9) : tn x < 10 := Nat.lt_succ_of_le (tn_le (n := 9) h.1 (by decide) h.2)
theorem tn1 {x : Int32} (h : 0 ≤ x ∧ x ≤ 1) : tn x < 2 := Nat.lt_succ_of_le (tn_le (n := 1) h.1 (by decide) h.2)
theorem mOK.ws {M : Mem} (h : mOK M) : mWs M ≤ 10 := tn_le (n := 10) h.1.1 (by decide) h.1.2
theorem mOK.sh {M : Mem} (h : mOK M) : mSh M ≤ 40 := tn_le (n := 40) h.2.1.1 (by decide) h.2.1.2
def mLet (M : Mem) (k : Nat) (v : Int32) : Mem := wr M 34 (27 + k) (if 0 < v then v else 0)
def mS1 (M : Mem) (k : Nat) : Int32 := M 34 (67 + k) + M 34 (107 + k)
def mGo (M : Mem) (k : Nat) (s : Int32) : Mem := mLet (wr M 34 (67 + k) s) k ((wr M 34 (67 + k) s) 34 (27 + k) - 1 - (wr M 34 (67 + k) s) 30 (tn s))
def mH1 (M : Mem) (e : Nat) : Mem := wr M 34 (3 + e) (M 34 (3 + e) + 1)
def mH2 (M : Mem) (e w : Nat) : Mem := wr (wr (mH1 M e) 36 e 1) 34 (17 + w) ((wr (mH1 M e) 36 e 1) 34 (17 + w) + 1)
def mH3 (M : Mem) (k e w : Nat) : Mem := wr (mH2 M e w) 34 (147 + k) (mH2 M e w 34 (147 + k) + 1)
def mH4 (M : Mem) (k e w : Nat) : Mem := wr (mH3 M k e w) 34 (107 + k) (-(mH3 M k e w 34 (107 + k)))
def mHit (M : Mem) (k e w : Nat) : Mem := mLet (mH4 M k e w) k (mH4 M k e w 34 (27 + k) - mH4 M k e w 33 w)
def mStep (M : Mem) (k : Nat) : Mem :=
  if 0 ≤ mS1 M k ∧ mS1 M k ≤ 31 then
    (if 0 < mGo M k (mS1 M k) 34 (27 + k) ∧ mGo M k (mS1 M k) 31 (tn (mS1 M k)) ≠ -1 then
      mHit (mGo M k (mS1 M k)) k (tn (mGo M k (mS1 M k) 34 (7 + tn (mGo M k (mS1 M k) 31 (tn (mS1 M k)))))) (tn (mGo M k (mS1 M k) 31 (tn (mS1 M k))))
    else mGo M k (mS1 M k))
  else mLet M k 0
/-- the loudest one on a stone among the first k -/
def mLdL (M : Mem) (s : Int32) : Nat → Int32
  | 0 => -1
  | k + 1 => if 0 < M 34 (27 + k) ∧ M 34 (67 + k) = s ∧ (mLdL M s k = -1 ∨ M 34 (27 + tn (mLdL M s k)) < M 34 (27 + k)) then nI k else mLdL M s k
def mLoudest (M : Mem) (s : Int32) : Int32 := mLdL M s (mSh M)
theorem mLdL_or (M : Mem) (s : Int32) : ∀ k, k < 2 ^ 31 → mLdL M s k = -1 ∨ (0 ≤ mLdL M s k ∧ tn (mLdL M s k) < k)
  | 0, _ => Or.inl rfl
  | k + 1, h => by
    unfold mLdL
    split
    · exact Or.inr ⟨nI_pos' (by omega), by rw [tn_nI (by omega)]; omega⟩
    · rcases mLdL_or M s k (by omega) with e | ⟨e, f⟩
      · exact Or.inl e
      · exact Or.inr ⟨e, by omega⟩
def mMeet (M : Mem) (k : Nat) : Mem := if 0 < M 34 (27 + k) ∧ mLoudest M (M 34 (67 + k)) ≠ nI k then wr (mLet M k 0) 34 1 ((mLet M k 0) 34 1 + 1) else M
/-- the first wall of an echo, from wall w on, n walls left -/
def mFO (M : Mem) (e : Int32) : Nat → Nat → Int32
  | 0, _ => -1
  | n + 1, w => if M 34 (7 + w) = e then nI w else mFO M e n (w + 1)
def mFirst (M : Mem) (e : Int32) : Int32 := mFO M e (mWs M) 0
theorem mFO_or (M : Mem) (e : Int32) : ∀ n w, w + n < 2 ^ 31 → mFO M e n w = -1 ∨ (0 ≤ mFO M e n w ∧ tn (mFO M e n w) < w + n)
  | 0, _, _ => Or.inl rfl
  | n + 1, w, h => by
    unfold mFO
    split
    · exact Or.inr ⟨nI_pos' (by omega), by rw [tn_nI (by omega)]; omega⟩
    · rcases mFO_or M e n (w + 1) (by omega) with q | ⟨q, f⟩
      · exact Or.inl q
      · exact Or.inr ⟨q, by omega⟩
def mSil (M : Mem) (e : Nat) : Mem := wr M 34 (5 + e) (if M 36 e = 0 then M 34 (5 + e) + 1 else 0)
def mLose (M : Mem) (e : Nat) (w : Nat) : Mem := wr (wr M 34 (7 + w) (1 - nI e)) 34 2 ((wr M 34 (7 + w) (1 - nI e)) 34 2 + 1)
def mHush (M : Mem) (e : Nat) : Mem :=
  if 12 ≤ mSil M e 34 (5 + e) then
    (if mFirst (wr (mSil M e) 34 (5 + e) 0) (nI e) ≠ -1 then mLose (wr (mSil M e) 34 (5 + e) 0) e (tn (mFirst (wr (mSil M e) 34 (5 + e) 0) (nI e)))
    else wr (mSil M e) 34 (5 + e) 0)
  else mSil M e
def mStepL (M : Mem) : Nat → Mem
  | 0 => M
  | k + 1 => if 0 < mStepL M k 34 (27 + k) then mStep (mStepL M k) k else mStepL M k
def mMeetL (M : Mem) : Nat → Mem
  | 0 => M
  | k + 1 => mMeet (mMeetL M k) k
def mGot0 (M : Mem) : Mem := wr (wr M 36 0 0) 36 1 0
def mB1 (M : Mem) : Mem := mStepL (mGot0 M) (mSh M)
def mB2 (M : Mem) : Mem := mMeetL (mB1 M) (mSh M)
def mB3 (M : Mem) : Mem := mHush (mHush (mB2 M) 0) 1
def mBeat (M : Mem) : Mem := wr (mB3 M) 34 0 (mB3 M 34 0 + 1)
def mBeats (M : Mem) : Nat → Mem
  | 0 => M
  | n + 1 => mBeat (mBeats M n)
def mManyL (M : Mem) : Nat → Int32
  | 0 => 0
  | k + 1 => mManyL M k + (if 0 < M 34 (27 + k) then 1 else 0)
def mMany (M : Mem) : Int32 := mManyL M (mSh M)
/-! what stays in range, stays so -/
theorem wr_ne {M : Mem} {k j k' j' : Nat} {v : Int32} (h : k' ≠ k ∨ j' ≠ j) : wr M k j v k' j' = M k' j' := by
  unfold wr
  by_cases hk : k' = k
  · subst hk
    rw [if_pos rfl]
    rcases h with h | h
    · exact absurd rfl h
    · unfold upd; rw [if_neg h]
  · rw [if_neg hk]
theorem wr_eq {M : Mem} {k j : Nat} {v : Int32} : wr M k j v k j = v := by unfold wr upd; simp
/-- the part of the memory on which mOK rests -/
def mSame (M M' : Mem) : Prop := M' 29 = M 29 ∧ M' 31 = M 31 ∧ ∀ w, w < 10 → M' 34 (7 + w) = M 34 (7 + w)
theorem mSame.rf {M : Mem} : mSame M M := ⟨rfl, rfl, fun _ _ => rfl⟩
theorem mSame.tr {M M' M'' : Mem} (h : mSame M M') (h' : mSame M' M'') : mSame M M'' := ⟨h'.1.trans h.1, h'.2.1.trans h.2.1, fun w hw => (h'.2.2 w hw).trans (h.2.2 w hw)⟩
theorem mSame.wr34 {M : Mem} {j : Nat} {v : Int32} (h : j < 7 ∨ 17 ≤ j) : mSame M (wr M 34 j v) := ⟨rfl, rfl, fun w hw => wr_ne (Or.inr (by omega))⟩
theorem mSame.wr36 {M : Mem} {j : Nat} {v : Int32} : mSame M (wr M 36 j v) := ⟨rfl, rfl, fun _ _ => rfl⟩
theorem mOK.same {M M' : Mem} (h : mOK M) (s : mSame M M') : mOK M' := by
  obtain ⟨h1, h2, h3, h4⟩ := h
  obtain ⟨s1, s2, s3⟩ := s
  refine ⟨by rw [s1]; exact h1, by rw [s1]; exact h2, fun q hq => by rw [s2]; exact h3 q hq, fun w hw => by rw [s3 w hw]; exact h4 w hw⟩
theorem mLet_same (M : Mem) (k : Nat) (v : Int32) : mSame M (mLet M k v) := mSame.wr34 (by omega)
theorem mGo_same (M : Mem) (k : Nat) (s : Int32) : mSame M (mGo M k s) := (mSame.wr34 (by omega)).tr (mLet_same _ _ _)
theorem mHit_same (M : Mem) (k e w : Nat) (he : e < 2) : mSame M (mHit M k e w) := by
  have h1 : mSame M (mH1 M e) := mSame.wr34 (by omega)
  have h2 : mSame (mH1 M e) (mH2 M e w) := (mSame.wr36).tr (mSame.wr34 (by omega))
  have h3 : mSame (mH2 M e w) (mH3 M k e w) := mSame.wr34 (by omega)
  have h4 : mSame (mH3 M k e w) (mH4 M k e w) := mSame.wr34 (by omega)
  exact (((h1.tr h2).tr h3).tr h4).tr (mLet_same _ _ _)
theorem mStep_same {M : Mem} (h : mOK M) (k : Nat) : mSame M (mStep M k) := by
  unfold mStep
  split
  · rename_i hs
    have hg := mGo_same M k (mS1 M k)
    split
    · rename_i hc
      refine hg.tr (mHit_same _ _ _ _ ?_)
      have hk := (h.same hg)
      rcases hk.2.2.1 _ (tn31 hs) with e | e
      · exact absurd e hc.2
      · exact tn1 (hk.2.2.2 _ (tn9 e))
    · exact hg
  · exact mLet_same _ _ _
theorem mStepL_same {M : Mem} (h : mOK M) : ∀ k, mSame M (mStepL M k)
  | 0 => mSame.rf
  | k + 1 => by
    have ih := mStepL_same h k
    unfold mStepL
    split
    · exact ih.tr (mStep_same (h.same ih) k)
    · exact ih
theorem mMeet_same (M : Mem) (k : Nat) : mSame M (mMeet M k) := by
  unfold mMeet
  split
  · exact (mLet_same _ _ _).tr (mSame.wr34 (by omega))
  · exact mSame.rf
theorem mMeetL_same (M : Mem) : ∀ k, mSame M (mMeetL M k)
  | 0 => mSame.rf
  | k + 1 => (mMeetL_same M k).tr (mMeet_same _ k)
theorem mSil_same (M : Mem) (e : Nat) (he : e < 2) : mSame M (mSil M e) := mSame.wr34 (by omega)
theorem mHush_ok {M : Mem} (h : mOK M) (e : Nat) (he : e < 2) : mOK (mHush M e) ∧ mHush M e 29 = M 29 ∧ mHush M e 31 = M 31 := by
  have h1 := mSil_same M e he
  have h2 : mSame (mSil M e) (wr (mSil M e) 34 (5 + e) 0) := mSame.wr34 (by omega)
  unfold mHush
  split
  · split
    · refine ⟨?_, rfl, rfl⟩
      have hk := (h.same h1).same h2
      refine ⟨hk.1, hk.2.1, hk.2.2.1, fun w hw => ?_⟩
      unfold mLose
      rw [wr_ne (Or.inr (by omega))]
      by_cases hw2 : 7 + w = 7 + tn (mFirst (wr (mSil M e) 34 (5 + e) 0) (nI e))
      · rw [hw2, wr_eq]
        rcases (show e = 0 ∨ e = 1 by omega) with rfl | rfl <;> decide
      · rw [wr_ne (Or.inr hw2)]
        exact hk.2.2.2 w hw
    · exact ⟨(h.same h1).same h2, rfl, rfl⟩
  · exact ⟨h.same h1, rfl, rfl⟩
theorem mGot0_same (M : Mem) : mSame M (mGot0 M) := mSame.wr36.tr mSame.wr36
theorem mB2_same {M : Mem} (h : mOK M) : mSame M (mB2 M) := ((mGot0_same M).tr (mStepL_same (h.same (mGot0_same M)) _)).tr (mMeetL_same _ _)
theorem wr_cell {M : Mem} {k j k' : Nat} {v : Int32} (h : k' ≠ k) : wr M k j v k' = M k' := by unfold wr; rw [if_neg h]
theorem mB3_ok {M : Mem} (h : mOK M) : mOK (mB3 M) ∧ mB3 M 29 = M 29 ∧ mB3 M 31 = M 31 := by
  have h2 := mB2_same h
  unfold mB3
  obtain ⟨a1, a2, a3⟩ := mHush_ok (h.same h2) 0 (by decide)
  obtain ⟨b1, b2, b3⟩ := mHush_ok a1 1 (by decide)
  refine ⟨b1, ?_, ?_⟩
  · rw [b2, a2, h2.1]
  · rw [b3, a3, h2.2.1]
theorem mBeat_ok {M : Mem} (h : mOK M) : mOK (mBeat M) ∧ mBeat M 29 = M 29 ∧ mBeat M 31 = M 31 := by
  obtain ⟨a1, a2, a3⟩ := mB3_ok h
  unfold mBeat
  generalize mB3 M = Q at a1 a2 a3 ⊢
  refine ⟨a1.same (mSame.wr34 (by omega)), ?_, ?_⟩
  · rw [wr_cell (by decide), a2]
  · rw [wr_cell (by decide), a3]
theorem mBeats_ok {M : Mem} (h : mOK M) : ∀ n, mOK (mBeats M n) ∧ mBeats M n 29 = M 29 ∧ mBeats M n 31 = M 31
  | 0 => ⟨h, rfl, rfl⟩
  | n + 1 => by
    obtain ⟨a1, a2, a3⟩ := mBeats_ok h n
    unfold mBeats
    obtain ⟨b1, b2, b3⟩ := mBeat_ok a1
    exact ⟨b1, b2.trans a2, b3.trans a3⟩
