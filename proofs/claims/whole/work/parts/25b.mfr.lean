/-! What the model's methods leave as it was. -/
def mFr (M M' : Mem) : Prop := ∀ k, k ≠ 34 → k ≠ 36 → M' k = M k
theorem mFr.rf {M : Mem} : mFr M M := fun _ _ _ => rfl
theorem mFr.tr {M M' M'' : Mem} (h : mFr M M') (h' : mFr M' M'') : mFr M M'' := fun k a b => (h' k a b).trans (h k a b)
theorem mFr.wr34 {M : Mem} {j : Nat} {v : Int32} : mFr M (wr M 34 j v) := fun _ a _ => wr_cell a
theorem mFr.wr36 {M : Mem} {j : Nat} {v : Int32} : mFr M (wr M 36 j v) := fun _ _ b => wr_cell b
theorem mLet_fr (M : Mem) (k : Nat) (v : Int32) : mFr M (mLet M k v) := mFr.wr34
theorem mGo_fr (M : Mem) (k : Nat) (s : Int32) : mFr M (mGo M k s) := mFr.wr34.tr (mLet_fr _ _ _)
theorem mHit_fr (M : Mem) (k e w : Nat) : mFr M (mHit M k e w) := by
  have h1 : mFr M (mH1 M e) := mFr.wr34
  have h2 : mFr (mH1 M e) (mH2 M e w) := mFr.wr36.tr mFr.wr34
  have h3 : mFr (mH2 M e w) (mH3 M k e w) := mFr.wr34
  have h4 : mFr (mH3 M k e w) (mH4 M k e w) := mFr.wr34
  exact (((h1.tr h2).tr h3).tr h4).tr (mLet_fr _ _ _)
theorem mStep_fr (M : Mem) (k : Nat) : mFr M (mStep M k) := by
  unfold mStep
  split
  · split
    · exact (mGo_fr _ _ _).tr (mHit_fr _ _ _ _)
    · exact mGo_fr _ _ _
  · exact mLet_fr _ _ _
theorem mStepL_fr (M : Mem) : ∀ k, mFr M (mStepL M k)
  | 0 => mFr.rf
  | k + 1 => by
    unfold mStepL
    split
    · exact (mStepL_fr M k).tr (mStep_fr _ _)
    · exact mStepL_fr M k
theorem mMeet_fr (M : Mem) (k : Nat) : mFr M (mMeet M k) := by
  unfold mMeet
  split
  · exact (mLet_fr _ _ _).tr mFr.wr34
  · exact mFr.rf
theorem mMeetL_fr (M : Mem) : ∀ k, mFr M (mMeetL M k)
  | 0 => mFr.rf
  | k + 1 => (mMeetL_fr M k).tr (mMeet_fr _ _)
theorem mHush_fr (M : Mem) (e : Nat) : mFr M (mHush M e) := by
  have h1 : mFr M (mSil M e) := mFr.wr34
  unfold mHush
  split
  · split
    · exact (h1.tr mFr.wr34).tr (mFr.wr34.tr mFr.wr34)
    · exact h1.tr mFr.wr34
  · exact h1
theorem mB3_fr (M : Mem) : mFr M (mB3 M) := by
  have h0 : mFr M (mGot0 M) := mFr.wr36.tr mFr.wr36
  have h1 : mFr M (mB1 M) := h0.tr (mStepL_fr _ _)
  have h2 : mFr M (mB2 M) := h1.tr (mMeetL_fr _ _)
  unfold mB3
  exact (h2.tr (mHush_fr _ _)).tr (mHush_fr _ _)
theorem mBeat_fr (M : Mem) : mFr M (mBeat M) := by
  unfold mBeat
  exact (mB3_fr M).tr mFr.wr34
theorem mBeats_fr (M : Mem) : ∀ n, mFr M (mBeats M n)
  | 0 => mFr.rf
  | n + 1 => by
    unfold mBeats
    exact (mBeats_fr M n).tr (mBeat_fr _)
/-- a look: beats on the kept, and back -/
def mLook (M : Mem) (n : Nat) : Mem := mBack (mBeats (mKeep M) n)
theorem mLook_cell (M : Mem) (n : Nat) {k : Nat} (h : k ≠ 34 ∧ k ≠ 35 ∧ k ≠ 36) : mLook M n k = M k := by
  unfold mLook
  have e := mBeats_fr (mKeep M) n k h.1 h.2.2
  generalize mBeats (mKeep M) n = Q at e ⊢
  show (if k = 34 then _ else Q k) = _
  rw [if_neg h.1, e]
  show (if k = 35 then _ else M k) = _
  rw [if_neg h.2.1]
theorem mLook_now (M : Mem) (n : Nat) {j : Nat} (h : j < 187) : mLook M n 34 j = M 34 j := by
  unfold mLook
  have e := mBeats_fr (mKeep M) n 35 (by decide) (by decide)
  generalize mBeats (mKeep M) n = Q at e ⊢
  show cpn (Q 35) (Q 34) 187 j = _
  rw [e]
  show (if j < 187 then (cpn (M 34) (M 35) 187) j else _) = _
  rw [if_pos h]
  show (if j < 187 then _ else _) = _
  rw [if_pos h]
theorem mLook_ok {M : Mem} (h : mOK M) (n : Nat) : mOK (mLook M n) := by
  obtain ⟨h1, h2, h3, h4⟩ := h
  have a := mLook_cell M n (k := 29) ⟨by decide, by decide, by decide⟩
  have b := mLook_cell M n (k := 31) ⟨by decide, by decide, by decide⟩
  exact ⟨by rw [a]; exact h1, by rw [a]; exact h2, by rw [b]; exact h3, fun w hw => by rw [mLook_now M n (by omega)]; exact h4 w hw⟩
theorem mLook_ok2 {M : Mem} (h : mOK2 M) (n : Nat) : mOK2 (mLook M n) := by
  have a := mLook_cell M n (k := 30) ⟨by decide, by decide, by decide⟩
  have b := mLook_cell M n (k := 33) ⟨by decide, by decide, by decide⟩
  exact ⟨by rw [a]; exact h.1, by rw [b]; exact h.2⟩
theorem mOK.wr38 {M : Mem} {j : Nat} {v : Int32} (h : mOK M) : mOK (wr M 38 j v) := ⟨h.1, h.2.1, h.2.2.1, h.2.2.2⟩
theorem mOK2.wr38 {M : Mem} {j : Nat} {v : Int32} (h : mOK2 M) : mOK2 (wr M 38 j v) := ⟨h.1, h.2⟩
theorem mOK.thr2 {M : Mem} (h : mOK M) : mOK (wr M 29 0 0) := ⟨h.1, h.2.1, h.2.2.1, h.2.2.2⟩
