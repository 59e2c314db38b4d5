/-! The model's state functions: pure definitions and facts, without its walks. -/
theorem tn_sm (x : Int32) : tn x < 2 ^ 31 := by
  have h := Int32.toInt_lt x
  show x.toInt.toNat < 2 ^ 31
  omega
theorem mKeep_ok {M : Mem} (h : mOK M) : mOK (mKeep M) := ⟨h.1, h.2.1, h.2.2.1, h.2.2.2⟩
theorem mBest1 (M : Mem) (ld : Int32) : mBestL M ld 1 = 0 := if_neg (fun z => Int32.lt_irrefl z)
theorem mOK.thr {M : Mem} {v : Int32} (h : mOK M) : mOK (wr M 29 0 v) := ⟨h.1, h.2.1, h.2.2.1, h.2.2.2⟩
theorem ix_lt {x c : Int32} (hc : 0 ≤ c) (h : 0 ≤ x ∧ x ≤ c - 1) : tn x < tn c := by
  have a := i_le.mp hc
  have b := i_le.mp h.1
  have d := i_le.mp h.2
  have z := Int32.toInt_lt c
  rw [i_c0] at a b
  rw [Int32.toInt_sub, i_c1, Int.bmod_eq_of_le (by omega) (by omega)] at d
  have e1 := i_tn h.1
  have e2 := i_tn hc
  omega
def mAW (M : Mem) (a e s : Int32) : Mem :=
  wr (wr (wr (wr (wr (wr M 29 0 0) 31 (tn a) (M 29 1)) 32 (tn (M 29 1)) a) 33 (tn (M 29 1)) s) 34 (7 + tn (M 29 1)) e) 29 1 (M 29 1 + 1)
def mSho1 (M : Mem) (a wy ld : Int32) : Mem :=
  wr (wr (wr (wr (wr (wr M 29 0 0) 34 (27 + tn (M 29 2)) ld) 34 (67 + tn (M 29 2)) a) 34 (107 + tn (M 29 2)) wy) 34 (147 + tn (M 29 2)) 0) 29 2 (M 29 2 + 1)
def mSho (M : Mem) (a r ld : Int32) : Mem := mSho1 M a (if r = 0 then -1 else 1) ld
theorem sh_in {M : Mem} (h : mOK M) {k : Nat} (hk : k < mSh M) : 0 ≤ nI k ∧ nI k ≤ M 29 2 - 1 := by
  have hs := h.sh
  have hk : k < tn (M 29 2) := hk
  have hs : tn (M 29 2) ≤ 40 := hs
  refine ⟨nI_pos' (by omega), i_le.mpr ?_⟩
  have a := i_le.mp h.2.1.1
  have e := i_tn h.2.1.1
  have z := Int32.toInt_lt (M 29 2)
  rw [i_c0] at a
  rw [Int32.toInt_sub, i_c1, Int.bmod_eq_of_le (by omega) (by omega), i_nI (by omega)]
  omega
def mLOL (M : Mem) (a : Int32) : Nat → Int32
  | 0 => 0
  | i + 1 => if mLOL M a i < mLA (mBeats M (i + 1)) a then mLA (mBeats M (i + 1)) a else mLOL M a i
def mLW (M : Mem) (a wy th : Int32) : Int32 := if 99 < mLs M th 100 a wy 0 + 1 then -1 else mLs M th 100 a wy 0 + 1
def mMean (M : Mem) : UInt64 := if mMany M = 0 then 0 else FP.ddiv (FP.i2d (mSumL M (mSh M))) (FP.i2d (mMany M))
def mFr (M M' : Mem) : Prop := ∀ k, k ≠ 34 → k ≠ 36 → M' k = M k
theorem mFr.rf {M : Mem} : mFr M M := fun _ _ _ => rfl
theorem mFr.tr {M M' M'' : Mem} (h : mFr M M') (h' : mFr M' M'') : mFr M M'' := fun k a b => (h' k a b).trans (h k a b)
theorem mFr.wr34 {M : Mem} {j : Nat} {v : Int32} : mFr M (wr M 34 j v) := fun _ a _ => wr_cell a
theorem mFr.wr36 {M : Mem} {j : Nat} {v : Int32} : mFr M (wr M 36 j v) := fun _ _ b => wr_cell b
theorem mLet_fr (M : Mem) (k : Nat) (v : Int32) : mFr M (mLet M k v) := mFr.wr34
theorem mGo_fr (M : Mem) (k : Nat) (s : Int32) : mFr M (mGo M k s) := mFr.wr34.tr (mLet_fr _ _ _)
theorem mHit_fr (M : Mem) (k e w : Nat) : mFr M (mHit M k e w) := by
  have h1 : mFr M (mH1 M e) := mFr.wr34
  have h2 : mFr (mH1 M e) (mH2 M e w) := mFr.wr36.tr mFr.wr34
  have h3 : mFr (mH2 M e w) (mH3 M k e w) := mFr.wr34
  have h4 : mFr (mH3 M k e w) (mH4 M k e w) := mFr.wr34
  exact (((h1.tr h2).tr h3).tr h4).tr (mLet_fr _ _ _)
theorem mStep_fr (M : Mem) (k : Nat) : mFr M (mStep M k) := by
  unfold mStep
  split
  · split
    · exact (mGo_fr _ _ _).tr (mHit_fr _ _ _ _)
    · exact mGo_fr _ _ _
  · exact mLet_fr _ _ _
theorem mStepL_fr (M : Mem) : ∀ k, mFr M (mStepL M k)
  | 0 => mFr.rf
  | k + 1 => by
    unfold mStepL
    split
    · exact (mStepL_fr M k).tr (mStep_fr _ _)
    · exact mStepL_fr M k
theorem mMeet_fr (M : Mem) (k : Nat) : mFr M (mMeet M k) := by
  unfold mMeet
  split
  · exact (mLet_fr _ _ _).tr mFr.wr34
  · exact mFr.rf
theorem mMeetL_fr (M : Mem) : ∀ k, mFr M (mMeetL M k)
  | 0 => mFr.rf
  | k + 1 => (mMeetL_fr M k).tr (mMeet_fr _ _)
theorem mHush_fr (M : Mem) (e : Nat) : mFr M (mHush M e) := by
  have h1 : mFr M (mSil M e) := mFr.wr34
  unfold mHush
  split
  · split
    · exact (h1.tr mFr.wr34).tr (mFr.wr34.tr mFr.wr34)
    · exact h1.tr mFr.wr34
  · exact h1
theorem mB3_fr (M : Mem) : mFr M (mB3 M) := by
  have h0 : mFr M (mGot0 M) := mFr.wr36.tr mFr.wr36
  have h1 : mFr M (mB1 M) := h0.tr (mStepL_fr _ _)
  have h2 : mFr M (mB2 M) := h1.tr (mMeetL_fr _ _)
  unfold mB3
  exact (h2.tr (mHush_fr _ _)).tr (mHush_fr _ _)
theorem mBeat_fr (M : Mem) : mFr M (mBeat M) := by
  unfold mBeat
  exact (mB3_fr M).tr mFr.wr34
theorem mBeats_fr (M : Mem) : ∀ n, mFr M (mBeats M n)
  | 0 => mFr.rf
  | n + 1 => by
    unfold mBeats
    exact (mBeats_fr M n).tr (mBeat_fr _)
/-- a look: beats on the kept, and back -/
def mLook (M : Mem) (n : Nat) : Mem := mBack (mBeats (mKeep M) n)
theorem mLook_cell (M : Mem) (n : Nat) {k : Nat} (h : k ≠ 34 ∧ k ≠ 35 ∧ k ≠ 36) : mLook M n k = M k := by
  unfold mLook
  have e := mBeats_fr (mKeep M) n k h.1 h.2.2
  generalize mBeats (mKeep M) n = Q at e ⊢
  show (if k = 34 then _ else Q k) = _
  rw [if_neg h.1, e]
  show (if k = 35 then _ else M k) = _
  rw [if_neg h.2.1]
theorem mLook_now (M : Mem) (n : Nat) {j : Nat} (h : j < 187) : mLook M n 34 j = M 34 j := by
  unfold mLook
  have e := mBeats_fr (mKeep M) n 35 (by decide) (by decide)
  generalize mBeats (mKeep M) n = Q at e ⊢
  show cpn (Q 35) (Q 34) 187 j = _
  rw [e]
  show (if j < 187 then (cpn (M 34) (M 35) 187) j else _) = _
  rw [if_pos h]
  show (if j < 187 then _ else _) = _
  rw [if_pos h]
theorem mLook_ok {M : Mem} (h : mOK M) (n : Nat) : mOK (mLook M n) := by
  obtain ⟨h1, h2, h3, h4⟩ := h
  have a := mLook_cell M n (k := 29) ⟨by decide, by decide, by decide⟩
  have b := mLook_cell M n (k := 31) ⟨by decide, by decide, by decide⟩
  exact ⟨by rw [a]; exact h1, by rw [a]; exact h2, by rw [b]; exact h3, fun w hw => by rw [mLook_now M n (by omega)]; exact h4 w hw⟩
theorem mLook_ok2 {M : Mem} (h : mOK2 M) (n : Nat) : mOK2 (mLook M n) := by
  have a := mLook_cell M n (k := 30) ⟨by decide, by decide, by decide⟩
  have b := mLook_cell M n (k := 33) ⟨by decide, by decide, by decide⟩
  exact ⟨by rw [a]; exact h.1, by rw [b]; exact h.2⟩
theorem mOK.wr38 {M : Mem} {j : Nat} {v : Int32} (h : mOK M) : mOK (wr M 38 j v) := ⟨h.1, h.2.1, h.2.2.1, h.2.2.2⟩
theorem mOK2.wr38 {M : Mem} {j : Nat} {v : Int32} (h : mOK2 M) : mOK2 (wr M 38 j v) := ⟨h.1, h.2⟩
theorem mOK.thr2 {M : Mem} (h : mOK M) : mOK (wr M 29 0 0) := ⟨h.1, h.2.1, h.2.2.1, h.2.2.2⟩

def mx (d : Int64) (x : Int32) : Int64 := d * 31 + x.toInt64
def mDA (c : Nat → Int32) : Nat → Int64
  | 0 => 2309
  | i + 1 => mx (mDA c i) (c i)
def mErn (M : Mem) (e : Nat) : Int32 := mBeats (mKeep M) (tn 20) 34 (3 + e) - mBack (mBeats (mKeep M) (tn 20)) 34 (3 + e)
def mEM (M : Mem) : Nat → Mem
  | 0 => M
  | e + 1 => mBack (mBeats (mKeep (mEM M e)) (tn 20))
def mDB (d : Int64) (M : Mem) : Nat → Int64
  | 0 => d
  | e + 1 => mx (mx (mx (mx (mDB d M e) (mEM M e 34 (3 + e))) (mWO (mEM M e) (nI e))) (mEM M e 34 (5 + e))) (mErn (mEM M e) e)
def mDC (d : Int64) (M : Mem) : Nat → Int64
  | 0 => d
  | w + 1 => mx (mx (mx (mDC d M w) (M 32 w)) (M 34 (7 + w))) (M 34 (17 + w))
def mDD (d : Int64) (M : Mem) : Nat → Int64
  | 0 => d
  | k + 1 => mx (mx (mx (mx (mDD d M k) (M 34 (27 + k))) (mPl M k)) (b2i (mRt M k))) (M 34 (147 + k))
def mDE (d : Int64) (M : Mem) : Nat → Int64
  | 0 => d
  | s + 1 => mx (mx (mx (mDE d M s) (M 30 s)) (mLA M (nI s))) (mNx M 1 34 (nI s + 1))
theorem mEM_ok {M : Mem} (h : mOK M) : ∀ e, mOK (mEM M e) ∧ mEM M e 29 = M 29
  | 0 => ⟨h, rfl⟩
  | e + 1 => by
    obtain ⟨a1, a2⟩ := mEM_ok h e
    exact ⟨mLook_ok a1 (tn 20), (mLook_cell (mEM M e) (tn 20) ⟨by decide, by decide, by decide⟩).trans a2⟩
def dg0 (M : Mem) : Mem := wrc (wr M 29 0 0) 38 (fun _ => 0)
def dg1 (M : Mem) : Mem := wr (dg0 M) 38 0 (dg0 M 34 0)
def dg2 (M : Mem) : Mem := wr (dg1 M) 38 1 (dg1 M 29 1)
def dg3 (M : Mem) : Mem := wr (dg2 M) 38 2 (dg2 M 29 2)
def dg4 (M : Mem) : Mem := wr (dg3 M) 38 3 (mMany (dg3 M))
def dg5 (M : Mem) : Mem := wr (dg4 M) 38 4 (dg4 M 34 1)
def dg6 (M : Mem) : Mem := wr (dg5 M) 38 5 (dg5 M 34 2)
def dg7 (M : Mem) (t : Nat) : Mem := wr (mLook (dg6 M) t) 38 6 (nI t)
def dg8 (M : Mem) (t : Nat) : Mem := wr (dg7 M t) 38 7 (mBest (dg7 M t) 30)
def mDig (M : Mem) : Int64 := mDE (mDD (mDC (mDB (mDA (M 38) 8) M 2) (mEM M 2) (mWs (mEM M 2))) (mEM M 2) (mSh (mEM M 2))) (mEM M 2) 32
theorem dg3_ok {M : Mem} (h : mOK M) : mOK (dg3 M) := (show mOK (dg0 M) from ⟨h.1, h.2.1, h.2.2.1, h.2.2.2⟩).wr38.wr38.wr38
theorem dg6_ok {M : Mem} (h : mOK M) : mOK (dg6 M) := (dg3_ok h).wr38.wr38.wr38
theorem dg7_ok {M : Mem} (h : mOK M) (t : Nat) : mOK (dg7 M t) := (mLook_ok (dg6_ok h) t).wr38
theorem dg7_ok2 {M : Mem} (h : mOK2 M) (t : Nat) : mOK2 (dg7 M t) := (mLook_ok2 (show mOK2 (dg6 M) from ⟨h.1, h.2⟩) t).wr38
theorem dg8_ok {M : Mem} (h : mOK M) (t : Nat) : mOK (dg8 M t) := (dg7_ok h t).wr38
theorem x_top {X : XT} {g : GT} {kc ks pc : Nat} {lo : List (Nat × Value)} {st : List Value} {M : Mem} {v v' : Value} (h : v = v') (k : V X g kc ks pc lo (v' :: st) M) : V X g kc ks pc lo (v :: st) M := h ▸ k
