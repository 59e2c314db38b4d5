/-! What a beat does, as the law asks it. -/
theorem beat_lives {P : Mem} (h : PK P) {k : Nat} (hk : k < mSh P) (hl : 0 < mBeat P 34 (27 + k)) : 0 < P 34 (27 + k) := Classical.byContradiction (fun z => by
  rw [(beat_quieter h hk).1 z] at hl
  exact z hl)
theorem beat_dead {P : Mem} (h : PK P) {k : Nat} (hk : k < mSh P) (hl : ¬ 0 < P 34 (27 + k)) : rw4 (mBeat P) k = rw4 P k := by
  have es : sR P (rw4 P k) = rw4 P k := sR_dead hl
  rw [mBeat_row h hk, es, if_neg (fun z => hl z.1)]
/-- of a shout that is still heard -/
theorem beat_live {P : Mem} (h : PK P) {k : Nat} (hk : k < mSh P) (hl : 0 < mBeat P 34 (27 + k)) : rw4 (mBeat P) k = sR P (rw4 P k) := by
  have e := mBeat_row h hk
  by_cases c : 0 < (sR P (rw4 P k)).1 ∧ mLoudest (mB1 P) (sR P (rw4 P k)).2.1 ≠ nI k
  · rw [if_pos c] at e
    have e1 : mBeat P 34 (27 + k) = 0 := congrArg Prod.fst e
    rw [e1] at hl
    exact absurd hl (by decide)
  · rw [if_neg c] at e
    exact e
theorem lv_gr {P : Mem} (h : PK P) {k : Nat} (hk : k < mSh P) (hl : 0 < P 34 (27 + k)) : GR (rw4 P k) := ⟨(h.lv hk).1.2, ((h.lv hk).2 hl).1, ((h.lv hk).2 hl).2⟩
theorem beat_go {P : Mem} (h : PK P) {k : Nat} (hk : k < mSh P) (hl : 0 < mBeat P 34 (27 + k)) : (0 ≤ mBeat P 34 (67 + k) ∧ mBeat P 34 (67 + k) ≤ 31) ∧ mBeat P 34 (67 + k) = P 34 (67 + k) + P 34 (107 + k) ∧
    ((P 31 (tn (mBeat P 34 (67 + k))) = -1 ∧ mBeat P 34 (107 + k) = P 34 (107 + k) ∧ mBeat P 34 (147 + k) = P 34 (147 + k)) ∨ (P 31 (tn (mBeat P 34 (67 + k))) ≠ -1 ∧ mBeat P 34 (107 + k) = -P 34 (107 + k) ∧ mBeat P 34 (147 + k) = P 34 (147 + k) + 1)) := by
  have l0 := beat_lives h hk hl
  have e := beat_live h hk hl
  have e1 : mBeat P 34 (27 + k) = (sR P (rw4 P k)).1 := congrArg Prod.fst e
  have e2 : mBeat P 34 (67 + k) = (sR P (rw4 P k)).2.1 := congrArg (fun r : Rw4 => r.2.1) e
  have e3 : mBeat P 34 (107 + k) = (sR P (rw4 P k)).2.2.1 := congrArg (fun r : Rw4 => r.2.2.1) e
  have e4 : mBeat P 34 (147 + k) = (sR P (rw4 P k)).2.2.2 := congrArg (fun r : Rw4 => r.2.2.2) e
  rcases sR_cases h (show 0 < (rw4 P k).1 from l0) (lv_gr h hk l0) (s := P 34 (67 + k) + P 34 (107 + k)) rfl with ⟨c, e9⟩ | ⟨c, c2, e9⟩ | ⟨c, c2, c3, e9, hg'⟩ | ⟨c, c2, c3, c4, e9, hg'⟩
  · rw [e1, e9] at hl
    exact absurd (show (0 : Int32) < 0 from hl) (by decide)
  · rw [e1, e9] at hl
    exact absurd (show (0 : Int32) < 0 from hl) (by decide)
  · rw [e2, e3, e4, e9]
    exact ⟨c, rfl, Or.inl ⟨c3, rfl, rfl⟩⟩
  · rw [e2, e3, e4, e9]
    exact ⟨c, rfl, Or.inr ⟨c3, rfl, rfl⟩⟩
theorem beat_turn {P : Mem} (h : PK P) {k : Nat} (hk : k < mSh P) : mBeat P 34 (147 + k) = P 34 (147 + k) ∨ mBeat P 34 (147 + k) = P 34 (147 + k) + 1 := by
  have key : (sR P (rw4 P k)).2.2.2 = P 34 (147 + k) ∨ (sR P (rw4 P k)).2.2.2 = P 34 (147 + k) + 1 := by
    unfold sR
    split
    · split
      · split
        · exact Or.inr rfl
        · exact Or.inl rfl
      · exact Or.inl rfl
    · exact Or.inl rfl
  have e := congrArg (fun r : Rw4 => r.2.2.2) (mBeat_row h hk)
  have e : mBeat P 34 (147 + k) = _ := e
  rw [e]
  split
  · exact key
  · exact key
theorem beat_way {w : Int32} (h : w = 1 ∨ w = -1) : (0 < -w ↔ ¬ 0 < w) := by
  rcases h with rfl | rfl <;> decide
/-- how many are gone by a beat -/
def goneN (f h : Nat → Int32) : Nat → Nat
  | 0 => 0
  | n + 1 => goneN f h n + (if 0 < f n ∧ ¬ 0 < h n then 1 else 0)
theorem goneN_le (f h : Nat → Int32) : ∀ n, goneN f h n ≤ n
  | 0 => Nat.le_refl 0
  | n + 1 => by
    have := goneN_le f h n
    unfold goneN
    split <;> omega
theorem goneN_is {f h : Nat → Int32} : ∀ n, (∀ k, k < n → 0 < h k → 0 < f k) → goneN f h n + liveN h n = liveN f n
  | 0, _ => rfl
  | n + 1, e => by
    have ih := goneN_is n (fun k hk => e k (by omega))
    unfold goneN liveN
    by_cases c : 0 < h n
    · rw [if_neg (fun z => z.2 c), if_pos c, if_pos (e n (by omega) c)]
      omega
    · by_cases c2 : 0 < f n
      · rw [if_pos ⟨c2, c⟩, if_neg c, if_pos c2]
        omega
      · rw [if_neg (fun z => c2 z.1), if_neg c, if_neg c2]
        omega
theorem stepL_1 {P : Mem} (h : PK P) : ∀ n, n ≤ 40 → mStepL P n 34 1 = P 34 1 ∧ mStepL P n 34 2 = P 34 2 ∧ (∀ e, e < 2 → mStepL P n 34 (5 + e) = P 34 (5 + e)) ∧ ∀ w, w < 10 → mStepL P n 34 (7 + w) = P 34 (7 + w)
  | 0, _ => ⟨rfl, rfl, fun _ _ => rfl, fun _ _ => rfl⟩
  | n + 1, hn => by
    obtain ⟨i1, i2, i3, i4⟩ := stepL_1 h n (by omega)
    have pq := h.stepL n (by omega)
    unfold mStepL
    split
    · rename_i c
      have key : ∀ j, j ≠ 3 → j ≠ 4 → j < 17 → mStep (mStepL P n) n 34 j = mStepL P n 34 j := fun j h3 h4 h5 => by
        rcases ms_cases pq (by omega) c with ⟨c, e⟩ | ⟨c, c2, e⟩ | ⟨e1, w, c, c1, c2, c3, hw10, c4, c5, he2, e⟩
        · rw [e, wr_ne (by omega)]
        · rw [e, wr_ne (by omega), wr_ne (by omega)]
        · rw [e, wr_ne (by omega), wr_ne (by omega), wr_ne (by omega), wr_ne (by omega), wr_ne (by omega), wr_ne (by omega), wr_ne (by omega)]
      exact ⟨by rw [key 1 (by omega) (by omega) (by omega)]; exact i1, by rw [key 2 (by omega) (by omega) (by omega)]; exact i2, fun e he => by rw [key _ (by omega) (by omega) (by omega)]; exact i3 e he, fun w hw => by rw [key _ (by omega) (by omega) (by omega)]; exact i4 w hw⟩
    · exact ⟨i1, i2, i3, i4⟩
theorem mGot0_34 (P : Mem) : mGot0 P 34 = P 34 := by show wr (wr P 36 0 0) 36 1 0 34 = _; rw [wr_cell (by decide), wr_cell (by decide)]
theorem mB1_1 {P : Mem} (h : PK P) : mB1 P 34 1 = P 34 1 ∧ mB1 P 34 2 = P 34 2 ∧ (∀ e, e < 2 → mB1 P 34 (5 + e) = P 34 (5 + e)) ∧ ∀ w, w < 10 → mB1 P 34 (7 + w) = P 34 (7 + w) := by
  obtain ⟨a1, a2, a3, a4⟩ := stepL_1 h.got0 (mSh P) h.1.sh
  rw [mGot0_34] at a1 a2 a3 a4
  exact ⟨a1, a2, a3, a4⟩
theorem mB2_1 {P : Mem} (h : PK P) : mB2 P 34 2 = P 34 2 ∧ (∀ e, e < 2 → mB2 P 34 (5 + e) = P 34 (5 + e)) ∧ ∀ w, w < 10 → mB2 P 34 (7 + w) = P 34 (7 + w) := by
  obtain ⟨p1, n1, n2⟩ := h.b1
  obtain ⟨m1, m2, m3, m4⟩ := mm_all p1.1 (mSh P) (by omega)
  obtain ⟨a1, a2, a3, a4⟩ := mB1_1 h
  exact ⟨(m3 2 (by omega) (by omega)).trans a2, fun e he => (m3 _ (by omega) (by omega)).trans (a3 e he), fun w hw => (m3 _ (by omega) (by omega)).trans (a4 w hw)⟩
/-- overlaps grow by no more than are gone -/
theorem beat_over {P : Mem} (h : PK P) : ∃ d, d ≤ goneN (lvF P) (lvF (mBeat P)) (mSh P) ∧ mBeat P 34 1 = P 34 1 + nI d := by
  obtain ⟨p1, n1, n2⟩ := h.b1
  have hsh := h.1.sh
  obtain ⟨m1, m2, m3, m4⟩ := mm_all p1.1 (mSh P) (by omega)
  have h2 : PK (mB2 P) := p1.meetL _ h.1.sh
  have e1 : mBeat P 34 1 = mB2 P 34 1 := by
    show wr (mB3 P) 34 0 _ 34 1 = _
    rw [wr_ne (by omega)]
    show mHush (mHush (mB2 P) 0) 1 34 1 = _
    rw [mHush_34 _ 1 _ (h2.hush (by decide)) (by decide) (by omega), mHush_34 _ 0 _ h2 (by decide) (by omega)]
  have e27 : ∀ k, mBeat P 34 (27 + k) = mB2 P 34 (27 + k) := fun k => mBeat_34 h (by omega)
  have hz2 : ∀ k, k < 40 → mSh P ≤ k → mB2 P 34 (27 + k) = P 34 (27 + k) := fun k hk hm => by
    show mMeetL (mB1 P) (mSh P) 34 (27 + k) = _
    rw [m1 k hk, if_neg (fun z => absurd z.1 (by omega))]
    exact (congrArg Prod.fst (mStepL_row h.got0 hk (mSh P) hsh)).trans (by rw [if_neg (by omega)]; show mGot0 P 34 (27 + k) = _; rw [mGot0_34])
  have hz1 : ∀ k, k < 40 → mSh P ≤ k → mB1 P 34 (27 + k) = P 34 (27 + k) := fun k hk hm => 
    (congrArg Prod.fst (mStepL_row h.got0 hk (mSh P) hsh)).trans (by rw [if_neg (by omega)]; show mGot0 P 34 (27 + k) = _; rw [mGot0_34])
  have l1 : liveN (lvF (mB1 P)) 40 ≤ liveN (lvF P) 40 := liveN_mono 40 (fun k hk hl => by
    by_cases c : k < mSh P
    · refine Classical.byContradiction (fun z => z ?_)
      have e := congrArg Prod.fst (mB1_row h c)
      rw [sR_dead (show ¬ 0 < (rw4 P k).1 from z)] at e
      have e : mB1 P 34 (27 + k) = P 34 (27 + k) := e
      have hl : 0 < mB1 P 34 (27 + k) := hl
      rw [e] at hl
      exact hl
    · have hl : 0 < mB1 P 34 (27 + k) := hl
      rw [hz1 k hk (by omega)] at hl
      exact hl)
  have g2 := goneN_is (f := lvF P) (h := lvF (mBeat P)) (mSh P) (fun k hk hl => beat_lives h hk hl)
  have l2 : liveN (lvF (mB2 P)) 40 = liveN (lvF (mBeat P)) 40 := liveN_ext 40 (fun k hk => (e27 k).symm)
  have tail : ∀ n, mSh P ≤ n → n ≤ 40 → liveN (lvF P) n + liveN (lvF (mBeat P)) (mSh P) = liveN (lvF (mBeat P)) n + liveN (lvF P) (mSh P) := by
    intro n
    induction n with
    | zero =>
      intro h1 _
      rw [show mSh P = 0 by omega]
      exact Nat.add_comm _ _
    | succ n ih =>
      intro h1 h2
      by_cases c : mSh P = n + 1
      · rw [c]
        omega
      · have := ih (by omega) (by omega)
        have e : lvF (mBeat P) n = lvF P n := (e27 n).trans (hz2 n (by omega) (by omega))
        have u1 : liveN (lvF P) (n + 1) = liveN (lvF P) n + (if 0 < lvF P n then 1 else 0) := rfl
        have u2 : liveN (lvF (mBeat P)) (n + 1) = liveN (lvF (mBeat P)) n + (if 0 < lvF (mBeat P) n then 1 else 0) := rfl
        rw [u1, u2, e]
        omega
  have t40 := tail 40 hsh (Nat.le_refl _)
  have m4 : mB2 P 34 1 + nI (liveN (lvF (mB2 P)) 40) = mB1 P 34 1 + nI (liveN (lvF (mB1 P)) 40) := m4
  have l3 : liveN (lvF (mB2 P)) 40 ≤ liveN (lvF (mB1 P)) 40 := liveN_mono 40 (fun k hk hl => by
    have hl : 0 < mMeetL (mB1 P) (mSh P) 34 (27 + k) := hl
    rw [m1 k hk] at hl
    split at hl
    · exact absurd hl (by decide)
    · exact hl)
  refine ⟨liveN (lvF (mB1 P)) 40 - liveN (lvF (mB2 P)) 40, by omega, ?_⟩
  rw [e1, ← (mB1_1 h).1]
  have e9 : nI (liveN (lvF (mB1 P)) 40 - liveN (lvF (mB2 P)) 40) + nI (liveN (lvF (mB2 P)) 40) = nI (liveN (lvF (mB1 P)) 40) := by
    have := nI_add (liveN (lvF (mB1 P)) 40 - liveN (lvF (mB2 P)) 40) (liveN (lvF (mB2 P)) 40)
    rw [this, Nat.sub_add_cancel l3]
  rw [← e9] at m4
  grind
