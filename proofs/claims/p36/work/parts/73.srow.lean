/-! A shout's row over a beat. -/
abbrev Rw4 : Type := Int32 × Int32 × Int32 × Int32
def rw4 (P : Mem) (k : Nat) : Rw4 := (P 34 (27 + k), P 34 (67 + k), P 34 (107 + k), P 34 (147 + k))
theorem rw4_1 (P : Mem) (k : Nat) : (rw4 P k).1 = P 34 (27 + k) ∧ (rw4 P k).2.1 = P 34 (67 + k) ∧ (rw4 P k).2.2.1 = P 34 (107 + k) ∧ (rw4 P k).2.2.2 = P 34 (147 + k) := ⟨rfl, rfl, rfl, rfl⟩
def sLd (P : Mem) (l s : Int32) : Int32 := if 0 < l - 1 - P 30 (tn s) then l - 1 - P 30 (tn s) else 0
def sSk (P : Mem) (l s : Int32) : Int32 := if 0 < sLd P l s - P 33 (tn (P 31 (tn s))) then sLd P l s - P 33 (tn (P 31 (tn s))) else 0
def sR (P : Mem) (r : Rw4) : Rw4 :=
  if 0 < r.1 then
    (if 0 ≤ r.2.1 + r.2.2.1 ∧ r.2.1 + r.2.2.1 ≤ 31 then
      (if 0 < sLd P r.1 (r.2.1 + r.2.2.1) ∧ P 31 (tn (r.2.1 + r.2.2.1)) ≠ -1 then (sSk P r.1 (r.2.1 + r.2.2.1), r.2.1 + r.2.2.1, -r.2.2.1, r.2.2.2 + 1) else (sLd P r.1 (r.2.1 + r.2.2.1), r.2.1 + r.2.2.1, r.2.2.1, r.2.2.2))
    else (0, r.2.1, r.2.2.1, r.2.2.2))
  else r
theorem rw4_ext {P Q : Mem} {k : Nat} (h : Q 34 (27 + k) = P 34 (27 + k) ∧ Q 34 (67 + k) = P 34 (67 + k) ∧ Q 34 (107 + k) = P 34 (107 + k) ∧ Q 34 (147 + k) = P 34 (147 + k)) : rw4 Q k = rw4 P k := by
  unfold rw4
  rw [h.1, h.2.1, h.2.2.1, h.2.2.2]
theorem sR_ext {P Q : Mem} (h30 : Q 30 = P 30) (h31 : Q 31 = P 31) (h33 : Q 33 = P 33) (r : Rw4) : sR Q r = sR P r := by
  unfold sR sSk sLd
  rw [h30, h31, h33]
/-- a live shout's step: its own row, no other -/
theorem mStep_row {Q : Mem} (h : PK Q) {k : Nat} (hk : k < 40) (hl : 0 < Q 34 (27 + k)) : rw4 (mStep Q k) k = sR Q (rw4 Q k) ∧ ∀ j, j ≠ k → j < 40 → rw4 (mStep Q k) j = rw4 Q j := by
  have e0 : sR Q (rw4 Q k) = if 0 ≤ mS1 Q k ∧ mS1 Q k ≤ 31 then (if 0 < mLd Q k (mS1 Q k) ∧ Q 31 (tn (mS1 Q k)) ≠ -1 then (sSk Q (Q 34 (27 + k)) (mS1 Q k), mS1 Q k, -(Q 34 (107 + k)), Q 34 (147 + k) + 1) else (mLd Q k (mS1 Q k), mS1 Q k, Q 34 (107 + k), Q 34 (147 + k))) else (0, Q 34 (67 + k), Q 34 (107 + k), Q 34 (147 + k)) := by
    unfold sR
    rw [if_pos (show 0 < (rw4 Q k).1 from hl)]
    rfl
  rcases ms_cases h hk hl with ⟨c, e⟩ | ⟨c, c2, e⟩ | ⟨e1, w, c, c1, c2, c3, hw10, c4, c5, he2, e⟩
  · rw [e0, if_neg c, e]
    refine ⟨?_, fun j hj hj4 => rw4_ext ⟨wr_ne (by omega), wr_ne (by omega), wr_ne (by omega), wr_ne (by omega)⟩⟩
    unfold rw4
    rw [wr_eq, wr_ne (by omega), wr_ne (by omega), wr_ne (by omega)]
  · rw [e0, if_pos c, if_neg c2, e]
    refine ⟨?_, fun j hj hj4 => rw4_ext ⟨by rw [wr_ne (by omega), wr_ne (by omega)], by rw [wr_ne (by omega), wr_ne (by omega)], by rw [wr_ne (by omega), wr_ne (by omega)], by rw [wr_ne (by omega), wr_ne (by omega)]⟩⟩
    unfold rw4
    rw [wr_eq, wr_ne (by omega), wr_eq, wr_ne (by omega), wr_ne (by omega), wr_ne (by omega), wr_ne (by omega)]
  · have e31 : Q 31 (tn (mS1 Q k)) ≠ -1 := by rw [c2]; exact nI_m1 (by omega)
    have ew : tn (Q 31 (tn (mS1 Q k))) = w := by rw [c2, tn_nI (by omega)]
    rw [e0, if_pos c, if_pos ⟨c1, e31⟩]
    have r : ∀ i, i ≠ 27 + k → i ≠ 107 + k → i ≠ 147 + k → i ≠ 67 + k → 27 ≤ i → mStep Q k 34 i = Q 34 i := fun i h1 h2 h3 h4 h5 => by
      rw [e, wr_ne (by omega), wr_ne (by omega), wr_ne (by omega), wr_ne (by omega), wr_ne (by omega), wr_ne (by omega), wr_ne (by omega)]
    refine ⟨?_, fun j hj hj4 => rw4_ext ⟨r _ (by omega) (by omega) (by omega) (by omega) (by omega), r _ (by omega) (by omega) (by omega) (by omega) (by omega), r _ (by omega) (by omega) (by omega) (by omega) (by omega), r _ (by omega) (by omega) (by omega) (by omega) (by omega)⟩⟩
    have a1 : mStep Q k 34 (27 + k) = sSk Q (Q 34 (27 + k)) (mS1 Q k) := by
      rw [e, wr_eq]
      unfold sSk
      rw [ew]
      rfl
    have a2 : mStep Q k 34 (67 + k) = mS1 Q k := by rw [e, wr_ne (by omega), wr_ne (by omega), wr_ne (by omega), wr_ne (by omega), wr_ne (by omega), wr_ne (by omega), wr_eq]
    have a3 : mStep Q k 34 (107 + k) = -(Q 34 (107 + k)) := by rw [e, wr_ne (by omega), wr_eq]
    have a4 : mStep Q k 34 (147 + k) = Q 34 (147 + k) + 1 := by rw [e, wr_ne (by omega), wr_ne (by omega), wr_eq]
    unfold rw4
    rw [a1, a2, a3, a4]
theorem mStepL_row {P : Mem} (h : PK P) {k : Nat} (hk : k < 40) : ∀ n, n ≤ 40 → rw4 (mStepL P n) k = if k < n then sR P (rw4 P k) else rw4 P k
  | 0, _ => by rw [if_neg (by omega)]; rfl
  | n + 1, hn => by
    have ih := mStepL_row h hk n (by omega)
    have pq := h.stepL n (by omega)
    have f30 := mStepL_fr P n 30 (by decide) (by decide)
    have f31 := mStepL_fr P n 31 (by decide) (by decide)
    have f33 := mStepL_fr P n 33 (by decide) (by decide)
    have eS : mStepL P (n + 1) = if 0 < mStepL P n 34 (27 + n) then mStep (mStepL P n) n else mStepL P n := rfl
    rw [eS]
    by_cases c : 0 < mStepL P n 34 (27 + n)
    · rw [if_pos c]
      obtain ⟨a, b⟩ := mStep_row pq (show n < 40 by omega) c
      by_cases e : k = n
      · subst e
        rw [a, if_pos (by omega), sR_ext f30 f31 f33, ih, if_neg (by omega)]
      · rw [b k e hk, ih]
        by_cases e2 : k < n
        · rw [if_pos e2, if_pos (by omega)]
        · rw [if_neg e2, if_neg (by omega)]
    · rw [if_neg c, ih]
      by_cases e : k = n
      · subst e
        rw [if_neg (by omega), if_pos (by omega)]
        have e1 : rw4 (mStepL P k) k = rw4 P k := by rw [ih, if_neg (by omega)]
        have e2 : mStepL P k 34 (27 + k) = P 34 (27 + k) := congrArg Prod.fst e1
        unfold sR
        rw [if_neg (show ¬ 0 < (rw4 P k).1 from fun z => c (by rw [e2]; exact z))]
      · by_cases e2 : k < n
        · rw [if_pos e2, if_pos (by omega)]
        · rw [if_neg e2, if_neg (by omega)]
theorem mB1_row {P : Mem} (h : PK P) {k : Nat} (hk : k < mSh P) : rw4 (mB1 P) k = sR P (rw4 P k) := by
  have := h.1.sh
  have e := mStepL_row h.got0 (k := k) (by omega) (mSh P) (by omega)
  rw [if_pos hk] at e
  have g30 : mGot0 P 30 = P 30 := by show wr (wr P 36 0 0) 36 1 0 30 = _; rw [wr_cell (by decide), wr_cell (by decide)]
  have g31 : mGot0 P 31 = P 31 := by show wr (wr P 36 0 0) 36 1 0 31 = _; rw [wr_cell (by decide), wr_cell (by decide)]
  have g33 : mGot0 P 33 = P 33 := by show wr (wr P 36 0 0) 36 1 0 33 = _; rw [wr_cell (by decide), wr_cell (by decide)]
  rw [sR_ext g30 g31 g33] at e
  exact e
theorem PK.b1 {P : Mem} (h : PK P) : PK (mB1 P) ∧ mSh (mB1 P) = mSh P ∧ mWs (mB1 P) = mWs P := by
  have e : mB1 P 29 = P 29 := (mStepL_fr (mGot0 P) _ 29 (by decide) (by decide)).trans rfl
  exact ⟨h.got0.stepL _ h.1.sh, by show tn (mB1 P 29 2) = tn (P 29 2); rw [e], by show tn (mB1 P 29 1) = tn (P 29 1); rw [e]⟩
theorem mBeat_34 {P : Mem} (h : PK P) {j : Nat} (hj : 17 ≤ j) : mBeat P 34 j = mB2 P 34 j := by
  have h2 : PK (mB2 P) := h.b1.1.meetL _ h.1.sh
  show wr (mB3 P) 34 0 _ 34 j = _
  rw [wr_ne (by omega)]
  show mHush (mHush (mB2 P) 0) 1 34 j = _
  rw [mHush_34 _ 1 _ (h2.hush (by decide)) (by decide) (by omega), mHush_34 _ 0 _ h2 (by decide) (by omega)]
/-- a shout's row after a beat -/
theorem mBeat_row {P : Mem} (h : PK P) {k : Nat} (hk : k < mSh P) : rw4 (mBeat P) k = if 0 < (sR P (rw4 P k)).1 ∧ mLoudest (mB1 P) (sR P (rw4 P k)).2.1 ≠ nI k then (0, (sR P (rw4 P k)).2) else sR P (rw4 P k) := by
  have hsh := h.1.sh
  obtain ⟨p1, n1, -⟩ := h.b1
  obtain ⟨m1, m2, m3, m4⟩ := mm_all p1.1 (mSh P) (by omega)
  have e := mB1_row h hk
  have e2 : rw4 (mBeat P) k = rw4 (mB2 P) k := rw4_ext ⟨mBeat_34 h (by omega), mBeat_34 h (by omega), mBeat_34 h (by omega), mBeat_34 h (by omega)⟩
  have a1 := m1 k (by omega)
  have a2 := m3 (67 + k) (by omega) (by omega)
  have a3 := m3 (107 + k) (by omega) (by omega)
  have a4 := m3 (147 + k) (by omega) (by omega)
  rw [e2]
  show (mMeetL (mB1 P) (mSh P) 34 (27 + k), mMeetL (mB1 P) (mSh P) 34 (67 + k), mMeetL (mB1 P) (mSh P) 34 (107 + k), mMeetL (mB1 P) (mSh P) 34 (147 + k)) = _
  rw [a1, a2, a3, a4, ← e]
  show _ = if 0 < mB1 P 34 (27 + k) ∧ mLoudest (mB1 P) (mB1 P 34 (67 + k)) ≠ nI k then _ else _
  by_cases c : 0 < mB1 P 34 (27 + k) ∧ mLoudest (mB1 P) (mB1 P 34 (67 + k)) ≠ nI k
  · rw [if_pos c, if_pos ⟨hk, c.1, c.2⟩]
    rfl
  · rw [if_neg c, if_neg (fun z => c ⟨z.2.1, z.2.2⟩)]
    rfl
/-- what a step does to the loudness -/
theorem sLd_le {P : Mem} (h : mOK2 P) {l s : Int32} (hs : 0 ≤ s ∧ s ≤ 31) (hl : 0 < l ∧ l ≤ 99) : 0 ≤ (sLd P l s).toInt ∧ (sLd P l s).toInt + 1 ≤ l.toInt ∧ (0 < sLd P l s → (sLd P l s).toInt = l.toInt - 1 - (P 30 (tn s)).toInt) := by
  have hn := h.1 _ (tn31 hs)
  have a1 := i_lt.mp hl.1
  have a2 := i_le.mp hl.2
  have b1 := i_le.mp hn.1
  have b2 := i_le.mp hn.2
  rw [i_c0] at a1 b1
  rw [i_c99] at a2
  rw [i_c5] at b2
  have e1 : (l - 1).toInt = l.toInt - 1 := by rw [i_sub] <;> rw [i_c1] <;> omega
  have e2 : (l - 1 - P 30 (tn s)).toInt = l.toInt - 1 - (P 30 (tn s)).toInt := by rw [i_sub] <;> rw [e1] <;> omega
  unfold sLd
  by_cases c : 0 < l - 1 - P 30 (tn s)
  · rw [if_pos c]
    have c' := i_lt.mp c
    rw [i_c0] at c'
    exact ⟨by omega, by rw [e2]; omega, fun _ => e2⟩
  · rw [if_neg c]
    exact ⟨by rw [i_c0]; omega, by rw [i_c0]; omega, fun z => absurd z (by decide)⟩
theorem sSk_le {P : Mem} (h : PK P) {l s : Int32} (hs : 0 ≤ s ∧ s ≤ 31) (hl : 0 < l ∧ l ≤ 99) (hw : P 31 (tn s) ≠ -1) : 0 ≤ (sSk P l s).toInt ∧ (sSk P l s).toInt + 1 ≤ l.toInt ∧ (0 < sSk P l s → (sSk P l s).toInt = (sLd P l s).toInt - (P 33 (tn (P 31 (tn s)))).toInt) := by
  obtain ⟨d1, d2, -⟩ := sLd_le h.2.1 hs hl
  obtain ⟨-, w2⟩ := h.2.2.1.at hs hw
  have hn := h.2.1.2 _ (Nat.lt_of_lt_of_le w2 h.1.ws)
  have a2 := i_le.mp hl.2
  have b1 := i_le.mp hn.1
  have b2 := i_le.mp hn.2
  rw [i_c0] at b1
  rw [i_c99] at a2
  rw [i_c5] at b2
  have e2 : (sLd P l s - P 33 (tn (P 31 (tn s)))).toInt = (sLd P l s).toInt - (P 33 (tn (P 31 (tn s)))).toInt := by rw [i_sub] <;> omega
  unfold sSk
  by_cases c : 0 < sLd P l s - P 33 (tn (P 31 (tn s)))
  · rw [if_pos c]
    have c' := i_lt.mp c
    rw [i_c0] at c'
    exact ⟨by omega, by rw [e2]; omega, fun _ => e2⟩
  · rw [if_neg c]
    exact ⟨by rw [i_c0]; omega, by rw [i_c0]; omega, fun z => absurd z (by decide)⟩
theorem PK.lv {P : Mem} (h : PK P) {k : Nat} (hk : k < mSh P) : (0 ≤ P 34 (27 + k) ∧ P 34 (27 + k) ≤ 99) ∧ (0 < P 34 (27 + k) → (0 ≤ P 34 (67 + k) ∧ P 34 (67 + k) ≤ 31) ∧ (P 34 (107 + k) = 1 ∨ P 34 (107 + k) = -1)) := h.2.2.2 k (by have := h.1.sh; omega)
/-- a beat: gone stays gone; who isn't gone is quieter -/
theorem beat_quieter {P : Mem} (h : PK P) {k : Nat} (hk : k < mSh P) : (¬ 0 < P 34 (27 + k) → mBeat P 34 (27 + k) = P 34 (27 + k)) ∧ (0 < P 34 (27 + k) → 0 ≤ (mBeat P 34 (27 + k)).toInt ∧ (mBeat P 34 (27 + k)).toInt + 1 ≤ (P 34 (27 + k)).toInt) := by
  have e := congrArg Prod.fst (mBeat_row h hk)
  have e : mBeat P 34 (27 + k) = _ := e
  obtain ⟨v1, v2⟩ := h.lv hk
  constructor
  · intro hl
    have es : sR P (rw4 P k) = rw4 P k := by unfold sR; rw [if_neg (show ¬ 0 < (rw4 P k).1 from hl)]
    rw [e, es, if_neg (fun z => hl z.1)]
    rfl
  · intro hl
    have a1 := i_lt.mp hl
    rw [i_c0] at a1
    have key : 0 ≤ (sR P (rw4 P k)).1.toInt ∧ (sR P (rw4 P k)).1.toInt + 1 ≤ (P 34 (27 + k)).toInt := by
      unfold sR
      rw [if_pos (show 0 < (rw4 P k).1 from hl)]
      split
      · rename_i hs
        split
        · rename_i hw
          obtain ⟨b1, b2, -⟩ := sSk_le h hs ⟨hl, v1.2⟩ hw.2
          exact ⟨b1, b2⟩
        · obtain ⟨b1, b2, -⟩ := sLd_le h.2.1 hs ⟨hl, v1.2⟩
          exact ⟨b1, b2⟩
      · exact ⟨by show 0 ≤ (0 : Int32).toInt; rw [i_c0]; omega, by show (0 : Int32).toInt + 1 ≤ _; rw [i_c0]; omega⟩
    rw [e]
    split
    · exact ⟨by show 0 ≤ (0 : Int32).toInt; rw [i_c0]; omega, by show (0 : Int32).toInt + 1 ≤ _; rw [i_c0]; omega⟩
    · exact key
