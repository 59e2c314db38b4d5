/-! The invariants of the state stay over a beat. -/
theorem cl_99 {x : Int32} (h : x ≤ 99) : 0 ≤ (if 0 < x then x else 0) ∧ (if 0 < x then x else 0) ≤ 99 := by
  by_cases c : 0 < x
  · rw [if_pos c]; exact ⟨Int32.le_of_lt c, h⟩
  · rw [if_neg c]; decide
theorem sb_99 {l s : Int32} (h1 : 0 ≤ l ∧ l ≤ 99) (h2 : 0 ≤ s ∧ s ≤ 5) : l - 1 - s ≤ 99 ∧ l - s ≤ 99 := by
  have a1 := i_le.mp h1.1
  have a2 := i_le.mp h1.2
  have b1 := i_le.mp h2.1
  have b2 := i_le.mp h2.2
  rw [i_c0] at a1 b1
  rw [i_c99] at a2
  rw [i_c5] at b2
  have e1 : (l - 1).toInt = l.toInt - 1 := by rw [i_sub] <;> rw [i_c1] <;> omega
  have e2 : (l - 1 - s).toInt = l.toInt - 1 - s.toInt := by rw [i_sub] <;> rw [e1] <;> omega
  have e3 : (l - s).toInt = l.toInt - s.toInt := by rw [i_sub] <;> omega
  exact ⟨i_le.mpr (by rw [e2, i_c99]; omega), i_le.mpr (by rw [e3, i_c99]; omega)⟩
theorem mLd_99 {Q : Mem} (h : mOK2 Q) {k : Nat} {s : Int32} (hs : 0 ≤ s ∧ s ≤ 31) (hl : 0 ≤ Q 34 (27 + k) ∧ Q 34 (27 + k) ≤ 99) : 0 ≤ mLd Q k s ∧ mLd Q k s ≤ 99 := cl_99 (sb_99 hl (h.1 _ (tn31 hs))).1
/-- a shout's step, case by case -/
theorem ms_cases {Q : Mem} (h : PK Q) {k : Nat} (hk : k < 40) (hl : 0 < Q 34 (27 + k)) :
    (¬ (0 ≤ mS1 Q k ∧ mS1 Q k ≤ 31) ∧ mStep Q k = wr Q 34 (27 + k) 0) ∨
    ((0 ≤ mS1 Q k ∧ mS1 Q k ≤ 31) ∧ ¬ (0 < mLd Q k (mS1 Q k) ∧ Q 31 (tn (mS1 Q k)) ≠ -1) ∧ mStep Q k = wr (wr Q 34 (67 + k) (mS1 Q k)) 34 (27 + k) (mLd Q k (mS1 Q k))) ∨
    ∃ e w, (0 ≤ mS1 Q k ∧ mS1 Q k ≤ 31) ∧ 0 < mLd Q k (mS1 Q k) ∧ Q 31 (tn (mS1 Q k)) = nI w ∧ w < mWs Q ∧ w < 10 ∧ tn (Q 34 (7 + w)) = e ∧ Q 34 (7 + w) = nI e ∧ e < 2 ∧
      mStep Q k = wr (wr (wr (wr (wr (wr (wr Q 34 (67 + k) (mS1 Q k)) 34 (3 + e) (Q 34 (3 + e) + 1)) 36 e 1) 34 (17 + w) (Q 34 (17 + w) + 1)) 34 (147 + k) (Q 34 (147 + k) + 1)) 34 (107 + k) (-(Q 34 (107 + k)))) 34 (27 + k) (if 0 < mLd Q k (mS1 Q k) - Q 33 w then mLd Q k (mS1 Q k) - Q 33 w else 0) := by
  obtain ⟨ho, ho2, hw, hv⟩ := h
  by_cases c : 0 ≤ mS1 Q k ∧ mS1 Q k ≤ 31
  · by_cases c2 : 0 < mLd Q k (mS1 Q k) ∧ Q 31 (tn (mS1 Q k)) ≠ -1
    · obtain ⟨a1, a2⟩ := hw.at c c2.2
      have hw10 : tn (Q 31 (tn (mS1 Q k))) < 10 := Nat.lt_of_lt_of_le a2 ho.ws
      have he := ho.2.2.2 _ hw10
      exact Or.inr (Or.inr ⟨_, _, c, c2.1, nI_tn a1, a2, hw10, rfl, nI_tn he.1, tn1 he, ms_hit c c2.1 c2.2 hk rfl hw10 rfl (tn1 he)⟩)
    · exact Or.inr (Or.inl ⟨c, c2, ms_go c c2⟩)
  · exact Or.inl ⟨c, ms_out c⟩
/-- what PK rests on but for the shouts' rows -/
theorem PK.mk' {P Q : Mem} (h : PK P) (ho : mOK Q) (e29 : Q 29 = P 29) (e : ∀ c, 30 ≤ c → c ≤ 33 → Q c = P c) (hv : LV Q) : PK Q := by
  have w1 : mWs Q = mWs P := by show tn (Q 29 1) = tn (P 29 1); rw [e29]
  refine ⟨ho, ⟨fun s hs => by rw [e 30 (by omega) (by omega)]; exact h.2.1.1 s hs, fun w hw => by rw [e 33 (by omega) (by omega)]; exact h.2.1.2 w hw⟩, ⟨fun w hw => ?_, fun s hs => ?_⟩, hv⟩
  · rw [w1] at hw
    rw [e 32 (by omega) (by omega), e 31 (by omega) (by omega)]
    exact h.2.2.1.1 w hw
  · rw [w1, e 32 (by omega) (by omega), e 31 (by omega) (by omega)]
    exact h.2.2.1.2 s hs
theorem neg_pm {x : Int32} (h : x = 1 ∨ x = -1) : -x = 1 ∨ -x = -1 := by
  rcases h with rfl | rfl <;> decide
theorem LV.step {Q : Mem} (h : PK Q) {k : Nat} (hk : k < 40) (hl : 0 < Q 34 (27 + k)) : LV (mStep Q k) := by
  have hv := h.2.2.2
  have ho2 := h.2.1
  obtain ⟨v1, v2⟩ := hv k hk
  obtain ⟨-, v3⟩ := v2 hl
  rcases ms_cases h hk hl with ⟨-, e⟩ | ⟨c, -, e⟩ | ⟨e0, w, c, c1, -, -, hw10, -, -, he2, e⟩
  · rw [e]
    intro j hj
    obtain ⟨u1, u2⟩ := hv j hj
    by_cases hjk : j = k
    · subst hjk
      rw [wr_eq]
      exact ⟨by decide, fun z => absurd z (by decide)⟩
    · rw [wr_ne (by omega), wr_ne (by omega), wr_ne (by omega)]
      exact ⟨u1, u2⟩
  · rw [e]
    intro j hj
    obtain ⟨u1, u2⟩ := hv j hj
    by_cases hjk : j = k
    · subst hjk
      rw [wr_eq, wr_ne (by omega), wr_eq, wr_ne (by omega), wr_ne (by omega)]
      exact ⟨mLd_99 ho2 c v1, fun _ => ⟨c, v3⟩⟩
    · rw [wr_ne (by omega), wr_ne (by omega), wr_ne (by omega), wr_ne (by omega), wr_ne (by omega), wr_ne (by omega)]
      exact ⟨u1, u2⟩
  · rw [e]
    intro j hj
    obtain ⟨u1, u2⟩ := hv j hj
    by_cases hjk : j = k
    · subst hjk
      rw [wr_eq]
      refine ⟨cl_99 (sb_99 (mLd_99 ho2 c v1) (ho2.2 w hw10)).2, fun _ => ⟨?_, ?_⟩⟩
      · rw [wr_ne (by omega), wr_ne (by omega), wr_ne (by omega), wr_ne (by omega), wr_ne (by omega), wr_ne (by omega), wr_eq]
        exact c
      · rw [wr_ne (by omega), wr_eq]
        exact neg_pm v3
    · have r : ∀ i, i ≠ 27 + k → i ≠ 107 + k → i ≠ 147 + k → i ≠ 67 + k → 27 ≤ i → wr (wr (wr (wr (wr (wr (wr Q 34 (67 + k) (mS1 Q k)) 34 (3 + e0) (Q 34 (3 + e0) + 1)) 36 e0 1) 34 (17 + w) (Q 34 (17 + w) + 1)) 34 (147 + k) (Q 34 (147 + k) + 1)) 34 (107 + k) (-(Q 34 (107 + k)))) 34 (27 + k) (if 0 < mLd Q k (mS1 Q k) - Q 33 w then mLd Q k (mS1 Q k) - Q 33 w else 0) 34 i = Q 34 i := fun i h1 h2 h3 h4 h5 => by
        rw [wr_ne (by omega), wr_ne (by omega), wr_ne (by omega), wr_ne (by omega), wr_ne (by omega), wr_ne (by omega), wr_ne (by omega)]
      rw [r _ (by omega) (by omega) (by omega) (by omega) (by omega), r _ (by omega) (by omega) (by omega) (by omega) (by omega), r _ (by omega) (by omega) (by omega) (by omega) (by omega)]
      exact ⟨u1, u2⟩
theorem PK.step {Q : Mem} (h : PK Q) {k : Nat} (hk : k < 40) (hl : 0 < Q 34 (27 + k)) : PK (mStep Q k) :=
  h.mk' (h.1.same (mStep_same h.1 k)) (mStep_fr Q k 29 (by decide) (by decide)) (fun c h1 h2 => mStep_fr Q k c (by omega) (by omega)) (LV.step h hk hl)
theorem PK.got0 {P : Mem} (h : PK P) : PK (mGot0 P) := h.mk' (h.1.same (mGot0_same P)) rfl (fun c h1 h2 => by
  show wr (wr P 36 0 0) 36 1 0 c = P c
  rw [wr_cell (by omega), wr_cell (by omega)]) (fun k hk => h.2.2.2 k hk)
theorem PK.stepL {P : Mem} (h : PK P) : ∀ k, k ≤ 40 → PK (mStepL P k)
  | 0, _ => h
  | k + 1, hk => by
    have ih := PK.stepL h k (by omega)
    unfold mStepL
    split
    · rename_i c
      exact ih.step (by omega) c
    · exact ih
theorem PK.meet {P : Mem} (h : PK P) (k : Nat) (hk : k < 40) : PK (mMeet P k) := by
  refine h.mk' (h.1.same (mMeet_same P k)) (mMeet_fr P k 29 (by decide) (by decide)) (fun c h1 h2 => mMeet_fr P k c (by omega) (by omega)) (fun j hj => ?_)
  have hv := h.2.2.2 j hj
  unfold mMeet
  split
  · unfold mLet
    rw [wr_ne (by omega), wr_ne (M := _) (k := 34) (j := 1) (k' := 34) (j' := 67 + j) (by omega), wr_ne (M := _) (k := 34) (j := 1) (k' := 34) (j' := 107 + j) (by omega), wr_ne (j := 27 + k) (j' := 67 + j) (by omega), wr_ne (j := 27 + k) (j' := 107 + j) (by omega)]
    by_cases hjk : j = k
    · subst hjk
      rw [wr_eq]
      exact ⟨by decide, fun z => absurd z (by decide)⟩
    · rw [wr_ne (by omega)]
      exact hv
  · exact hv
theorem PK.meetL {P : Mem} (h : PK P) : ∀ k, k ≤ 40 → PK (mMeetL P k)
  | 0, _ => h
  | k + 1, hk => (PK.meetL h k (by omega)).meet k (by omega)
theorem PK.hush {P : Mem} (h : PK P) {e : Nat} (he : e < 2) : PK (mHush P e) := by
  obtain ⟨a1, a2, a3⟩ := mHush_ok h.1 e he
  refine h.mk' a1 a2 (fun c h1 h2 => mHush_fr P e c (by omega) (by omega)) (fun j hj => ?_)
  have hv := h.2.2.2 j hj
  have r : ∀ i, 27 ≤ i → mHush P e 34 i = P 34 i := fun i hi => by
    have s1 : mSil P e 34 i = P 34 i := by unfold mSil; rw [wr_ne (by omega)]
    unfold mHush
    split
    · split
      · rename_i c c2
        have hws := h.1.ws
        have hf : tn (mFirst (wr (mSil P e) 34 (5 + e) 0) (nI e)) < 10 := by
          have hS : mWs (wr (mSil P e) 34 (5 + e) 0) = mWs P := rfl
          rcases mFO_or (wr (mSil P e) 34 (5 + e) 0) (nI e) (mWs (wr (mSil P e) 34 (5 + e) 0)) 0 (by rw [hS]; omega) with z | ⟨z1, z2⟩
          · exact absurd z c2
          · rw [hS] at z2
            exact Nat.lt_of_lt_of_le z2 (by omega)
        unfold mLose
        rw [wr_ne (by omega), wr_ne (by omega), wr_ne (by omega), s1]
      · rw [wr_ne (by omega), s1]
    · exact s1
  rw [r _ (by omega), r _ (by omega), r _ (by omega)]
  exact hv
theorem PK.beat {P : Mem} (h : PK P) : PK (mBeat P) := by
  have h1 : PK (mB1 P) := h.got0.stepL _ h.1.sh
  have h2 : PK (mB2 P) := h1.meetL _ h.1.sh
  have h3 : PK (mB3 P) := (h2.hush (by decide)).hush (by decide)
  refine h3.mk' (h3.1.same (mSame.wr34 (by omega))) (by unfold mBeat; rw [wr_cell (by decide)]) (fun c a b => by unfold mBeat; rw [wr_cell (by omega)]) (fun j hj => ?_)
  have hv := h3.2.2.2 j hj
  unfold mBeat
  rw [wr_ne (by omega), wr_ne (by omega), wr_ne (by omega)]
  exact hv
theorem PK.beats {P : Mem} (h : PK P) : ∀ n, PK (mBeats P n)
  | 0 => h
  | n + 1 => (PK.beats h n).beat
