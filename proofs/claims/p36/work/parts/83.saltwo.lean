/-! One alone: its row over the beats; turns; whether it comes. -/
def sRn (P : Mem) : Nat → Rw4 → Rw4
  | 0, r => r
  | t + 1, r => sR P (sRn P t r)
theorem sRn_s (P : Mem) : ∀ (t : Nat) (r : Rw4), sRn P (t + 1) r = sRn P t (sR P r)
  | 0, _ => rfl
  | t + 1, r => by
    show sR P (sRn P (t + 1) r) = sR P (sRn P t (sR P r))
    rw [sRn_s P t r]
theorem sRn_ext {P Q : Mem} (h30 : Q 30 = P 30) (h31 : Q 31 = P 31) (h33 : Q 33 = P 33) (r : Rw4) : ∀ t, sRn Q t r = sRn P t r
  | 0 => rfl
  | t + 1 => by
    show sR Q (sRn Q t r) = sR P (sRn P t r)
    rw [sRn_ext h30 h31 h33 r t, sR_ext h30 h31 h33]
theorem one_row {Q : Mem} (h : PK Q) (h1 : mSh Q = 1) : rw4 (mBeat Q) 0 = sR Q (rw4 Q 0) := by
  have e := mB1_row h (k := 0) (by omega)
  obtain ⟨-, n1, -⟩ := h.b1
  rw [mBeat_row h (by omega)]
  refine if_neg (fun z => z.2 ?_)
  obtain ⟨z1, -⟩ := z
  rw [← e] at z1 ⊢
  show mLdL (mB1 Q) (mB1 Q 34 (67 + 0)) (mSh (mB1 Q)) = nI 0
  rw [n1, h1]
  exact if_pos ⟨z1, rfl, Or.inl rfl⟩
theorem one_rows {Q : Mem} (h : PK Q) (h1 : mSh Q = 1) : ∀ t, rw4 (mBeats Q t) 0 = sRn Q t (rw4 Q 0)
  | 0 => rfl
  | t + 1 => by
    obtain ⟨p, n, -⟩ := mBeats_pk h t
    show rw4 (mBeat (mBeats Q t)) 0 = sR Q (sRn Q t (rw4 Q 0))
    rw [one_row p (by omega), one_rows h h1 t]
    have f := mBeats_fr Q t
    exact sR_ext (f 30 (by decide) (by decide)) (f 31 (by decide) (by decide)) (f 33 (by decide) (by decide)) _
theorem al_row {P : Mem} (h : PK P) {s w l : Int32} (hs : 0 ≤ s ∧ s ≤ 31) (hw : w = 1 ∨ w = -1) (hl : 1 ≤ l ∧ l ≤ 99) (t : Nat) : rw4 (mBeats (mAl P s w l) t) 0 = sRn P t (l, s, w, 0) := by
  obtain ⟨r1, r2, r3, r4, -, r6⟩ := mAl_r (P := P) (s := s) (w := w) (l := l)
  rw [one_rows (h.al hs hw hl) rfl t]
  have e0 : rw4 (mAl P s w l) 0 = (l, s, w, 0) := by
    show (mAl P s w l 34 27, mAl P s w l 34 67, mAl P s w l 34 107, mAl P s w l 34 147) = _
    rw [r1, r2, r3, r4]
  rw [e0]
  exact sRn_ext (r6 30 (by decide) (by decide)) (r6 31 (by decide) (by decide)) (r6 33 (by decide) (by decide)) _ t
theorem sR_dead {P : Mem} {r : Rw4} (h : ¬ 0 < r.1) : sR P r = r := by
  unfold sR
  rw [if_neg h]
theorem i_pos1 {x : Int32} (h : 0 < x) : 1 ≤ x.toInt := by
  have := i_lt.mp h
  rw [i_c0] at this
  omega
theorem i_npos {x : Int32} (h : ¬ 0 < x) : x.toInt ≤ 0 := by
  have := i_le.mp (Int32.not_lt.mp h)
  rw [i_c0] at this
  omega
/-- what a live row is -/
def GR (r : Rw4) : Prop := r.1 ≤ 99 ∧ (0 ≤ r.2.1 ∧ r.2.1 ≤ 31) ∧ (r.2.2.1 = 1 ∨ r.2.2.1 = -1)
theorem way_neg {w : Int32} (h : w = 1 ∨ w = -1) : -w = 1 ∨ -w = -1 := by
  rcases h with rfl | rfl
  · exact Or.inr rfl
  · exact Or.inl rfl
/-- the four ways of a step of a live row; s: where it comes to -/
theorem sR_cases {P : Mem} (h : PK P) {r : Rw4} (hl : 0 < r.1) (hg : GR r) {s : Int32} (hs : r.2.1 + r.2.2.1 = s) :
    (¬ (0 ≤ s ∧ s ≤ 31) ∧ sR P r = (0, r.2)) ∨
    ((0 ≤ s ∧ s ≤ 31) ∧ ¬ 0 < r.1 - 1 - P 30 (tn s) ∧ sR P r = (0, s, r.2.2.1, r.2.2.2)) ∨
    ((0 ≤ s ∧ s ≤ 31) ∧ 0 < r.1 - 1 - P 30 (tn s) ∧ P 31 (tn s) = -1 ∧ sR P r = (r.1 - 1 - P 30 (tn s), s, r.2.2.1, r.2.2.2) ∧ GR (sR P r)) ∨
    ((0 ≤ s ∧ s ≤ 31) ∧ 0 < r.1 - 1 - P 30 (tn s) ∧ P 31 (tn s) ≠ -1 ∧ (0 ≤ (P 33 (tn (P 31 (tn s)))).toInt ∧ (P 33 (tn (P 31 (tn s)))).toInt ≤ 5) ∧ sR P r = (if 0 < r.1 - 1 - P 30 (tn s) - P 33 (tn (P 31 (tn s))) then r.1 - 1 - P 30 (tn s) - P 33 (tn (P 31 (tn s))) else 0, s, -r.2.2.1, r.2.2.2 + 1) ∧ GR (sR P r)) := by
  subst hs
  by_cases c : 0 ≤ r.2.1 + r.2.2.1 ∧ r.2.1 + r.2.2.1 ≤ 31
  · by_cases c2 : 0 < r.1 - 1 - P 30 (tn (r.2.1 + r.2.2.1))
    · have el : sLd P r.1 (r.2.1 + r.2.2.1) = r.1 - 1 - P 30 (tn (r.2.1 + r.2.2.1)) := if_pos c2
      by_cases c3 : P 31 (tn (r.2.1 + r.2.2.1)) = -1
      · refine Or.inr (Or.inr (Or.inl ⟨c, c2, c3, ?_, ?_⟩))
        · unfold sR
          rw [if_pos hl, if_pos c, if_neg (fun z => z.2 c3), el]
        · have e : sR P r = (r.1 - 1 - P 30 (tn (r.2.1 + r.2.2.1)), r.2.1 + r.2.2.1, r.2.2.1, r.2.2.2) := by
            unfold sR
            rw [if_pos hl, if_pos c, if_neg (fun z => z.2 c3), el]
          rw [e]
          refine ⟨?_, c, hg.2.2⟩
          have d := sLd_le h.2.1 c ⟨hl, hg.1⟩
          rw [el] at d
          have := i_le.mp hg.1
          exact i_le.mpr (by show (r.1 - 1 - P 30 (tn (r.2.1 + r.2.2.1))).toInt ≤ _; omega)
      · have hw := h.2.2.1.at c c3
        have hn := h.2.1.2 _ (Nat.lt_of_lt_of_le hw.2 h.1.ws)
        have b1 := i_le.mp hn.1
        have b2 := i_le.mp hn.2
        rw [i_c0] at b1
        rw [i_c5] at b2
        have e : sR P r = (if 0 < r.1 - 1 - P 30 (tn (r.2.1 + r.2.2.1)) - P 33 (tn (P 31 (tn (r.2.1 + r.2.2.1)))) then r.1 - 1 - P 30 (tn (r.2.1 + r.2.2.1)) - P 33 (tn (P 31 (tn (r.2.1 + r.2.2.1)))) else 0, r.2.1 + r.2.2.1, -r.2.2.1, r.2.2.2 + 1) := by
          unfold sR
          rw [if_pos hl, if_pos c, if_pos ⟨by rw [el]; exact c2, c3⟩]
          unfold sSk
          rw [el]
        refine Or.inr (Or.inr (Or.inr ⟨c, c2, c3, ⟨b1, b2⟩, e, ?_⟩))
        have es : (if 0 < r.1 - 1 - P 30 (tn (r.2.1 + r.2.2.1)) - P 33 (tn (P 31 (tn (r.2.1 + r.2.2.1)))) then r.1 - 1 - P 30 (tn (r.2.1 + r.2.2.1)) - P 33 (tn (P 31 (tn (r.2.1 + r.2.2.1)))) else 0) = sSk P r.1 (r.2.1 + r.2.2.1) := by
          unfold sSk
          rw [el]
        rw [e, es]
        refine ⟨?_, c, way_neg hg.2.2⟩
        have d := sSk_le h c ⟨hl, hg.1⟩ c3
        have := i_le.mp hg.1
        exact i_le.mpr (by show (sSk P r.1 (r.2.1 + r.2.2.1)).toInt ≤ _; omega)
    · have el : sLd P r.1 (r.2.1 + r.2.2.1) = 0 := if_neg c2
      refine Or.inr (Or.inl ⟨c, c2, ?_⟩)
      unfold sR
      rw [if_pos hl, if_pos c, if_neg (fun z => by rw [el] at z; exact absurd z.1 (by decide)), el]
  · refine Or.inl ⟨c, ?_⟩
    unfold sR
    rw [if_pos hl, if_neg c]
/-- the numbers of a step -/
theorem st_nums {P : Mem} (h : PK P) {l s : Int32} (hs : 0 ≤ s ∧ s ≤ 31) (hl : 0 < l ∧ l ≤ 99) : (0 ≤ (P 30 (tn s)).toInt ∧ (P 30 (tn s)).toInt ≤ 5) ∧ (l - 1 - P 30 (tn s)).toInt = l.toInt - 1 - (P 30 (tn s)).toInt ∧ (1 + P 30 (tn s)).toInt = 1 + (P 30 (tn s)).toInt ∧ (1 ≤ l.toInt ∧ l.toInt ≤ 99) := by
  have hn := h.2.1.1 _ (tn31 hs)
  have a1 := i_pos1 hl.1
  have a2 := i_le.mp hl.2
  have b1 := i_le.mp hn.1
  have b2 := i_le.mp hn.2
  rw [i_c0] at b1
  rw [i_c99] at a2
  rw [i_c5] at b2
  have e1 : (l - 1).toInt = l.toInt - 1 := by rw [i_sub] <;> rw [i_c1] <;> omega
  have e2 : (l - 1 - P 30 (tn s)).toInt = l.toInt - 1 - (P 30 (tn s)).toInt := by rw [i_sub] <;> rw [e1] <;> omega
  have e3 : (1 + P 30 (tn s)).toInt = 1 + (P 30 (tn s)).toInt := by rw [i_add] <;> rw [i_c1] <;> omega
  exact ⟨⟨b1, b2⟩, e2, e3, a1, a2⟩
theorem tn_row {P : Mem} (h : PK P) : ∀ (t f : Nat) (r : Rw4), (0 < r.1 → GR r) → r.1.toInt < f → ¬ 0 < (sRn P t r).1 → (sRn P t r).2.2.2 = if 0 < r.1 then mTn P f (r.2.1 + r.2.2.1) r.2.2.1 r.1 r.2.2.2 else r.2.2.2
  | 0, f, r, _, _, hd => by
    exact (if_neg hd).symm
  | t + 1, f, r, g, hf, hd => by
    rw [sRn_s] at hd ⊢
    by_cases hl : 0 < r.1
    · have hg := g hl
      have hl1 := i_pos1 hl
      rw [if_pos hl]
      rcases f with _ | f
      · omega
      · have z0 : ((0 : Int32)).toInt < f := by rw [i_c0]; omega
        rcases sR_cases h hl hg rfl with ⟨c, e⟩ | ⟨c, c2, e⟩ | ⟨c, c2, c3, e, hg'⟩ | ⟨c, c2, c3, c4, e, hg'⟩
        · have ih := tn_row h t f (sR P r) (fun z => by rw [e] at z; exact absurd z (by show ¬ (0 : Int32) < 0; decide)) (by rw [e]; exact z0) hd
          rw [ih, if_neg (by rw [e]; show ¬ (0 : Int32) < 0; decide), e]
          unfold mTn
          rw [if_neg (fun z => c z.1)]
        · have ih := tn_row h t f (sR P r) (fun z => by rw [e] at z; exact absurd z (by show ¬ (0 : Int32) < 0; decide)) (by rw [e]; exact z0) hd
          rw [ih, if_neg (by rw [e]; show ¬ (0 : Int32) < 0; decide), e]
          unfold mTn
          rw [if_neg (fun z => c2 z.2)]
        · obtain ⟨n1, n2, n3, n4⟩ := st_nums h c ⟨hl, hg.1⟩
          have ih := tn_row h t f (sR P r) (fun _ => hg') (by rw [e]; show (r.1 - 1 - P 30 (tn (r.2.1 + r.2.2.1))).toInt < _; omega) hd
          rw [ih, if_pos (by rw [e]; exact c2), e]
          conv => rhs; unfold mTn
          rw [if_pos ⟨c, c2⟩, if_pos c3, show r.1 - (1 + P 30 (tn (r.2.1 + r.2.2.1))) = r.1 - 1 - P 30 (tn (r.2.1 + r.2.2.1)) by grind]
        · obtain ⟨n1, n2, n3, n4⟩ := st_nums h c ⟨hl, hg.1⟩
          have n5 : (r.1 - 1 - P 30 (tn (r.2.1 + r.2.2.1)) - P 33 (tn (P 31 (tn (r.2.1 + r.2.2.1))))).toInt = r.1.toInt - 1 - (P 30 (tn (r.2.1 + r.2.2.1))).toInt - (P 33 (tn (P 31 (tn (r.2.1 + r.2.2.1))))).toInt := by rw [i_sub] <;> rw [n2] <;> omega
          by_cases c5 : 0 < r.1 - 1 - P 30 (tn (r.2.1 + r.2.2.1)) - P 33 (tn (P 31 (tn (r.2.1 + r.2.2.1))))
          · rw [if_pos c5] at e
            have ih := tn_row h t f (sR P r) (fun _ => hg') (by rw [e]; show (r.1 - 1 - P 30 (tn (r.2.1 + r.2.2.1)) - P 33 (tn (P 31 (tn (r.2.1 + r.2.2.1))))).toInt < _; omega) hd
            rw [ih, if_pos (by rw [e]; exact c5), e]
            conv => rhs; unfold mTn
            rw [if_pos ⟨c, c2⟩, if_neg c3, show r.1 - (1 + P 30 (tn (r.2.1 + r.2.2.1))) - P 33 (tn (P 31 (tn (r.2.1 + r.2.2.1)))) = r.1 - 1 - P 30 (tn (r.2.1 + r.2.2.1)) - P 33 (tn (P 31 (tn (r.2.1 + r.2.2.1)))) by grind]
          · rw [if_neg c5] at e
            have ih := tn_row h t f (sR P r) (fun _ => hg') (by rw [e]; exact z0) hd
            rw [ih, if_neg (by rw [e]; show ¬ (0 : Int32) < 0; decide), e]
            have c5' := i_npos c5
            conv => rhs; unfold mTn
            rw [if_pos ⟨c, c2⟩, if_neg c3, show r.1 - (1 + P 30 (tn (r.2.1 + r.2.2.1))) - P 33 (tn (P 31 (tn (r.2.1 + r.2.2.1)))) = r.1 - 1 - P 30 (tn (r.2.1 + r.2.2.1)) - P 33 (tn (P 31 (tn (r.2.1 + r.2.2.1)))) by grind]
            exact (tn_dead h.2.1 f _ _ _ _ ⟨c5', by omega⟩).symm
    · rw [sR_dead hl] at hd ⊢
      exact tn_row h t f r g hf hd
/-- as many turns as told -/
theorem al_turns {P : Mem} (h : PK P) {s l : Int32} (hs : 0 ≤ s ∧ s ≤ 31) (hl : 1 ≤ l ∧ l ≤ 99) {t : Nat} (hd : ¬ 0 < mBeats (mAl P s 1 l) t 34 27) : mBeats (mAl P s 1 l) t 34 147 = mTurns P s l := by
  have e := al_row h hs (Or.inl rfl) hl t
  have e1 : mBeats (mAl P s 1 l) t 34 27 = _ := congrArg Prod.fst e
  have e4 : mBeats (mAl P s 1 l) t 34 147 = _ := congrArg (fun r : Rw4 => r.2.2.2) e
  rw [e1] at hd
  have hl0 : 0 < l := Int32.lt_of_lt_of_le (by decide) hl.1
  have h99 := i_le.mp hl.2
  rw [i_c99] at h99
  rw [e4, tn_row h t 101 (l, s, 1, 0) (fun _ => ⟨hl.2, hs, Or.inl rfl⟩) (by show l.toInt < _; omega) hd, if_pos hl0]
  rfl
