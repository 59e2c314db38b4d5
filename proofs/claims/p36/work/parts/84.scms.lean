/-! Whether one alone comes to a stone; the best stone. -/
def CmR (P : Mem) (r : Rw4) (th : Int32) : Prop := ∃ t, 0 < t ∧ (∀ j, j ≤ t → 0 < (sRn P j r).1) ∧ (sRn P t r).2.1 = th
theorem cm_step {P : Mem} {r : Rw4} {th : Int32} (hl : 0 < r.1) : CmR P r th ↔ 0 < (sR P r).1 ∧ ((sR P r).2.1 = th ∨ CmR P (sR P r) th) := by
  constructor
  · rintro ⟨t, h0, h1, h2⟩
    refine ⟨h1 1 h0, ?_⟩
    rcases t with _ | t
    · omega
    · by_cases z : t = 0
      · subst z
        exact Or.inl h2
      · exact Or.inr ⟨t, by omega, fun j hj => by rw [← sRn_s]; exact h1 (j + 1) (by omega), by rw [← sRn_s]; exact h2⟩
  · rintro ⟨h1, h2⟩
    rcases h2 with h2 | ⟨t, a0, a1, a2⟩
    · refine ⟨1, by decide, fun j hj => ?_, h2⟩
      rcases (show j = 0 ∨ j = 1 by omega) with rfl | rfl
      · exact hl
      · exact h1
    · refine ⟨t + 1, by omega, fun j hj => ?_, by rw [sRn_s]; exact a2⟩
      rcases j with _ | j
      · exact hl
      · rw [sRn_s]
        exact a1 j (by omega)
theorem i_c109 : (99 : Int32).toInt = 99 := rfl
theorem soak_nums {P : Mem} (h : PK P) {s : Int32} (hs : 0 ≤ s ∧ s ≤ 31) (c3 : ¬ P 31 (tn s) = -1) : 0 ≤ (P 33 (tn (P 31 (tn s)))).toInt ∧ (P 33 (tn (P 31 (tn s)))).toInt ≤ 5 := by
  have hw := h.2.2.1.at hs c3
  have hn := h.2.1.2 _ (Nat.lt_of_lt_of_le hw.2 h.1.ws)
  have b1 := i_le.mp hn.1
  have b2 := i_le.mp hn.2
  rw [i_c0] at b1
  rw [i_c5] at b2
  exact ⟨b1, b2⟩
theorem snow_nums {P : Mem} (h : PK P) {s : Int32} (hs : 0 ≤ s ∧ s ≤ 31) : (0 ≤ (P 30 (tn s)).toInt ∧ (P 30 (tn s)).toInt ≤ 5) ∧ (1 + P 30 (tn s)).toInt = 1 + (P 30 (tn s)).toInt := by
  obtain ⟨n1, -, n3, -⟩ := st_nums h (l := 1) hs ⟨by decide, by decide⟩
  exact ⟨n1, n3⟩
theorem ls_ge {P : Mem} (h : PK P) {th : Int32} : ∀ (n : Nat) (s way lost : Int32), 0 ≤ lost.toInt → lost.toInt ≤ 109 → lost.toInt ≤ (mLs P th n s way lost).toInt ∧ (mLs P th n s way lost).toInt ≤ 109
  | 0, s, way, lost, h0, h1 => ⟨Int.le_refl _, h1⟩
  | n + 1, s, way, lost, h0, h1 => by
    unfold mLs
    by_cases c : 99 ≤ lost
    · rw [if_pos c]; exact ⟨Int.le_refl _, h1⟩
    · have c' : lost.toInt ≤ 98 := by
        have := i_lt.mp (Int32.not_le.mp c)
        rw [i_c99] at this
        omega
      rw [if_neg c]
      by_cases c1 : 0 ≤ s + way ∧ s + way ≤ 31
      · rw [if_pos c1]
        obtain ⟨n1, n2⟩ := snow_nums h c1
        have a1 : (lost + (1 + P 30 (tn (s + way)))).toInt = lost.toInt + 1 + (P 30 (tn (s + way))).toInt := by rw [i_add] <;> rw [n2] <;> omega
        by_cases c2 : P 31 (tn (s + way)) = -1
        · rw [if_pos c2]
          by_cases c3 : s + way = th
          · rw [if_pos c3, a1]; omega
          · rw [if_neg c3]
            have := ls_ge h (th := th) n (s + way) way (lost + (1 + P 30 (tn (s + way)))) (by omega) (by omega)
            omega
        · rw [if_neg c2]
          have n5 := soak_nums h c1 c2
          have a2 : (lost + (1 + P 30 (tn (s + way))) + P 33 (tn (P 31 (tn (s + way))))).toInt = lost.toInt + 1 + (P 30 (tn (s + way))).toInt + (P 33 (tn (P 31 (tn (s + way))))).toInt := by rw [i_add] <;> rw [a1] <;> omega
          by_cases c3 : s + way = th
          · rw [if_pos c3, a2]; omega
          · rw [if_neg c3]
            have := ls_ge h (th := th) n (s + way) (-way) (lost + (1 + P 30 (tn (s + way))) + P 33 (tn (P 31 (tn (s + way))))) (by omega) (by omega)
            omega
      · rw [if_neg c1, i_c99]
        omega
theorem cm_is {P : Mem} (h : PK P) {th : Int32} : ∀ (n : Nat) (r : Rw4) (lost : Int32), 0 < r.1 → GR r → r.1.toInt ≤ n → 0 ≤ lost.toInt → lost.toInt + r.1.toInt ≤ 99 → (CmR P r th ↔ (mLs P th n r.2.1 r.2.2.1 lost).toInt < lost.toInt + r.1.toInt)
  | 0, r, lost, hl, hg, hn, h0, h99 => by
    have := i_pos1 hl
    omega
  | n + 1, r, lost, hl, hg, hn, h0, h99 => by
    have hl1 := i_pos1 hl
    rw [cm_step hl]
    unfold mLs
    have c0 : ¬ 99 ≤ lost := fun z => by
      have := i_le.mp z
      rw [i_c99] at this
      omega
    rw [if_neg c0]
    rcases sR_cases h hl hg rfl with ⟨c, e⟩ | ⟨c, c2, e⟩ | ⟨c, c2, c3, e, hg'⟩ | ⟨c, c2, c3, c4, e, hg'⟩
    · rw [if_neg c, e]
      refine ⟨fun z => absurd z.1 (by show ¬ (0 : Int32) < 0; decide), fun z => ?_⟩
      rw [i_c99] at z
      omega
    · rw [if_pos c, e]
      refine ⟨fun z => absurd z.1 (by show ¬ (0 : Int32) < 0; decide), fun z => ?_⟩
      exfalso
      obtain ⟨n1, n2, n3, n4⟩ := st_nums h c ⟨hl, hg.1⟩
      have q := i_npos c2
      have a1 : (lost + (1 + P 30 (tn (r.2.1 + r.2.2.1)))).toInt = lost.toInt + 1 + (P 30 (tn (r.2.1 + r.2.2.1))).toInt := by rw [i_add] <;> rw [n3] <;> omega
      by_cases c2 : P 31 (tn (r.2.1 + r.2.2.1)) = -1
      · rw [if_pos c2] at z
        by_cases c3 : r.2.1 + r.2.2.1 = th
        · rw [if_pos c3, a1] at z; omega
        · rw [if_neg c3] at z
          have := ls_ge h (th := th) n (r.2.1 + r.2.2.1) r.2.2.1 (lost + (1 + P 30 (tn (r.2.1 + r.2.2.1)))) (by omega) (by omega)
          omega
      · rw [if_neg c2] at z
        have n5 := soak_nums h c c2
        have a2 : (lost + (1 + P 30 (tn (r.2.1 + r.2.2.1))) + P 33 (tn (P 31 (tn (r.2.1 + r.2.2.1))))).toInt = lost.toInt + 1 + (P 30 (tn (r.2.1 + r.2.2.1))).toInt + (P 33 (tn (P 31 (tn (r.2.1 + r.2.2.1))))).toInt := by rw [i_add] <;> rw [a1] <;> omega
        by_cases c3 : r.2.1 + r.2.2.1 = th
        · rw [if_pos c3, a2] at z; omega
        · rw [if_neg c3] at z
          have := ls_ge h (th := th) n (r.2.1 + r.2.2.1) (-r.2.2.1) (lost + (1 + P 30 (tn (r.2.1 + r.2.2.1))) + P 33 (tn (P 31 (tn (r.2.1 + r.2.2.1))))) (by omega) (by omega)
          omega
    · obtain ⟨n1, n2, n3, n4⟩ := st_nums h c ⟨hl, hg.1⟩
      have a1 : (lost + (1 + P 30 (tn (r.2.1 + r.2.2.1)))).toInt = lost.toInt + 1 + (P 30 (tn (r.2.1 + r.2.2.1))).toInt := by rw [i_add] <;> rw [n3] <;> omega
      have q := i_pos1 c2
      rw [if_pos c, if_pos c3]
      by_cases ct : r.2.1 + r.2.2.1 = th
      · rw [if_pos ct, a1, e]
        exact ⟨fun _ => by omega, fun _ => ⟨c2, Or.inl ct⟩⟩
      · rw [if_neg ct]
        have ih := cm_is h (th := th) n (sR P r) (lost + (1 + P 30 (tn (r.2.1 + r.2.2.1)))) (by rw [e]; exact c2) hg' (by rw [e]; show (r.1 - 1 - P 30 (tn (r.2.1 + r.2.2.1))).toInt ≤ _; omega) (by omega) (by rw [e]; show _ + (r.1 - 1 - P 30 (tn (r.2.1 + r.2.2.1))).toInt ≤ _; omega)
        rw [ih]
        rw [e]
        show (0 < r.1 - 1 - P 30 (tn (r.2.1 + r.2.2.1)) ∧ (r.2.1 + r.2.2.1 = th ∨ (mLs P th n (r.2.1 + r.2.2.1) r.2.2.1 (lost + (1 + P 30 (tn (r.2.1 + r.2.2.1))))).toInt < (lost + (1 + P 30 (tn (r.2.1 + r.2.2.1)))).toInt + (r.1 - 1 - P 30 (tn (r.2.1 + r.2.2.1))).toInt)) ↔ _
        exact ⟨fun z => by have := z.2.resolve_left ct; omega, fun z => ⟨c2, Or.inr (by omega)⟩⟩
    · obtain ⟨n1, n2, n3, n4⟩ := st_nums h c ⟨hl, hg.1⟩
      have a1 : (lost + (1 + P 30 (tn (r.2.1 + r.2.2.1)))).toInt = lost.toInt + 1 + (P 30 (tn (r.2.1 + r.2.2.1))).toInt := by rw [i_add] <;> rw [n3] <;> omega
      have a2 : (lost + (1 + P 30 (tn (r.2.1 + r.2.2.1))) + P 33 (tn (P 31 (tn (r.2.1 + r.2.2.1))))).toInt = lost.toInt + 1 + (P 30 (tn (r.2.1 + r.2.2.1))).toInt + (P 33 (tn (P 31 (tn (r.2.1 + r.2.2.1))))).toInt := by rw [i_add] <;> rw [a1] <;> omega
      have n5 : (r.1 - 1 - P 30 (tn (r.2.1 + r.2.2.1)) - P 33 (tn (P 31 (tn (r.2.1 + r.2.2.1))))).toInt = r.1.toInt - 1 - (P 30 (tn (r.2.1 + r.2.2.1))).toInt - (P 33 (tn (P 31 (tn (r.2.1 + r.2.2.1))))).toInt := by rw [i_sub] <;> rw [n2] <;> omega
      rw [if_pos c, if_neg c3]
      by_cases c5 : 0 < r.1 - 1 - P 30 (tn (r.2.1 + r.2.2.1)) - P 33 (tn (P 31 (tn (r.2.1 + r.2.2.1))))
      · have q := i_pos1 c5
        rw [if_pos c5] at e
        by_cases ct : r.2.1 + r.2.2.1 = th
        · rw [if_pos ct, a2, e]
          exact ⟨fun _ => by omega, fun _ => ⟨c5, Or.inl ct⟩⟩
        · rw [if_neg ct]
          have ih := cm_is h (th := th) n (sR P r) (lost + (1 + P 30 (tn (r.2.1 + r.2.2.1))) + P 33 (tn (P 31 (tn (r.2.1 + r.2.2.1))))) (by rw [e]; exact c5) hg' (by rw [e]; show (r.1 - 1 - P 30 (tn (r.2.1 + r.2.2.1)) - P 33 (tn (P 31 (tn (r.2.1 + r.2.2.1))))).toInt ≤ _; omega) (by omega) (by rw [e]; show _ + (r.1 - 1 - P 30 (tn (r.2.1 + r.2.2.1)) - P 33 (tn (P 31 (tn (r.2.1 + r.2.2.1))))).toInt ≤ _; omega)
          rw [ih]
          rw [e]
          show (0 < r.1 - 1 - P 30 (tn (r.2.1 + r.2.2.1)) - P 33 (tn (P 31 (tn (r.2.1 + r.2.2.1)))) ∧ (r.2.1 + r.2.2.1 = th ∨ (mLs P th n (r.2.1 + r.2.2.1) (-r.2.2.1) (lost + (1 + P 30 (tn (r.2.1 + r.2.2.1))) + P 33 (tn (P 31 (tn (r.2.1 + r.2.2.1)))))).toInt < (lost + (1 + P 30 (tn (r.2.1 + r.2.2.1))) + P 33 (tn (P 31 (tn (r.2.1 + r.2.2.1))))).toInt + (r.1 - 1 - P 30 (tn (r.2.1 + r.2.2.1)) - P 33 (tn (P 31 (tn (r.2.1 + r.2.2.1))))).toInt)) ↔ _
          exact ⟨fun z => by have := z.2.resolve_left ct; omega, fun z => ⟨c5, Or.inr (by omega)⟩⟩
      · have q := i_npos c5
        rw [if_neg c5] at e
        rw [e]
        refine ⟨fun z => absurd z.1 (by show ¬ (0 : Int32) < 0; decide), fun z => ?_⟩
        exfalso
        by_cases ct : r.2.1 + r.2.2.1 = th
        · rw [if_pos ct, a2] at z; omega
        · rw [if_neg ct] at z
          have := ls_ge h (th := th) n (r.2.1 + r.2.2.1) (-r.2.2.1) (lost + (1 + P 30 (tn (r.2.1 + r.2.2.1))) + P 33 (tn (P 31 (tn (r.2.1 + r.2.2.1))))) (by omega) (by omega)
          omega
theorem al_comes {P : Mem} (h : PK P) {s w l th : Int32} (hs : 0 ≤ s ∧ s ≤ 31) (hw : w = 1 ∨ w = -1) (hl : 1 ≤ l ∧ l ≤ 99) : Cms (mAl P s w l) th ↔ (mLs P th 100 s w 0).toInt < l.toInt := by
  have hl0 : 0 < l := Int32.lt_of_lt_of_le (by decide) hl.1
  have h99 := i_le.mp hl.2
  rw [i_c99] at h99
  have z0 : (0 : Int32).toInt = 0 := rfl
  have k := cm_is h (th := th) 100 (l, s, w, 0) 0 hl0 ⟨hl.2, hs, hw⟩ (by show l.toInt ≤ _; omega) (by omega) (by show _ + l.toInt ≤ _; omega)
  rw [show (mLs P th 100 s w 0).toInt < l.toInt ↔ (mLs P th 100 (l, s, w, (0 : Int32)).2.1 (l, s, w, (0 : Int32)).2.2.1 0).toInt < (0 : Int32).toInt + (l, s, w, (0 : Int32)).1.toInt from by show _ ↔ (mLs P th 100 s w 0).toInt < (0 : Int32).toInt + l.toInt; omega, ← k]
  have e1 : ∀ t, mBeats (mAl P s w l) t 34 27 = (sRn P t (l, s, w, 0)).1 := fun t => congrArg Prod.fst (al_row h hs hw hl t)
  have e2 : ∀ t, mBeats (mAl P s w l) t 34 67 = (sRn P t (l, s, w, 0)).2.1 := fun t => congrArg (fun r : Rw4 => r.2.1) (al_row h hs hw hl t)
  unfold Cms CmR
  constructor
  · rintro ⟨t, a0, a1, a2⟩
    exact ⟨t, a0, fun j hj => by rw [← e1]; exact a1 j hj, by rw [← e2]; exact a2⟩
  · rintro ⟨t, a0, a1, a2⟩
    exact ⟨t, a0, fun j hj => by rw [e1]; exact a1 j hj, by rw [e2]; exact a2⟩
theorem ls_pos {P : Mem} (h : PK P) {s w th : Int32} : 1 ≤ (mLs P th 100 s w 0).toInt ∧ (mLs P th 100 s w 0).toInt ≤ 109 := by
  have z0 : (0 : Int32).toInt = 0 := rfl
  refine ⟨?_, (ls_ge h 100 s w 0 (by omega) (by omega)).2⟩
  rw [show (100 : Nat) = 99 + 1 from rfl]
  unfold mLs
  rw [if_neg (by decide)]
  by_cases c1 : 0 ≤ s + w ∧ s + w ≤ 31
  · rw [if_pos c1]
    obtain ⟨n1, n2⟩ := snow_nums h c1
    have a1 : (0 + (1 + P 30 (tn (s + w)))).toInt = 1 + (P 30 (tn (s + w))).toInt := by rw [i_add] <;> rw [n2] <;> omega
    by_cases c2 : P 31 (tn (s + w)) = -1
    · rw [if_pos c2]
      by_cases c3 : s + w = th
      · rw [if_pos c3, a1]; omega
      · rw [if_neg c3]
        have := ls_ge h (th := th) 99 (s + w) w (0 + (1 + P 30 (tn (s + w)))) (by omega) (by omega)
        exact Int.le_trans (by omega) this.1
    · rw [if_neg c2]
      have n5 := soak_nums h c1 c2
      have a2 : (0 + (1 + P 30 (tn (s + w))) + P 33 (tn (P 31 (tn (s + w))))).toInt = 1 + (P 30 (tn (s + w))).toInt + (P 33 (tn (P 31 (tn (s + w))))).toInt := by rw [i_add] <;> rw [a1] <;> omega
      by_cases c3 : s + w = th
      · rw [if_pos c3, a2]; omega
      · rw [if_neg c3]
        have := ls_ge h (th := th) 99 (s + w) (-w) (0 + (1 + P 30 (tn (s + w))) + P 33 (tn (P 31 (tn (s + w))))) (by omega) (by omega)
        exact Int.le_trans (by omega) this.1
  · rw [if_neg c1, i_c99]
    omega
/-- as loud as wanted it comes, and not with 1 less; with -1 not even with 99 -/
theorem lw_two {P : Mem} (h : PK P) {s w th : Int32} (hs : 0 ≤ s ∧ s ≤ 31) (hw : w = 1 ∨ w = -1) : (mLW P s w th = -1 ∧ ¬ Cms (mAl P s w 99) th) ∨ ((2 ≤ mLW P s w th ∧ mLW P s w th ≤ 99) ∧ Cms (mAl P s w (mLW P s w th)) th ∧ ¬ Cms (mAl P s w (mLW P s w th - 1)) th) := by
  obtain ⟨p1, p2⟩ := ls_pos h (s := s) (w := w) (th := th)
  have e1 : (mLs P th 100 s w 0 + 1).toInt = (mLs P th 100 s w 0).toInt + 1 := by rw [i_add] <;> rw [i_c1] <;> omega
  unfold mLW
  by_cases c : 99 < mLs P th 100 s w 0 + 1
  · rw [if_pos c]
    refine Or.inl ⟨rfl, fun z => ?_⟩
    rw [al_comes h hs hw ⟨by decide, by decide⟩, i_c99] at z
    have := i_lt.mp c
    rw [i_c99] at this
    omega
  · rw [if_neg c]
    have c' := i_le.mp (Int32.not_lt.mp c)
    rw [i_c99] at c'
    have e2 : mLs P th 100 s w 0 + 1 - 1 = mLs P th 100 s w 0 := by grind
    have e3 : (2 : Int32).toInt = 2 := rfl
    refine Or.inr ⟨⟨i_le.mpr (by omega), i_le.mpr (by rw [i_c99]; omega)⟩, ?_, fun z => ?_⟩
    · exact (al_comes h hs hw ⟨i_le.mpr (by rw [i_c1]; omega), i_le.mpr (by rw [i_c99]; omega)⟩).mpr (by omega)
    · rw [e2] at z
      have := (al_comes h hs hw ⟨i_le.mpr (by rw [i_c1]; omega), i_le.mpr (by rw [i_c99]; omega)⟩).mp z
      omega
/-- the best stone -/
theorem best_l (P : Mem) (l : Int32) : ∀ n, n ≤ 32 → ∃ b, (b < n ∨ b = 0) ∧ mBestL P l n = nI b ∧ ∀ s, s < n → mTurns P (nI s) l ≤ mTurns P (nI b) l ∧ (s < b → mTurns P (nI s) l < mTurns P (nI b) l)
  | 0, _ => ⟨0, Or.inr rfl, rfl, fun s hs => absurd hs (by omega)⟩
  | n + 1, hn => by
    obtain ⟨b, b0, b1, b2⟩ := best_l P l n (by omega)
    unfold mBestL
    rw [b1]
    by_cases c : mTurns P (nI b) l < mTurns P (nI n) l
    · rw [if_pos c]
      refine ⟨n, by omega, rfl, fun s hs => ?_⟩
      by_cases z : s = n
      · subst z
        exact ⟨Int32.le_refl _, fun y => absurd y (by omega)⟩
      · have := Int32.lt_of_le_of_lt (b2 s (by omega)).1 c
        exact ⟨Int32.le_of_lt this, fun _ => this⟩
    · rw [if_neg c]
      refine ⟨b, by omega, rfl, fun s hs => ?_⟩
      by_cases z : s = n
      · subst z
        refine ⟨Int32.not_lt.mp c, fun y => ?_⟩
        omega
      · exact b2 s (by omega)
theorem best_two (P : Mem) (l : Int32) : ∃ b, b < 32 ∧ mBest P l = nI b ∧ ∀ s, s < 32 → mTurns P (nI s) l ≤ mTurns P (nI b) l ∧ (s < b → mTurns P (nI s) l < mTurns P (nI b) l) := by
  obtain ⟨b, b0, b1, b2⟩ := best_l P l 32 (by omega)
  exact ⟨b, by omega, b1, b2⟩
