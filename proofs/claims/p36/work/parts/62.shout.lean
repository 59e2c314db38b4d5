/-! A shout begins. -/
theorem sh_lt {x : Int32} (h : 0 ≤ x ∧ x ≤ 40) (h40 : ¬ x = 40) : tn x < 40 ∧ (0 ≤ x + 1 ∧ x + 1 ≤ 40) ∧ tn (x + 1) = tn x + 1 := by
  obtain ⟨j, h1, rfl⟩ := nI_of (Int32.not_lt.mpr h.1)
  have hj : j ≤ 40 := by
    have := tn_le (n := 40) h.1 (by decide) h.2
    rw [tn_nI h1] at this
    exact this
  have hne : j ≠ 40 := fun e => h40 (by rw [e]; rfl)
  rw [show nI j + 1 = nI (j + 1) from nI_1 j, tn_nI h1, tn_nI (by omega)]
  exact ⟨by omega, ⟨nI_pos' (by omega), nI_le (b := 40) (by omega) (by decide)⟩, rfl⟩
theorem op_shout {nb : Nat} {M P : Mem} (h : Rel 1 nb M P) (hz : Zz 1 M) {s wy ld : Int32} (hs : 0 ≤ s ∧ s ≤ 31) (hl : 1 ≤ ld ∧ ld ≤ 99) (h40 : ¬ M 1 2 = 40) (hno : M 4 (tn s) = -1) : Rel 1 nb (cStart 1 M s wy ld) (mSho1 P s wy ld) ∧ Zz 1 (cStart 1 M s wy ld) ∧ liveN (cStart 1 M s wy ld 11) 40 = liveN (M 11) 40 + 1 := by
  obtain ⟨⟨h1, h2, h3, h4, h5, h6, h7, h8, h9⟩, hsa, ⟨c1, c2, c3, c4, c5, c6⟩, ho, ⟨p1, p2⟩, h99, hcn, hsil⟩ := h
  obtain ⟨k1, k2, k3⟩ := sh_lt c2 h40
  have ht := tn31 hs
  have hnl : mLoudest P s = -1 := by
    have e := hsa _ ht
    rw [← nI_tn hs.1] at e
    rw [← e]
    exact hno
  have hl0 : 0 < ld := Int32.lt_of_lt_of_le (by decide) hl.1
  obtain ⟨o1, o2, o3, o4⟩ := ho
  have hP : P 29 2 = M 1 2 := h1.2.2.1.symm
  have hnk : M 1 2 = nI (tn (M 1 2)) := nI_tn c2.1
  have hS : mSh P = tn (M 1 2) := by
    show tn (P 29 2) = _
    rw [hP]
  unfold cStart mSho1
  rw [hP]
  generalize hk : tn (M 1 2) = k at *
  have hdead : ¬ 0 < M 11 k := h8 k k1 (by rw [hS]; exact Nat.le_refl k)
  have hlive : ∀ j, wr (wr (wr (wr (wr (wr (wr M (1 + 10) k ld) (1 + 11) k s) (1 + 12) k wy) (1 + 13) k 0) (1 + 3) (tn s) (M 1 2)) 1 2 (M 1 2 + 1)) 1 3 (M 1 3 + 1) 11 j = if j = k then ld else M 11 j := fun j => by
    grind (splits := 40) (ematch := 30) (gen := 40) [wr_ap]
  have hlN : liveN (M 11) 40 + 1 = liveN (wr (wr (wr (wr (wr (wr (wr M (1 + 10) k ld) (1 + 11) k s) (1 + 12) k wy) (1 + 13) k 0) (1 + 3) (tn s) (M 1 2)) 1 2 (M 1 2 + 1)) 1 3 (M 1 3 + 1) 11) 40 :=
    liveN_off (f := wr (wr (wr (wr (wr (wr (wr M (1 + 10) k ld) (1 + 11) k s) (1 + 12) k wy) (1 + 13) k 0) (1 + 3) (tn s) (M 1 2)) 1 2 (M 1 2 + 1)) 1 3 (M 1 3 + 1) 11) (h := M 11) (j := k) (by rw [hlive, if_pos rfl]; exact hl0) hdead 40 k1 (fun i hi hik => by rw [hlive, if_neg hik])
  have hL : ∀ s', mLoudest (wr (wr (wr (wr (wr (wr P 29 0 0) 34 (27 + k) ld) 34 (67 + k) s) 34 (107 + k) wy) 34 (147 + k) 0) 29 2 (M 1 2 + 1)) s' = if s = s' then nI k else mLoudest P s' := fun s' => by
    have q1 : ∀ j, j < 40 → j ≠ k → wr (wr (wr (wr (wr (wr P 29 0 0) 34 (27 + k) ld) 34 (67 + k) s) 34 (107 + k) wy) 34 (147 + k) 0) 29 2 (M 1 2 + 1) 34 (27 + j) = P 34 (27 + j) ∧ wr (wr (wr (wr (wr (wr P 29 0 0) 34 (27 + k) ld) 34 (67 + k) s) 34 (107 + k) wy) 34 (147 + k) 0) 29 2 (M 1 2 + 1) 34 (67 + j) = P 34 (67 + j) := fun j hj hne => by
      grind (splits := 40) (ematch := 30) (gen := 40) [wr_ap]
    have q2 : wr (wr (wr (wr (wr (wr P 29 0 0) 34 (27 + k) ld) 34 (67 + k) s) 34 (107 + k) wy) 34 (147 + k) 0) 29 2 (M 1 2 + 1) 34 (27 + k) = ld ∧ wr (wr (wr (wr (wr (wr P 29 0 0) 34 (27 + k) ld) 34 (67 + k) s) 34 (107 + k) wy) 34 (147 + k) 0) 29 2 (M 1 2 + 1) 34 (67 + k) = s := by
      grind (splits := 40) (ematch := 30) (gen := 40) [wr_ap]
    have q3 : mSh (wr (wr (wr (wr (wr (wr P 29 0 0) 34 (27 + k) ld) 34 (67 + k) s) 34 (107 + k) wy) 34 (147 + k) 0) 29 2 (M 1 2 + 1)) = k + 1 := by
      show tn (wr _ 29 2 (M 1 2 + 1) 29 2) = _
      rw [wr_eq, k3]
    generalize wr (wr (wr (wr (wr (wr P 29 0 0) 34 (27 + k) ld) 34 (67 + k) s) 34 (107 + k) wy) 34 (147 + k) 0) 29 2 (M 1 2 + 1) = Q at q1 q2 q3
    have e : mLdL Q s' k = mLdL P s' k := mLdL_ext k (by omega) (fun j hj => q1 j (by omega) (by omega))
    have eP : mLoudest P s' = mLdL P s' k := by
      unfold mLoudest
      rw [hS]
    unfold mLoudest
    rw [q3]
    show (if 0 < Q 34 (27 + k) ∧ Q 34 (67 + k) = s' ∧ (mLdL Q s' k = -1 ∨ Q 34 (27 + tn (mLdL Q s' k)) < Q 34 (27 + k)) then nI k else mLdL Q s' k) = if s = s' then nI k else mLdL P s' (mSh P)
    rw [q2.1, q2.2, e, hS]
    by_cases c : s = s'
    · rw [if_pos c, if_pos (show 0 < ld ∧ s = s' ∧ (mLdL P s' k = -1 ∨ Q 34 (27 + tn (mLdL P s' k)) < ld) from ⟨hl0, c, Or.inl (by rw [← eP, ← c]; exact hnl)⟩)]
    · rw [if_neg c, if_neg (fun z => c z.2.1)]
  have hSQ : mSh (wr (wr (wr (wr (wr (wr P 29 0 0) 34 (27 + k) ld) 34 (67 + k) s) 34 (107 + k) wy) 34 (147 + k) 0) 29 2 (M 1 2 + 1)) = k + 1 := by
    show tn (wr _ 29 2 (M 1 2 + 1) 29 2) = _
    rw [wr_eq, k3]
  refine ⟨⟨⟨?_, ?_, ?_, ?_, ?_, ?_, ?_, ?_, ?_⟩, fun s' hs' => ?_, ⟨?_, ?_, fun s' hs' => ?_, fun w' hw' => ?_, fun s' hs' => ?_, fun j hj hlj => ?_⟩, ⟨o1, ?_, o3, fun w' hw' => ?_⟩, ⟨p1, p2⟩, fun j hj => ?_, hcn, hsil⟩, hz, hlN.symm⟩
  · grind (splits := 40) (ematch := 30) (gen := 40) [wr_ap]
  · grind (splits := 40) (ematch := 30) (gen := 40) [wr_ap]
  · grind (splits := 40) (ematch := 30) (gen := 40) [wr_ap]
  · grind (splits := 40) (ematch := 30) (gen := 40) [wr_ap]
  · grind (splits := 40) (ematch := 30) (gen := 40) [wr_ap]
  · grind (splits := 40) (ematch := 30) (gen := 40) [wr_ap]
  · intro j hj hd
    rw [hlive] at hd
    rw [hSQ] at hj
    have hne : j ≠ k := fun e => by rw [if_pos e] at hd; exact hd hl0
    rw [if_neg hne] at hd
    have e := h7 j (by rw [hS]; omega) hd
    grind (splits := 40) (ematch := 30) (gen := 40) [wr_ap]
  · intro j hj hge hd
    rw [hlive] at hd
    rw [hSQ] at hge
    rw [if_neg (by omega)] at hd
    exact h8 j hj (by rw [hS]; omega) hd
  · show _ = nI (liveN (wr (wr (wr (wr (wr (wr (wr M (1 + 10) k ld) (1 + 11) k s) (1 + 12) k wy) (1 + 13) k 0) (1 + 3) (tn s) (M 1 2)) 1 2 (M 1 2 + 1)) 1 3 (M 1 3 + 1) 11) 40)
    rw [← hlN, wr_eq, h9]
    exact nI_1 _
  · rw [hL]
    have e4 : wr (wr (wr (wr (wr (wr (wr M (1 + 10) k ld) (1 + 11) k s) (1 + 12) k wy) (1 + 13) k 0) (1 + 3) (tn s) (M 1 2)) 1 2 (M 1 2 + 1)) 1 3 (M 1 3 + 1) (1 + 3) s' = if s' = tn s then M 1 2 else M 4 s' := by
      grind (splits := 40) (ematch := 30) (gen := 40) [wr_ap]
    rw [e4]
    by_cases c : s' = tn s
    · rw [if_pos c, if_pos (by rw [c]; exact nI_tn hs.1)]
      exact hnk
    · rw [if_neg c, if_neg (fun z => c (by rw [z, tn_nI (by omega)]))]
      exact hsa s' hs'
  · exact c1
  · rw [wr_ne (by omega), wr_eq]
    exact k2
  · exact c3 s' hs'
  · exact c4 w' hw'
  · have e4 : wr (wr (wr (wr (wr (wr (wr M (1 + 10) k ld) (1 + 11) k s) (1 + 12) k wy) (1 + 13) k 0) (1 + 3) (tn s) (M 1 2)) 1 2 (M 1 2 + 1)) 1 3 (M 1 3 + 1) (1 + 3) s' = if s' = tn s then M 1 2 else M 4 s' := by
      grind (splits := 40) (ematch := 30) (gen := 40) [wr_ap]
    rw [e4]
    split
    · rw [hnk]
      exact nI39 k1
    · exact c5 s' hs'
  · have e5 : wr (wr (wr (wr (wr (wr (wr M (1 + 10) k ld) (1 + 11) k s) (1 + 12) k wy) (1 + 13) k 0) (1 + 3) (tn s) (M 1 2)) 1 2 (M 1 2 + 1)) 1 3 (M 1 3 + 1) (1 + 11) j = if j = k then s else M 12 j := by
      grind (splits := 40) (ematch := 30) (gen := 40) [wr_ap]
    rw [e5]
    have hlj : 0 < (if j = k then ld else M 11 j) := by rw [← hlive]; exact hlj
    by_cases c : j = k
    · rw [if_pos c]; exact hs
    · rw [if_neg c] at hlj ⊢
      exact c6 j hj hlj
  · rw [wr_eq]; exact k2
  · rw [wr_ne (by omega), wr_ne (by omega), wr_ne (by omega), wr_ne (by omega), wr_ne (by omega), wr_ne (by omega)]
    exact o4 w' hw'
  · have e6 : wr (wr (wr (wr (wr (wr (wr M (1 + 10) k ld) (1 + 11) k s) (1 + 12) k wy) (1 + 13) k 0) (1 + 3) (tn s) (M 1 2)) 1 2 (M 1 2 + 1)) 1 3 (M 1 3 + 1) (1 + 10) j = if j = k then ld else M 11 j := hlive j
    rw [e6]
    by_cases c : j = k
    · rw [if_pos c]
      exact ⟨Int32.le_of_lt hl0, hl.2⟩
    · rw [if_neg c]
      exact h99 j hj
