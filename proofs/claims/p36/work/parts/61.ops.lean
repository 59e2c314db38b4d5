/-! What the calls that change something do to the relation. -/
/-- walls that are not built have thrown back nothing; what stands on a stone is built -/
def Zz (b : Nat) (M : Mem) : Prop := (∀ w, tn (M b 1) ≤ w → w < 10 → M (b + 7) w = 0) ∧ ∀ s, s < 32 → M (b + 2) s = -1 ∨ tn (M (b + 2) s) < tn (M b 1)
theorem Zz.same {b : Nat} {M M' : Mem} (h : Zz b M) (s : cSame b M M') (e : M' (b + 7) = M (b + 7)) : Zz b M' := by
  obtain ⟨s1, -, s3, -⟩ := s
  unfold Zz
  rw [s1, s3, e]
  exact h
theorem cMove_z {b : Nat} {M : Mem} (h : Zz b M) (k : Nat) : Zz b (cMove b M k) := by
  have hs := cMove_same b M k
  have h1 : ∀ N : Mem, cHush b N k (b + 7) = N (b + 7) := fun N => by
    unfold cHush
    rw [wr_cell (by omega), wr_cell (by omega), wr_cell (by omega), wr_cell (by omega)]
  have h2 : ∀ s, cGo b M k s (b + 7) = M (b + 7) ∧ cGo b M k s (b + 2) = M (b + 2) := fun s => by
    unfold cGo
    rw [wr_cell (by omega), wr_cell (by omega), wr_cell (by omega), wr_cell (by omega)]
    exact ⟨rfl, rfl⟩
  have h4 : ∀ s, 0 ≤ s ∧ s ≤ 31 → ∀ w, tn (M b 1) ≤ w → w < 10 → cMv b M k s (b + 7) w = 0 := fun s hs9 w hw hw10 => by
    unfold cMv
    split
    · rename_i c
      have hne : w ≠ tn (M (b + 2) (tn s)) := fun e => by
        rcases h.2 _ (tn31 hs9) with z | z
        · exact c.2 z
        · omega
      unfold cTurn
      rw [wr_cell (by omega), wr_cell (by omega), wr_cell (by omega), wr_ne (Or.inr hne), wr_cell (by omega), (h2 s).1]
      exact h.1 w hw hw10
    · rw [(h2 s).1]
      exact h.1 w hw hw10
  obtain ⟨s1, -, s3, -⟩ := hs
  refine ⟨fun w hw hw10 => ?_, fun s hs => by rw [s3, s1]; exact h.2 s hs⟩
  rw [s1] at hw
  unfold cMove
  split
  · rename_i c
    split
    · exact h4 _ c w hw hw10
    · rw [h1]
      exact h4 _ c w hw hw10
  · rw [h1]
    exact h.1 w hw hw10
theorem cMoveL_z {b : Nat} {M : Mem} (h : Zz b M) : ∀ k, Zz b (cMoveL b M k)
  | 0 => h
  | k + 1 => by
    unfold cMoveL
    split
    · exact cMove_z (cMoveL_z h k) k
    · exact cMoveL_z h k
theorem cSettle_7 (b : Nat) (M : Mem) (k : Nat) : cSettle b M k (b + 7) = M (b + 7) := by
  have h1 : ∀ (N : Mem) k, cHush b N k (b + 7) = N (b + 7) := fun N k => by
    unfold cHush
    rw [wr_cell (by omega), wr_cell (by omega), wr_cell (by omega), wr_cell (by omega)]
  have h2 : cOv b M (b + 7) = M (b + 7) := wr_cell (by omega)
  unfold cSettle
  split
  · exact wr_cell (by omega)
  · split
    · rw [wr_cell (by omega), h1, h2]
    · rw [h1, h2]
theorem cMeetL_7 (b : Nat) (M : Mem) : ∀ k, cMeetL b M k (b + 7) = M (b + 7)
  | 0 => wrc_cell (by omega)
  | k + 1 => by
    unfold cMeetL
    split
    · rw [cSettle_7, cMeetL_7 b M k]
    · exact cMeetL_7 b M k
theorem cLW_c (b : Nat) (M : Mem) (e : Nat) : ∀ n w, cLW b M e n w (b + 7) = M (b + 7) ∧ cLW b M e n w (b + 2) = M (b + 2)
  | 0, _ => ⟨rfl, rfl⟩
  | n + 1, w => by
    unfold cLW
    split
    · rw [wr_cell (by omega), wr_cell (by omega), wr_cell (by omega), wr_cell (by omega)]
      exact ⟨rfl, rfl⟩
    · exact cLW_c b M e n (w + 1)
theorem cListen_c (b : Nat) (M : Mem) (e : Nat) (p : Int32) : cListen b M e p (b + 7) = M (b + 7) ∧ cListen b M e p (b + 2) = M (b + 2) := by
  unfold cListen
  split
  · rw [(cLW_c _ _ _ _ _).1, (cLW_c _ _ _ _ _).2, wr_cell (by omega), wr_cell (by omega)]
    unfold cSil
    rw [wr_cell (by omega), wr_cell (by omega)]
    exact ⟨rfl, rfl⟩
  · unfold cSil
    rw [wr_cell (by omega), wr_cell (by omega)]
    exact ⟨rfl, rfl⟩
theorem cBeat_z {b : Nat} {M : Mem} (hc : cOK b M) (h : Zz b M) : Zz b (cBeat b M) := by
  have z1 : Zz b (cB1 b M) := cMoveL_z h _
  have z2 : Zz b (cB2 b M) := z1.same (cMeetL_same _ _ _) (cMeetL_7 _ _ _)
  have e7 : cBeat b M (b + 7) = cB2 b M (b + 7) := by
    show wr (cB4 b M) b 0 _ (b + 7) = _
    rw [wr_cell (by omega)]
    exact (cListen_c _ _ _ _).1.trans (cListen_c _ _ _ _).1
  have e2 : cBeat b M (b + 2) = cB2 b M (b + 2) := by
    show wr (cB4 b M) b 0 _ (b + 2) = _
    rw [wr_cell (by omega)]
    exact (cListen_c _ _ _ _).2.trans (cListen_c _ _ _ _).2
  have e1 : cBeat b M b 1 = cB2 b M b 1 := (cBeat_ok hc).2.2.trans (cB2_ok hc).2.1.symm
  unfold Zz
  rw [e7, e2, e1]
  exact z2
theorem cBeats_z {b : Nat} {M : Mem} (hc : cOK b M) (h : Zz b M) : ∀ n, Zz b (cBeats b M n)
  | 0 => h
  | n + 1 => cBeat_z (cBeats_ok hc n).1 (cBeats_z hc h n)
theorem mLoudest_34 {P Q : Mem} (h : mOK P) (e2 : Q 29 2 = P 29 2) (e4 : ∀ j, j < 40 → Q 34 (27 + j) = P 34 (27 + j) ∧ Q 34 (67 + j) = P 34 (67 + j)) (s : Int32) : mLoudest Q s = mLoudest P s := by
  have hs : mSh Q = mSh P := by
    show tn (Q 29 2) = tn (P 29 2)
    rw [e2]
  have := h.sh
  unfold mLoudest
  rw [hs]
  exact mLdL_ext _ (by omega) (fun j hj => e4 j (by omega))
theorem w_lt {x : Int32} (h : 0 ≤ x ∧ x ≤ 10) (h10 : ¬ x = 10) : tn x < 10 ∧ (0 ≤ x + 1 ∧ x + 1 ≤ 10) ∧ tn (x + 1) = tn x + 1 := by
  obtain ⟨j, h1, rfl⟩ := nI_of (Int32.not_lt.mpr h.1)
  have hj : j ≤ 10 := by
    have := tn_le (n := 10) h.1 (by decide) h.2
    rw [tn_nI h1] at this
    exact this
  have hne : j ≠ 10 := fun e => h10 (by rw [e]; rfl)
  rw [show nI j + 1 = nI (j + 1) from nI_1 j, tn_nI h1, tn_nI (by omega)]
  exact ⟨by omega, ⟨nI_pos' (by omega), nI_le (b := 10) (by omega) (by decide)⟩, rfl⟩
theorem op_build {nb : Nat} {M P : Mem} (h : Rel 1 nb M P) (hz : Zz 1 M) {s e so : Int32} (hs : 0 ≤ s ∧ s ≤ 31) (he : 0 ≤ e ∧ e ≤ 1) (hso : 0 ≤ so ∧ so ≤ 5) (h10 : ¬ M 1 1 = 10) : Rel 1 nb (cBuild M s e so) (mAW P s e so) ∧ Zz 1 (cBuild M s e so) := by
  obtain ⟨⟨h1, h2, h3, h4, h5, h6, h7, h8, h9⟩, hsa, ⟨c1, c2, c3, c4, c5, c6⟩, ho, ⟨p1, p2⟩, h99, hcn, hsil⟩ := h
  obtain ⟨w1, w2, w3⟩ := w_lt c1 h10
  have ht := tn31 hs
  obtain ⟨o1, o2, o3, o4⟩ := ho
  have hP : P 29 1 = M 1 1 := h1.2.1.symm
  have hnw : M 1 1 = nI (tn (M 1 1)) := nI_tn c1.1
  obtain ⟨z1, z2⟩ := hz
  unfold cBuild mAW
  rw [hP]
  generalize hw : tn (M 1 1) = w at *
  have hz0 := z1 w (Nat.le_refl _) w1
  have hm : ∀ s', mLoudest (wr (wr (wr (wr (wr (wr P 29 0 0) 31 (tn s) (M 1 1)) 32 w s) 33 w so) 34 (7 + w) e) 29 1 (M 1 1 + 1)) s' = mLoudest P s' := fun s' => by
    refine mLoudest_34 (P := P) ⟨o1, o2, o3, o4⟩ (by rw [wr_ne (by omega)]; rfl) (fun j hj => ⟨?_, ?_⟩) s'
    · rw [wr_ne (by omega), wr_ne (by omega)]; rfl
    · rw [wr_ne (by omega), wr_ne (by omega)]; rfl
  refine ⟨⟨⟨?_, ?_, ?_, ?_, ?_, ?_, ?_, ?_, ?_⟩, fun s' hs' => ?_, ⟨?_, ?_, fun s' hs' => ?_, fun w' hw' => ?_, fun s' hs' => ?_, fun k hk hl => ?_⟩, ⟨?_, ?_, fun s' hs' => ?_, fun w' hw' => ?_⟩, ⟨fun s' hs' => ?_, fun w' hw' => ?_⟩, fun k hk => ?_, fun e' he' => ?_, fun e' he' => ?_⟩, ⟨fun w' hw' hw10 => ?_, fun s' hs' => ?_⟩⟩
  · grind (splits := 40) (ematch := 30) (gen := 40) [wr_ap]
  · grind (splits := 40) (ematch := 30) (gen := 40) [wr_ap]
  · grind (splits := 40) (ematch := 30) (gen := 40) [wr_ap]
  · grind (splits := 40) (ematch := 30) (gen := 40) [wr_ap]
  · grind (splits := 40) (ematch := 30) (gen := 40) [wr_ap]
  · grind (splits := 40) (ematch := 30) (gen := 40) [wr_ap]
  · grind (splits := 40) (ematch := 30) (gen := 40) [wr_ap]
  · grind (splits := 40) (ematch := 30) (gen := 40) [wr_ap]
  · exact h9
  · rw [hm]; exact hsa s' hs'
  · rw [wr_eq]; exact w2
  · exact c2
  · show wr (wr (wr (wr (wr (wr M 5 w s) 6 w e) 7 w so) 8 w 0) 3 (tn s) (M 1 1)) 1 1 (M 1 1 + 1) 3 s' = -1 ∨ _
    rw [wr_cell (by omega), wr_ap]
    split
    · right
      refine ⟨c1.1, ?_⟩
      rw [hnw]
      exact nI_le (b := 9) (by omega) (by decide)
    · exact c3 s' hs'
  · show 0 ≤ wr (wr (wr (wr (wr (wr M 5 w s) 6 w e) 7 w so) 8 w 0) 3 (tn s) (M 1 1)) 1 1 (M 1 1 + 1) 6 w' ∧ _
    rw [show wr (wr (wr (wr (wr (wr M 5 w s) 6 w e) 7 w so) 8 w 0) 3 (tn s) (M 1 1)) 1 1 (M 1 1 + 1) 6 w' = if w' = w then e else M 6 w' by grind [wr_ap]]
    split
    · exact he
    · exact c4 w' hw'
  · exact c5 s' hs'
  · exact c6 k hk hl
  · rw [wr_eq]; exact w2
  · exact o2
  · rw [wr_cell (by omega), wr_cell (by omega), wr_cell (by omega), wr_cell (by omega), wr_ap]
    split
    · right
      refine ⟨c1.1, ?_⟩
      rw [hnw]
      exact nI_le (b := 9) (by omega) (by decide)
    · exact o3 s' hs'
  · rw [wr_cell (by omega), wr_ap]
    split
    · exact he
    · exact o4 w' hw'
  · exact p1 s' hs'
  · rw [wr_cell (by omega), wr_cell (by omega), wr_ap]
    split
    · exact hso
    · exact p2 w' hw'
  · exact h99 k hk
  · exact hcn e' he'
  · exact hsil e' he'
  · rw [wr_eq, w3] at hw'
    show wr (wr (wr (wr (wr (wr M 5 w s) 6 w e) 7 w so) 8 w 0) 3 (tn s) (M 1 1)) 1 1 (M 1 1 + 1) 8 w' = 0
    rw [wr_cell (by omega), wr_cell (by omega), wr_ap]
    split
    · rfl
    · exact z1 w' (by omega) hw10
  · rw [wr_eq, w3]
    show wr (wr (wr (wr (wr (wr M 5 w s) 6 w e) 7 w so) 8 w 0) 3 (tn s) (M 1 1)) 1 1 (M 1 1 + 1) 3 s' = -1 ∨ tn (wr (wr (wr (wr (wr (wr M 5 w s) 6 w e) 7 w so) 8 w 0) 3 (tn s) (M 1 1)) 1 1 (M 1 1 + 1) 3 s') < w + 1
    rw [wr_cell (by omega), wr_ap]
    split
    · right
      rw [hw]
      omega
    · rcases z2 s' hs' with z | z
      · exact Or.inl z
      · right
        show tn (M 3 s') < w + 1
        have z' : tn (M 3 s') < w := z
        omega
/-- hand, snow -/
theorem op_hand {nb : Nat} {M P : Mem} (h : Rel 1 nb M P) (hz : Zz 1 M) {w : Nat} (hw : w < 10) {x : Int32} (hx : 0 ≤ x ∧ x ≤ 1) : Rel 1 nb (wr M 6 w x) (wr (wr P 29 0 0) 34 (7 + w) x) ∧ Zz 1 (wr M 6 w x) := by
  obtain ⟨⟨h1, h2, h3, h4, h5, h6, h7, h8, h9⟩, hsa, ⟨c1, c2, c3, c4, c5, c6⟩, ⟨o1, o2, o3, o4⟩, ⟨p1, p2⟩, h99, hcn, hsil⟩ := h
  have hm : ∀ s', mLoudest (wr (wr P 29 0 0) 34 (7 + w) x) s' = mLoudest P s' := fun s' => by
    refine mLoudest_34 (P := P) ⟨o1, o2, o3, o4⟩ (by rw [wr_ne (by omega)]; rfl) (fun j hj => ⟨?_, ?_⟩) s'
    · rw [wr_ne (by omega)]; rfl
    · rw [wr_ne (by omega)]; rfl
  refine ⟨⟨⟨?_, ?_, ?_, ?_, ?_, ?_, ?_, ?_, ?_⟩, fun s' hs' => ?_, ⟨c1, c2, c3, fun w' hw' => ?_, c5, c6⟩, ⟨o1, o2, o3, fun w' hw' => ?_⟩, ⟨p1, p2⟩, h99, hcn, hsil⟩, hz⟩
  · grind (splits := 40) (ematch := 30) (gen := 40) [wr_ap]
  · grind (splits := 40) (ematch := 30) (gen := 40) [wr_ap]
  · grind (splits := 40) (ematch := 30) (gen := 40) [wr_ap]
  · grind (splits := 40) (ematch := 30) (gen := 40) [wr_ap]
  · grind (splits := 40) (ematch := 30) (gen := 40) [wr_ap]
  · grind (splits := 40) (ematch := 30) (gen := 40) [wr_ap]
  · grind (splits := 40) (ematch := 30) (gen := 40) [wr_ap]
  · grind (splits := 40) (ematch := 30) (gen := 40) [wr_ap]
  · exact h9
  · rw [hm]; exact hsa s' hs'
  · rw [wr_ap]
    split
    · exact hx
    · exact c4 w' hw'
  · rw [wr_ap]
    split
    · exact hx
    · exact o4 w' hw'
theorem op_snow {nb : Nat} {M P : Mem} (h : Rel 1 nb M P) (hz : Zz 1 M) {s : Nat} {x : Int32} (hx : 0 ≤ x ∧ x ≤ 5) : Rel 1 nb (wr M 2 s x) (wr (wr P 29 0 0) 30 s x) ∧ Zz 1 (wr M 2 s x) := by
  obtain ⟨⟨h1, h2, h3, h4, h5, h6, h7, h8, h9⟩, hsa, ⟨c1, c2, c3, c4, c5, c6⟩, ⟨o1, o2, o3, o4⟩, ⟨p1, p2⟩, h99, hcn, hsil⟩ := h
  have hm : ∀ s', mLoudest (wr (wr P 29 0 0) 30 s x) s' = mLoudest P s' := fun s' => mLoudest_34 (P := P) (Q := wr (wr P 29 0 0) 30 s x) ⟨o1, o2, o3, o4⟩ rfl (fun j hj => ⟨rfl, rfl⟩) s'
  refine ⟨⟨⟨h1, ?_, h3, h4, h5, h6, h7, h8, h9⟩, fun s' hs' => ?_, ⟨c1, c2, c3, c4, c5, c6⟩, ⟨o1, o2, o3, o4⟩, ⟨fun s' hs' => ?_, p2⟩, h99, hcn, hsil⟩, hz⟩
  · grind (splits := 40) (ematch := 30) (gen := 40) [wr_ap]
  · rw [hm]; exact hsa s' hs'
  · rw [wr_ap]
    split
    · exact hx
    · exact p1 s' hs'
