/-! A beat, both sides. -/
theorem mFO_ext {M M' : Mem} {e : Int32} : ∀ n w, (∀ j, j < 10 → M' 34 (7 + j) = M 34 (7 + j)) → w + n ≤ 10 → mFO M' e n w = mFO M e n w
  | 0, _, _, _ => rfl
  | n + 1, w, h, hw => by
    unfold mFO
    rw [h w (by omega), mFO_ext n (w + 1) h (by omega)]
theorem cLW_eq {b e : Nat} {N Q : Mem} (h : ∀ w, w < 10 → N (b + 5) w = Q 34 (7 + w)) : ∀ n w, w + n ≤ 10 → cLW b N e n w = if mFO Q (nI e) n w = -1 then N else wr (wr N (b + 5) (tn (mFO Q (nI e) n w)) (cOth (nI e))) b 5 (N b 5 + 1)
  | 0, _, _ => by rw [show mFO Q (nI e) 0 _ = -1 from rfl, if_pos rfl]; rfl
  | n + 1, w, hw => by
    unfold cLW mFO
    rw [h w (by omega)]
    by_cases c : Q 34 (7 + w) = nI e
    · rw [if_pos c, if_pos c, if_neg (nI_m1 (by omega)), tn_nI (by omega)]
    · rw [if_neg c, if_neg c]
      exact cLW_eq h n (w + 1) (by omega)
theorem cOth_nI {e : Nat} (he : e < 2) : cOth (nI e) = 1 - nI e := by
  rcases (show e = 0 ∨ e = 1 by omega) with rfl | rfl <;> decide
def Ls (b e : Nat) (N Q N' Q' : Mem) : Prop :=
  (∀ c, c ≠ b → c ≠ b + 5 → c ≠ b + 9 → N' c = N c) ∧ (∀ e', e' ≠ e → N' (b + 9) e' = N (b + 9) e') ∧ (0 ≤ N' (b + 9) e ∧ N' (b + 9) e < 12) ∧ Q' 36 = Q 36 ∧ (∀ j, 27 ≤ j → Q' 34 j = Q 34 j) ∧ Q' 29 = Q 29
theorem sil_12 {x : Int32} (h : 0 ≤ x ∧ x < 12) : (12 ≤ x + 1 ↔ x + 1 = 12) ∧ 0 ≤ x + 1 ∧ x + 1 ≤ 12 := by
  have a1 := i_le.mp h.1
  have a2 := i_lt.mp h.2
  simp only [i_c0, show (12 : Int32).toInt = 12 from rfl] at a1 a2
  have e : (x + 1).toInt = x.toInt + 1 := i_inc (by omega) (by omega)
  rw [i_le, i_le, i_le, i_eq, e, i_c0, show (12 : Int32).toInt = 12 from rfl]
  omega
theorem ls_1 {b e : Nat} {N Q : Mem} {x : Int32} (h : Rw b N Q) (he : e < 2) : Rw b (wr N (b + 9) e x) (wr Q 34 (5 + e) x) := by
  obtain ⟨h1, h2, h3, h4, h5, h6, h7, h8, h9⟩ := h
  refine ⟨?_, ?_, ?_, ?_, ?_, ?_, ?_, ?_, ?_⟩
  · grind (splits := 40) (ematch := 30) (gen := 40) [wr_ap]
  · grind (splits := 40) (ematch := 30) (gen := 40) [wr_ap]
  · grind (splits := 40) (ematch := 30) (gen := 40) [wr_ap]
  · grind (splits := 40) (ematch := 30) (gen := 40) [wr_ap]
  · grind (splits := 40) (ematch := 30) (gen := 40) [wr_ap]
  · grind (splits := 40) (ematch := 30) (gen := 40) [wr_ap]
  · grind (splits := 40) (ematch := 30) (gen := 40) [wr_ap]
  · grind (splits := 40) (ematch := 30) (gen := 40) [wr_ap]
  · rw [wr_ne (by omega), wr_cell (by omega)]
    exact h9
theorem ls_2 {b w : Nat} {N Q : Mem} {x : Int32} (h : Rw b N Q) (hw : w < 10) : Rw b (wr (wr N (b + 5) w x) b 5 (N b 5 + 1)) (wr (wr Q 34 (7 + w) x) 34 2 (Q 34 2 + 1)) := by
  obtain ⟨h1, h2, h3, h4, h5, h6, h7, h8, h9⟩ := h
  refine ⟨?_, ?_, ?_, ?_, ?_, ?_, ?_, ?_, ?_⟩
  · grind (splits := 40) (ematch := 30) (gen := 40) [wr_ap]
  · grind (splits := 40) (ematch := 30) (gen := 40) [wr_ap]
  · grind (splits := 40) (ematch := 30) (gen := 40) [wr_ap]
  · grind (splits := 40) (ematch := 30) (gen := 40) [wr_ap]
  · grind (splits := 40) (ematch := 30) (gen := 40) [wr_ap]
  · grind (splits := 40) (ematch := 30) (gen := 40) [wr_ap]
  · grind (splits := 40) (ematch := 30) (gen := 40) [wr_ap]
  · grind (splits := 40) (ematch := 30) (gen := 40) [wr_ap]
  · rw [wr_ne (by omega), wr_ne (by omega), wr_cell (by omega), wr_cell (by omega)]
    exact h9
theorem listen {b e : Nat} {N Q : Mem} {p : Int32} (h : Rw b N Q) (ho : mOK Q) (he : e < 2) (hp : p = 0 ↔ Q 36 e = 0) (hs : 0 ≤ N (b + 9) e ∧ N (b + 9) e < 12) :
    Rw b (cListen b N e p) (mHush Q e) ∧ Ls b e N Q (cListen b N e p) (mHush Q e) := by
  obtain ⟨k1, k2, k3⟩ := sil_12 hs
  have hwe : cWs b N = mWs Q := by
    show tn (N b 1) = tn (Q 29 1)
    rw [h.1.2.1]
  have hws := ho.ws
  unfold cListen cSil mHush mSil
  rw [← (h.2.2.2.1 e he).2, wr_eq, wr_eq]
  have hx : (if p = 0 then N (b + 9) e + 1 else 0) = (if Q 36 e = 0 then N (b + 9) e + 1 else 0) := by
    by_cases c : p = 0
    · rw [if_pos c, if_pos (hp.mp c)]
    · rw [if_neg c, if_neg (fun z => c (hp.mpr z))]
  rw [← hx]
  have hxr : 0 ≤ (if p = 0 then N (b + 9) e + 1 else 0) ∧ (if p = 0 then N (b + 9) e + 1 else 0) ≤ 12 ∧ (12 ≤ (if p = 0 then N (b + 9) e + 1 else 0) ↔ (if p = 0 then N (b + 9) e + 1 else 0) = 12) := by
    by_cases c : p = 0
    · rw [if_pos c]; exact ⟨k2, k3, k1⟩
    · rw [if_neg c]; decide
  generalize (if p = 0 then N (b + 9) e + 1 else 0) = x at hxr
  by_cases c : x = 12
  · rw [if_pos c, if_pos (hxr.2.2.mpr c)]
    have r0 : Rw b (wr (wr N (b + 9) e x) (b + 9) e 0) (wr (wr Q 34 (5 + e) x) 34 (5 + e) 0) := ls_1 (ls_1 h he) he
    have hfo : ∀ w, w < 10 → wr (wr N (b + 9) e x) (b + 9) e 0 (b + 5) w = wr (wr Q 34 (5 + e) x) 34 (5 + e) 0 34 (7 + w) := fun w hw => (r0.2.2.1 w hw).2.1
    have hmw : mWs (wr (wr Q 34 (5 + e) x) 34 (5 + e) 0) = mWs Q := rfl
    rw [cLW_eq hfo _ _ (by rw [hwe]; omega), hwe]
    unfold mFirst
    rw [hmw]
    rcases mFO_or (wr (wr Q 34 (5 + e) x) 34 (5 + e) 0) (nI e) (mWs Q) 0 (by omega) with hf | ⟨hf1, hf2⟩
    · rw [if_pos hf, if_neg (fun z => z hf)]
      refine ⟨r0, fun c h1 h2 h3 => ?_, fun e' hne => ?_, ?_, rfl, fun j hj => ?_, rfl⟩
      · rw [wr_cell h3, wr_cell h3]
      · rw [wr_ne (by omega), wr_ne (by omega)]
      · rw [wr_eq]; decide
      · rw [wr_ne (by omega), wr_ne (by omega)]
    · have hf : mFO (wr (wr Q 34 (5 + e) x) 34 (5 + e) 0) (nI e) (mWs Q) 0 ≠ -1 := fun z => by rw [z] at hf1; exact absurd hf1 (by decide)
      rw [if_neg hf, if_pos hf, cOth_nI he]
      generalize tn (mFO (wr (wr Q 34 (5 + e) x) 34 (5 + e) 0) (nI e) (mWs Q) 0) = w at hf2
      unfold mLose
      rw [wr_ne (k := 34) (j := 7 + w) (k' := 34) (j' := 2) (by omega)]
      refine ⟨ls_2 r0 (by omega), fun c h1 h2 h3 => ?_, fun e' hne => ?_, ?_, rfl, fun j hj => ?_, rfl⟩
      · rw [wr_cell h1, wr_cell h2, wr_cell h3, wr_cell h3]
      · rw [wr_ne (by omega), wr_ne (by omega), wr_ne (by omega), wr_ne (by omega)]
      · rw [wr_ne (by omega), wr_ne (by omega), wr_eq]; decide
      · rw [wr_ne (by omega), wr_ne (by omega), wr_ne (by omega), wr_ne (by omega)]
  · rw [if_neg c, if_neg (fun z => c (hxr.2.2.mp z))]
    refine ⟨ls_1 h he, fun c h1 h2 h3 => ?_, fun e' hne => ?_, ?_, rfl, fun j hj => ?_, rfl⟩
    · rw [wr_cell h3]
    · rw [wr_ne (by omega)]
    · rw [wr_eq]
      refine ⟨hxr.1, ?_⟩
      rcases Int32.lt_or_eq_of_le hxr.2.1 with z | z
      · exact z
      · exact absurd z c
    · rw [wr_ne (by omega)]
theorem mLdL_ext {P Q : Mem} {s : Int32} : ∀ n, n < 1000 → (∀ j, j < n → Q 34 (27 + j) = P 34 (27 + j) ∧ Q 34 (67 + j) = P 34 (67 + j)) → mLdL Q s n = mLdL P s n
  | n, hn, h => win_hush hn (fun j hj => (h j hj).2) (fun j hj => Or.inl (h j hj).1) s
/-- the relation: a canyon and the model's now -/
def Rel (b nb : Nat) (M P : Mem) : Prop := Rw b M P ∧ (∀ s, s < 32 → M (b + 3) s = mLoudest P (nI s)) ∧ cOK b M ∧ mOK P ∧ mOK2 P ∧ (∀ k, k < 40 → 0 ≤ M (b + 10) k ∧ M (b + 10) k ≤ 99) ∧ (∀ e, e < 2 → 0 ≤ (M (b + 8) e).toInt ∧ (M (b + 8) e).toInt ≤ 40 * nb) ∧ (∀ e, e < 2 → 0 ≤ M (b + 9) e ∧ M (b + 9) e < 12)
def Dn (b : Nat) (M M' : Mem) : Prop := (∀ j, j < 40 → 0 < M (b + 10) j → M' (b + 10) j = 0 ∨ (0 < M' (b + 10) j ∧ (M' (b + 10) j).toInt + 1 ≤ (M (b + 10) j).toInt)) ∧ ∀ j, j < 40 → ¬ 0 < M (b + 10) j → M' (b + 10) j = M (b + 10) j
theorem cMove_9 (b : Nat) (M : Mem) (k : Nat) : cMove b M k (b + 9) = M (b + 9) := by
  have h1 : ∀ N : Mem, cHush b N k (b + 9) = N (b + 9) := fun N => by
    unfold cHush
    rw [wr_cell (by omega), wr_cell (by omega), wr_cell (by omega), wr_cell (by omega)]
  have h2 : ∀ s, cGo b M k s (b + 9) = M (b + 9) := fun s => by
    unfold cGo
    rw [wr_cell (by omega), wr_cell (by omega)]
  have h3 : ∀ (N : Mem) w, cTurn b N w k (b + 9) = N (b + 9) := fun N w => by
    unfold cTurn
    rw [wr_cell (by omega), wr_cell (by omega), wr_cell (by omega), wr_cell (by omega), wr_cell (by omega)]
  have h4 : ∀ s, cMv b M k s (b + 9) = M (b + 9) := fun s => by
    unfold cMv
    split
    · rw [h3, h2]
    · exact h2 s
  unfold cMove
  split
  · split
    · exact h4 _
    · rw [h1, h4]
  · exact h1 M
theorem cMoveL_9 (b : Nat) (M : Mem) : ∀ k, cMoveL b M k (b + 9) = M (b + 9)
  | 0 => rfl
  | k + 1 => by
    unfold cMoveL
    split
    · rw [cMove_9, cMoveL_9 b M k]
    · exact cMoveL_9 b M k
/-- .. through the moves and the meeting -/
theorem two_rel {b nb : Nat} {M P : Mem} (h : Rel b nb M P) (hnb : nb ≤ 100000) : Rw b (cB2 b M) (mB2 P) ∧ (∀ s, s < 32 → cB2 b M (b + 3) s = mLoudest (mB2 P) (nI s)) ∧ Dn b M (cB2 b M) ∧ (cB2 b M (b + 9) = M (b + 9)) ∧
    (∀ e, e < 2 → ((mB2 P 36 e = 0 ∧ cB2 b M (b + 8) e = M (b + 8) e) ∨ (mB2 P 36 e ≠ 0 ∧ (M (b + 8) e).toInt < (cB2 b M (b + 8) e).toInt)) ∧ (M (b + 8) e).toInt ≤ (cB2 b M (b + 8) e).toInt ∧ (cB2 b M (b + 8) e).toInt ≤ (M (b + 8) e).toInt + 40) := by
  obtain ⟨r, hsa, hc, ho, ho2, h99, hcn, hsil⟩ := h
  have hsh := ho.sh
  have hcs : cSh b M = mSh P := by
    show tn (M b 2) = tn (P 29 2)
    rw [r.1.2.2.1]
  have hg0 : ∀ e, e < 2 → mGot0 P 36 e = 0 := fun e he => by
    rcases (show e = 0 ∨ e = 1 by omega) with rfl | rfl <;> rfl
  obtain ⟨r1, v1, v2, v3⟩ := mv_all (P := mGot0 P) (show Rw b M (mGot0 P) from r) hc (show mOK (mGot0 P) from ho) (show mOK2 (mGot0 P) from ho2) (fun k hk => (h99 k hk).2) hg0 (fun e he => ⟨(hcn e he).1, by have := (hcn e he).2; omega⟩) (mSh P) (Nat.le_refl _)
  have hM2 : cB2 b M = cMeetL b (cMoveL b M (mSh P)) (mSh P) := by
    unfold cB2 cB1
    rw [hcs]
  have hP2 : mB2 P = mMeetL (mStepL (mGot0 P) (mSh P)) (mSh P) := rfl
  have hcA : cOK b (cMoveL b M (mSh P)) := hc.mk (cMoveL_same b M _) (cMoveL_s hc.s _)
  have hsA : cSame b M (cMoveL b M (mSh P)) := cMoveL_same b M _
  have hoB : mOK (mStepL (mGot0 P) (mSh P)) := (ho.same (mGot0_same P)).same (mStepL_same (ho.same (mGot0_same P)) _)
  have hSB : mSh (mStepL (mGot0 P) (mSh P)) = mSh P := by
    show tn (mStepL (mGot0 P) (mSh P) 29 2) = tn (P 29 2)
    rw [mStepL_fr (mGot0 P) (mSh P) 29 (by decide) (by decide)]
    rfl
  rw [hM2, hP2]
  have h9A : cMoveL b M (mSh P) (b + 9) = M (b + 9) := cMoveL_9 b M _
  generalize cMoveL b M (mSh P) = A at *
  generalize mStepL (mGot0 P) (mSh P) = B at *
  obtain ⟨c1, c2, c3⟩ := cm_all r1 hcA hoB (mSh P) (by rw [hSB]; exact Nat.le_refl _)
  obtain ⟨d1, d2, d3, d4⟩ := mm_all hoB (mSh P) (by rw [hSB]; exact Nat.le_refl _)
  generalize cMeetL b A (mSh P) = N at *
  generalize mMeetL B (mSh P) = Q at *
  have hmo : ∀ s, mLoudest B s = mLdL B s (mSh P) := fun s => by
    unfold mLoudest
    rw [hSB]
  have hld : ∀ j, j < 40 → N (b + 10) j = Q 34 (27 + j) := fun j hj => by
    rw [c2 j hj, d1 j hj, hmo]
  have hSQ : mSh Q = mSh P := by
    show tn (Q 29 2) = tn (P 29 2)
    rw [d2 29 (by decide)]
    exact hSB
  have hAl : ∀ j, j < 40 → A (b + 10) j = B 34 (27 + j) := fun j hj => (r1.2.2.2.2.1 j hj).1
  obtain ⟨q1, q2, q3, q4, q5, q6⟩ := c3
  have hlv : liveN (N (b + 10)) 40 = liveN (fun j => Q 34 (27 + j)) 40 := liveN_ext 40 (fun j hj => hld j hj)
  have hlv0 : liveN (A (b + 10)) 40 = liveN (fun j => B 34 (27 + j)) 40 := liveN_ext 40 (fun j hj => hAl j hj)
  have hNA : ∀ j, j < 40 → 0 < N (b + 10) j → 0 < A (b + 10) j ∧ N (b + 10) j = A (b + 10) j := fun j hj hl => by
    have e := c2 j hj
    rw [← hAl j hj] at e
    by_cases c : j < mSh P ∧ 0 < A (b + 10) j ∧ mLdL B (B 34 (67 + j)) (mSh P) ≠ nI j
    · rw [if_pos c] at e
      rw [e] at hl
      exact absurd hl (by decide)
    · rw [if_neg c] at e
      exact ⟨by rw [← e]; exact hl, e⟩
  have hN0 : ∀ j, j < 40 → N (b + 10) j = 0 ∨ N (b + 10) j = A (b + 10) j := fun j hj => by
    rw [c2 j hj, hAl j hj]
    split
    · exact Or.inl rfl
    · exact Or.inr rfl
  obtain ⟨r11, r12, r13, r14, r15, r16, r17, r18, r19⟩ := r1
  refine ⟨⟨⟨?_, ?_, ?_, ?_, ?_⟩, fun s hs => ?_, fun w hw => ?_, fun e he => ?_, fun k hk => ?_, fun k hk hl => ?_, fun k hk hl => ?_, fun k hk hsk hl => ?_, q5⟩, fun s hs => ?_, ⟨fun j hj hl => ?_, fun j hj hl => ?_⟩, ?_, fun e he => ?_⟩
  · rw [q4.1, r11.1, d3 0 (by omega) (by omega)]
  · rw [q4.2.1, r11.2.1, d2 29 (by decide)]
  · rw [q4.2.2.1, r11.2.2.1, d2 29 (by decide)]
  · have a1 := r11.2.2.2.1
    rw [q5, r19, hlv, hlv0] at q6
    grind
  · rw [q4.2.2.2, r11.2.2.2.2, d3 2 (by omega) (by omega)]
  · rw [q3 _ (Or.inl rfl), q3 _ (Or.inr (Or.inl rfl)), d2 30 (by decide), d2 31 (by decide)]
    exact r12 s hs
  · rw [q3 (b + 4) (by omega), q3 (b + 5) (by omega), q3 (b + 6) (by omega), q3 (b + 7) (by omega), d2 32 (by decide), d2 33 (by decide), d3 (7 + w) (by omega) (by omega), d3 (17 + w) (by omega) (by omega)]
    exact r13 w hw
  · rw [q3 (b + 8) (by omega), q3 (b + 9) (by omega), d3 (3 + e) (by omega) (by omega), d3 (5 + e) (by omega) (by omega)]
    exact r14 e he
  · refine ⟨hld k hk, ?_⟩
    rw [q3 (b + 13) (by omega), d3 (147 + k) (by omega) (by omega)]
    exact (r15 k hk).2
  · rw [(q1 k hk hl).1, (q1 k hk hl).2, d3 (67 + k) (by omega) (by omega), d3 (107 + k) (by omega) (by omega)]
    exact r16 k hk (hNA k hk hl).1
  · rw [hSQ] at hk
    rcases q2 k (by omega) hl with z | ⟨z1, z2, z3⟩
    · exact z.2
    · rw [z2, z3]
      exact r17 k (by rw [hSB]; exact hk) z1
  · rw [hSQ] at hsk
    exact r18 k hk (by rw [hSB]; exact hsk) (hNA k hk hl).1
  · rw [c1 s hs]
    unfold mLoudest
    rw [hSQ]
    refine (win_hush (by omega) (fun j hj => d3 _ (by omega) (by omega)) (fun j hj => ?_) _).symm
    rw [d1 j (by omega)]
    split
    · rename_i c
      refine Or.inr ⟨rfl, ?_⟩
      rw [← hmo]
      exact c.2.2
    · exact Or.inl rfl
  · rcases hN0 j hj with z | z
    · exact Or.inl z
    · rw [z]
      by_cases hjs : j < mSh P
      · exact v3 j hjs hl
      · exact absurd hl (r.2.2.2.2.2.2.2.1 j hj (by omega))
  · rcases hN0 j hj with z | z
    · rw [z]
      exact Int32.le_antisymm (h99 j hj).1 (Int32.not_lt.mp hl)
    · rw [z, v2 j (Or.inr hl)]
  · rw [q3 (b + 9) (by omega), h9A]
  · rw [q3 (b + 8) (by omega), d2 36 (by decide)]
    obtain ⟨z1, z2, z3⟩ := v1 e he
    exact ⟨z1, z2, by omega⟩
/-- a beat keeps the relation; who is loud grows softer -/
theorem beat_rel {b nb : Nat} {M P : Mem} (h : Rel b nb M P) (hnb : nb ≤ 100000) : Rel b (nb + 1) (cBeat b M) (mBeat P) ∧ Dn b M (cBeat b M) := by
  obtain ⟨t1, t2, t3, t4, t5⟩ := two_rel h hnb
  obtain ⟨r, hsa, hc, ho, ho2, h99, hcn, hsil⟩ := h
  have hp2 : mFr P (mB2 P) := by
    have h0 : mFr P (mGot0 P) := mFr.wr36.tr mFr.wr36
    exact (h0.tr (mStepL_fr _ _)).tr (mMeetL_fr _ _)
  have hoQ : mOK (mB2 P) := ho.same (mB2_same ho)
  have hq : ∀ e, e < 2 → (b2i (M (b + 8) e < cB2 b M (b + 8) e) = 0 ↔ mB2 P 36 e = 0) := fun e he => by
    rcases (t5 e he).1 with ⟨z1, z2⟩ | ⟨z1, z2⟩
    · rw [z2, b2i_f (c := M (b + 8) e < M (b + 8) e) Int32.lt_irrefl]
      exact ⟨fun _ => z1, fun _ => rfl⟩
    · rw [b2i_t (i_lt.mpr z2)]
      exact ⟨fun z => absurd z (by decide), fun z => absurd z z1⟩
  obtain ⟨l1, a1, a2, a3, a4, a5, a6⟩ := listen t1 hoQ (e := 0) (by decide) (hq 0 (by decide)) (by rw [t4]; exact hsil 0 (by decide))
  have ho3 := (mHush_ok hoQ 0 (by decide)).1
  have e8 : cListen b (cB2 b M) 0 (b2i (M (b + 8) 0 < cB2 b M (b + 8) 0)) (b + 8) = cB2 b M (b + 8) := a1 _ (by omega) (by omega) (by omega)
  have e9 : cListen b (cB2 b M) 0 (b2i (M (b + 8) 0 < cB2 b M (b + 8) 0)) (b + 9) 1 = cB2 b M (b + 9) 1 := a2 1 (by decide)
  obtain ⟨l2, b1, b2, b3, b4, b5, b6⟩ := listen l1 ho3 (e := 1) (p := b2i (M (b + 8) 1 < cListen b (cB2 b M) 0 (b2i (M (b + 8) 0 < cB2 b M (b + 8) 0)) (b + 8) 1)) (by decide) (by rw [e8, a4]; exact hq 1 (by decide)) (by rw [e9, t4]; exact hsil 1 (by decide))
  have hcB := cBeat_ok hc
  have hmB := mBeat_ok ho
  have hfB := mBeat_fr P
  have hC : cBeat b M = wr (cListen b (cListen b (cB2 b M) 0 (b2i (M (b + 8) 0 < cB2 b M (b + 8) 0))) 1 (b2i (M (b + 8) 1 < cListen b (cB2 b M) 0 (b2i (M (b + 8) 0 < cB2 b M (b + 8) 0)) (b + 8) 1))) b 0 (cListen b (cListen b (cB2 b M) 0 (b2i (M (b + 8) 0 < cB2 b M (b + 8) 0))) 1 (b2i (M (b + 8) 1 < cListen b (cB2 b M) 0 (b2i (M (b + 8) 0 < cB2 b M (b + 8) 0)) (b + 8) 1)) b 0 + 1) := rfl
  have hP : mBeat P = wr (mHush (mHush (mB2 P) 0) 1) 34 0 (mHush (mHush (mB2 P) 0) 1 34 0 + 1) := rfl
  generalize cListen b (cB2 b M) 0 (b2i (M (b + 8) 0 < cB2 b M (b + 8) 0)) = N1 at *
  generalize cListen b N1 1 (b2i (M (b + 8) 1 < N1 (b + 8) 1)) = N2 at *
  generalize mHush (mB2 P) 0 = Q1 at *
  generalize mHush Q1 1 = Q2 at *
  generalize hN : cB2 b M = N at *
  generalize mB2 P = Q at *
  generalize cBeat b M = X at *
  generalize mBeat P = Y at *
  subst hC
  subst hP
  have k10 : wr N2 b 0 (N2 b 0 + 1) (b + 10) = N (b + 10) := by rw [wr_cell (by omega), b1 _ (by omega) (by omega) (by omega), a1 _ (by omega) (by omega) (by omega)]
  have k8 : wr N2 b 0 (N2 b 0 + 1) (b + 8) = N (b + 8) := by rw [wr_cell (by omega), b1 _ (by omega) (by omega) (by omega), a1 _ (by omega) (by omega) (by omega)]
  have k3 : wr N2 b 0 (N2 b 0 + 1) (b + 3) = N (b + 3) := by rw [wr_cell (by omega), b1 _ (by omega) (by omega) (by omega), a1 _ (by omega) (by omega) (by omega)]
  have k9 : wr N2 b 0 (N2 b 0 + 1) (b + 9) = N2 (b + 9) := wr_cell (by omega)
  have d10 : Dn b M (wr N2 b 0 (N2 b 0 + 1)) := by
    unfold Dn
    rw [k10]
    exact t3
  refine ⟨⟨?_, fun s hs => ?_, hcB.1, hmB.1, ?_, fun k hk => ?_, fun e he => ?_, fun e he => ?_⟩, d10⟩
  · obtain ⟨h1, h2, h3, h4, h5, h6, h7, h8, h9⟩ := l2
    refine ⟨?_, ?_, ?_, ?_, ?_, ?_, ?_, ?_, ?_⟩
    · grind (splits := 40) (ematch := 30) (gen := 40) [wr_ap]
    · grind (splits := 40) (ematch := 30) (gen := 40) [wr_ap]
    · grind (splits := 40) (ematch := 30) (gen := 40) [wr_ap]
    · grind (splits := 40) (ematch := 30) (gen := 40) [wr_ap]
    · grind (splits := 40) (ematch := 30) (gen := 40) [wr_ap]
    · grind (splits := 40) (ematch := 30) (gen := 40) [wr_ap]
    · grind (splits := 40) (ematch := 30) (gen := 40) [wr_ap]
    · grind (splits := 40) (ematch := 30) (gen := 40) [wr_ap]
    · rw [wr_ne (by omega), wr_cell (by omega)]
      exact h9
  · rw [k3, t2 s hs]
    have hs2 : mSh (wr Q2 34 0 (Q2 34 0 + 1)) = mSh Q := by
      show tn (Q2 29 2) = tn (Q 29 2)
      rw [b6, a6]
    unfold mLoudest
    rw [hs2]
    refine (mLdL_ext _ (by have := hoQ.sh; omega) (fun j hj => ?_)).symm
    rw [wr_ne (by omega), wr_ne (by omega), b5 _ (by omega), a5 _ (by omega), b5 _ (by omega), a5 _ (by omega)]
    exact ⟨rfl, rfl⟩
  · obtain ⟨z1, z2⟩ := ho2
    exact ⟨by rw [hfB 30 (by decide) (by decide)]; exact z1, by rw [hfB 33 (by decide) (by decide)]; exact z2⟩
  · rw [k10]
    by_cases hl : 0 < M (b + 10) k
    · rcases t3.1 k hk hl with z | ⟨z1, z2⟩
      · rw [z]; decide
      · refine ⟨Int32.le_of_lt z1, ?_⟩
        have := i_le.mp (h99 k hk).2
        rw [i_le]
        omega
    · rw [t3.2 k hk hl]
      exact h99 k hk
  · rw [k8]
    obtain ⟨z1, z2, z3⟩ := t5 e he
    obtain ⟨y1, y2⟩ := hcn e he
    constructor <;> omega
  · rw [k9]
    rcases (show e = 0 ∨ e = 1 by omega) with rfl | rfl
    · rw [b2 0 (by decide)]
      exact a3
    · exact b3
