/-! The relation moved; copies; looks. -/
theorem mLoudest_ext {P Q : Mem} (h : mOK P) (e2 : Q 29 2 = P 29 2) (e4 : ∀ j, j < 187 → Q 34 j = P 34 j) (s : Int32) : mLoudest Q s = mLoudest P s := by
  have hs : mSh Q = mSh P := by
    show tn (Q 29 2) = tn (P 29 2)
    rw [e2]
  have := h.sh
  unfold mLoudest
  rw [hs]
  exact mLdL_ext _ (by omega) (fun j hj => ⟨e4 _ (by omega), e4 _ (by omega)⟩)
theorem Rel.mv {b b' nb : Nat} {M M' P P' : Mem} (h : Rel b nb M P) (f0 : ∀ j, j < 6 → M' b' j = M b j) (f1 : ∀ s, s < 32 → M' (b' + 1) s = M (b + 1) s ∧ M' (b' + 2) s = M (b + 2) s ∧ M' (b' + 3) s = M (b + 3) s)
    (f2 : ∀ w, w < 10 → M' (b' + 4) w = M (b + 4) w ∧ M' (b' + 5) w = M (b + 5) w ∧ M' (b' + 6) w = M (b + 6) w ∧ M' (b' + 7) w = M (b + 7) w) (f3 : ∀ e, e < 2 → M' (b' + 8) e = M (b + 8) e ∧ M' (b' + 9) e = M (b + 9) e)
    (f4 : ∀ k, k < 40 → M' (b' + 10) k = M (b + 10) k ∧ M' (b' + 11) k = M (b + 11) k ∧ M' (b' + 12) k = M (b + 12) k ∧ M' (b' + 13) k = M (b + 13) k)
    (e2 : P' 29 1 = P 29 1 ∧ P' 29 2 = P 29 2) (e3 : ∀ c, 30 ≤ c → c ≤ 33 → P' c = P c) (e4 : ∀ j, j < 187 → P' 34 j = P 34 j) : Rel b' nb M' P' := by
  obtain ⟨⟨h1, h2, h3, h4, h5, h6, h7, h8, h9⟩, hsa, ⟨c1, c2, c3, c4, c5, c6⟩, ⟨o1, o2, o3, o4⟩, ⟨p1, p2⟩, h99, hcn, hsil⟩ := h
  have hS : mSh P' = mSh P := by
    show tn (P' 29 2) = tn (P 29 2)
    rw [e2.2]
  have hsh : mSh P ≤ 40 := (show mOK P from ⟨o1, o2, o3, o4⟩).sh
  refine ⟨⟨?_, fun s hs => ?_, fun w hw => ?_, fun e he => ?_, fun k hk => ?_, fun k hk hl => ?_, fun k hk hl => ?_, fun k hk hs hl => ?_, ?_⟩, fun s hs => ?_, ⟨?_, ?_, fun s hs => ?_, fun w hw => ?_, fun s hs => ?_, fun k hk hl => ?_⟩, ⟨?_, ?_, fun s hs => ?_, fun w hw => ?_⟩, ⟨fun s hs => ?_, fun w hw => ?_⟩, fun k hk => ?_, fun e he => ?_, fun e he => ?_⟩
  · rw [f0 0 (by omega), f0 1 (by omega), f0 2 (by omega), f0 4 (by omega), f0 5 (by omega), e4 0 (by omega), e4 1 (by omega), e4 2 (by omega), e2.1, e2.2]
    exact h1
  · rw [(f1 s hs).1, (f1 s hs).2.1, e3 30 (by omega) (by omega), e3 31 (by omega) (by omega)]
    exact h2 s hs
  · rw [(f2 w hw).1, (f2 w hw).2.1, (f2 w hw).2.2.1, (f2 w hw).2.2.2, e3 32 (by omega) (by omega), e3 33 (by omega) (by omega), e4 (7 + w) (by omega), e4 (17 + w) (by omega)]
    exact h3 w hw
  · rw [(f3 e he).1, (f3 e he).2, e4 (3 + e) (by omega), e4 (5 + e) (by omega)]
    exact h4 e he
  · rw [(f4 k hk).1, (f4 k hk).2.2.2, e4 (27 + k) (by omega), e4 (147 + k) (by omega)]
    exact h5 k hk
  · rw [(f4 k hk).1] at hl
    rw [(f4 k hk).2.1, (f4 k hk).2.2.1, e4 (67 + k) (by omega), e4 (107 + k) (by omega)]
    exact h6 k hk hl
  · rw [hS] at hk
    rw [(f4 k (by omega)).1] at hl
    rw [(f4 k (by omega)).2.1, (f4 k (by omega)).2.2.1]
    exact h7 k hk hl
  · rw [hS] at hs
    rw [(f4 k hk).1] at hl
    exact h8 k hk hs hl
  · rw [f0 3 (by omega), h9, liveN_ext (f := M' (b' + 10)) (h := M (b + 10)) 40 (fun k hk => (f4 k hk).1)]
  · rw [(f1 s hs).2.2, mLoudest_ext ⟨o1, o2, o3, o4⟩ e2.2 e4]
    exact hsa s hs
  · rw [f0 1 (by omega)]; exact c1
  · rw [f0 2 (by omega)]; exact c2
  · rw [(f1 s hs).2.1]; exact c3 s hs
  · rw [(f2 w hw).2.1]; exact c4 w hw
  · rw [(f1 s hs).2.2]; exact c5 s hs
  · rw [(f4 k hk).1] at hl
    rw [(f4 k hk).2.1]
    exact c6 k hk hl
  · rw [e2.1]; exact o1
  · rw [e2.2]; exact o2
  · rw [e3 31 (by omega) (by omega)]; exact o3 s hs
  · rw [e4 (7 + w) (by omega)]; exact o4 w hw
  · rw [e3 30 (by omega) (by omega)]; exact p1 s hs
  · rw [e3 33 (by omega) (by omega)]; exact p2 w hw
  · rw [(f4 k hk).1]; exact h99 k hk
  · rw [(f3 e he).1]; exact hcn e he
  · rw [(f3 e he).2]; exact hsil e he
theorem Rel.cong {b nb : Nat} {M M' P P' : Mem} (h : Rel b nb M P) (e1 : ∀ c, b ≤ c → c ≤ b + 13 → M' c = M c) (e2 : P' 29 1 = P 29 1 ∧ P' 29 2 = P 29 2) (e3 : ∀ c, 30 ≤ c → c ≤ 33 → P' c = P c) (e4 : ∀ j, j < 187 → P' 34 j = P 34 j) : Rel b nb M' P' := by
  refine h.mv (fun j _ => by rw [e1 b (by omega) (by omega)]) (fun s _ => ?_) (fun w _ => ?_) (fun e _ => ?_) (fun k _ => ?_) e2 e3 e4
  · rw [e1 (b + 1) (by omega) (by omega), e1 (b + 2) (by omega) (by omega), e1 (b + 3) (by omega) (by omega)]; exact ⟨rfl, rfl, rfl⟩
  · rw [e1 (b + 4) (by omega) (by omega), e1 (b + 5) (by omega) (by omega), e1 (b + 6) (by omega) (by omega), e1 (b + 7) (by omega) (by omega)]; exact ⟨rfl, rfl, rfl, rfl⟩
  · rw [e1 (b + 8) (by omega) (by omega), e1 (b + 9) (by omega) (by omega)]; exact ⟨rfl, rfl⟩
  · rw [e1 (b + 10) (by omega) (by omega), e1 (b + 11) (by omega) (by omega), e1 (b + 12) (by omega) (by omega), e1 (b + 13) (by omega) (by omega)]; exact ⟨rfl, rfl, rfl, rfl⟩
theorem Rel.copy {nb : Nat} {M P : Mem} (h : Rel 1 nb M P) : Rel 15 nb (cCopy M) (mKeep P) := by
  refine h.mv (fun j hj => ?_) (fun s hs => ?_) (fun w hw => ?_) (fun e he => ?_) (fun k hk => ?_) ⟨rfl, rfl⟩ (fun c h1 h2 => ?_) (fun j hj => rfl)
  · unfold cCopy
    rcases (show j = 0 ∨ j = 1 ∨ j = 2 ∨ j = 3 ∨ j = 4 ∨ j = 5 by omega) with rfl | rfl | rfl | rfl | rfl | rfl <;> rfl
  · refine ⟨?_, ?_, ?_⟩
    · show cpn (M 2) (M 16) 32 s = _
      exact if_pos hs
    · show cpn (M 3) (M 17) 32 s = _
      exact if_pos hs
    · show cpn (M 4) (M 18) 32 s = _
      exact if_pos hs
  · refine ⟨?_, ?_, ?_, ?_⟩
    · show cpn (M 5) (M 19) 10 w = _
      exact if_pos hw
    · show cpn (M 6) (M 20) 10 w = _
      exact if_pos hw
    · show cpn (M 7) (M 21) 10 w = _
      exact if_pos hw
    · show cpn (M 8) (M 22) 10 w = _
      exact if_pos hw
  · refine ⟨?_, ?_⟩
    · show cpn (M 9) (M 23) 2 e = _
      exact if_pos he
    · show cpn (M 10) (M 24) 2 e = _
      exact if_pos he
  · refine ⟨?_, ?_, ?_, ?_⟩
    · show cpn (M 11) (M 25) 40 k = _
      exact if_pos hk
    · show cpn (M 12) (M 26) 40 k = _
      exact if_pos hk
    · show cpn (M 13) (M 27) 40 k = _
      exact if_pos hk
    · show cpn (M 14) (M 28) 40 k = _
      exact if_pos hk
  · show (if c = 35 then _ else P c) = P c
    rw [if_neg (by omega)]
theorem beats_rel {b nb : Nat} {M P : Mem} (h : Rel b nb M P) : ∀ n, nb + n ≤ 100000 → Rel b (nb + n) (cBeats b M n) (mBeats P n)
  | 0, _ => h
  | n + 1, hn => (beat_rel (beats_rel h n (by omega)) (by omega)).1
theorem liveN_mono {f h : Nat → Int32} : ∀ n, (∀ k, k < n → 0 < h k → 0 < f k) → liveN h n ≤ liveN f n
  | 0, _ => Nat.le_refl 0
  | k + 1, e => by
    have a := liveN_mono (f := f) (h := h) k (fun i hi => e i (by omega))
    unfold liveN
    by_cases c : 0 < h k
    · rw [if_pos c, if_pos (e k (by omega) c)]; omega
    · rw [if_neg c]; omega
theorem Dn.live {b : Nat} {M M' : Mem} (h : Dn b M M') : liveN (M' (b + 10)) 40 ≤ liveN (M (b + 10)) 40 := by
  refine liveN_mono 40 (fun k hk hl => ?_)
  by_cases c : 0 < M (b + 10) k
  · exact c
  · rw [h.2 k hk c] at hl
    exact absurd hl c
theorem Dn.le {b n : Nat} {M M' : Mem} (h : Dn b M M') (hn : ∀ k, k < 40 → (M (b + 10) k).toInt ≤ (n : Int) + 1) : ∀ k, k < 40 → (M' (b + 10) k).toInt ≤ n := by
  intro k hk
  by_cases c : 0 < M (b + 10) k
  · rcases h.1 k hk c with z | ⟨z1, z2⟩
    · rw [z, i_c0]; omega
    · have := hn k hk; omega
  · rw [h.2 k hk c]
    have := i_le.mp (Int32.not_lt.mp c)
    rw [i_c0] at this
    omega
theorem beats_live {b nb : Nat} {M P : Mem} (h : Rel b nb M P) : ∀ n, nb + n ≤ 100000 → liveN (cBeats b M n (b + 10)) 40 ≤ liveN (M (b + 10)) 40
  | 0, _ => Nat.le_refl _
  | n + 1, hn => Nat.le_trans (beat_rel (beats_rel h n (by omega)) (by omega)).2.live (beats_live h n (by omega))
theorem cBeats_s (b : Nat) (M : Mem) : ∀ n, cBeats b (cBeat b M) n = cBeats b M (n + 1)
  | 0 => rfl
  | n + 1 => by
    show cBeat b (cBeats b (cBeat b M) n) = cBeat b (cBeats b M (n + 1))
    rw [cBeats_s b M n]
theorem rel_many {b nb : Nat} {M P : Mem} (h : Rel b nb M P) : mMany P = M b 3 := by
  obtain ⟨⟨h1, h2, h3, h4, h5, h6, h7, h8, h9⟩, hsa, hc, ho, -⟩ := h
  have hsh := ho.sh
  unfold mMany
  rw [mManyL_live P _ (by omega), h9]
  congr 1
  rw [liveN_ext (f := M (b + 10)) (h := fun k => P 34 (27 + k)) 40 (fun k hk => (h5 k hk).1)]
  exact (liveN_dead (f := fun k => P 34 (27 + k)) 40 hsh (fun k a b' => by rw [← (h5 k b').1]; exact h8 k b' a)).symm
theorem liveN_pos {f : Nat → Int32} {j : Nat} (hl : 0 < f j) : ∀ n, j < n → 0 < liveN f n
  | 0, h => by omega
  | k + 1, h => by
    unfold liveN
    by_cases c : j = k
    · subst c; rw [if_pos hl]; omega
    · have := liveN_pos hl k (by omega); omega
theorem liveN_zero {f : Nat → Int32} : ∀ n, (∀ k, k < n → ¬ 0 < f k) → liveN f n = 0
  | 0, _ => rfl
  | k + 1, h => by
    unfold liveN
    rw [if_neg (h k (by omega)), liveN_zero k (fun i hi => h i (by omega))]
/-- quiet: the count is not above 0 -/
theorem quiet_iff {b nb : Nat} {M P : Mem} (h : Rel b nb M P) : (¬ 0 < M b 3) ↔ ∀ k, k < 40 → ¬ 0 < M (b + 10) k := by
  have h9 := h.1.2.2.2.2.2.2.2.2
  have hle := liveN_le (M (b + 10)) 40
  rw [h9, i_lt, i_c0, i_nI (by omega)]
  constructor
  · intro c k hk hl
    have := liveN_pos hl 40 hk
    omega
  · intro c
    rw [liveN_zero 40 c]
    omega
/-- a run that ends: so many beats -/
theorem run_is {c j : Nat} (hz : ∀ (nb : Nat) (A P : Mem), Rel 15 nb A P → (∀ k, k < 40 → ¬ 0 < A 25 k) → ¬ 0 < A c j) : ∀ (n nb : Nat) (A P : Mem), Rel 15 nb A P → nb + n ≤ 100000 → (∀ k, k < 40 → (A 25 k).toInt ≤ n) →
    cCnt c j n A ≤ n ∧ cRun c j n A = cBeats 15 A (cCnt c j n A) ∧ (∀ i, i < cCnt c j n A → 0 < cBeats 15 A i c j) ∧ ¬ 0 < cBeats 15 A (cCnt c j n A) c j
  | 0, nb, A, P, h, _, hn => by
    refine ⟨Nat.le_refl 0, rfl, fun i hi => absurd hi (Nat.not_lt_zero i), hz nb A P h (fun k hk hl => ?_)⟩
    have a := hn k hk
    have a2 := i_lt.mp hl
    rw [i_c0] at a2
    omega
  | n + 1, nb, A, P, h, hb, hn => by
    unfold cCnt cRun
    by_cases cc : 0 < A c j
    · rw [if_pos cc, if_pos cc]
      obtain ⟨r, d⟩ := beat_rel h (by omega)
      obtain ⟨a1, a2, a3, a4⟩ := run_is hz n (nb + 1) (cBeat 15 A) (mBeat P) r (by omega) (d.le (fun k hk => by
        have a := hn k hk
        show (A 25 k).toInt ≤ (n : Int) + 1
        omega))
      refine ⟨by omega, ?_, fun i hi => ?_, ?_⟩
      · rw [a2, cBeats_s]
      · cases i with
        | zero => exact cc
        | succ i =>
          rw [← cBeats_s]
          exact a3 i (by omega)
      · rw [← cBeats_s]
        exact a4
    · rw [if_neg cc, if_neg cc]
      exact ⟨Nat.zero_le _, rfl, fun i hi => absurd hi (Nat.not_lt_zero i), cc⟩
