/-! Looks that go on beat by beat. -/
theorem z_gone (k : Nat) (hk : k < 40) : ∀ (nb : Nat) (A P : Mem), Rel 15 nb A P → (∀ k, k < 40 → ¬ 0 < A 25 k) → ¬ 0 < A 25 k := fun _ _ _ _ h => h k hk
theorem z_quiet : ∀ (nb : Nat) (A P : Mem), Rel 15 nb A P → (∀ k, k < 40 → ¬ 0 < A 25 k) → ¬ 0 < A 15 3 := fun _ _ _ r h => (quiet_iff r).mpr h
theorem Rel.c99 {nb : Nat} {M P : Mem} (h : Rel 1 nb M P) : ∀ k, k < 40 → (cCopy M 25 k).toInt ≤ ((99 : Nat) : Int) := fun k hk => by
  have a := i_le.mp (h.copy.2.2.2.2.2.1 k hk).2
  rw [i_c99] at a
  exact a
theorem look_gone {nb : Nat} {M P : Mem} (h : Rel 1 nb M P) (hnb : nb + 100 ≤ 100000) {k : Nat} (hk : k < 40) : (∀ j, j < cCnt 25 k 99 (cCopy M) → 0 < mBeats (mKeep P) j 34 (27 + k)) ∧ ¬ 0 < mBeats (mKeep P) (cCnt 25 k 99 (cCopy M)) 34 (27 + k) := by
  obtain ⟨a1, a2, a3, a4⟩ := run_is (z_gone k hk) 99 nb (cCopy M) (mKeep P) h.copy (by omega) h.c99
  have e : ∀ j, j ≤ 99 → cBeats 15 (cCopy M) j 25 k = mBeats (mKeep P) j 34 (27 + k) := fun j hj => ((beats_rel h.copy j (by omega)).1.2.2.2.2.1 k hk).1
  refine ⟨fun j hj => ?_, ?_⟩
  · rw [← e j (by omega)]; exact a3 j hj
  · rw [← e _ a1]; exact a4
theorem look_quiet {nb : Nat} {M P : Mem} (h : Rel 1 nb M P) (hnb : nb + 100 ≤ 100000) : (∀ j, j < cCnt 15 3 99 (cCopy M) → 0 < mMany (mBeats (mKeep P) j)) ∧ ¬ 0 < mMany (mBeats (mKeep P) (cCnt 15 3 99 (cCopy M))) := by
  obtain ⟨a1, a2, a3, a4⟩ := run_is z_quiet 99 nb (cCopy M) (mKeep P) h.copy (by omega) h.c99
  have e : ∀ j, j ≤ 99 → mMany (mBeats (mKeep P) j) = cBeats 15 (cCopy M) j 15 3 := fun j hj => rel_many (beats_rel h.copy j (by omega))
  refine ⟨fun j hj => ?_, ?_⟩
  · rw [e j (by omega)]; exact a3 j hj
  · rw [e _ a1]; exact a4
/-- a beat where nothing is loud -/
theorem still {b nb : Nat} {M P : Mem} (h : Rel b nb M P) (hnb : nb ≤ 100000) (hq : ∀ k, k < 40 → ¬ 0 < M (b + 10) k) : cBeat b M (b + 8) = M (b + 8) ∧ ∀ k, k < 40 → ¬ 0 < cBeat b M (b + 10) k := by
  have hsh : cSh b M ≤ 40 := h.2.2.1.sh
  have m1 : ∀ n, n ≤ 40 → cMoveL b M n = M := fun n => by
    induction n with
    | zero => intro _; rfl
    | succ n ih =>
      intro hn
      unfold cMoveL
      rw [ih (by omega), if_neg (hq n (by omega))]
  have m2 : ∀ n, n ≤ 40 → cMeetL b M n = cFill b M := fun n => by
    induction n with
    | zero => intro _; rfl
    | succ n ih =>
      intro hn
      have e : cFill b M (b + 10) = M (b + 10) := wrc_cell (by omega)
      unfold cMeetL
      rw [ih (by omega), e, if_neg (hq n (by omega))]
  have e2 : cB2 b M = cFill b M := by
    unfold cB2 cB1
    rw [m1 _ hsh, m2 _ hsh]
  have e3 : ∀ N e p, cOK b N → cListen b N e p (b + 8) = N (b + 8) := fun N e p hN => (cListen_ok hN e p).2.2.2
  have o2 := (cB2_ok h.2.2.1).1
  have o3 := (cB3_ok h.2.2.1).1
  refine ⟨?_, fun k hk hl => ?_⟩
  · show wr (cB4 b M) b 0 _ (b + 8) = _
    rw [wr_cell (by omega)]
    unfold cB4
    rw [e3 _ _ _ o3]
    unfold cB3
    rw [e3 _ _ _ o2, e2]
    exact wrc_cell (by omega)
  · rw [(beat_rel h hnb).2.2 k hk (hq k hk)] at hl
    exact hq k hk hl
theorem stills {b nb : Nat} {M P : Mem} (h : Rel b nb M P) (hq : ∀ k, k < 40 → ¬ 0 < M (b + 10) k) : ∀ n, nb + n ≤ 100000 → cBeats b M n (b + 8) = M (b + 8) ∧ ∀ k, k < 40 → ¬ 0 < cBeats b M n (b + 10) k
  | 0, _ => ⟨rfl, hq⟩
  | n + 1, hn => by
    obtain ⟨a1, a2⟩ := stills h hq n (by omega)
    obtain ⟨b1, b2⟩ := still (beats_rel h n (by omega)) (by omega) a2
    exact ⟨b1.trans a1, b2⟩
/-- a run that may end early: coins are the beats' coins -/
theorem run_coins {b' : Nat} : ∀ (n nb : Nat) (A P : Mem), b' = 23 → Rel 15 nb A P → nb + n ≤ 100000 → cRun 15 3 n A 23 = cBeats 15 A n 23
  | 0, _, _, _, _, _, _ => rfl
  | n + 1, nb, A, P, hb', h, hb => by
    unfold cRun
    by_cases cc : 0 < A 15 3
    · rw [if_pos cc, ← cBeats_s]
      exact run_coins n (nb + 1) (cBeat 15 A) (mBeat P) hb' (beat_rel h (by omega)).1 (by omega)
    · rw [if_neg cc]
      exact (stills h ((quiet_iff h).mp cc) (n + 1) hb).1.symm
theorem look_coins {nb n : Nat} {M P : Mem} (h : Rel 1 nb M P) (hnb : nb + n ≤ 100000) {e : Nat} (he : e < 2) : cRun 15 3 n (cCopy M) 23 e - cRun 15 3 n (cCopy M) 9 e = mBeats (mKeep P) n 34 (3 + e) - mBack (mBeats (mKeep P) n) 34 (3 + e) := by
  have a1 : mBack (mBeats (mKeep P) n) 34 (3 + e) = P 34 (3 + e) := mLook_now P n (by omega)
  have a2 : cRun 15 3 n (cCopy M) 9 = M 9 := (cRun_fr 15 3 n (cCopy M) 9 (by omega)).trans (cCopy_fr M 9 (by omega))
  rw [a1, a2, run_coins (b' := 23) n nb (cCopy M) (mKeep P) rfl h.copy hnb, (h.1.2.2.2.1 e he).1]
  rw [((beats_rel h.copy n hnb).1.2.2.2.1 e he).1]
theorem rel_la {b nb : Nat} {M P : Mem} (h : Rel b nb M P) {s : Int32} (hs : 0 ≤ s ∧ s ≤ 31) : cLA b M s = mLA P s := by
  have e : M (b + 3) (tn s) = mLoudest P s := by
    rw [h.2.1 _ (tn31 hs), ← nI_tn hs.1]
  unfold cLA mLA
  rw [e]
  by_cases c : mLoudest P s = -1
  · rw [if_pos c, if_pos c]
  · rw [if_neg c, if_neg c]
    have hr := (h.2.2.1.2.2.2.2.1 _ (tn31 hs)).resolve_left (by rw [e]; exact c)
    rw [e] at hr
    exact (h.1.2.2.2.2.1 _ (tn39 hr)).1
theorem mLA_quiet {b nb : Nat} {M P : Mem} (h : Rel b nb M P) (hq : ∀ k, k < 40 → ¬ 0 < M (b + 10) k) (s : Int32) : mLA P s = 0 := by
  have hsh := h.2.2.2.1.sh
  unfold mLA mLoudest
  rcases mLdL_win P s (mSh P) (by omega) with ⟨e, -⟩ | ⟨j, hj, -, w, -⟩
  · rw [if_pos e]
  · exfalso
    have w' : 0 < P 34 (27 + j) := w
    rw [← (h.1.2.2.2.2.1 j (by omega)).1] at w'
    exact hq j (by omega) w'
theorem mLOL_ge (P : Mem) (a : Int32) : ∀ n, 0 ≤ mLOL P a n
  | 0 => Int32.le_refl 0
  | n + 1 => by
    have ih := mLOL_ge P a n
    unfold mLOL
    split
    · rename_i c
      exact Int32.le_of_lt (Int32.lt_of_le_of_lt ih c)
    · exact ih
theorem look_loud {A P : Mem} {nb : Nat} (h : Rel 15 nb A P) {s : Int32} (hs : 0 ≤ s ∧ s ≤ 31) : ∀ (n i : Nat), nb + (i + n) ≤ 100000 → cLo s n (cBeats 15 A i) (mLOL P s i) = mLOL P s (i + n)
  | 0, _, _ => rfl
  | n + 1, i, hb => by
    have r := beats_rel h i (by omega)
    unfold cLo
    by_cases cc : 0 < cBeats 15 A i 15 3
    · rw [if_pos cc]
      have e : (if mLOL P s i < cLA 15 (cBeat 15 (cBeats 15 A i)) s then cLA 15 (cBeat 15 (cBeats 15 A i)) s else mLOL P s i) = mLOL P s (i + 1) := by
        rw [show cBeat 15 (cBeats 15 A i) = cBeats 15 A (i + 1) from rfl, rel_la (beats_rel h (i + 1) (by omega)) hs]
        rfl
      rw [e, show cBeat 15 (cBeats 15 A i) = cBeats 15 A (i + 1) from rfl, look_loud h hs n (i + 1) (by omega), show i + 1 + n = i + (n + 1) by omega]
    · rw [if_neg cc]
      have hq := (quiet_iff r).mp cc
      have st : ∀ m, nb + (i + m) ≤ 100000 → mLOL P s (i + m) = mLOL P s i := fun m => by
        induction m with
        | zero => intro _; rfl
        | succ m ih =>
          intro hm
          have r2 := beats_rel h (i + (m + 1)) (by omega)
          have q2 : ∀ k, k < 40 → ¬ 0 < cBeats 15 A (i + (m + 1)) (15 + 10) k := by
            have := (stills r hq (m + 1) (by omega)).2
            have e : ∀ m, cBeats 15 (cBeats 15 A i) m = cBeats 15 A (i + m) := fun m => by
              induction m with
              | zero => rfl
              | succ m ih => exact congrArg (cBeat 15) ih
            rw [e] at this
            exact this
          have z := mLA_quiet r2 q2 s
          show (if mLOL P s (i + m) < mLA (mBeats P (i + m + 1)) s then mLA (mBeats P (i + m + 1)) s else mLOL P s (i + m)) = _
          rw [show i + m + 1 = i + (m + 1) by omega, z, if_neg (Int32.not_lt.mpr (mLOL_ge P s _)), ih (by omega)]
      exact (st (n + 1) hb).symm
