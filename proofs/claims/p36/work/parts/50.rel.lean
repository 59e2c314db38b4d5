/-! The relation between a canyon (cell b) of one memory and the model's now (cells 29 ..) of another. -/
/-- the live ones among the first n -/
def liveN (f : Nat → Int32) : Nat → Nat
  | 0 => 0
  | k + 1 => liveN f k + (if 0 < f k then 1 else 0)
theorem liveN_le (f : Nat → Int32) : ∀ n, liveN f n ≤ n
  | 0 => Nat.le_refl 0
  | k + 1 => by
    have := liveN_le f k
    unfold liveN
    split <;> omega
theorem liveN_ext {f h : Nat → Int32} : ∀ n, (∀ k, k < n → f k = h k) → liveN f n = liveN h n
  | 0, _ => rfl
  | k + 1, e => by
    unfold liveN
    rw [liveN_ext k (fun j hj => e j (by omega)), e k (by omega)]
theorem liveN_off {f h : Nat → Int32} {j : Nat} (hf : 0 < f j) (hh : ¬ 0 < h j) : ∀ n, j < n → (∀ k, k < n → k ≠ j → h k = f k) → liveN h n + 1 = liveN f n
  | 0, hn, _ => by omega
  | k + 1, hn, e => by
    unfold liveN
    by_cases hk : k = j
    · subst hk
      rw [if_pos hf, if_neg hh, liveN_ext (f := h) (h := f) k (fun i hi => e i (by omega) (by omega))]
    · rw [← liveN_off hf hh k (by omega) (fun i hi hij => e i (by omega) hij), e k (by omega) hk]
      omega
theorem liveN_on {f h : Nat → Int32} {j : Nat} (hf : 0 < f j) (hh : 0 < h j) : ∀ n, (∀ k, k < n → k ≠ j → h k = f k) → liveN h n = liveN f n
  | 0, _ => rfl
  | k + 1, e => by
    unfold liveN
    rw [liveN_on hf hh k (fun i hi hij => e i (by omega) hij)]
    by_cases hk : k = j
    · subst hk; rw [if_pos hf, if_pos hh]
    · rw [e k (by omega) hk]
theorem liveN_dead {f : Nat → Int32} {m : Nat} : ∀ n, m ≤ n → (∀ k, m ≤ k → k < n → ¬ 0 < f k) → liveN f n = liveN f m
  | 0, h, _ => by rw [show m = 0 by omega]
  | k + 1, h, e => by
    by_cases hk : m = k + 1
    · rw [hk]
    · have a : liveN f (k + 1) = liveN f k := by
        show liveN f k + _ = _
        rw [if_neg (e k (by omega) (by omega)), Nat.add_zero]
      rw [a]
      exact liveN_dead k (by omega) (fun i a b => e i a (by omega))
theorem mManyL_live (M : Mem) : ∀ n, n < 1000 → mManyL M n = nI (liveN (fun k => M 34 (27 + k)) n)
  | 0, _ => rfl
  | k + 1, h => by
    have hl := liveN_le (fun k => M 34 (27 + k)) k
    unfold mManyL liveN
    rw [mManyL_live M k (by omega)]
    by_cases hc : 0 < M 34 (27 + k)
    · rw [if_pos hc, if_pos hc]; exact nI_1 _
    · rw [if_neg hc, if_neg hc]; exact Int32.add_zero _
theorem nI_prd {c : Nat} : nI (c + 1) - 1 = nI c := by
  have := nI_1 c
  grind
/-- all but shoutAt, which a beat makes anew -/
def Rw (b : Nat) (M P : Mem) : Prop :=
  (M b 0 = P 34 0 ∧ M b 1 = P 29 1 ∧ M b 2 = P 29 2 ∧ M b 4 = P 34 1 ∧ M b 5 = P 34 2) ∧
  (∀ s, s < 32 → M (b + 1) s = P 30 s ∧ M (b + 2) s = P 31 s) ∧
  (∀ w, w < 10 → M (b + 4) w = P 32 w ∧ M (b + 5) w = P 34 (7 + w) ∧ M (b + 6) w = P 33 w ∧ M (b + 7) w = P 34 (17 + w)) ∧
  (∀ e, e < 2 → M (b + 8) e = P 34 (3 + e) ∧ M (b + 9) e = P 34 (5 + e)) ∧
  (∀ k, k < 40 → M (b + 10) k = P 34 (27 + k) ∧ M (b + 13) k = P 34 (147 + k)) ∧
  (∀ k, k < 40 → 0 < M (b + 10) k → M (b + 11) k = P 34 (67 + k) ∧ M (b + 12) k = P 34 (107 + k)) ∧
  (∀ k, k < mSh P → ¬ 0 < M (b + 10) k → M (b + 11) k = -1 ∧ M (b + 12) k = 0) ∧
  (∀ k, k < 40 → mSh P ≤ k → ¬ 0 < M (b + 10) k) ∧
  M b 3 = nI (liveN (M (b + 10)) 40)
theorem mGo_flat (P : Mem) (k : Nat) (s : Int32) : mGo P k s = wr (wr P 34 (67 + k) s) 34 (27 + k) (if 0 < P 34 (27 + k) - 1 - P 30 (tn s) then P 34 (27 + k) - 1 - P 30 (tn s) else 0) := by
  unfold mGo mLet
  rw [wr_ne (M := P) (k := 34) (j := 67 + k) (j' := 27 + k) (by omega), wr_ne (M := P) (k := 34) (j := 67 + k) (k' := 30) (by omega)]
theorem mHit_flat (P : Mem) {k e w : Nat} (he : e < 2) (hw : w < 10) : mHit P k e w = wr (wr (wr (wr (wr (wr P 34 (3 + e) (P 34 (3 + e) + 1)) 36 e 1) 34 (17 + w) (P 34 (17 + w) + 1)) 34 (147 + k) (P 34 (147 + k) + 1)) 34 (107 + k) (-(P 34 (107 + k)))) 34 (27 + k) (if 0 < P 34 (27 + k) - P 33 w then P 34 (27 + k) - P 33 w else 0) := by
  have a2 : mH2 P e w = wr (wr (wr P 34 (3 + e) (P 34 (3 + e) + 1)) 36 e 1) 34 (17 + w) (P 34 (17 + w) + 1) := by
    unfold mH2 mH1
    rw [wr_ne (k := 36) (k' := 34) (by omega), wr_ne (k := 34) (k' := 34) (j := 3 + e) (j' := 17 + w) (by omega)]
  have r2 : ∀ j, 27 ≤ j → mH2 P e w 34 j = P 34 j := fun j hj => by
    rw [a2, wr_ne (by omega), wr_ne (by omega), wr_ne (by omega)]
  have r2' : mH2 P e w 33 w = P 33 w := by
    rw [a2, wr_ne (by omega), wr_ne (by omega), wr_ne (by omega)]
  unfold mHit mLet mH4 mH3
  rw [r2 (147 + k) (by omega)]
  rw [wr_ne (M := mH2 P e w) (k' := 34) (j' := 107 + k) (by omega), r2 (107 + k) (by omega)]
  rw [wr_ne (k := 34) (j := 107 + k) (k' := 34) (j' := 27 + k) (by omega), wr_ne (k := 34) (j := 147 + k) (k' := 34) (j' := 27 + k) (by omega), r2 (27 + k) (by omega)]
  rw [wr_ne (k := 34) (j := 107 + k) (k' := 33) (by omega), wr_ne (k := 34) (j := 147 + k) (k' := 33) (by omega), r2', a2]
theorem cTurn_flat (b : Nat) (M : Mem) (w k e : Nat) (s : Int32) (ho : tn (M (b + 5) w) = e) : cTurn b (cGo b M k s) w k = wr (wr (wr (wr (wr (wr (wr M (b + 11) k s) (b + 10) k (M (b + 10) k - (1 + M (b + 1) (tn s)))) (b + 8) e (M (b + 8) e + 1)) (b + 7) w (M (b + 7) w + 1)) (b + 13) k (M (b + 13) k + 1)) (b + 10) k (M (b + 10) k - (1 + M (b + 1) (tn s)) - M (b + 6) w)) (b + 12) k (-(M (b + 12) k)) := by
  have r : ∀ c j, (c ≠ b + 10) → (c ≠ b + 11) → cGo b M k s c j = M c j := fun c j h1 h2 => by
    unfold cGo
    rw [wr_ne (by omega), wr_ne (by omega)]
  have r1 : cGo b M k s (b + 10) k = M (b + 10) k - (1 + M (b + 1) (tn s)) := by
    unfold cGo
    rw [wr_eq]
  unfold cTurn
  rw [r (b + 5) w (by omega) (by omega), ho, r (b + 8) e (by omega) (by omega), r (b + 7) w (by omega) (by omega), r (b + 13) k (by omega) (by omega), r (b + 6) w (by omega) (by omega), r (b + 12) k (by omega) (by omega), r1]
  rfl
theorem st_A {b : Nat} {M P : Mem} {k : Nat} (h : Rw b M P) (hk : k < 40) (hs : k < mSh P) (hl : 0 < M (b + 10) k) : Rw b (cHush b M k) (mLet P k 0) := by
  obtain ⟨h1, h2, h3, h4, h5, h6, h7, h8, h9⟩ := h
  have el := liveN_off (f := M (b + 10)) (h := (cHush b M k) (b + 10)) (j := k) hl (by unfold cHush; grind (splits := 40) (ematch := 30) (gen := 40) [wr_ap]) 40 hk (by unfold cHush; grind (splits := 40) (ematch := 30) (gen := 40) [wr_ap])
  have e3 : (cHush b M k) b 3 = M b 3 - 1 := by
    unfold cHush
    grind (splits := 40) (ematch := 30) (gen := 40) [wr_ap]
  refine ⟨?_, ?_, ?_, ?_, ?_, ?_, ?_, ?_, ?_⟩
  · unfold cHush; (try unfold mLet); grind (splits := 40) (ematch := 30) (gen := 40) [wr_ap]
  · unfold cHush; (try unfold mLet); grind (splits := 40) (ematch := 30) (gen := 40) [wr_ap]
  · unfold cHush; (try unfold mLet); grind (splits := 40) (ematch := 30) (gen := 40) [wr_ap]
  · unfold cHush; (try unfold mLet); grind (splits := 40) (ematch := 30) (gen := 40) [wr_ap]
  · unfold cHush; (try unfold mLet); grind (splits := 40) (ematch := 30) (gen := 40) [wr_ap]
  · unfold cHush; (try unfold mLet); grind (splits := 40) (ematch := 30) (gen := 40) [wr_ap]
  · unfold cHush; (try unfold mLet); grind (splits := 40) (ematch := 30) (gen := 40) [wr_ap]
  · unfold cHush; (try unfold mLet); grind (splits := 40) (ematch := 30) (gen := 40) [wr_ap]
  · rw [e3, h9, ← el]
    exact nI_prd
theorem st_B {b : Nat} {M P : Mem} {k : Nat} {s : Int32} (h : Rw b M P) (hk : k < 40) (hs : k < mSh P) (hl : 0 < M (b + 10) k) (hs2 : 0 ≤ s ∧ s ≤ 31) (hv : ¬ 0 < M (b + 10) k - (1 + M (b + 1) (tn s))) : Rw b (cHush b (cGo b M k s) k) (mGo P k s) := by
  obtain ⟨h1, h2, h3, h4, h5, h6, h7, h8, h9⟩ := h
  have ht := tn31 hs2
  have ev : P 34 (27 + k) - 1 - P 30 (tn s) = M (b + 10) k - (1 + M (b + 1) (tn s)) := by
    rw [(h5 k hk).1, (h2 _ ht).1]
    grind
  have el := liveN_off (f := M (b + 10)) (h := (cHush b (cGo b M k s) k) (b + 10)) (j := k) hl (by unfold cHush cGo; grind (splits := 40) (ematch := 30) (gen := 40) [wr_ap]) 40 hk (by unfold cHush cGo; grind (splits := 40) (ematch := 30) (gen := 40) [wr_ap])
  have e3 : (cHush b (cGo b M k s) k) b 3 = M b 3 - 1 := by
    unfold cHush cGo
    grind (splits := 40) (ematch := 30) (gen := 40) [wr_ap]
  refine ⟨?_, ?_, ?_, ?_, ?_, ?_, ?_, ?_, ?_⟩
  · unfold cHush cGo; (try rw [mGo_flat, ev]); grind (splits := 40) (ematch := 30) (gen := 40) [wr_ap]
  · unfold cHush cGo; (try rw [mGo_flat, ev]); grind (splits := 40) (ematch := 30) (gen := 40) [wr_ap]
  · unfold cHush cGo; (try rw [mGo_flat, ev]); grind (splits := 40) (ematch := 30) (gen := 40) [wr_ap]
  · unfold cHush cGo; (try rw [mGo_flat, ev]); grind (splits := 40) (ematch := 30) (gen := 40) [wr_ap]
  · unfold cHush cGo; (try rw [mGo_flat, ev]); grind (splits := 40) (ematch := 30) (gen := 40) [wr_ap]
  · unfold cHush cGo; (try rw [mGo_flat, ev]); grind (splits := 40) (ematch := 30) (gen := 40) [wr_ap]
  · unfold cHush cGo; (try rw [mGo_flat, ev]); grind (splits := 40) (ematch := 30) (gen := 40) [wr_ap]
  · unfold cHush cGo; (try rw [mGo_flat, ev]); grind (splits := 40) (ematch := 30) (gen := 40) [wr_ap]
  · rw [e3, h9, ← el]
    exact nI_prd
theorem st_C {b : Nat} {M P : Mem} {k : Nat} {s : Int32} (h : Rw b M P) (hk : k < 40) (hs : k < mSh P) (hl : 0 < M (b + 10) k) (hs2 : 0 ≤ s ∧ s ≤ 31) (hv : 0 < M (b + 10) k - (1 + M (b + 1) (tn s))) : Rw b (cGo b M k s) (mGo P k s) := by
  obtain ⟨h1, h2, h3, h4, h5, h6, h7, h8, h9⟩ := h
  have ht := tn31 hs2
  have ev : P 34 (27 + k) - 1 - P 30 (tn s) = M (b + 10) k - (1 + M (b + 1) (tn s)) := by
    rw [(h5 k hk).1, (h2 _ ht).1]
    grind
  have el := liveN_on (f := M (b + 10)) (h := (cGo b M k s) (b + 10)) (j := k) hl (by unfold cGo; grind (splits := 40) (ematch := 30) (gen := 40) [wr_ap]) 40 (by unfold cGo; grind (splits := 40) (ematch := 30) (gen := 40) [wr_ap])
  have e3 : (cGo b M k s) b 3 = M b 3 := by
    unfold cGo
    grind (splits := 40) (ematch := 30) (gen := 40) [wr_ap]
  refine ⟨?_, ?_, ?_, ?_, ?_, ?_, ?_, ?_, ?_⟩
  · unfold cGo; (try rw [mGo_flat, ev]); grind (splits := 40) (ematch := 30) (gen := 40) [wr_ap]
  · unfold cGo; (try rw [mGo_flat, ev]); grind (splits := 40) (ematch := 30) (gen := 40) [wr_ap]
  · unfold cGo; (try rw [mGo_flat, ev]); grind (splits := 40) (ematch := 30) (gen := 40) [wr_ap]
  · unfold cGo; (try rw [mGo_flat, ev]); grind (splits := 40) (ematch := 30) (gen := 40) [wr_ap]
  · unfold cGo; (try rw [mGo_flat, ev]); grind (splits := 40) (ematch := 30) (gen := 40) [wr_ap]
  · unfold cGo; (try rw [mGo_flat, ev]); grind (splits := 40) (ematch := 30) (gen := 40) [wr_ap]
  · unfold cGo; (try rw [mGo_flat, ev]); grind (splits := 40) (ematch := 30) (gen := 40) [wr_ap]
  · unfold cGo; (try rw [mGo_flat, ev]); grind (splits := 40) (ematch := 30) (gen := 40) [wr_ap]
  · rw [e3, h9, ← el]
theorem st_D {b : Nat} {M P : Mem} {k : Nat} {s : Int32} {w e : Nat} (h : Rw b M P) (hk : k < 40) (hs : k < mSh P) (hl : 0 < M (b + 10) k) (hs2 : 0 ≤ s ∧ s ≤ 31) (hw : w < 10) (he : e < 2) (ho : tn (M (b + 5) w) = e) (hv : 0 < M (b + 10) k - (1 + M (b + 1) (tn s))) (hz : 0 < M (b + 10) k - (1 + M (b + 1) (tn s)) - M (b + 6) w) : Rw b (cTurn b (cGo b M k s) w k) (mHit (mGo P k s) k e w) := by
  obtain ⟨h1, h2, h3, h4, h5, h6, h7, h8, h9⟩ := h
  have ht := tn31 hs2
  have ev : P 34 (27 + k) - 1 - P 30 (tn s) = M (b + 10) k - (1 + M (b + 1) (tn s)) := by
    rw [(h5 k hk).1, (h2 _ ht).1]
    grind
  have el := liveN_on (f := M (b + 10)) (h := (cTurn b (cGo b M k s) w k) (b + 10)) (j := k) hl (by rw [cTurn_flat b M w k e s ho]; grind (splits := 40) (ematch := 30) (gen := 40) [wr_ap]) 40 (by rw [cTurn_flat b M w k e s ho]; grind (splits := 40) (ematch := 30) (gen := 40) [wr_ap])
  have e3 : (cTurn b (cGo b M k s) w k) b 3 = M b 3 := by
    rw [cTurn_flat b M w k e s ho]
    grind (splits := 40) (ematch := 30) (gen := 40) [wr_ap]
  refine ⟨?_, ?_, ?_, ?_, ?_, ?_, ?_, ?_, ?_⟩
  · rw [cTurn_flat b M w k e s ho]; (try rw [mHit_flat _ he hw, mGo_flat, ev]); grind (splits := 40) (ematch := 30) (gen := 40) [wr_ap]
  · rw [cTurn_flat b M w k e s ho]; (try rw [mHit_flat _ he hw, mGo_flat, ev]); grind (splits := 40) (ematch := 30) (gen := 40) [wr_ap]
  · rw [cTurn_flat b M w k e s ho]; (try rw [mHit_flat _ he hw, mGo_flat, ev]); grind (splits := 40) (ematch := 30) (gen := 40) [wr_ap]
  · rw [cTurn_flat b M w k e s ho]; (try rw [mHit_flat _ he hw, mGo_flat, ev]); grind (splits := 40) (ematch := 30) (gen := 40) [wr_ap]
  · rw [cTurn_flat b M w k e s ho]; (try rw [mHit_flat _ he hw, mGo_flat, ev]); grind (splits := 40) (ematch := 30) (gen := 40) [wr_ap]
  · rw [cTurn_flat b M w k e s ho]; (try rw [mHit_flat _ he hw, mGo_flat, ev]); grind (splits := 40) (ematch := 30) (gen := 40) [wr_ap]
  · rw [cTurn_flat b M w k e s ho]; (try rw [mHit_flat _ he hw, mGo_flat, ev]); grind (splits := 40) (ematch := 30) (gen := 40) [wr_ap]
  · rw [cTurn_flat b M w k e s ho]; (try rw [mHit_flat _ he hw, mGo_flat, ev]); grind (splits := 40) (ematch := 30) (gen := 40) [wr_ap]
  · rw [e3, h9, ← el]
theorem st_E {b : Nat} {M P : Mem} {k : Nat} {s : Int32} {w e : Nat} (h : Rw b M P) (hk : k < 40) (hs : k < mSh P) (hl : 0 < M (b + 10) k) (hs2 : 0 ≤ s ∧ s ≤ 31) (hw : w < 10) (he : e < 2) (ho : tn (M (b + 5) w) = e) (hv : 0 < M (b + 10) k - (1 + M (b + 1) (tn s))) (hz : ¬ 0 < M (b + 10) k - (1 + M (b + 1) (tn s)) - M (b + 6) w) : Rw b (cHush b (cTurn b (cGo b M k s) w k) k) (mHit (mGo P k s) k e w) := by
  obtain ⟨h1, h2, h3, h4, h5, h6, h7, h8, h9⟩ := h
  have ht := tn31 hs2
  have ev : P 34 (27 + k) - 1 - P 30 (tn s) = M (b + 10) k - (1 + M (b + 1) (tn s)) := by
    rw [(h5 k hk).1, (h2 _ ht).1]
    grind
  have el := liveN_off (f := M (b + 10)) (h := (cHush b (cTurn b (cGo b M k s) w k) k) (b + 10)) (j := k) hl (by unfold cHush; rw [cTurn_flat b M w k e s ho]; grind (splits := 40) (ematch := 30) (gen := 40) [wr_ap]) 40 hk (by unfold cHush; rw [cTurn_flat b M w k e s ho]; grind (splits := 40) (ematch := 30) (gen := 40) [wr_ap])
  have e3 : (cHush b (cTurn b (cGo b M k s) w k) k) b 3 = M b 3 - 1 := by
    unfold cHush; rw [cTurn_flat b M w k e s ho]
    grind (splits := 40) (ematch := 30) (gen := 40) [wr_ap]
  refine ⟨?_, ?_, ?_, ?_, ?_, ?_, ?_, ?_, ?_⟩
  · unfold cHush; rw [cTurn_flat b M w k e s ho]; (try rw [mHit_flat _ he hw, mGo_flat, ev]); grind (splits := 40) (ematch := 30) (gen := 40) [wr_ap]
  · unfold cHush; rw [cTurn_flat b M w k e s ho]; (try rw [mHit_flat _ he hw, mGo_flat, ev]); grind (splits := 40) (ematch := 30) (gen := 40) [wr_ap]
  · unfold cHush; rw [cTurn_flat b M w k e s ho]; (try rw [mHit_flat _ he hw, mGo_flat, ev]); grind (splits := 40) (ematch := 30) (gen := 40) [wr_ap]
  · unfold cHush; rw [cTurn_flat b M w k e s ho]; (try rw [mHit_flat _ he hw, mGo_flat, ev]); grind (splits := 40) (ematch := 30) (gen := 40) [wr_ap]
  · unfold cHush; rw [cTurn_flat b M w k e s ho]; (try rw [mHit_flat _ he hw, mGo_flat, ev]); grind (splits := 40) (ematch := 30) (gen := 40) [wr_ap]
  · unfold cHush; rw [cTurn_flat b M w k e s ho]; (try rw [mHit_flat _ he hw, mGo_flat, ev]); grind (splits := 40) (ematch := 30) (gen := 40) [wr_ap]
  · unfold cHush; rw [cTurn_flat b M w k e s ho]; (try rw [mHit_flat _ he hw, mGo_flat, ev]); grind (splits := 40) (ematch := 30) (gen := 40) [wr_ap]
  · unfold cHush; rw [cTurn_flat b M w k e s ho]; (try rw [mHit_flat _ he hw, mGo_flat, ev]); grind (splits := 40) (ematch := 30) (gen := 40) [wr_ap]
  · rw [e3, h9, ← el]
    exact nI_prd
