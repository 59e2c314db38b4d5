/-! Coins, silence, and who inherits in a beat. -/
def chN (f h : Nat → Int32) : Nat → Nat
  | 0 => 0
  | n + 1 => chN f h n + (if h n ≠ f n then 1 else 0)
theorem chN_le (f h : Nat → Int32) : ∀ n, chN f h n ≤ n
  | 0 => Nat.le_refl 0
  | n + 1 => by
    have := chN_le f h n
    unfold chN
    split <;> omega
theorem chN_tri (f k h : Nat → Int32) : ∀ n, chN f h n ≤ chN f k n + chN k h n
  | 0 => Nat.le_refl 0
  | n + 1 => by
    have ih := chN_tri f k h n
    have u : ∀ a b : Nat → Int32, chN a b (n + 1) = chN a b n + (if b n ≠ a n then 1 else 0) := fun _ _ => rfl
    rw [u, u, u]
    by_cases c1 : k n ≠ f n
    · rw [if_pos c1]
      split <;> split <;> omega
    · have c1 : k n = f n := Classical.not_not.mp c1
      rw [c1, if_neg (show ¬ (f n ≠ f n) from fun z => z rfl)]
      omega
theorem chN_0 {f h : Nat → Int32} : ∀ n, (∀ w, w < n → h w = f w) → chN f h n = 0
  | 0, _ => rfl
  | n + 1, e => by
    unfold chN
    rw [chN_0 n (fun w hw => e w (by omega)), if_neg (fun z => z (e n (by omega)))]
theorem chN_1 {f h : Nat → Int32} {w0 : Nat} : ∀ n, (∀ w, w < n → w ≠ w0 → h w = f w) → chN f h n ≤ 1
  | 0, _ => by show 0 ≤ 1; omega
  | n + 1, e => by
    unfold chN
    by_cases c : n = w0
    · rw [chN_0 n (fun w hw => e w (by omega) (by omega))]
      split <;> omega
    · have ih := chN_1 n (fun w hw => e w (by omega))
      rw [if_neg (fun z => z (e n (by omega) c))]
      omega
theorem chN_ext {f h k : Nat → Int32} : ∀ n, (∀ w, w < n → h w = k w) → chN f h n = chN f k n
  | 0, _ => rfl
  | n + 1, e => by
    unfold chN
    rw [chN_ext n (fun w hw => e w (by omega)), e n (by omega)]
abbrev owF (P : Mem) : Nat → Int32 := fun w => P 34 (7 + w)
theorem hush_is {S : Mem} (hp : PK S) {e : Nat} (he : e < 2) (hs : 0 ≤ S 34 (5 + e) ∧ S 34 (5 + e) ≤ 11) :
    mHush S e 34 (5 + e) = (if S 36 e ≠ 0 ∨ S 34 (5 + e) = 11 then 0 else S 34 (5 + e) + 1) ∧ (∀ e', e' < 2 → e' ≠ e → mHush S e 34 (5 + e') = S 34 (5 + e')) ∧
    ∃ d, d ≤ 1 ∧ mHush S e 34 2 = S 34 2 + nI d ∧ (d = 0 ∨ (S 36 e = 0 ∧ S 34 (5 + e) = 11)) ∧ ∀ n, n ≤ 10 → chN (owF S) (owF (mHush S e)) n ≤ d := by
  have s0 : mSil S e 34 (5 + e) = if S 36 e = 0 then S 34 (5 + e) + 1 else 0 := by unfold mSil; rw [wr_eq]
  have sj : ∀ j, j ≠ 5 + e → mSil S e 34 j = S 34 j := fun j hj => by unfold mSil; rw [wr_ne (by omega)]
  have b1 := i_le.mp hs.1
  have b2 := i_le.mp hs.2
  have e11 : (11 : Int32).toInt = 11 := rfl
  have e12 : (12 : Int32).toInt = 12 := rfl
  rw [i_c0] at b1
  rw [e11] at b2
  have e1 : (S 34 (5 + e) + 1).toInt = (S 34 (5 + e)).toInt + 1 := by rw [i_add] <;> rw [i_c1] <;> omega
  have key : 12 ≤ mSil S e 34 (5 + e) ↔ S 36 e = 0 ∧ S 34 (5 + e) = 11 := by
    rw [s0]
    by_cases c : S 36 e = 0
    · rw [if_pos c]
      exact ⟨fun z => ⟨c, i_eq.mpr (by have := i_le.mp z; omega)⟩, fun z => i_le.mpr (by rw [e1, z.2]; decide)⟩
    · rw [if_neg c]
      exact ⟨fun z => absurd z (by decide), fun z => absurd z.1 c⟩
  unfold mHush
  by_cases c : 12 ≤ mSil S e 34 (5 + e)
  · obtain ⟨c1, c2⟩ := key.mp c
    rw [if_pos c, if_pos (Or.inr c2)]
    have w5 : wr (mSil S e) 34 (5 + e) 0 34 (5 + e) = 0 := wr_eq
    have wj : ∀ j, j ≠ 5 + e → wr (mSil S e) 34 (5 + e) 0 34 j = S 34 j := fun j hj => by rw [wr_ne (by omega)]; exact sj j hj
    by_cases c3 : mFirst (wr (mSil S e) 34 (5 + e) 0) (nI e) ≠ -1
    · rw [if_pos c3]
      have hws := hp.1.ws
      have hf : tn (mFirst (wr (mSil S e) 34 (5 + e) 0) (nI e)) < 10 := by
        have hS : mWs (wr (mSil S e) 34 (5 + e) 0) = mWs S := rfl
        rcases mFO_or (wr (mSil S e) 34 (5 + e) 0) (nI e) (mWs (wr (mSil S e) 34 (5 + e) 0)) 0 (by rw [hS]; omega) with z | ⟨z1, z2⟩
        · exact absurd z c3
        · rw [hS] at z2
          exact Nat.lt_of_lt_of_le z2 (by omega)
      obtain ⟨w0, hw0⟩ : ∃ w0, w0 = tn (mFirst (wr (mSil S e) 34 (5 + e) 0) (nI e)) := ⟨_, rfl⟩
      rw [← hw0] at hf ⊢
      have lj : ∀ j, j ≠ 7 + w0 → j ≠ 2 → mLose (wr (mSil S e) 34 (5 + e) 0) e w0 34 j = wr (mSil S e) 34 (5 + e) 0 34 j := fun j h1 h2 => by
        unfold mLose
        rw [wr_ne (by omega), wr_ne (by omega)]
      refine ⟨by rw [lj _ (by omega) (by omega), w5], fun e' h1 h2 => by rw [lj _ (by omega) (by omega), wj _ (by omega)], 1, Nat.le_refl _, ?_, Or.inr ⟨c1, c2⟩, fun n hn => chN_1 (w0 := w0) n (fun w hw hne => ?_)⟩
      · unfold mLose
        rw [wr_eq, wr_ne (by omega), wj 2 (by omega)]
        rfl
      · show mLose (wr (mSil S e) 34 (5 + e) 0) e w0 34 (7 + w) = S 34 (7 + w)
        rw [lj _ (by omega) (by omega), wj _ (by omega)]
    · rw [if_neg c3]
      refine ⟨w5, fun e' h1 h2 => wj _ (by omega), 0, by omega, by rw [wj 2 (by omega)]; exact (Int32.add_zero _).symm, Or.inl rfl, fun n hn => Nat.le_of_eq (chN_0 n (fun w hw => wj _ (by omega)))⟩
  · have c' := fun z => c (key.mpr z)
    rw [if_neg c]
    refine ⟨?_, fun e' h1 h2 => sj _ (by omega), 0, by omega, by rw [sj 2 (by omega)]; exact (Int32.add_zero _).symm, Or.inl rfl, fun n hn => Nat.le_of_eq (chN_0 n (fun w hw => sj _ (by omega)))⟩
    rw [s0]
    by_cases c1 : S 36 e = 0
    · rw [if_pos c1, if_neg (fun z => z.elim (fun y => y c1) (fun y => c' ⟨c1, y⟩))]
    · rw [if_neg c1, if_pos (Or.inl c1)]
theorem GG.rf (P : Mem) : GG (mGot0 P) (mGot0 P) (fun _ => 0) 0 := fun e he => by
  have h36 : mGot0 P 36 e = 0 := by
    show wr (wr P 36 0 0) 36 1 0 36 e = 0
    rcases (show e = 0 ∨ e = 1 by omega) with rfl | rfl
    · rw [wr_ne (by omega), wr_eq]
    · rw [wr_eq]
  exact ⟨(Int32.sub_self _).symm, ⟨by show 0 ≤ (0 : Int32).toInt; rw [i_c0]; omega, by show (0 : Int32).toInt ≤ _; rw [i_c0]; omega⟩, by rw [h36]⟩
theorem stepL_got {P : Mem} (h : PK P) : ∀ n, n ≤ 40 → ∃ gf, GG P (mStepL P n) gf n ∨ ¬ GG P P (fun _ => 0) 0
  | 0, _ => by
    by_cases c : GG P P (fun _ => 0) 0
    · exact ⟨_, Or.inl c⟩
    · exact ⟨fun _ => 0, Or.inr c⟩
  | n + 1, hn => by
    obtain ⟨gf, ih⟩ := stepL_got h n (by omega)
    rcases ih with ih | ih
    · have pq := h.stepL n (by omega)
      have u : mStepL P (n + 1) = if 0 < mStepL P n 34 (27 + n) then mStep (mStepL P n) n else mStepL P n := rfl
      by_cases c : 0 < mStepL P n 34 (27 + n)
      · rw [u, if_pos c]
        rcases ms_cases pq (by omega) c with ⟨c, e⟩ | ⟨c, c2, e⟩ | ⟨e1, w, c, c1, c2, c3, hw10, c4, c5, he2, e⟩
        · exact ⟨gf, Or.inl (ih.same (fun i hi => by rw [e, wr_ne (by omega), wr_ne (by omega)]; exact ⟨rfl, rfl⟩))⟩
        · exact ⟨gf, Or.inl (ih.same (fun i hi => by rw [e, wr_ne (by omega), wr_ne (by omega), wr_ne (by omega), wr_ne (by omega)]; exact ⟨rfl, rfl⟩))⟩
        · refine ⟨_, Or.inl (ih.hit (e0 := e1) (by omega) (fun i hi => ⟨?_, ?_⟩))⟩
          · rw [e, wr_ne (by omega), wr_ne (by omega), wr_ne (by omega), wr_ne (by omega), wr_ne (by omega), wr_ap]
            by_cases z : i = e1
            · subst z
              rw [if_pos ⟨rfl, rfl⟩, if_pos rfl]
            · rw [if_neg (fun y => z (by omega)), if_neg z, wr_ne (by omega)]
          · rw [e, wr_ne (by omega), wr_ne (by omega), wr_ne (by omega), wr_ne (by omega), wr_ap]
            by_cases z : i = e1
            · subst z
              rw [if_pos ⟨rfl, rfl⟩, if_pos rfl]
            · rw [if_neg (fun y => z (by omega)), if_neg z, wr_ne (by omega), wr_ne (by omega)]
      · rw [u, if_neg c]
        exact ⟨gf, Or.inl (ih.same (fun i hi => ⟨rfl, rfl⟩))⟩
    · exact ⟨gf, Or.inr ih⟩
/-- the coins of a beat -/
theorem beat_coins {P : Mem} (h : PK P) : ∃ gf : Nat → Int32, ∀ e, e < 2 → mBeat P 34 (3 + e) = P 34 (3 + e) + gf e ∧ (0 ≤ (gf e).toInt ∧ (gf e).toInt ≤ 40) ∧ (mB1 P 36 e = 0 ↔ gf e = 0) := by
  have hsh := h.1.sh
  obtain ⟨gf, a⟩ := stepL_got h.got0 (mSh P) hsh
  rcases a with a | a
  · refine ⟨gf, fun e he => ?_⟩
    obtain ⟨a1, a2, a3⟩ := a e he
    refine ⟨?_, ⟨a2.1, by omega⟩, a3⟩
    rw [mBeat_coin h he]
    rw [a1, mGot0_34]
    show mB1 P 34 (3 + e) = P 34 (3 + e) + (mB1 P 34 (3 + e) - P 34 (3 + e))
    grind
  · exact absurd (GG.rf P) a
/-- silence and inheritance of a beat -/
theorem beat_hush {P : Mem} (h : PK P) (hs : ∀ e, e < 2 → 0 ≤ P 34 (5 + e) ∧ P 34 (5 + e) ≤ 11) : (∀ e, e < 2 → mBeat P 34 (5 + e) = (if mB1 P 36 e ≠ 0 ∨ P 34 (5 + e) = 11 then 0 else P 34 (5 + e) + 1)) ∧
    ∃ d, d ≤ 2 ∧ mBeat P 34 2 = P 34 2 + nI d ∧ (d = 0 ∨ ∃ e, e < 2 ∧ mB1 P 36 e = 0 ∧ P 34 (5 + e) = 11) ∧ ∀ n, n ≤ 10 → chN (owF P) (owF (mBeat P)) n ≤ d := by
  obtain ⟨p1, n1, n2⟩ := h.b1
  obtain ⟨m1, m2, m3, m4⟩ := mm_all p1.1 (mSh P) (by omega)
  have h2 : PK (mB2 P) := p1.meetL _ h.1.sh
  have h3 : PK (mHush (mB2 P) 0) := h2.hush (by decide)
  obtain ⟨a2, a5, a7⟩ := mB2_1 h
  have f36 : mB2 P 36 = mB1 P 36 := m2 36 (by decide)
  have g36 : mHush (mB2 P) 0 36 = mB1 P 36 := (mHush_36 (mB2 P) 0).trans f36
  obtain ⟨x1, x2, d0, x3, x4, x5, x6⟩ := hush_is h2 (e := 0) (by decide) (by rw [a5 0 (by decide)]; exact hs 0 (by decide))
  have e51 : mHush (mB2 P) 0 34 (5 + 1) = P 34 (5 + 1) := (x2 1 (by decide) (by decide)).trans (a5 1 (by decide))
  obtain ⟨y1, y2, d1, y3, y4, y5, y6⟩ := hush_is h3 (e := 1) (by decide) (by rw [e51]; exact hs 1 (by decide))
  have b : ∀ j, j ≠ 0 → mBeat P 34 j = mHush (mHush (mB2 P) 0) 1 34 j := fun j hj => by
    show wr (mB3 P) 34 0 _ 34 j = _
    rw [wr_ne (by omega)]
    rfl
  refine ⟨fun e he => ?_, d0 + d1, by omega, ?_, ?_, fun n hn => ?_⟩
  · rcases (show e = 0 ∨ e = 1 by omega) with rfl | rfl
    · rw [b _ (by omega), y2 0 (by decide) (by decide), x1, f36, a5 0 (by decide)]
    · rw [b _ (by omega), y1, g36, e51]
  · rw [b _ (by omega), y4, x4, a2, ← nI_add]
    grind
  · rcases x5 with x5 | x5
    · rcases y5 with y5 | y5
      · exact Or.inl (by omega)
      · exact Or.inr ⟨1, by decide, by rw [← g36]; exact y5.1, by rw [← e51]; exact y5.2⟩
    · exact Or.inr ⟨0, by decide, by rw [← f36]; exact x5.1, by rw [← a5 0 (by decide)]; exact x5.2⟩
  · have t1 := chN_tri (owF P) (owF (mB2 P)) (owF (mBeat P)) n
    have t2 := chN_tri (owF (mB2 P)) (owF (mHush (mB2 P) 0)) (owF (mBeat P)) n
    have z1 : chN (owF P) (owF (mB2 P)) n = 0 := chN_0 n (fun w hw => a7 w (by omega))
    have z2 := x6 n hn
    have z3 : chN (owF (mHush (mB2 P) 0)) (owF (mBeat P)) n ≤ d1 := by
      have e := chN_ext (f := owF (mHush (mB2 P) 0)) (h := owF (mBeat P)) (k := owF (mHush (mHush (mB2 P) 0) 1)) n (fun w hw => b _ (by omega))
      rw [e]
      exact y6 n hn
    omega
