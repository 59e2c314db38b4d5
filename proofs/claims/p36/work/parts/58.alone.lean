/-! A shout alone: what it loses, how often it is thrown back. -/
theorem cMove_c (b : Nat) (M : Mem) (k : Nat) {c : Nat} (hc : c = b + 1 ∨ c = b + 2 ∨ c = b + 5 ∨ c = b + 6) : cMove b M k c = M c := by
  have h1 : ∀ N : Mem, cHush b N k c = N c := fun N => by
    unfold cHush
    rw [wr_cell (by omega), wr_cell (by omega), wr_cell (by omega), wr_cell (by omega)]
  have h2 : ∀ s, cGo b M k s c = M c := fun s => by
    unfold cGo
    rw [wr_cell (by omega), wr_cell (by omega)]
  have h3 : ∀ (N : Mem) w, cTurn b N w k c = N c := fun N w => by
    unfold cTurn
    rw [wr_cell (by omega), wr_cell (by omega), wr_cell (by omega), wr_cell (by omega), wr_cell (by omega)]
  have h4 : ∀ s, cMv b M k s c = M c := fun s => by
    unfold cMv
    split
    · rw [h3, h2]
    · exact h2 s
  unfold cMove
  split
  · split
    · exact h4 _
    · rw [h1, h4]
  · exact h1 M
/-- the world of a canyon as the model has it -/
def Wd (Q P : Mem) : Prop := (∀ s, s < 32 → Q 16 s = P 30 s ∧ Q 17 s = P 31 s ∧ (P 31 s = -1 ∨ (0 ≤ P 31 s ∧ P 31 s ≤ 9))) ∧ (∀ w, w < 10 → Q 21 w = P 33 w) ∧ mOK2 P
theorem Wd.cells {Q Q' P : Mem} (h : Wd Q P) (e1 : Q' 16 = Q 16) (e2 : Q' 17 = Q 17) (e3 : Q' 21 = Q 21) : Wd Q' P := by
  obtain ⟨h1, h2, h3⟩ := h
  exact ⟨fun s hs => by rw [e1, e2]; exact h1 s hs, fun w hw => by rw [e3]; exact h2 w hw, h3⟩
theorem Wd.move {Q P : Mem} (h : Wd Q P) : Wd (cMove 15 Q 0) P := h.cells (cMove_c 15 Q 0 (by omega)) (cMove_c 15 Q 0 (by omega)) (cMove_c 15 Q 0 (by omega))
theorem hush_0 (Q : Mem) : cHush 15 Q 0 25 0 = 0 ∧ cHush 15 Q 0 26 0 = -1 ∧ cHush 15 Q 0 28 0 = Q 28 0 := ⟨rfl, rfl, rfl⟩
theorem al_off {Q : Mem} (ho : ¬ (0 ≤ Q 26 0 + Q 27 0 ∧ Q 26 0 + Q 27 0 ≤ 31)) : cMove 15 Q 0 25 0 = 0 ∧ cMove 15 Q 0 26 0 = -1 ∧ cMove 15 Q 0 28 0 = Q 28 0 := by
  have e : cMove 15 Q 0 = cHush 15 Q 0 := by
    unfold cMove
    exact if_neg ho
  rw [e]
  exact hush_0 Q
theorem al_end {Q P : Mem} (h : Wd Q P) {s : Int32} (hs : Q 26 0 + Q 27 0 = s) (ho : 0 ≤ s ∧ s ≤ 31) (hv : ¬ 0 < Q 25 0 - (1 + P 30 (tn s))) : cMove 15 Q 0 25 0 = 0 ∧ cMove 15 Q 0 26 0 = -1 ∧ cMove 15 Q 0 28 0 = Q 28 0 := by
  rw [← (h.1 _ (tn31 ho)).1] at hv
  have e0 : cS 15 Q 0 = s := hs
  have cl : cGo 15 Q 0 s 25 0 = Q 25 0 - (1 + Q 16 (tn s)) := rfl
  have e1 : cMv 15 Q 0 s = cGo 15 Q 0 s := by
    unfold cMv
    rw [if_neg (fun z => hv (by rw [← cl]; exact z.1))]
  have e : cMove 15 Q 0 = cHush 15 (cGo 15 Q 0 s) 0 := by
    unfold cMove
    rw [e0, if_pos ho, e1, if_neg (fun z => hv (by rw [← cl]; exact z))]
  rw [e]
  exact hush_0 _
theorem al_go {Q P : Mem} (h : Wd Q P) {s : Int32} (hs : Q 26 0 + Q 27 0 = s) (ho : 0 ≤ s ∧ s ≤ 31) (hv : 0 < Q 25 0 - (1 + P 30 (tn s))) (hw : P 31 (tn s) = -1) : cMove 15 Q 0 25 0 = Q 25 0 - (1 + P 30 (tn s)) ∧ cMove 15 Q 0 26 0 = s ∧ cMove 15 Q 0 27 0 = Q 27 0 ∧ cMove 15 Q 0 28 0 = Q 28 0 := by
  have ht := h.1 _ (tn31 ho)
  rw [← ht.1] at hv ⊢
  rw [← ht.2.1] at hw
  have e0 : cS 15 Q 0 = s := hs
  have cl : cGo 15 Q 0 s 25 0 = Q 25 0 - (1 + Q 16 (tn s)) := rfl
  have e1 : cMv 15 Q 0 s = cGo 15 Q 0 s := by
    unfold cMv
    rw [if_neg (fun z => z.2 hw)]
  have e : cMove 15 Q 0 = cGo 15 Q 0 s := by
    unfold cMove
    rw [e0, if_pos ho, e1, if_pos (show 0 < cGo 15 Q 0 s 25 0 by rw [cl]; exact hv)]
  rw [e]
  exact ⟨rfl, rfl, rfl, rfl⟩
theorem al_turn {Q P : Mem} (h : Wd Q P) {s : Int32} (hs : Q 26 0 + Q 27 0 = s) (ho : 0 ≤ s ∧ s ≤ 31) (hv : 0 < Q 25 0 - (1 + P 30 (tn s))) (hw : P 31 (tn s) ≠ -1) :
    (0 < Q 25 0 - (1 + P 30 (tn s)) - P 33 (tn (P 31 (tn s))) → cMove 15 Q 0 25 0 = Q 25 0 - (1 + P 30 (tn s)) - P 33 (tn (P 31 (tn s))) ∧ cMove 15 Q 0 26 0 = s ∧ cMove 15 Q 0 27 0 = -(Q 27 0)) ∧
    (¬ 0 < Q 25 0 - (1 + P 30 (tn s)) - P 33 (tn (P 31 (tn s))) → cMove 15 Q 0 25 0 = 0 ∧ cMove 15 Q 0 26 0 = -1) ∧ cMove 15 Q 0 28 0 = Q 28 0 + 1 := by
  have ht := h.1 _ (tn31 ho)
  have hw10 := tn9 (ht.2.2.resolve_left hw)
  rw [← h.2.1 _ hw10]
  rw [← ht.1] at hv ⊢
  rw [← ht.2.1] at hw ⊢
  rw [← ht.2.1] at hw10
  have e0 : cS 15 Q 0 = s := hs
  have cl : cGo 15 Q 0 s 25 0 = Q 25 0 - (1 + Q 16 (tn s)) := rfl
  generalize hww : tn (Q 17 (tn s)) = w at hw10
  have e1 : cMv 15 Q 0 s = cTurn 15 (cGo 15 Q 0 s) w 0 := by
    unfold cMv
    rw [if_pos (show 0 < cGo 15 Q 0 s 25 0 ∧ Q 17 (tn s) ≠ -1 from ⟨by rw [cl]; exact hv, hw⟩)]
    show cTurn 15 (cGo 15 Q 0 s) (tn (Q 17 (tn s))) 0 = _
    rw [hww]
  have tf := cTurn_flat 15 Q w 0 _ s rfl
  have tl : cTurn 15 (cGo 15 Q 0 s) w 0 25 0 = Q 25 0 - (1 + Q 16 (tn s)) - Q 21 w := by
    rw [tf]; rfl
  have e : cMove 15 Q 0 = if 0 < cTurn 15 (cGo 15 Q 0 s) w 0 25 0 then cTurn 15 (cGo 15 Q 0 s) w 0 else cHush 15 (cTurn 15 (cGo 15 Q 0 s) w 0) 0 := by
    unfold cMove
    rw [e0, if_pos ho, e1]
  have t28 : cTurn 15 (cGo 15 Q 0 s) w 0 28 0 = Q 28 0 + 1 := by rw [tf]; rfl
  rw [tl] at e
  refine ⟨fun z => ?_, fun z => ?_, ?_⟩
  · rw [e, if_pos z, tl]
    refine ⟨rfl, ?_, ?_⟩
    · rw [tf]; rfl
    · rw [tf]; rfl
  · rw [e, if_neg z]
    exact ⟨rfl, rfl⟩
  · rw [e]
    split
    · exact t28
    · exact (hush_0 _).2.2.trans t28
def fw (r : Int32) : Int32 := if 99 < r + 1 then -1 else r + 1
theorem fw_big {r : Int32} (h : 99 ≤ r.toInt ∧ r.toInt ≤ 300) : fw r = -1 := by
  unfold fw
  rw [if_pos]
  rw [i_lt, i_c99, i_inc (by omega) (by omega)]
  omega
theorem fw_small {r x : Int32} (h : 0 ≤ r.toInt ∧ r.toInt < 99) (hx : r.toInt = 99 - x.toInt) : 99 - x + 1 = fw r := by
  unfold fw
  rw [if_neg]
  · have e : 99 - x = r := by
      rw [i_eq, i_sub (by rw [i_c99]; omega) (by rw [i_c99]; omega), i_c99, hx]
    rw [e]
  · rw [i_lt, i_c99, i_inc (by omega) (by omega)]
    omega
theorem mLs_big (P : Mem) (th : Int32) : ∀ (n : Nat) (s way lost : Int32), 99 ≤ lost.toInt → mLs P th n s way lost = lost
  | 0, _, _, _, _ => rfl
  | n + 1, s, way, lost, h => by
    unfold mLs
    rw [if_pos (i_le.mpr (by rw [i_c99]; exact h))]
theorem rng5 {x : Int32} (h : 0 ≤ x ∧ x ≤ 5) : 0 ≤ x.toInt ∧ x.toInt ≤ 5 := by
  have a := i_le.mp h.1
  have b := i_le.mp h.2
  rw [i_c0] at a
  rw [i_c5] at b
  exact ⟨a, b⟩
theorem lw_dead {th : Int32} : ∀ (n : Nat) (Q : Mem), Q 25 0 = 0 → cLWr th n Q = -1
  | 0, _, _ => rfl
  | n + 1, Q, h => by
    unfold cLWr
    rw [h]
    rfl
theorem lw_is {P : Mem} {th : Int32} (hth : 0 ≤ th) : ∀ (n : Nat) (Q : Mem) (lost : Int32), Wd Q P → 0 < Q 25 0 → (Q 25 0).toInt ≤ n → (Q 25 0).toInt ≤ 99 → lost.toInt = 99 - (Q 25 0).toInt → cLWr th n Q = fw (mLs P th (n + 1) (Q 26 0) (Q 27 0) lost)
  | 0, Q, lost, _, hl, hn, _, _ => by
    have := i_lt.mp hl
    rw [i_c0] at this
    omega
  | n + 1, Q, lost, h, hl, hn, h99, hlost => by
    have hl0 := i_lt.mp hl
    rw [i_c0] at hl0
    have hm1 : ¬ (-1 = th) := fun e => by rw [← e] at hth; exact absurd hth (by decide)
    unfold cLWr mLs
    rw [if_pos hl, if_neg (show ¬ (99 : Int32) ≤ lost from fun z => by have := i_le.mp z; rw [i_c99] at this; omega)]
    by_cases on : 0 ≤ Q 26 0 + Q 27 0 ∧ Q 26 0 + Q 27 0 ≤ 31
    · rw [if_pos on]
      generalize hs : Q 26 0 + Q 27 0 = s at on
      have ht := tn31 on
      obtain ⟨sn1, sn2⟩ := rng5 (h.2.2.1 _ ht)
      have e1 : (1 + P 30 (tn s)).toInt = 1 + (P 30 (tn s)).toInt := i_add (a := 1) (by rw [i_c1]; omega) (by rw [i_c1]; omega)
      have e2 : (Q 25 0 - (1 + P 30 (tn s))).toInt = (Q 25 0).toInt - (1 + P 30 (tn s)).toInt := i_sub (by omega) (by omega)
      have e3 : (lost + (1 + P 30 (tn s))).toInt = lost.toInt + (1 + P 30 (tn s)).toInt := i_add (by omega) (by omega)
      by_cases hw : P 31 (tn s) = -1
      · rw [if_pos hw]
        by_cases hv : 0 < Q 25 0 - (1 + P 30 (tn s))
        · have hv0 := i_lt.mp hv
          rw [i_c0] at hv0
          obtain ⟨m1, m2, m3, -⟩ := al_go h hs on hv hw
          rw [m1, m2]
          by_cases hth2 : s = th
          · rw [if_pos hth2, if_pos hth2]
            exact fw_small (by omega) (by omega)
          · rw [if_neg hth2, if_neg hth2]
            have ih := lw_is hth n (cMove 15 Q 0) (lost + (1 + P 30 (tn s))) h.move (by rw [m1]; exact hv) (by rw [m1]; omega) (by rw [m1]; omega) (by rw [m1]; omega)
            rw [m2, m3] at ih
            exact ih
        · have hv0 := i_le.mp (Int32.not_lt.mp hv)
          rw [i_c0] at hv0
          obtain ⟨m1, m2, -⟩ := al_end h hs on hv
          rw [m2, if_neg hm1, lw_dead n _ m1]
          split
          · exact (fw_big (by omega)).symm
          · rw [mLs_big _ _ _ _ _ _ (by omega)]
            exact (fw_big (by omega)).symm
      · rw [if_neg hw]
        have hw10 := tn9 ((h.1 _ ht).2.2.resolve_left hw)
        obtain ⟨sk1, sk2⟩ := rng5 (h.2.2.2 _ hw10)
        have e4 : (Q 25 0 - (1 + P 30 (tn s)) - P 33 (tn (P 31 (tn s)))).toInt = (Q 25 0 - (1 + P 30 (tn s))).toInt - (P 33 (tn (P 31 (tn s)))).toInt := i_sub (by omega) (by omega)
        have e5 : (lost + (1 + P 30 (tn s)) + P 33 (tn (P 31 (tn s)))).toInt = (lost + (1 + P 30 (tn s))).toInt + (P 33 (tn (P 31 (tn s)))).toInt := i_add (by omega) (by omega)
        by_cases hv : 0 < Q 25 0 - (1 + P 30 (tn s))
        · have hv0 := i_lt.mp hv
          rw [i_c0] at hv0
          obtain ⟨m1, m2, -⟩ := al_turn h hs on hv hw
          by_cases hu : 0 < Q 25 0 - (1 + P 30 (tn s)) - P 33 (tn (P 31 (tn s)))
          · have hu0 := i_lt.mp hu
            rw [i_c0] at hu0
            obtain ⟨k1, k2, k3⟩ := m1 hu
            rw [k1, k2]
            by_cases hth2 : s = th
            · rw [if_pos hth2, if_pos hth2]
              exact fw_small (by omega) (by omega)
            · rw [if_neg hth2, if_neg hth2]
              have ih := lw_is hth n (cMove 15 Q 0) (lost + (1 + P 30 (tn s)) + P 33 (tn (P 31 (tn s)))) h.move (by rw [k1]; exact hu) (by rw [k1]; omega) (by rw [k1]; omega) (by rw [k1]; omega)
              rw [k2, k3] at ih
              exact ih
          · have hu0 := i_le.mp (Int32.not_lt.mp hu)
            rw [i_c0] at hu0
            obtain ⟨k1, k2⟩ := m2 hu
            rw [k2, if_neg hm1, lw_dead n _ k1]
            split
            · exact (fw_big (by omega)).symm
            · rw [mLs_big _ _ _ _ _ _ (by omega)]
              exact (fw_big (by omega)).symm
        · have hv0 := i_le.mp (Int32.not_lt.mp hv)
          rw [i_c0] at hv0
          obtain ⟨m1, m2, -⟩ := al_end h hs on hv
          rw [m2, if_neg hm1, lw_dead n _ m1]
          split
          · exact (fw_big (by omega)).symm
          · rw [mLs_big _ _ _ _ _ _ (by omega)]
            exact (fw_big (by omega)).symm
    · rw [if_neg on]
      obtain ⟨m1, m2, -⟩ := al_off on
      rw [m2, if_neg hm1, lw_dead n _ m1]
      rfl
theorem ta_dead : ∀ (n : Nat) (Q : Mem), ¬ 0 < Q 25 0 → cTA n Q = Q
  | 0, _, _ => rfl
  | n + 1, Q, h => by
    unfold cTA
    rw [if_neg h]
theorem tn_dead {P : Mem} (h : mOK2 P) (n : Nat) (s way left sum : Int32) (hl : left.toInt ≤ 0 ∧ -100 ≤ left.toInt) : mTn P n s way left sum = sum := by
  cases n with
  | zero => rfl
  | succ n =>
    unfold mTn
    rw [if_neg]
    intro z
    obtain ⟨a, c⟩ := z
    obtain ⟨s1, s2⟩ := rng5 (h.1 _ (tn31 a))
    have c0 := i_lt.mp c
    have e1 : (left - 1).toInt = left.toInt - 1 := i_sub (b := 1) (by rw [i_c1]; omega) (by rw [i_c1]; omega)
    have e2 : (left - 1 - P 30 (tn s)).toInt = (left - 1).toInt - (P 30 (tn s)).toInt := i_sub (by omega) (by omega)
    rw [i_c0] at c0
    omega
theorem ta_is {P : Mem} : ∀ (n f : Nat) (Q : Mem), n < f → Wd Q P → 0 < Q 25 0 → (Q 25 0).toInt ≤ n → (Q 25 0).toInt ≤ 99 → cTA n Q 28 0 = mTn P f (Q 26 0 + Q 27 0) (Q 27 0) (Q 25 0) (Q 28 0)
  | 0, _, Q, _, _, hl, hn, _ => by
    have := i_lt.mp hl
    rw [i_c0] at this
    omega
  | n + 1, 0, _, hf, _, _, _, _ => by omega
  | n + 1, f + 1, Q, hf, h, hl, hn, h99 => by
    have hl0 := i_lt.mp hl
    rw [i_c0] at hl0
    unfold cTA mTn
    rw [if_pos hl]
    by_cases on : 0 ≤ Q 26 0 + Q 27 0 ∧ Q 26 0 + Q 27 0 ≤ 31
    · generalize hs : Q 26 0 + Q 27 0 = s at on
      have ht := tn31 on
      obtain ⟨sn1, sn2⟩ := rng5 (h.2.2.1 _ ht)
      have e0 : Q 25 0 - 1 - P 30 (tn s) = Q 25 0 - (1 + P 30 (tn s)) := by grind
      have e1 : (1 + P 30 (tn s)).toInt = 1 + (P 30 (tn s)).toInt := i_add (a := 1) (by rw [i_c1]; omega) (by rw [i_c1]; omega)
      have e2 : (Q 25 0 - (1 + P 30 (tn s))).toInt = (Q 25 0).toInt - (1 + P 30 (tn s)).toInt := i_sub (by omega) (by omega)
      rw [e0]
      by_cases hv : 0 < Q 25 0 - (1 + P 30 (tn s))
      · have hv0 := i_lt.mp hv
        rw [i_c0] at hv0
        rw [if_pos ⟨on, hv⟩]
        by_cases hw : P 31 (tn s) = -1
        · rw [if_pos hw]
          obtain ⟨m1, m2, m3, m4⟩ := al_go h hs on hv hw
          have ih := ta_is n f (cMove 15 Q 0) (by omega) h.move (by rw [m1]; exact hv) (by rw [m1]; omega) (by rw [m1]; omega)
          rw [ih, m1, m2, m3, m4]
        · rw [if_neg hw]
          have hw10 := tn9 ((h.1 _ ht).2.2.resolve_left hw)
          obtain ⟨sk1, sk2⟩ := rng5 (h.2.2.2 _ hw10)
          have e4 : (Q 25 0 - (1 + P 30 (tn s)) - P 33 (tn (P 31 (tn s)))).toInt = (Q 25 0 - (1 + P 30 (tn s))).toInt - (P 33 (tn (P 31 (tn s)))).toInt := i_sub (by omega) (by omega)
          obtain ⟨m1, m2, m3⟩ := al_turn h hs on hv hw
          by_cases hu : 0 < Q 25 0 - (1 + P 30 (tn s)) - P 33 (tn (P 31 (tn s)))
          · obtain ⟨k1, k2, k3⟩ := m1 hu
            have ih := ta_is n f (cMove 15 Q 0) (by omega) h.move (by rw [k1]; exact hu) (by rw [k1]; omega) (by rw [k1]; omega)
            rw [ih, k1, k2, k3, m3]
          · have hu0 := i_le.mp (Int32.not_lt.mp hu)
            rw [i_c0] at hu0
            obtain ⟨k1, k2⟩ := m2 hu
            rw [ta_dead n _ (by rw [k1]; decide), m3, tn_dead h.2.2 _ _ _ _ _ (by omega)]
      · rw [if_neg (fun z => hv z.2)]
        obtain ⟨m1, m2, m3⟩ := al_end h hs on hv
        rw [ta_dead n _ (by rw [m1]; decide), m3]
    · rw [if_neg (fun z => on z.1)]
      obtain ⟨m1, m2, m3⟩ := al_off on
      rw [ta_dead n _ (by rw [m1]; decide), m3]
