/-! The model's looks and counts as functions of the memory. -/
theorem lt_of_nge {x : Int32} (h0 : 0 ≤ x) {i : Nat} (hi : i < 2 ^ 31) (c : ¬ nI i ≥ x) : i < tn x := Nat.lt_of_not_le (fun z => c ((ge_tn h0 hi).mpr z))
def mKeep (M : Mem) : Mem := wrc M 35 (cpn (M 34) (M 35) 187)
def mBack (M : Mem) : Mem := wrc M 34 (cpn (M 35) (M 34) 187)
def mWOL (M : Mem) (e : Int32) : Nat → Int32
  | 0 => 0
  | w + 1 => mWOL M e w + (if M 34 (7 + w) = e then 1 else 0)
def mWO (M : Mem) (e : Int32) : Int32 := mWOL M e (mWs M)
def mLA (M : Mem) (s : Int32) : Int32 := if mLoudest M s = -1 then 0 else M 34 (27 + tn (mLoudest M s))
def mPl (M : Mem) (k : Nat) : Int32 := if 0 < M 34 (27 + k) then M 34 (67 + k) else -1
abbrev mRt (M : Mem) (k : Nat) : Prop := 0 < M 34 (27 + k) ∧ 0 < M 34 (107 + k)
/-- the next wall from the stone s on, along a way, n steps at the most -/
def mNx (M : Mem) (way : Int32) : Nat → Int32 → Int32
  | 0, _ => -1
  | n + 1, s => if 0 ≤ s ∧ s ≤ 31 then (if M 31 (tn s) = -1 then mNx M way n (s + way) else s) else -1
/-- what a shout alone loses: n steps at the most; it stands at s, goes along way, has lost so much -/
def mLs (M : Mem) (there : Int32) : Nat → Int32 → Int32 → Int32 → Int32
  | 0, _, _, lost => lost
  | n + 1, s, way, lost =>
    if 99 ≤ lost then lost
    else if 0 ≤ s + way ∧ s + way ≤ 31 then
      (if M 31 (tn (s + way)) = -1 then
        (if s + way = there then lost + (1 + M 30 (tn (s + way))) else mLs M there n (s + way) way (lost + (1 + M 30 (tn (s + way)))))
      else
        (if s + way = there then lost + (1 + M 30 (tn (s + way))) + M 33 (tn (M 31 (tn (s + way)))) else mLs M there n (s + way) (-way) (lost + (1 + M 30 (tn (s + way))) + M 33 (tn (M 31 (tn (s + way)))))))
    else 99
def mTn (M : Mem) : Nat → Int32 → Int32 → Int32 → Int32 → Int32
  | 0, _, _, _, sum => sum
  | n + 1, s, way, left, sum =>
    if (0 ≤ s ∧ s ≤ 31) ∧ 0 < left - 1 - M 30 (tn s) then
      (if M 31 (tn s) = -1 then mTn M n (s + way) way (left - (1 + M 30 (tn s))) sum
      else mTn M n (s + (-way)) (-way) (left - (1 + M 30 (tn s)) - M 33 (tn (M 31 (tn s)))) (sum + 1))
    else sum
def mTurns (M : Mem) (s loud : Int32) : Int32 := mTn M 101 (s + 1) 1 loud 0
def mBestL (M : Mem) (loud : Int32) : Nat → Int32
  | 0 => 0
  | i + 1 => if mTurns M (mBestL M loud i) loud < mTurns M (nI i) loud then nI i else mBestL M loud i
def mBest (M : Mem) (loud : Int32) : Int32 := mBestL M loud 32
def mSumL (M : Mem) : Nat → Int32
  | 0 => 0
  | k + 1 => mSumL M k + M 34 (27 + k)
/-- .. and snow and what walls soak up is 0 to 5 -/
def mOK2 (M : Mem) : Prop := (∀ s, s < 32 → 0 ≤ M 30 s ∧ M 30 s ≤ 5) ∧ (∀ w, w < 10 → 0 ≤ M 33 w ∧ M 33 w ≤ 5)
/-! small numbers -/
theorem i_add {a b : Int32} (h1 : -1000000 ≤ a.toInt + b.toInt) (h2 : a.toInt + b.toInt ≤ 1000000) : (a + b).toInt = a.toInt + b.toInt := by
  rw [Int32.toInt_add]
  exact Int.bmod_eq_of_le (by omega) (by omega)
theorem i_sub {a b : Int32} (h1 : -1000000 ≤ a.toInt - b.toInt) (h2 : a.toInt - b.toInt ≤ 1000000) : (a - b).toInt = a.toInt - b.toInt := by
  rw [Int32.toInt_sub]
  exact Int.bmod_eq_of_le (by omega) (by omega)
theorem i_neg {a : Int32} (h1 : -1000000 ≤ a.toInt) (h2 : a.toInt ≤ 1000000) : (-a).toInt = -a.toInt := by
  rw [Int32.toInt_neg]
  exact Int.bmod_eq_of_le (by omega) (by omega)
theorem i_le {a b : Int32} : a ≤ b ↔ a.toInt ≤ b.toInt := Int32.le_iff_toInt_le
theorem i_lt {a b : Int32} : a < b ↔ a.toInt < b.toInt := Int32.lt_iff_toInt_lt
theorem i_eq {a b : Int32} : a = b ↔ a.toInt = b.toInt := ⟨fun h => by rw [h], Int32.toInt_inj.mp⟩
theorem i_nI {n : Nat} (h : n < 2 ^ 31) : (nI n).toInt = n := nI_toInt h
theorem i_c0 : (0 : Int32).toInt = 0 := rfl
theorem i_c1 : (1 : Int32).toInt = 1 := rfl
theorem i_cm : (-1 : Int32).toInt = -1 := rfl
theorem i_c31 : (31 : Int32).toInt = 31 := rfl
theorem i_c5 : (5 : Int32).toInt = 5 := rfl
theorem i_c99 : (99 : Int32).toInt = 99 := rfl
theorem i_tn {x : Int32} (h : 0 ≤ x) : (tn x : Int) = x.toInt := by
  have h0 := i_le.mp h
  rw [i_c0] at h0
  show ((x.toInt.toNat : Nat) : Int) = x.toInt
  omega
