/-! The canyon's methods as functions of the memory; b is the canyon's own cell (1 or 15): slots beatCount, wallCount, shoutCount, underWayCount, overlapCount, inheritedCount; cells b+1 snow, b+2 wallAt, b+3 shoutAt, b+4 wallStone, b+5 wallOwner, b+6 wallSoaks, b+7 wallThrows, b+8 coins, b+9 silence, b+10 loud, b+11 place, b+12 step, b+13 turns. -/
theorem wr_ap (M : Mem) (k j : Nat) (v : Int32) (k' j' : Nat) : wr M k j v k' j' = if k' = k ∧ j' = j then v else M k' j' := by
  by_cases hk : k' = k
  · subst hk
    by_cases hj : j' = j
    · subst hj; rw [wr_eq, if_pos ⟨rfl, rfl⟩]
    · rw [wr_ne (Or.inr hj), if_neg (fun z => hj z.2)]
  · rw [wr_ne (Or.inl hk), if_neg (fun z => hk z.1)]
theorem wrc_ap (M : Mem) (k : Nat) (c : Nat → Int32) (k' j' : Nat) : wrc M k c k' j' = if k' = k then c j' else M k' j' := by
  unfold wrc; split <;> rfl
theorem wrc_cell {M : Mem} {k : Nat} {c : Nat → Int32} {k' : Nat} (h : k' ≠ k) : wrc M k c k' = M k' := by unfold wrc; rw [if_neg h]
theorem fill_0 (M : Mem) (k : Nat) (v : Int32) : wrc M k (cpn (fun _ => v) (M k) 0) = M := by
  funext k' j'
  rw [wrc_ap]
  split
  · rename_i h; subst h; rfl
  · rfl
theorem fill_s (M : Mem) (k : Nat) (v : Int32) (i : Nat) : wr (wrc M k (cpn (fun _ => v) (M k) i)) k i v = wrc M k (cpn (fun _ => v) (M k) (i + 1)) := by
  funext k' j'
  rw [wr_ap, wrc_ap, wrc_ap]
  by_cases hk : k' = k
  · subst hk
    rw [if_pos rfl, if_pos rfl]
    unfold cpn
    by_cases h1 : j' = i
    · rw [if_pos ⟨rfl, h1⟩, if_pos (by omega)]
    · rw [if_neg (fun z => h1 z.2)]
      by_cases h2 : j' < i
      · rw [if_pos h2, if_pos (by omega)]
      · rw [if_neg h2, if_neg (by omega)]
  · rw [if_neg (fun z => hk z.1), if_neg hk, if_neg hk]
def cFill (b : Nat) (M : Mem) : Mem := wrc M (b + 3) (cpn (fun _ => -1) (M (b + 3)) 32)
def cHush (b : Nat) (M : Mem) (k : Nat) : Mem := wr (wr (wr (wr M (b + 10) k 0) (b + 11) k (-1)) (b + 12) k 0) b 3 (M b 3 - 1)
def cTurn (b : Nat) (M : Mem) (w k : Nat) : Mem :=
  wr (wr (wr (wr (wr M (b + 8) (tn (M (b + 5) w)) (M (b + 8) (tn (M (b + 5) w)) + 1)) (b + 7) w (M (b + 7) w + 1)) (b + 13) k (M (b + 13) k + 1)) (b + 10) k (M (b + 10) k - M (b + 6) w)) (b + 12) k (-(M (b + 12) k))
def cGo (b : Nat) (M : Mem) (k : Nat) (s : Int32) : Mem := wr (wr M (b + 11) k s) (b + 10) k (M (b + 10) k - (1 + M (b + 1) (tn s)))
def cMv (b : Nat) (M : Mem) (k : Nat) (s : Int32) : Mem := if 0 < cGo b M k s (b + 10) k ∧ M (b + 2) (tn s) ≠ -1 then cTurn b (cGo b M k s) (tn (M (b + 2) (tn s))) k else cGo b M k s
def cS (b : Nat) (M : Mem) (k : Nat) : Int32 := M (b + 11) k + M (b + 12) k
def cMove (b : Nat) (M : Mem) (k : Nat) : Mem :=
  if 0 ≤ cS b M k ∧ cS b M k ≤ 31 then (if 0 < cMv b M k (cS b M k) (b + 10) k then cMv b M k (cS b M k) else cHush b (cMv b M k (cS b M k)) k) else cHush b M k
def cOv (b : Nat) (M : Mem) : Mem := wr M b 4 (M b 4 + 1)
def cSettle (b : Nat) (M : Mem) (k : Nat) : Mem :=
  if M (b + 3) (tn (M (b + 11) k)) = -1 then wr M (b + 3) (tn (M (b + 11) k)) (nI k)
  else if M (b + 10) (tn (M (b + 3) (tn (M (b + 11) k)))) < M (b + 10) k then wr (cHush b (cOv b M) (tn (M (b + 3) (tn (M (b + 11) k))))) (b + 3) (tn (M (b + 11) k)) (nI k)
  else cHush b (cOv b M) k
def cMeetL (b : Nat) (M : Mem) : Nat → Mem
  | 0 => cFill b M
  | k + 1 => if 0 < cMeetL b M k (b + 10) k then cSettle b (cMeetL b M k) k else cMeetL b M k
def cMoveL (b : Nat) (M : Mem) : Nat → Mem
  | 0 => M
  | k + 1 => if 0 < cMoveL b M k (b + 10) k then cMove b (cMoveL b M k) k else cMoveL b M k
def cOth (e : Int32) : Int32 := if e = 0 then 1 else 0
def cLW (b : Nat) (M : Mem) (e : Nat) : Nat → Nat → Mem
  | 0, _ => M
  | n + 1, w => if M (b + 5) w = nI e then wr (wr M (b + 5) w (cOth (nI e))) b 5 (M b 5 + 1) else cLW b M e n (w + 1)
abbrev cWs (b : Nat) (M : Mem) : Nat := tn (M b 1)
abbrev cSh (b : Nat) (M : Mem) : Nat := tn (M b 2)
def cSil (b : Nat) (M : Mem) (e : Nat) (p : Int32) : Mem := wr M (b + 9) e (if p = 0 then M (b + 9) e + 1 else 0)
def cListen (b : Nat) (M : Mem) (e : Nat) (p : Int32) : Mem :=
  if cSil b M e p (b + 9) e = 12 then cLW b (wr (cSil b M e p) (b + 9) e 0) e (cWs b M) 0 else cSil b M e p
def cB1 (b : Nat) (M : Mem) : Mem := cMoveL b M (cSh b M)
def cB2 (b : Nat) (M : Mem) : Mem := cMeetL b (cB1 b M) (cSh b M)
def cB3 (b : Nat) (M : Mem) : Mem := cListen b (cB2 b M) 0 (b2i (M (b + 8) 0 < cB2 b M (b + 8) 0))
def cB4 (b : Nat) (M : Mem) : Mem := cListen b (cB3 b M) 1 (b2i (M (b + 8) 1 < cB3 b M (b + 8) 1))
def cBeat (b : Nat) (M : Mem) : Mem := wr (cB4 b M) b 0 (cB4 b M b 0 + 1)
def cBeats (b : Nat) (M : Mem) : Nat → Mem
  | 0 => M
  | n + 1 => cBeat b (cBeats b M n)
/-! what keeps the canyon's indices in range -/
def cOK (b : Nat) (M : Mem) : Prop :=
  (0 ≤ M b 1 ∧ M b 1 ≤ 10) ∧ (0 ≤ M b 2 ∧ M b 2 ≤ 40) ∧ (∀ s, s < 32 → M (b + 2) s = -1 ∨ (0 ≤ M (b + 2) s ∧ M (b + 2) s ≤ 9)) ∧ (∀ w, w < 10 → 0 ≤ M (b + 5) w ∧ M (b + 5) w ≤ 1) ∧
  (∀ s, s < 32 → M (b + 3) s = -1 ∨ (0 ≤ M (b + 3) s ∧ M (b + 3) s ≤ 39)) ∧ (∀ k, k < 40 → 0 < M (b + 10) k → 0 ≤ M (b + 11) k ∧ M (b + 11) k ≤ 31)
theorem cOK.ws {b : Nat} {M : Mem} (h : cOK b M) : cWs b M ≤ 10 := tn_le (n := 10) h.1.1 (by decide) h.1.2
theorem cOK.sh {b : Nat} {M : Mem} (h : cOK b M) : cSh b M ≤ 40 := tn_le (n := 40) h.2.1.1 (by decide) h.2.1.2
theorem tn39 {x : Int32} (h : 0 ≤ x ∧ x ≤ 39) : tn x < 40 := Nat.lt_succ_of_le (tn_le (n := 39) h.1 (by decide) h.2)
/-- what no beat's first two steps change: the counts of walls and shouts, the walls, their echoes -/
def cSame (b : Nat) (M M' : Mem) : Prop := M' b 1 = M b 1 ∧ M' b 2 = M b 2 ∧ M' (b + 2) = M (b + 2) ∧ M' (b + 5) = M (b + 5)
theorem cSame.rf {b : Nat} {M : Mem} : cSame b M M := ⟨rfl, rfl, rfl, rfl⟩
theorem cSame.tr {b : Nat} {M M' M'' : Mem} (h : cSame b M M') (g : cSame b M' M'') : cSame b M M'' := ⟨g.1.trans h.1, g.2.1.trans h.2.1, g.2.2.1.trans h.2.2.1, g.2.2.2.trans h.2.2.2⟩
theorem cSame.wr {b : Nat} {M : Mem} {k j : Nat} {v : Int32} (h : (k = b ∧ 3 ≤ j) ∨ k = b + 3 ∨ b + 6 ≤ k) : cSame b M (wr M k j v) := by
  refine ⟨wr_ne (by omega), wr_ne (by omega), wr_cell (by omega), wr_cell (by omega)⟩
theorem cSame.wc {b : Nat} {M : Mem} {k : Nat} {c : Nat → Int32} (h : k = b + 3 ∨ b + 6 ≤ k) : cSame b M (wrc M k c) := by
  have e : ∀ k', k' ≠ k → wrc M k c k' = M k' := fun k' hk => wrc_cell hk
  exact ⟨by rw [e b (by omega)], by rw [e b (by omega)], e _ (by omega), e _ (by omega)⟩
theorem cHush_same (b : Nat) (M : Mem) (k : Nat) : cSame b M (cHush b M k) := (((cSame.wr (by omega)).tr (cSame.wr (by omega))).tr (cSame.wr (by omega))).tr (cSame.wr (by omega))
theorem cTurn_same (b : Nat) (M : Mem) (w k : Nat) : cSame b M (cTurn b M w k) := ((((cSame.wr (by omega)).tr (cSame.wr (by omega))).tr (cSame.wr (by omega))).tr (cSame.wr (by omega))).tr (cSame.wr (by omega))
theorem cGo_same (b : Nat) (M : Mem) (k : Nat) (s : Int32) : cSame b M (cGo b M k s) := (cSame.wr (by omega)).tr (cSame.wr (by omega))
theorem cMv_same (b : Nat) (M : Mem) (k : Nat) (s : Int32) : cSame b M (cMv b M k s) := by
  unfold cMv
  split
  · exact (cGo_same _ _ _ _).tr (cTurn_same _ _ _ _)
  · exact cGo_same _ _ _ _
theorem cMove_same (b : Nat) (M : Mem) (k : Nat) : cSame b M (cMove b M k) := by
  unfold cMove
  split
  · split
    · exact cMv_same _ _ _ _
    · exact (cMv_same _ _ _ _).tr (cHush_same _ _ _)
  · exact cHush_same _ _ _
theorem cMoveL_same (b : Nat) (M : Mem) : ∀ k, cSame b M (cMoveL b M k)
  | 0 => cSame.rf
  | k + 1 => by
    unfold cMoveL
    split
    · exact (cMoveL_same b M k).tr (cMove_same _ _ _)
    · exact cMoveL_same b M k
theorem cSettle_same (b : Nat) (M : Mem) (k : Nat) : cSame b M (cSettle b M k) := by
  have h1 : cSame b M (cOv b M) := cSame.wr (by omega)
  unfold cSettle
  split
  · exact cSame.wr (by omega)
  · split
    · exact (h1.tr (cHush_same _ _ _)).tr (cSame.wr (by omega))
    · exact h1.tr (cHush_same _ _ _)
theorem cMeetL_same (b : Nat) (M : Mem) : ∀ k, cSame b M (cMeetL b M k)
  | 0 => cSame.wc (by omega)
  | k + 1 => by
    unfold cMeetL
    split
    · exact (cMeetL_same b M k).tr (cSettle_same _ _ _)
    · exact cMeetL_same b M k
/-- the two parts of cOK that the first two steps touch -/
def cOKs (b : Nat) (M : Mem) : Prop := (∀ s, s < 32 → M (b + 3) s = -1 ∨ (0 ≤ M (b + 3) s ∧ M (b + 3) s ≤ 39)) ∧ (∀ k, k < 40 → 0 < M (b + 10) k → 0 ≤ M (b + 11) k ∧ M (b + 11) k ≤ 31)
theorem cOK.mk {b : Nat} {M M' : Mem} (h : cOK b M) (s : cSame b M M') (g : cOKs b M') : cOK b M' := by
  obtain ⟨h1, h2, h3, h4, -, -⟩ := h
  obtain ⟨s1, s2, s3, s4⟩ := s
  exact ⟨by rw [s1]; exact h1, by rw [s2]; exact h2, by rw [s3]; exact h3, by rw [s4]; exact h4, g.1, g.2⟩
theorem cOK.s {b : Nat} {M : Mem} (h : cOK b M) : cOKs b M := ⟨h.2.2.2.2.1, h.2.2.2.2.2⟩
theorem cHush_s {b : Nat} {M : Mem} (h : cOKs b M) (k : Nat) : cOKs b (cHush b M k) := by
  refine ⟨fun s hs => ?_, fun j hj hl => ?_⟩
  · have e : cHush b M k (b + 3) s = M (b + 3) s := by
      unfold cHush; rw [wr_ne (by omega), wr_ne (by omega), wr_ne (by omega), wr_ne (by omega)]
    rw [e]; exact h.1 s hs
  · by_cases hjk : j = k
    · subst hjk
      have e : cHush b M j (b + 10) j = 0 := by
        unfold cHush; rw [wr_ne (by omega), wr_ne (by omega), wr_ne (by omega), wr_eq]
      rw [e] at hl; exact absurd hl (by decide)
    · have e1 : cHush b M k (b + 10) j = M (b + 10) j := by
        unfold cHush; rw [wr_ne (by omega), wr_ne (by omega), wr_ne (by omega), wr_ne (by omega)]
      have e2 : cHush b M k (b + 11) j = M (b + 11) j := by
        unfold cHush; rw [wr_ne (by omega), wr_ne (by omega), wr_ne (by omega), wr_ne (by omega)]
      rw [e1] at hl; rw [e2]; exact h.2 j hj hl
theorem cGo_s {b : Nat} {M : Mem} (h : cOKs b M) (k : Nat) {s : Int32} (hs : 0 ≤ s ∧ s ≤ 31) : cOKs b (cGo b M k s) := by
  refine ⟨fun q hq => ?_, fun j hj hl => ?_⟩
  · have e : cGo b M k s (b + 3) q = M (b + 3) q := by
      unfold cGo; rw [wr_ne (by omega), wr_ne (by omega)]
    rw [e]; exact h.1 q hq
  · by_cases hjk : j = k
    · subst hjk
      have e : cGo b M j s (b + 11) j = s := by
        unfold cGo; rw [wr_ne (by omega), wr_eq]
      rw [e]; exact hs
    · have e1 : cGo b M k s (b + 10) j = M (b + 10) j := by
        unfold cGo; rw [wr_ne (by omega), wr_ne (by omega)]
      have e2 : cGo b M k s (b + 11) j = M (b + 11) j := by
        unfold cGo; rw [wr_ne (by omega), wr_ne (by omega)]
      rw [e1] at hl; rw [e2]; exact h.2 j hj hl
theorem cTurn_s {b : Nat} {M : Mem} (h : cOKs b M) (w k : Nat) (hl : 0 < M (b + 10) k) : cOKs b (cTurn b M w k) := by
  refine ⟨fun q hq => ?_, fun j hj hl2 => ?_⟩
  · have e : cTurn b M w k (b + 3) q = M (b + 3) q := by
      unfold cTurn; rw [wr_ne (by omega), wr_ne (by omega), wr_ne (by omega), wr_ne (by omega), wr_ne (by omega)]
    rw [e]; exact h.1 q hq
  · have e2 : cTurn b M w k (b + 11) j = M (b + 11) j := by
      unfold cTurn; rw [wr_ne (by omega), wr_ne (by omega), wr_ne (by omega), wr_ne (by omega), wr_ne (by omega)]
    rw [e2]
    by_cases hjk : j = k
    · subst hjk; exact h.2 j hj hl
    · have e1 : cTurn b M w k (b + 10) j = M (b + 10) j := by
        unfold cTurn; rw [wr_ne (by omega), wr_ne (by omega), wr_ne (by omega), wr_ne (by omega), wr_ne (by omega)]
      rw [e1] at hl2; exact h.2 j hj hl2
theorem cMv_s {b : Nat} {M : Mem} (h : cOKs b M) (k : Nat) {s : Int32} (hs : 0 ≤ s ∧ s ≤ 31) : cOKs b (cMv b M k s) := by
  unfold cMv
  split
  · rename_i c
    exact cTurn_s (cGo_s h k hs) _ _ c.1
  · exact cGo_s h k hs
theorem cMove_s {b : Nat} {M : Mem} (h : cOKs b M) (k : Nat) : cOKs b (cMove b M k) := by
  unfold cMove
  split
  · rename_i hs
    split
    · exact cMv_s h k hs
    · exact cHush_s (cMv_s h k hs) k
  · exact cHush_s h k
theorem cMoveL_s {b : Nat} {M : Mem} (h : cOKs b M) : ∀ k, cOKs b (cMoveL b M k)
  | 0 => h
  | k + 1 => by
    unfold cMoveL
    split
    · exact cMove_s (cMoveL_s h k) k
    · exact cMoveL_s h k
theorem cOKs.at3 {b : Nat} {M : Mem} (h : cOKs b M) {q : Nat} {v : Int32} (hv : v = -1 ∨ (0 ≤ v ∧ v ≤ 39)) : cOKs b (wr M (b + 3) q v) := by
  refine ⟨fun s hs => ?_, fun j hj hl => ?_⟩
  · rw [wr_ap]
    split
    · exact hv
    · exact h.1 s hs
  · rw [wr_ne (by omega)] at hl ⊢
    exact h.2 j hj hl
theorem cOv_s {b : Nat} {M : Mem} (h : cOKs b M) : cOKs b (cOv b M) := by
  refine ⟨fun s hs => ?_, fun j hj hl => ?_⟩
  · have e : cOv b M (b + 3) s = M (b + 3) s := wr_ne (by omega)
    rw [e]; exact h.1 s hs
  · have e1 : cOv b M (b + 10) j = M (b + 10) j := wr_ne (by omega)
    have e2 : cOv b M (b + 11) j = M (b + 11) j := wr_ne (by omega)
    rw [e1] at hl; rw [e2]; exact h.2 j hj hl
theorem nI39 {k : Nat} (h : k < 40) : nI k = -1 ∨ (0 ≤ nI k ∧ nI k ≤ 39) := Or.inr ⟨nI_pos' (by omega), nI_le (b := 39) (by omega) (by decide)⟩
theorem cSettle_s {b : Nat} {M : Mem} (h : cOKs b M) {k : Nat} (hk : k < 40) : cOKs b (cSettle b M k) := by
  unfold cSettle
  split
  · exact h.at3 (nI39 hk)
  · split
    · exact (cHush_s (cOv_s h) _).at3 (nI39 hk)
    · exact cHush_s (cOv_s h) _
theorem cFill_s {b : Nat} {M : Mem} (h : cOKs b M) : cOKs b (cFill b M) := by
  refine ⟨fun s hs => ?_, fun j hj hl => ?_⟩
  · left
    unfold cFill
    rw [wrc_ap, if_pos rfl]
    unfold cpn
    rw [if_pos hs]
  · have e1 : cFill b M (b + 10) = M (b + 10) := wrc_cell (by omega)
    have e2 : cFill b M (b + 11) = M (b + 11) := wrc_cell (by omega)
    rw [e1] at hl; rw [e2]; exact h.2 j hj hl
theorem cMeetL_s {b : Nat} {M : Mem} (h : cOKs b M) : ∀ k, k ≤ 40 → cOKs b (cMeetL b M k)
  | 0, _ => cFill_s h
  | k + 1, hk => by
    unfold cMeetL
    split
    · exact cSettle_s (cMeetL_s h k (by omega)) (by omega)
    · exact cMeetL_s h k (by omega)
theorem cB1_ok {b : Nat} {M : Mem} (h : cOK b M) : cOK b (cB1 b M) ∧ cSame b M (cB1 b M) := ⟨h.mk (cMoveL_same _ _ _) (cMoveL_s h.s _), cMoveL_same _ _ _⟩
theorem cB2_ok {b : Nat} {M : Mem} (h : cOK b M) : cOK b (cB2 b M) ∧ cSame b M (cB2 b M) := by
  have a := cB1_ok h
  exact ⟨a.1.mk (cMeetL_same _ _ _) (cMeetL_s a.1.s _ h.sh), a.2.tr (cMeetL_same _ _ _)⟩
theorem cOth_in (e : Int32) : 0 ≤ cOth e ∧ cOth e ≤ 1 := by
  unfold cOth
  split <;> decide
theorem cLW_ok {b : Nat} {M : Mem} (h : cOK b M) (e : Nat) : ∀ n w, cOK b (cLW b M e n w) ∧ cLW b M e n w b 2 = M b 2 ∧ cLW b M e n w b 1 = M b 1 ∧ cLW b M e n w (b + 8) = M (b + 8)
  | 0, _ => ⟨h, rfl, rfl, rfl⟩
  | n + 1, w => by
    unfold cLW
    split
    · obtain ⟨h1, h2, h3, h4, h5, h6⟩ := h
      refine ⟨⟨?_, ?_, fun s hs => ?_, fun q hq => ?_, fun s hs => ?_, fun j hj hl => ?_⟩, ?_, ?_, ?_⟩
      · rw [wr_ne (by omega), wr_ne (by omega)]; exact h1
      · rw [wr_ne (by omega), wr_ne (by omega)]; exact h2
      · rw [wr_ne (by omega), wr_ne (by omega)]; exact h3 s hs
      · rw [wr_ne (by omega), wr_ap]
        split
        · exact cOth_in _
        · exact h4 q hq
      · rw [wr_ne (by omega), wr_ne (by omega)]; exact h5 s hs
      · rw [wr_ne (by omega), wr_ne (by omega)] at hl ⊢; exact h6 j hj hl
      · rw [wr_ne (by omega), wr_ne (by omega)]
      · rw [wr_ne (by omega), wr_ne (by omega)]
      · rw [wr_cell (by omega), wr_cell (by omega)]
    · exact cLW_ok h e n (w + 1)
theorem cOK.at9 {b : Nat} {M : Mem} (h : cOK b M) {e : Nat} {v : Int32} : cOK b (wr M (b + 9) e v) := by
  obtain ⟨h1, h2, h3, h4, h5, h6⟩ := h
  refine ⟨?_, ?_, fun s hs => ?_, fun q hq => ?_, fun s hs => ?_, fun j hj hl => ?_⟩
  · rw [wr_ne (by omega)]; exact h1
  · rw [wr_ne (by omega)]; exact h2
  · rw [wr_ne (by omega)]; exact h3 s hs
  · rw [wr_ne (by omega)]; exact h4 q hq
  · rw [wr_ne (by omega)]; exact h5 s hs
  · rw [wr_ne (by omega)] at hl ⊢; exact h6 j hj hl
theorem cListen_ok {b : Nat} {M : Mem} (h : cOK b M) (e : Nat) (p : Int32) : cOK b (cListen b M e p) ∧ cListen b M e p b 2 = M b 2 ∧ cListen b M e p b 1 = M b 1 ∧ cListen b M e p (b + 8) = M (b + 8) := by
  unfold cListen
  split
  · obtain ⟨a1, a2, a3, a4⟩ := cLW_ok (b := b) (M := wr (cSil b M e p) (b + 9) e 0) (show cOK b (wr (wr M (b + 9) e _) (b + 9) e 0) from h.at9.at9) e (cWs b M) 0
    refine ⟨a1, ?_, ?_, ?_⟩
    · rw [a2, wr_ne (by omega)]; exact wr_ne (by omega)
    · rw [a3, wr_ne (by omega)]; exact wr_ne (by omega)
    · rw [a4, wr_cell (by omega)]; exact wr_cell (by omega)
  · exact ⟨h.at9, wr_ne (by omega), wr_ne (by omega), wr_cell (by omega)⟩
theorem cB3_ok {b : Nat} {M : Mem} (h : cOK b M) : cOK b (cB3 b M) ∧ cB3 b M b 2 = M b 2 ∧ cB3 b M b 1 = M b 1 ∧ cB3 b M (b + 8) = cB2 b M (b + 8) := by
  obtain ⟨a, s1, s2, -, -⟩ := cB2_ok h
  obtain ⟨a1, a2, a3, a4⟩ := cListen_ok a 0 (b2i (M (b + 8) 0 < cB2 b M (b + 8) 0))
  exact ⟨a1, a2.trans s2, a3.trans s1, a4⟩
theorem cB4_ok {b : Nat} {M : Mem} (h : cOK b M) : cOK b (cB4 b M) ∧ cB4 b M b 2 = M b 2 ∧ cB4 b M b 1 = M b 1 := by
  obtain ⟨a, s1, s2, -⟩ := cB3_ok h
  obtain ⟨a1, a2, a3, a4⟩ := cListen_ok a 1 (b2i (M (b + 8) 1 < cB3 b M (b + 8) 1))
  exact ⟨a1, a2.trans s1, a3.trans s2⟩
theorem cBeat_ok {b : Nat} {M : Mem} (h : cOK b M) : cOK b (cBeat b M) ∧ cBeat b M b 2 = M b 2 ∧ cBeat b M b 1 = M b 1 := by
  obtain ⟨⟨h1, h2, h3, h4, h5, h6⟩, s1, s2⟩ := cB4_ok h
  unfold cBeat
  generalize cB4 b M = Q at h1 h2 h3 h4 h5 h6 s1 s2 ⊢
  refine ⟨⟨?_, ?_, fun s hs => ?_, fun q hq => ?_, fun s hs => ?_, fun j hj hl => ?_⟩, ?_, ?_⟩
  · rw [wr_ne (by omega)]; exact h1
  · rw [wr_ne (by omega)]; exact h2
  · rw [wr_ne (by omega)]; exact h3 s hs
  · rw [wr_ne (by omega)]; exact h4 q hq
  · rw [wr_ne (by omega)]; exact h5 s hs
  · rw [wr_ne (by omega)] at hl ⊢; exact h6 j hj hl
  · rw [wr_ne (by omega)]; exact s1
  · rw [wr_ne (by omega)]; exact s2
theorem cBeats_ok {b : Nat} {M : Mem} (h : cOK b M) : ∀ n, cOK b (cBeats b M n) ∧ cBeats b M n b 2 = M b 2 ∧ cBeats b M n b 1 = M b 1
  | 0 => ⟨h, rfl, rfl⟩
  | n + 1 => by
    obtain ⟨a1, a2, a3⟩ := cBeats_ok h n
    unfold cBeats
    obtain ⟨b1, b2, b3⟩ := cBeat_ok a1
    exact ⟨b1, b2.trans a2, b3.trans a3⟩
