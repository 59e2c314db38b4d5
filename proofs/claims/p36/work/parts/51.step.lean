/-! A shout's move, both sides. -/
/-- which coins a move adds, and which echo has got some -/
def Cn (b : Nat) (M P M' P' : Mem) : Prop := (∀ e, M' (b + 8) e = M (b + 8) e ∧ P' 36 e = P 36 e) ∨ ∃ e0, e0 < 2 ∧ ∀ e, (M' (b + 8) e = if e = e0 then M (b + 8) e + 1 else M (b + 8) e) ∧ (P' 36 e = if e = e0 then 1 else P 36 e)
/-- what becomes of the loudnesses -/
def Lm (b : Nat) (M M' : Mem) (k : Nat) : Prop := (∀ j, j ≠ k → M' (b + 10) j = M (b + 10) j) ∧ (M' (b + 10) k = 0 ∨ (0 < M' (b + 10) k ∧ (M' (b + 10) k).toInt + 1 ≤ (M (b + 10) k).toInt))
theorem ld_v {l s : Int32} (h1 : 0 < l) (h2 : l ≤ 99) (h3 : 0 ≤ s ∧ s ≤ 5) : (l - (1 + s)).toInt + 1 ≤ l.toInt ∧ -10 ≤ (l - (1 + s)).toInt := by
  have a1 := i_lt.mp h1
  have a2 := i_le.mp h2
  have a3 := i_le.mp h3.1
  have a4 := i_le.mp h3.2
  simp only [i_c0, i_c99, i_c5] at a1 a2 a3 a4
  have e1 : (1 + s).toInt = 1 + s.toInt := i_add (a := 1) (by rw [i_c1]; omega) (by rw [i_c1]; omega)
  have e2 : (l - (1 + s)).toInt = l.toInt - (1 + s).toInt := i_sub (by omega) (by omega)
  omega
theorem ld_w {l s t : Int32} (h1 : 0 < l) (h2 : l ≤ 99) (h3 : 0 ≤ s ∧ s ≤ 5) (h4 : 0 ≤ t ∧ t ≤ 5) : (l - (1 + s) - t).toInt + 1 ≤ l.toInt := by
  obtain ⟨v1, v2⟩ := ld_v h1 h2 h3
  have a2 := i_le.mp h2
  have a3 := i_le.mp h4.1
  have a4 := i_le.mp h4.2
  simp only [i_c0, i_c99, i_c5] at a2 a3 a4
  have e2 : (l - (1 + s) - t).toInt = (l - (1 + s)).toInt - t.toInt := i_sub (by omega) (by omega)
  omega
theorem st_step {b : Nat} {M P : Mem} {k : Nat} (h : Rw b M P) (hc : cOK b M) (ho2 : mOK2 P) (h99 : M (b + 10) k ≤ 99) (hk : k < 40) (hs : k < mSh P) (hl : 0 < M (b + 10) k) :
    Rw b (cMove b M k) (mStep P k) ∧ Cn b M P (cMove b M k) (mStep P k) ∧ Lm b M (cMove b M k) k := by
  have es : mS1 P k = cS b M k := by
    unfold mS1 cS
    rw [(h.2.2.2.2.2.1 k hk hl).1, (h.2.2.2.2.2.1 k hk hl).2]
  unfold cMove mStep
  rw [es]
  generalize cS b M k = s
  by_cases on : 0 ≤ s ∧ s ≤ 31
  · rw [if_pos on, if_pos on]
    have ht := tn31 on
    have hsn : M (b + 1) (tn s) = P 30 (tn s) := (h.2.1 _ ht).1
    have hwl : M (b + 2) (tn s) = P 31 (tn s) := (h.2.1 _ ht).2
    have hsr := ho2.1 _ ht
    rw [← hsn] at hsr
    have hlv := ld_v hl h99 hsr
    have ev : P 34 (27 + k) - 1 - P 30 (tn s) = M (b + 10) k - (1 + M (b + 1) (tn s)) := by
      rw [(h.2.2.2.2.1 k hk).1, hsn]
      grind
    have gl : mGo P k s 34 (27 + k) = if 0 < M (b + 10) k - (1 + M (b + 1) (tn s)) then M (b + 10) k - (1 + M (b + 1) (tn s)) else 0 := by
      rw [mGo_flat, ev, wr_eq]
    have gw : mGo P k s 31 (tn s) = M (b + 2) (tn s) := by
      rw [mGo_flat, wr_ne (by omega), wr_ne (by omega), hwl]
    have cl : cGo b M k s (b + 10) k = M (b + 10) k - (1 + M (b + 1) (tn s)) := by
      unfold cGo
      rw [wr_eq]
    by_cases hv : 0 < M (b + 10) k - (1 + M (b + 1) (tn s))
    · rw [if_pos hv] at gl
      by_cases hw : M (b + 2) (tn s) = -1
      · have e1 : cMv b M k s = cGo b M k s := by
          unfold cMv
          rw [if_neg (fun z => z.2 hw)]
        rw [e1, cl, if_pos hv, gl, gw, if_neg (fun z => z.2 hw)]
        refine ⟨st_C h hk hs hl on hv, Or.inl (fun e => ?_), ?_⟩
        · rw [mGo_flat]
          unfold cGo
          grind (splits := 40) (ematch := 30) (gen := 40) [wr_ap]
        · refine ⟨fun j hj => ?_, Or.inr ?_⟩
          · unfold cGo
            grind (splits := 40) (ematch := 30) (gen := 40) [wr_ap]
          · rw [cl]
            exact ⟨hv, hlv.1⟩
      · have hwr : 0 ≤ M (b + 2) (tn s) ∧ M (b + 2) (tn s) ≤ 9 := (hc.2.2.1 _ ht).resolve_left hw
        have hw10 := tn9 hwr
        have e1 : cMv b M k s = cTurn b (cGo b M k s) (tn (M (b + 2) (tn s))) k := by
          unfold cMv
          rw [cl, if_pos ⟨hv, hw⟩]
        rw [e1, gl, gw, if_pos (show 0 < M (b + 10) k - (1 + M (b + 1) (tn s)) ∧ M (b + 2) (tn s) ≠ -1 from ⟨hv, hw⟩)]
        generalize tn (M (b + 2) (tn s)) = w at hw10
        have how := hc.2.2.2.1 w hw10
        have ge : mGo P k s 34 (7 + w) = M (b + 5) w := by
          rw [mGo_flat, wr_ne (by omega), wr_ne (by omega), (h.2.2.1 w hw10).2.1]
        rw [ge]
        have he := tn1 how
        generalize hoe : tn (M (b + 5) w) = e at he
        have hsk := ho2.2 w hw10
        rw [← (h.2.2.1 w hw10).2.2.1] at hsk
        have hlw := ld_w hl h99 hsr hsk
        have tl : cTurn b (cGo b M k s) w k (b + 10) k = M (b + 10) k - (1 + M (b + 1) (tn s)) - M (b + 6) w := by
          rw [cTurn_flat b M w k e s hoe, wr_ne (by omega), wr_eq]
        rw [tl]
        by_cases hz : 0 < M (b + 10) k - (1 + M (b + 1) (tn s)) - M (b + 6) w
        · rw [if_pos hz]
          refine ⟨st_D h hk hs hl on hw10 he hoe hv hz, Or.inr ⟨e, he, fun e' => ?_⟩, fun j hj => ?_, Or.inr ?_⟩
          · rw [mHit_flat _ he hw10, mGo_flat, cTurn_flat b M w k e s hoe]
            grind (splits := 40) (ematch := 30) (gen := 40) [wr_ap]
          · rw [cTurn_flat b M w k e s hoe]
            grind (splits := 40) (ematch := 30) (gen := 40) [wr_ap]
          · rw [tl]
            exact ⟨hz, hlw⟩
        · rw [if_neg hz]
          refine ⟨st_E h hk hs hl on hw10 he hoe hv hz, Or.inr ⟨e, he, fun e' => ?_⟩, fun j hj => ?_, Or.inl ?_⟩
          · unfold cHush
            rw [mHit_flat _ he hw10, mGo_flat, cTurn_flat b M w k e s hoe]
            grind (splits := 40) (ematch := 30) (gen := 40) [wr_ap]
          · unfold cHush
            rw [cTurn_flat b M w k e s hoe]
            grind (splits := 40) (ematch := 30) (gen := 40) [wr_ap]
          · unfold cHush
            rw [wr_ne (by omega), wr_ne (by omega), wr_ne (by omega), wr_eq]
    · rw [if_neg hv] at gl
      have e1 : cMv b M k s = cGo b M k s := by
        unfold cMv
        rw [cl, if_neg (fun z => hv z.1)]
      rw [e1, cl, if_neg hv, gl, if_neg (fun z => absurd z.1 (by decide))]
      refine ⟨st_B h hk hs hl on hv, Or.inl (fun e => ?_), fun j hj => ?_, Or.inl ?_⟩
      · rw [mGo_flat]
        unfold cHush cGo
        grind (splits := 40) (ematch := 30) (gen := 40) [wr_ap]
      · unfold cHush cGo
        grind (splits := 40) (ematch := 30) (gen := 40) [wr_ap]
      · unfold cHush
        rw [wr_ne (by omega), wr_ne (by omega), wr_ne (by omega), wr_eq]
  · rw [if_neg on, if_neg on]
    refine ⟨st_A h hk hs hl, Or.inl (fun e => ?_), fun j hj => ?_, Or.inl ?_⟩
    · unfold cHush mLet
      grind (splits := 40) (ematch := 30) (gen := 40) [wr_ap]
    · unfold cHush
      grind (splits := 40) (ematch := 30) (gen := 40) [wr_ap]
    · unfold cHush
      rw [wr_ne (by omega), wr_ne (by omega), wr_ne (by omega), wr_eq]
