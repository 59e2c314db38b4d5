/-! The calls of the law that change something. -/
theorem Oc.chg {l : Launch} {g : GT} {yL : MethodName} {cL : ByteArray} {mL : Nat} {hh : List (Nat × Nat × Nat × Nat)} {asL : List Value} {y2 : MethodName} {c2 : ByteArray} {m2 : Nat} {ret2 : Option FieldType} {rm2 : Room} {as2 : List Value} {nb nb' : Nat} {M M1 M2 : Mem} {rm : Room} {v v2 : Int32}
    (a : CMW l yL cL mL (some .int) hh rm g M asL (some (.int 0)) (wr M1 37 0 v)) (b : CM l y2 c2 m2 ret2 rm2 g (wr M1 37 0 v) as2 (some (.int v2)) M2) (e : v = v2) (r : Rel 1 nb' M1 M2) (hz : Zz 1 M1) (h8 : liveN (M1 11) 40 ≤ 8) (fa : Fa M1 M2) (e0 : M2 29 0 = 0) (e37 : M2 37 0 = v) (hn : nb' ≤ nb + 100) (hr : (rm.frames + 1 ≤ room_1.frames ∧ 8 + (mL + 11) + rm.locals ≤ room_1.locals) ∧ rm.cells ≤ 1 ∧ rm.slots ≤ 6) : Oc l g yL cL mL hh asL y2 c2 m2 ret2 rm2 as2 nb M :=
  ⟨rm, 0, v2, _, M2, a, b, e0, fun _ => e37.trans e, Inv.mk r hz h8 fa ⟨⟨rfl, rfl⟩, fun _ _ _ => rfl, fun _ _ => rfl⟩ hn, hr⟩
theorem Fb.fr1 {M M' : Mem} (f : cFr 1 M M') : Fb M M' := ⟨⟨by rw [f 29 (by omega)], by rw [f 29 (by omega)]⟩, fun c a _ => f c (by omega), fun j _ => by rw [f 34 (by omega)]⟩
theorem cBuild_fr (M : Mem) (s e so : Int32) : cFr 1 M (cBuild M s e so) := (((((cFr.wr1 (by omega)).tr (cFr.wr1 (by omega))).tr (cFr.wr1 (by omega))).tr (cFr.wr1 (by omega))).tr (cFr.wr1 (by omega))).tr (cFr.wr1 (by omega))
theorem pm {x : Int32} : x + 1 - 1 = x := by grind
theorem oc_addWall {l : Launch} {g : GT} (hl : l.stackTraces = false) {nb : Nat} {M : Mem} (h : Inv nb M) (s e so : Int32) : Oc l g yL_addWall cL_addWall 6 hhL_addWall [.ref (ga g 0), .int s, .int e, .int so, .ref (ga g 37)] yX2_addWall cX2_addWall 4 (some .int) rmX2_addWall [.ref (ga g 29), .int s, .int e, .int so] nb M := by
  have w1 : M 1 1 = M 29 1 := h.1.1.1.2.1
  by_cases c : 0 ≤ s ∧ s ≤ 31
  · by_cases c2 : 0 ≤ e ∧ e ≤ 1
    · by_cases c3 : 0 ≤ so ∧ so ≤ 5
      · have w3 : M 3 (tn s) = M 31 (tn s) := (h.1.1.2.1 _ (tn31 c)).2
        by_cases c4 : M 1 1 = 10 ∨ M 3 (tn s) ≠ -1
        · exact Oc.bad h (by decide) (qLeS_addWall (q1x_addWall_4 l hl g M h.ok1 s e so c c2 c3 c4)) (q2_addWall_b3 l g M h.1.2.2.2.1 s e so c c2 c3 (by rw [← w1, ← w3]; exact c4)) (Or.inl rfl) ⟨⟨by decide, by decide⟩, by decide, by decide⟩
        · have h10 : ¬ M 1 1 = 10 := fun z => c4 (Or.inl z)
          have hw : M 3 (tn s) = -1 := Classical.byContradiction fun z => c4 (Or.inr z)
          have fb : Fb M (wr (cBuild M s e so) 37 0 (M 1 1)) := (Fb.fr1 (cBuild_fr M s e so)).tr (Fb.o (by omega))
          have r := h.r fb
          obtain ⟨r1, r2⟩ := op_build r h.2.1 (e := e) (so := so) c c2 c3 h10
          exact Oc.chg (qL_addWall (q1_addWall l g M h.ok1 s e so c c2 c3 h10 hw)) (q2_addWall l g _ r.2.2.2.1 s e so c c2 c3 (fun z => h10 (w1.trans z)) (w3.symm.trans hw)) (w1.trans pm.symm) r1 r2 h.2.2 (fun c' a b => by unfold mAW; rw [wr_cell (by omega), wr_cell (by omega), wr_cell (by omega), wr_cell (by omega), wr_cell (by omega), wr_cell (by omega), wr_cell (by omega)]) rfl rfl (by omega) ⟨⟨by decide, by decide⟩, by decide, by decide⟩
      · exact Oc.bad h (by decide) (qLeA_addWall (q1x_addWall_3 l hl g M s e so c c2 c3)) (q2_addWall_b2 l g M s e so c c2 c3) (Or.inl rfl) ⟨⟨by decide, by decide⟩, by decide, by decide⟩
    · exact Oc.bad h (by decide) (qLeB_addWall (q1x_addWall_2 l hl g M s e so c c2)) (q2_addWall_b1 l g M s e so (fun z => c2 z.2)) (Or.inl rfl) ⟨⟨by decide, by decide⟩, by decide, by decide⟩
  · exact Oc.bad h (by decide) (qLeB_addWall (q1x_addWall_1 l hl g M s e so c)) (q2_addWall_b1 l g M s e so (fun z => c z.1)) (Or.inl rfl) ⟨⟨by decide, by decide⟩, by decide, by decide⟩
theorem oc_setSnow {l : Launch} {g : GT} (hl : l.stackTraces = false) {nb : Nat} {M : Mem} (h : Inv nb M) (s so : Int32) : Oc l g yL_setSnow cL_setSnow 5 hhL_setSnow [.ref (ga g 0), .int s, .int so, .ref (ga g 37)] yX2_setSnow cX2_setSnow 4 (some .int) rmX2_setSnow [.ref (ga g 29), .int s, .int so] nb M := by
  by_cases c : 0 ≤ s ∧ s ≤ 31
  · by_cases c2 : 0 ≤ so ∧ so ≤ 5
    · have w3 : M 2 (tn s) = M 30 (tn s) := (h.1.1.2.1 _ (tn31 c)).1
      have fb : Fb M (wr (wr M 2 (tn s) so) 37 0 (M 2 (tn s))) := (Fb.o (by omega)).tr (Fb.o (by omega))
      obtain ⟨r1, r2⟩ := op_snow (h.r fb) h.2.1 (s := tn s) c2
      exact Oc.chg (qL_setSnow (q1_setSnow l g M s so c c2)) (q2_setSnow l g _ s so c c2) w3 r1 r2 h.2.2 (fun c' a b => by rw [wr_cell (by omega), wr_cell (by omega), wr_cell (by omega)]) rfl rfl (by omega) ⟨⟨by decide, by decide⟩, by decide, by decide⟩
    · exact Oc.bad h (by decide) (qLeA_setSnow (q1x_setSnow_2 l hl g M s so c c2)) (q2_setSnow_b2 l g M s so c c2) (Or.inl rfl) ⟨⟨by decide, by decide⟩, by decide, by decide⟩
  · exact Oc.bad h (by decide) (qLeB_setSnow (q1x_setSnow_1 l hl g M s so c)) (q2_setSnow_b1 l g M s so c) (Or.inl rfl) ⟨⟨by decide, by decide⟩, by decide, by decide⟩
theorem oc_pass {l : Launch} {g : GT} (hl : l.stackTraces = false) {nb : Nat} {M : Mem} (h : Inv nb M) (hnb : nb + 200 ≤ 100000) (b : Int32) : Oc l g yL_pass cL_pass 4 hhL_pass [.ref (ga g 0), .int b, .ref (ga g 37)] yX2_pass cX2_pass 3 (some .int) rmX2_pass [.ref (ga g 29), .int b] nb M := by
  by_cases c : 1 ≤ b ∧ b ≤ 100
  · have hb : tn b ≤ 100 := tn_le (n := 100) (Int32.le_trans (by decide) c.1) (by decide) c.2
    have a := q1_pass l g M h.ok1 b c
    generalize hv : cBeats 1 M (tn b) 9 0 + cBeats 1 M (tn b) 9 1 - (M 9 0 + M 9 1) = v at a
    have fb0 : Fb M (wr (cBeats 1 M (tn b)) 37 0 v) := (Fb.fr1 (cBeats_fr 1 M _)).tr (Fb.o (by omega))
    have fb : Fb M (wr (wr (cBeats 1 M (tn b)) 37 0 v) 29 0 0) := fb0.tr Fb.t
    have r := beats_rel (h.r fb) (tn b) (by omega)
    have fr := mBeats_fr (wr (wr (cBeats 1 M (tn b)) 37 0 v) 29 0 0) (tn b)
    have e1 : cBeats 1 M (tn b) 9 0 = mBeats (wr (wr (cBeats 1 M (tn b)) 37 0 v) 29 0 0) (tn b) 34 3 := (r.1.2.2.2.1 0 (by omega)).1
    have e2 : cBeats 1 M (tn b) 9 1 = mBeats (wr (wr (cBeats 1 M (tn b)) 37 0 v) 29 0 0) (tn b) 34 4 := (r.1.2.2.2.1 1 (by omega)).1
    have e3 : M 9 0 = wr (cBeats 1 M (tn b)) 37 0 v 34 3 := ((h.r fb0).1.2.2.2.1 0 (by omega)).1
    have e4 : M 9 1 = wr (cBeats 1 M (tn b)) 37 0 v 34 4 := ((h.r fb0).1.2.2.2.1 1 (by omega)).1
    refine Oc.chg (qL_pass a) (q2_pass l g _ (h.r fb0).2.2.2.1 b c) (hv.symm.trans (by rw [e1, e2, e3, e4])) r (cBeats_z h.ok1 h.2.1 _) (Nat.le_trans (beats_live (h.r fb) (tn b) (by omega)) h.2.2) (fun c' a b => ?_) ?_ ?_ (by omega) ⟨⟨by decide, by decide⟩, by decide, by decide⟩
    · rw [fr c' (by omega) (by omega), wr_cell (by omega), wr_cell (by omega)]
    · rw [fr 29 (by omega) (by omega), wr_eq]
    · rw [fr 37 (by omega) (by omega), wr_ne (by omega), wr_eq]
  · exact Oc.bad h (by decide) (qLeA_pass (q1x_pass l hl g M b c)) (q2_pass_b l g M b c) (Or.inl rfl) ⟨⟨by decide, by decide⟩, by decide, by decide⟩
theorem oc_shout {l : Launch} {g : GT} (hl : l.stackTraces = false) {nb : Nat} {M : Mem} (h : Inv nb M) (s r ld : Int32) : Oc l g yL_shout cL_shout 6 hhL_shout [.ref (ga g 0), .int s, .int r, .int ld, .ref (ga g 37)] yX2_shout cX2_shout 4 (some .int) rmX2_shout [.ref (ga g 29), .int s, .int r, .int ld] nb M := by
  have w2 : M 1 2 = M 29 2 := h.1.1.1.2.2.1
  have hlv : M 1 3 = nI (liveN (M 11) 40) := h.1.1.2.2.2.2.2.2.2.2
  have h8 : M 1 3 ≤ 8 := by
    rw [hlv]
    exact nI_le (b := 8) h.2.2 (by decide)
  by_cases c : 0 ≤ s ∧ s ≤ 31
  · by_cases c2 : 1 ≤ ld ∧ ld ≤ 99
    · have hm : ∀ P, Fb M P → mMany P = M 1 3 ∧ mLoudest P s = M 4 (tn s) := fun P fb => by
        have r := h.r fb
        refine ⟨rel_many r, ?_⟩
        have e := r.2.1 _ (tn31 c)
        rw [← nI_tn c.1] at e
        exact e.symm
      by_cases c4 : M 1 2 = 40 ∨ M 1 3 = 8 ∨ M 4 (tn s) ≠ -1
      · exact Oc.bad h (by decide) (qLeS_shout (q1x_shout_3 l hl g M h.ok1 h8 s r ld c c2 c4)) (q2_shout_b3 l g M h.1.2.2.2.1 s r ld c c2 (by rw [(hm _ Fb.t).1, (hm _ Fb.t).2, ← w2]; exact c4)) (Or.inl rfl) ⟨⟨by decide, by decide⟩, by decide, by decide⟩
      · have k1 : ¬ M 1 2 = 40 := fun z => c4 (Or.inl z)
        have k2 : ¬ M 1 3 = 8 := fun z => c4 (Or.inr (Or.inl z))
        have k3 : M 4 (tn s) = -1 := Classical.byContradiction fun z => c4 (Or.inr (Or.inr z))
        have fb : Fb M (wr (cStart 1 M s (if r = 0 then -1 else 1) ld) 37 0 (M 1 2)) := (Fb.fr1 (cStart_fr 1 M s _ ld)).tr (Fb.o (by omega))
        have rr := h.r fb
        obtain ⟨r1, r2, r3⟩ := op_shout rr h.2.1 (wy := if r = 0 then -1 else 1) c c2 k1 k3
        have l7 : liveN (M 11) 40 ≠ 8 := fun z => k2 (by rw [hlv, z]; rfl)
        have l8 := h.2.2
        exact Oc.chg (qL_shout (q1_shout l g M h.ok1 h8 s r ld c c2 k1 k2 k3)) (q2_shout l g _ rr.2.2.2.1 s r ld c c2 (fun z => k1 (w2.trans z)) (by rw [(hm _ (fb.tr Fb.t)).1]; exact k2) (by rw [(hm _ (fb.tr Fb.t)).2]; exact k3)) (w2.trans pm.symm) r1 r2 (by rw [r3]; omega) (fun c' a b => by unfold mSho mSho1; rw [wr_cell (by omega), wr_cell (by omega), wr_cell (by omega), wr_cell (by omega), wr_cell (by omega), wr_cell (by omega), wr_cell (by omega)]) (by unfold mSho mSho1; rw [wr_ne (by omega), wr_ne (by omega), wr_ne (by omega), wr_ne (by omega), wr_ne (by omega), wr_eq]) (by unfold mSho mSho1; rw [wr_ne (by omega), wr_ne (by omega), wr_ne (by omega), wr_ne (by omega), wr_ne (by omega), wr_ne (by omega), wr_eq]) (by omega) ⟨⟨by decide, by decide⟩, by decide, by decide⟩
    · exact Oc.bad h (by decide) (qLeA_shout (q1x_shout_2 l hl g M s r ld c c2)) (q2_shout_b2 l g M s r ld c c2) (Or.inl rfl) ⟨⟨by decide, by decide⟩, by decide, by decide⟩
  · exact Oc.bad h (by decide) (qLeB_shout (q1x_shout_1 l hl g M s r ld c)) (q2_shout_b1 l g M s r ld c) (Or.inl rfl) ⟨⟨by decide, by decide⟩, by decide, by decide⟩
