/-! What holds between the calls of the law. -/
def Inv (nb : Nat) (M : Mem) : Prop := Rel 1 nb M M ∧ Zz 1 M ∧ liveN (M 11) 40 ≤ 8
def Fa (M M' : Mem) : Prop := ∀ c, 1 ≤ c → c ≤ 14 → M' c = M c
def Fb (M M' : Mem) : Prop := (M' 29 1 = M 29 1 ∧ M' 29 2 = M 29 2) ∧ (∀ c, 30 ≤ c → c ≤ 33 → M' c = M c) ∧ ∀ j, j < 187 → M' 34 j = M 34 j
theorem Fa.tr {M M' M'' : Mem} (h : Fa M M') (g : Fa M' M'') : Fa M M'' := fun c a b => (g c a b).trans (h c a b)
theorem Fb.tr {M M' M'' : Mem} (h : Fb M M') (g : Fb M' M'') : Fb M M'' := ⟨⟨g.1.1.trans h.1.1, g.1.2.trans h.1.2⟩, fun c a b => (g.2.1 c a b).trans (h.2.1 c a b), fun j a => (g.2.2 j a).trans (h.2.2 j a)⟩
theorem Fa.o {M : Mem} {k j : Nat} {v : Int32} (h : k = 0 ∨ 15 ≤ k) : Fa M (wr M k j v) := fun c a b => wr_cell (by omega)
theorem Fb.o {M : Mem} {k j : Nat} {v : Int32} (h : k < 29 ∨ 35 ≤ k) : Fb M (wr M k j v) := ⟨⟨by rw [wr_cell (by omega)], by rw [wr_cell (by omega)]⟩, fun c a b => wr_cell (by omega), fun j a => by rw [wr_cell (by omega)]⟩
theorem Fb.t {M : Mem} {v : Int32} : Fb M (wr M 29 0 v) := ⟨⟨rfl, rfl⟩, fun c a b => wr_cell (by omega), fun j a => rfl⟩
theorem Fa.fr {M M' : Mem} (f : cFr 15 M M') : Fa M M' := fun c _ b => f c (by omega)
theorem Fb.fr {M M' : Mem} (f : cFr 15 M M') : Fb M M' := ⟨⟨by rw [f 29 (by omega)], by rw [f 29 (by omega)]⟩, fun c a _ => f c (by omega), fun j _ => by rw [f 34 (by omega)]⟩
theorem Fa.lk {M : Mem} {n : Nat} : Fa M (mLook M n) := fun c a b => mLook_cell M n ⟨by omega, by omega, by omega⟩
theorem Fb.lk {M : Mem} {n : Nat} : Fb M (mLook M n) := by
  have e := mLook_cell M n (k := 29) ⟨by decide, by decide, by decide⟩
  exact ⟨⟨by rw [e], by rw [e]⟩, fun c a b => mLook_cell M n ⟨by omega, by omega, by omega⟩, fun j a => mLook_now M n a⟩
theorem Rel.le {b nb nb' : Nat} {M P : Mem} (h : Rel b nb M P) (hn : nb ≤ nb') : Rel b nb' M P := by
  obtain ⟨h1, h2, h3, h4, h5, h6, h7, h8⟩ := h
  exact ⟨h1, h2, h3, h4, h5, h6, fun e he => ⟨(h7 e he).1, by have := (h7 e he).2; omega⟩, h8⟩
theorem Rel.ab {nb : Nat} {M P M' P' : Mem} (h : Rel 1 nb M P) (fa : Fa M M') (fb : Fb P P') : Rel 1 nb M' P' := h.cong (fun c a b => fa c a (by omega)) fb.1 fb.2.1 fb.2.2
theorem Inv.mk {nb nb' : Nat} {M P M' : Mem} (h : Rel 1 nb M P) (hz : Zz 1 M) (hl : liveN (M 11) 40 ≤ 8) (fa : Fa M M') (fb : Fb P M') (hn : nb ≤ nb') : Inv nb' M' := by
  refine ⟨(h.ab fa fb).le hn, ?_, ?_⟩
  · unfold Zz
    rw [fa 1 (by omega) (by omega), fa (1 + 7) (by omega) (by omega), fa (1 + 2) (by omega) (by omega)]
    exact hz
  · rw [fa 11 (by omega) (by omega)]
    exact hl
theorem Inv.same {nb nb' : Nat} {M M' : Mem} (h : Inv nb M) (fa : Fa M M') (fb : Fb M M') (hn : nb ≤ nb') : Inv nb' M' := Inv.mk h.1 h.2.1 h.2.2 fa fb hn
theorem Inv.r {nb : Nat} {M P : Mem} (h : Inv nb M) (fb : Fb M P) : Rel 1 nb M P := h.1.ab (fun _ _ _ => rfl) fb
/-- one call of the law, both sides: the answer of the helper, the answer of the model, what they agree on -/
def Oc (l : Launch) (g : GT) (yL : MethodName) (cL : ByteArray) (mL : Nat) (hh : List (Nat × Nat × Nat × Nat)) (asL : List Value) (y2 : MethodName) (c2 : ByteArray) (m2 : Nat) (ret2 : Option FieldType) (rm2 : Room) (as2 : List Value) (nb : Nat) (M : Mem) : Prop :=
  ∃ (rm : Room) (k v : Int32) (M1 M2 : Mem), CMW l yL cL mL (some .int) hh rm g M asL (some (.int k)) M1 ∧ CM l y2 c2 m2 ret2 rm2 g M1 as2 (some (.int v)) M2 ∧ M2 29 0 = k ∧ (k = 0 → M2 37 0 = v) ∧ Inv (nb + 100) M2 ∧ (rm.frames + 1 ≤ room_1.frames ∧ 8 + (mL + 11) + rm.locals ≤ room_1.locals) ∧ rm.cells ≤ 1 ∧ rm.slots ≤ 6
section OCS
variable {l : Launch} {g : GT} {yL : MethodName} {cL : ByteArray} {mL : Nat} {hh : List (Nat × Nat × Nat × Nat)} {asL : List Value} {y2 : MethodName} {c2 : ByteArray} {m2 : Nat} {ret2 : Option FieldType} {rm2 : Room} {as2 : List Value} {nb : Nat} {M : Mem}
/-- both refuse -/
theorem Oc.bad {rm : Room} {k : Int32} {M2 : Mem} (h : Inv nb M) (hk : k ≠ 0) (a : CMW l yL cL mL (some .int) hh rm g M asL (some (.int k)) M) (b : CM l y2 c2 m2 ret2 rm2 g M as2 (some (.int 0)) M2) (e : M2 = wr (wr M 29 0 0) 29 0 k ∨ M2 = wr M 29 0 k) (hr : (rm.frames + 1 ≤ room_1.frames ∧ 8 + (mL + 11) + rm.locals ≤ room_1.locals) ∧ rm.cells ≤ 1 ∧ rm.slots ≤ 6) : Oc l g yL cL mL hh asL y2 c2 m2 ret2 rm2 as2 nb M := by
  refine ⟨rm, k, 0, M, M2, a, b, ?_, fun z => absurd z hk, ?_, hr⟩
  · rcases e with rfl | rfl
    · exact wr_eq
    · exact wr_eq
  · rcases e with rfl | rfl
    · exact h.same ((Fa.o (by omega)).tr (Fa.o (by omega))) (Fb.t.tr Fb.t) (by omega)
    · exact h.same (Fa.o (by omega)) Fb.t (by omega)
/-- both answer, and nothing but room changes -/
theorem Oc.look {rm : Room} {v v2 : Int32} {M1 M2 : Mem} (h : Inv nb M) (a : CMW l yL cL mL (some .int) hh rm g M asL (some (.int 0)) (wr M1 37 0 v)) (f : cFr 15 M M1) (b : CM l y2 c2 m2 ret2 rm2 g (wr M1 37 0 v) as2 (some (.int v2)) M2) (e : v = v2) (n : Nat) (e2 : M2 = mLook (wr (wr M1 37 0 v) 29 0 0) n ∨ M2 = wr (wr M1 37 0 v) 29 0 0) (hr : (rm.frames + 1 ≤ room_1.frames ∧ 8 + (mL + 11) + rm.locals ≤ room_1.locals) ∧ rm.cells ≤ 1 ∧ rm.slots ≤ 6) : Oc l g yL cL mL hh asL y2 c2 m2 ret2 rm2 as2 nb M := by
  have fa : Fa M (wr (wr M1 37 0 v) 29 0 0) := ((Fa.fr f).tr (Fa.o (by omega))).tr (Fa.o (by omega))
  have fb : Fb M (wr (wr M1 37 0 v) 29 0 0) := ((Fb.fr f).tr (Fb.o (by omega))).tr Fb.t
  refine ⟨rm, 0, v2, _, M2, a, b, ?_, fun _ => ?_, ?_, hr⟩
  · rcases e2 with rfl | rfl
    · rw [mLook_cell _ n ⟨by decide, by decide, by decide⟩, wr_eq]
    · exact wr_eq
  · rw [← e]
    rcases e2 with rfl | rfl
    · rw [mLook_cell _ n ⟨by decide, by decide, by decide⟩, wr_ne (by omega), wr_eq]
    · rw [wr_ne (by omega), wr_eq]
  · rcases e2 with rfl | rfl
    · exact h.same (fa.tr Fa.lk) (fb.tr Fb.lk) (by omega)
    · exact h.same fa fb (by omega)
end OCS
/-- the model's way to say that a wall or a shout is there -/
theorem wv {x n : Int32} (hn : 0 ≤ n ∧ n ≤ 40) : (0 ≤ x ∧ x ≤ n - 1) ↔ (0 ≤ x ∧ x < n) := by
  have a := i_le.mp hn.1
  have b := i_le.mp hn.2
  rw [i_c0] at a
  rw [show (40 : Int32).toInt = 40 from rfl] at b
  have e : (n - 1).toInt = n.toInt - 1 := i_sub (b := 1) (by rw [i_c1]; omega) (by rw [i_c1]; omega)
  rw [i_le, i_le, i_lt, e]
  omega
theorem Inv.walls {nb : Nat} {M : Mem} (h : Inv nb M) {x : Int32} : (0 ≤ x ∧ x ≤ M 29 1 - 1) ↔ (0 ≤ x ∧ x < M 1 1) := by
  rw [← h.1.1.1.2.1]
  exact wv ⟨h.1.2.2.1.1.1, Int32.le_trans h.1.2.2.1.1.2 (by decide)⟩
theorem Inv.shouts {nb : Nat} {M : Mem} (h : Inv nb M) {x : Int32} : (0 ≤ x ∧ x ≤ M 29 2 - 1) ↔ (0 ≤ x ∧ x < M 1 2) := by
  rw [← h.1.1.1.2.2.1]
  exact wv h.1.2.2.1.2.1
theorem oc_hand {l : Launch} {g : GT} (hl : l.stackTraces = false) {nb : Nat} {M : Mem} (h : Inv nb M) (w : Int32) : Oc l g yL_hand cL_hand 4 hhL_hand [.ref (ga g 0), .int w, .ref (ga g 37)] yX2_hand cX2_hand 2 (some .int) rmX2_hand [.ref (ga g 29), .int w] nb M := by
  by_cases c : 0 ≤ w ∧ w < M 1 1
  · have hw10 : tn w < 10 := by
      have := h.1.2.2.1.ws
      have a := tn_lt (n := cWs 1 M) c.1 (by omega) (by rw [← nI_tn h.1.2.2.1.1.1]; exact c.2)
      omega
    have e6 : M 6 (tn w) = M 34 (7 + tn w) := (h.1.1.2.2.1 _ hw10).2.1
    have ho := h.1.2.2.1.2.2.2.1 (tn w) hw10
    have ex : cOth (M 6 (tn w)) = 1 - M 34 (7 + tn w) := by
      rw [← e6, show M 6 (tn w) = nI (tn (M 6 (tn w))) from nI_tn ho.1]
      exact cOth_nI (tn1 ho)
    have b1 := q2_hand l g (wr (wr M 6 (tn w) (cOth (M 6 (tn w)))) 37 0 (cOth (M 6 (tn w)))) (show mOK _ from h.1.2.2.2.1) w (h.walls.mpr c)
    have r := op_hand (h.r (P := wr (wr M 6 (tn w) (cOth (M 6 (tn w)))) 37 0 (cOth (M 6 (tn w)))) ((Fb.o (by omega)).tr (Fb.o (by omega)))) h.2.1 hw10 (cOth_in (M 6 (tn w)))
    have e2 : (1 - wr (wr M 6 (tn w) (cOth (M 6 (tn w)))) 37 0 (cOth (M 6 (tn w))) 34 (7 + tn w)) = cOth (M 6 (tn w)) := ex.symm
    rw [e2] at b1
    refine ⟨_, 0, _, _, _, qL_hand (q1_hand l g M h.1.2.2.1 w c), b1, ?_, fun _ => ?_, Inv.mk r.1 r.2 h.2.2 (fun c' a b => ?_) ⟨⟨rfl, rfl⟩, fun _ _ _ => rfl, fun _ _ => rfl⟩ (by omega), ⟨by decide, by decide⟩, by decide, by decide⟩
    · rfl
    · rfl
    · rw [wr_cell (by omega), wr_cell (by omega), wr_cell (by omega)]
  · exact Oc.bad h (by decide) (qLeB_hand (q1x_hand l hl g M w c)) (q2_hand_b l g M w (fun z => c (h.walls.mp z))) (Or.inl rfl) ⟨⟨by decide, by decide⟩, by decide, by decide⟩
theorem oc_snowOn {l : Launch} {g : GT} (hl : l.stackTraces = false) {nb : Nat} {M : Mem} (h : Inv nb M) (s : Int32) : Oc l g yL_snowOn cL_snowOn 4 hhL_snowOn [.ref (ga g 0), .int s, .ref (ga g 37)] yX2_snowOn cX2_snowOn 2 (some .int) rmX2_snowOn [.ref (ga g 29), .int s] nb M := by
  by_cases c : 0 ≤ s ∧ s ≤ 31
  · exact Oc.look h (qL_snowOn (q1_snowOn l g M s c)) cFr.rf (q2_snowOn l g _ s c) (h.1.1.2.1 _ (tn31 c)).1 0 (Or.inr rfl) ⟨⟨by decide, by decide⟩, by decide, by decide⟩
  · exact Oc.bad h (by decide) (qLeB_snowOn (q1x_snowOn l hl g M s c)) (q2_snowOn_b l g M s c) (Or.inr rfl) ⟨⟨by decide, by decide⟩, by decide, by decide⟩
