/-! The calls of the law without a helper. -/
/-- a look at the class, then one at the model: what stays -/
theorem Inv.dir {nb : Nat} {M M1 M2 : Mem} (h : Inv nb M) (f : cFr 15 M M1) (n : Nat) (e : M2 = wr M1 29 0 0 ∨ M2 = wr (mLook M1 n) 29 0 0) : Inv (nb + 100) M2 := by
  rcases e with rfl | rfl
  · exact h.same ((Fa.fr f).tr (Fa.o (by omega))) ((Fb.fr f).tr Fb.t) (by omega)
  · exact h.same (((Fa.fr f).tr Fa.lk).tr (Fa.o (by omega))) (((Fb.fr f).tr Fb.lk).tr Fb.t) (by omega)
theorem Inv.md {nb : Nat} {M M1 : Mem} (h : Inv nb M) (f : cFr 15 M M1) : Rel 1 nb M M1 := h.r (Fb.fr f)
theorem Inv.quiet {nb : Nat} {M : Mem} (h : Inv nb M) (hnb : nb + 200 ≤ 100000) : (∀ j, j < cCnt 15 3 99 (cCopy M) → 0 < mMany (mBeats (mKeep (cRun 15 3 99 (cCopy M))) j)) ∧ ¬ 0 < mMany (mBeats (mKeep (cRun 15 3 99 (cCopy M))) (cCnt 15 3 99 (cCopy M))) := look_quiet (h.md ((cCopy_fr M).tr (cRun_fr _ _ _ _))) (by omega)
theorem Inv.digt {nb : Nat} {M : Mem} (h : Inv nb M) (hnb : nb + 200 ≤ 100000) : (∀ j, j < cCnt 15 3 99 (cCopy M) → 0 < mMany (mBeats (mKeep (dg6 (cDm M))) j)) ∧ ¬ 0 < mMany (mBeats (mKeep (dg6 (cDm M))) (cCnt 15 3 99 (cCopy M))) := dig_t (h.md (cDm_fr M)) (by omega)
theorem Inv.digv {nb : Nat} {M : Mem} (h : Inv nb M) (hnb : nb + 200 ≤ 100000) : cDig M = mDig (dg8 (cDm M) (cCnt 15 3 99 (cCopy M))) := dig_is (h.md (cDm_fr M)) (by omega)
theorem Fb.w38 {M : Mem} {j : Nat} {v : Int32} : Fb M (wr M 38 j v) := Fb.o (by omega)
theorem dg8_fa (P : Mem) (t : Nat) : Fa P (dg8 P t) ∧ Fb P (dg8 P t) := by
  have a0 : Fa P (dg0 P) := (Fa.o (k := 29) (j := 0) (v := 0) (by omega)).tr (fun c a b => wrc_cell (by omega))
  have b0 : Fb P (dg0 P) := (Fb.t (v := 0)).tr ⟨⟨rfl, rfl⟩, fun c a b => wrc_cell (by omega), fun _ _ => rfl⟩
  have w : ∀ (M : Mem) j v, Fa M (wr M 38 j v) := fun M j v => Fa.o (by omega)
  have u : ∀ (M : Mem) j v, Fb M (wr M 38 j v) := fun M j v => Fb.o (by omega)
  have a6 : Fa P (dg6 P) := (((((a0.tr (w _ _ _)).tr (w _ _ _)).tr (w _ _ _)).tr (w _ _ _)).tr (w _ _ _)).tr (w _ _ _)
  have b6 : Fb P (dg6 P) := (((((b0.tr (u _ _ _)).tr (u _ _ _)).tr (u _ _ _)).tr (u _ _ _)).tr (u _ _ _)).tr (u _ _ _)
  exact ⟨((a6.tr Fa.lk).tr (w _ _ _)).tr (w _ _ _), ((b6.tr Fb.lk).tr (u _ _ _)).tr (u _ _ _)⟩
theorem Inv.dig {nb : Nat} {M : Mem} (h : Inv nb M) (t : Nat) : Inv (nb + 100) (mEM (dg8 (cDm M) t) 2) := by
  have fa : Fa M (mEM (dg8 (cDm M) t) 2) := (((Fa.fr (cDm_fr M)).tr (dg8_fa (cDm M) t).1).tr (Fa.lk (n := tn 20))).tr (Fa.lk (n := tn 20))
  have fb : Fb M (mEM (dg8 (cDm M) t) 2) := (((Fb.fr (cDm_fr M)).tr (dg8_fa (cDm M) t).2).tr (Fb.lk (n := tn 20))).tr (Fb.lk (n := tn 20))
  exact h.same fa fb (by omega)
theorem Inv.mean {nb : Nat} {M : Mem} (h : Inv nb M) : cMean M = mMean (wr M 29 0 0) ∧ (M 1 3 ≠ 0 → vf_n64 (FP.ddiv (FP.i2d (cSumL M (cSh 1 M))) (FP.i2d (M 1 3)))) ∧ (mMany (wr M 29 0 0) ≠ 0 → vf_n64 (FP.ddiv (FP.i2d (mSumL (wr M 29 0 0) (mSh (wr M 29 0 0)))) (FP.i2d (mMany (wr M 29 0 0))))) :=
  ⟨mean_is (h.r Fb.t), fun z => nn_div _ z, fun z => nn_div _ z⟩
