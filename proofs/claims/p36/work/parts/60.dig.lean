/-! The checksum, both sides. -/
theorem Rel.fr {nb : Nat} {M M' P : Mem} (h : Rel 1 nb M P) (f : cFr 15 M M') : Rel 1 nb M' P := h.cong (fun c _ h2 => f c (by omega)) ⟨rfl, rfl⟩ (fun _ _ _ => rfl) (fun _ _ => rfl)
theorem Rel.look {b nb : Nat} {M P : Mem} (h : Rel b nb M P) (n : Nat) : Rel b nb M (mLook P n) := by
  have e := mLook_cell P n (k := 29) ⟨by decide, by decide, by decide⟩
  exact h.cong (fun _ _ _ => rfl) ⟨by rw [e], by rw [e]⟩ (fun c h1 h2 => mLook_cell P n ⟨by omega, by omega, by omega⟩) (fun j hj => mLook_now P n hj)
theorem Rel.w38 {b nb : Nat} {M P : Mem} (h : Rel b nb M P) (j : Nat) (v : Int32) : Rel b nb M (wr P 38 j v) := h.cong (fun _ _ _ => rfl) ⟨rfl, rfl⟩ (fun c h1 h2 => wr_cell (by omega)) (fun _ _ => rfl)
theorem Rel.thr {b nb : Nat} {M P : Mem} (h : Rel b nb M P) (v : Int32) : Rel b nb M (wr P 29 0 v) := h.cong (fun _ _ _ => rfl) ⟨rfl, rfl⟩ (fun c h1 h2 => wr_cell (by omega)) (fun _ _ => rfl)
theorem Rel.d0 {b nb : Nat} {M P : Mem} (h : Rel b nb M P) : Rel b nb M (dg0 P) := h.cong (fun _ _ _ => rfl) ⟨rfl, rfl⟩ (fun c h1 h2 => by show wrc _ 38 _ c = _; rw [wrc_cell (by omega), wr_cell (by omega)]) (fun _ _ => rfl)
theorem Rel.d3 {b nb : Nat} {M P : Mem} (h : Rel b nb M P) : Rel b nb M (dg3 P) := ((h.d0.w38 _ _).w38 _ _).w38 _ _
theorem Rel.d6 {b nb : Nat} {M P : Mem} (h : Rel b nb M P) : Rel b nb M (dg6 P) := ((h.d3.w38 _ _).w38 _ _).w38 _ _
theorem Rel.d7 {b nb : Nat} {M P : Mem} (h : Rel b nb M P) (t : Nat) : Rel b nb M (dg7 P t) := (h.d6.look t).w38 _ _
theorem Rel.d8 {b nb : Nat} {M P : Mem} (h : Rel b nb M P) (t : Nat) : Rel b nb M (dg8 P t) := (h.d7 t).w38 _ _
theorem Rel.em {nb : Nat} {A B : Mem} (h : Rel 1 nb A B) : ∀ e, Rel 1 nb (cEM A e) (mEM B e)
  | 0 => h
  | e + 1 => ((Rel.em h e).fr ((cCopy_fr _).tr (cRun_fr _ _ _ _))).look (tn 20)
theorem b2i_iff {p q : Prop} [Decidable p] [Decidable q] (h : p ↔ q) : b2i p = b2i q := by
  by_cases c : p
  · rw [b2i_t c, b2i_t (h.mp c)]
  · rw [b2i_f c, b2i_f (fun z => c (h.mpr z))]
theorem db_is {nb : Nat} {A B : Mem} (h : Rel 1 nb A B) (hnb : nb + 20 ≤ 100000) (d : Int64) : ∀ e, e ≤ 2 → cDB d A e = mDB d B e
  | 0, _ => rfl
  | e + 1, he => by
    have r := Rel.em h e
    have te : tn (nI e) = e := tn_nI (by omega)
    have a1 : cEM A e 9 e = mEM B e 34 (3 + e) := (r.1.2.2.2.1 e (by omega)).1
    have a2 : cEM A e 10 e = mEM B e 34 (5 + e) := (r.1.2.2.2.1 e (by omega)).2
    have a3 : cErn (cEM A e) e = mErn (mEM B e) e := by
      unfold cErn mErn
      rw [te]
      exact look_coins r hnb (by omega)
    unfold cDB mDB
    rw [db_is h hnb d e (by omega), te, a1, a2, a3, wo_is r]
theorem dc_is {nb : Nat} {A B : Mem} (h : Rel 1 nb A B) (d : Int64) : ∀ w, w ≤ 10 → cDC d A w = mDC d B w
  | 0, _ => rfl
  | w + 1, hw => by
    obtain ⟨a1, a2, -, a4⟩ := h.1.2.2.1 w (by omega)
    unfold cDC mDC
    rw [dc_is h d w (by omega), tn_nI (by omega), show A 5 w = _ from a1, show A 6 w = _ from a2, show A 8 w = _ from a4]
theorem dd_is {nb : Nat} {A B : Mem} (h : Rel 1 nb A B) (d : Int64) : ∀ k, k ≤ mSh B → cDD d A k = mDD d B k
  | 0, _ => rfl
  | k + 1, hk => by
    have hsh := h.2.2.2.1.sh
    obtain ⟨a1, a2⟩ := h.1.2.2.2.2.1 k (by omega)
    obtain ⟨a3, a4⟩ := pl_is h (k := k) (by omega)
    unfold cDD mDD
    rw [dd_is h d k (by omega), tn_nI (by omega), show A 11 k = _ from a1, show A 14 k = _ from a2, a3, b2i_iff a4]
theorem de_is {nb : Nat} {A B : Mem} (h : Rel 1 nb A B) (d : Int64) : ∀ s, s ≤ 32 → cDE d A s = mDE d B s
  | 0, _ => rfl
  | s + 1, hs => by
    have a1 := (h.1.2.1 s (by omega)).1
    have a2 : cLA 1 A (nI s) = mLA B (nI s) := rel_la h ⟨nI_pos' (by omega), nI_le (b := 31) (by omega) (by decide)⟩
    have a3 : cNW A (nI s) 1 = mNx B 1 34 (nI s + 1) := nx_is h 1 34 (nI s + 1)
    unfold cDE mDE
    rw [de_is h d s (by omega), tn_nI (by omega), show A 2 s = _ from a1, a2, a3]
theorem dig_t {nb : Nat} {M P : Mem} (h : Rel 1 nb M P) (hnb : nb + 100 ≤ 100000) : (∀ j, j < cCnt 15 3 99 (cCopy M) → 0 < mMany (mBeats (mKeep (dg6 P)) j)) ∧ ¬ 0 < mMany (mBeats (mKeep (dg6 P)) (cCnt 15 3 99 (cCopy M))) := look_quiet h.d6 hnb
theorem da_is {nb : Nat} {M P : Mem} (h : Rel 1 nb M P) : cDA 2309 M = mDA (dg8 P (cCnt 15 3 99 (cCopy M)) 38) 8 := by
  generalize ht : cCnt 15 3 99 (cCopy M) = t
  have hl : ∀ j, mLook (dg6 P) t 38 j = dg6 P 38 j := fun j => by rw [mLook_cell (dg6 P) t (k := 38) ⟨by decide, by decide, by decide⟩]
  have lo : ∀ j, j < 6 → dg8 P t 38 j = dg6 P 38 j := fun j hj => by
    unfold dg8 dg7
    rw [wr_ne (by omega), wr_ne (by omega)]
    exact hl j
  have e6 : dg8 P t 38 6 = nI t := by
    unfold dg8
    rw [wr_ne (by omega)]
    exact wr_eq
  have e7 : dg8 P t 38 7 = mBest (dg7 P t) 30 := by
    unfold dg8
    exact wr_eq
  have e7' : cBest (cCopy (cQm M)) 30 32 = mBest (dg7 P t) 30 := look_best ((h.fr (cQm_fr M)).d7 t) ⟨by decide, by decide⟩
  have e3 : dg6 P 38 3 = M 1 3 := rel_many h.d3
  have hq : cQn M = nI t := by
    unfold cQn
    rw [ht]
  obtain ⟨g0, g1, g2, g4, g5⟩ := h.1.1
  show _ = mx (mx (mx (mx (mx (mx (mx (mx 2309 (dg8 P t 38 0)) (dg8 P t 38 1)) (dg8 P t 38 2)) (dg8 P t 38 3)) (dg8 P t 38 4)) (dg8 P t 38 5)) (dg8 P t 38 6)) (dg8 P t 38 7)
  rw [lo 0 (by omega), lo 1 (by omega), lo 2 (by omega), lo 3 (by omega), lo 4 (by omega), lo 5 (by omega), e6, e7, e3]
  unfold cDA
  rw [e7', hq, g0, g1, g2, g4, g5]
  rfl
theorem dig_is {nb : Nat} {M P : Mem} (h : Rel 1 nb M P) (hnb : nb + 100 ≤ 100000) : cDig M = mDig (dg8 P (cCnt 15 3 99 (cCopy M))) := by
  have r : Rel 1 nb (cCm M) (dg8 P (cCnt 15 3 99 (cCopy M))) := (h.fr (cCm_fr M)).d8 _
  have r2 : Rel 1 nb (cDm M) (mEM (dg8 P (cCnt 15 3 99 (cCopy M))) 2) := r.em 2
  unfold cDig mDig
  rw [da_is h, db_is r (by omega) _ 2 (by omega), r2.ws, r2.sh, dc_is r2 _ _ r2.2.2.2.1.ws, dd_is r2 _ _ (Nat.le_refl _), de_is r2 _ 32 (by omega)]
theorem Rel.dig {nb : Nat} {M P : Mem} (h : Rel 1 nb M P) (t : Nat) : Rel 1 nb M (mEM (dg8 P t) 2) := ((h.d8 t).look (tn 20)).look (tn 20)
/-- the mean is a number -/
theorem nn_bits (r : UInt64) (h : r.toNat % 2 ^ 63 ≤ 9218868437227405312) : vf_n64 r := by
  have e1 : (0x7fffffffffffffff : UInt64).toNat = 2 ^ 63 - 1 := by decide +kernel
  have e2 : (0x7ff0000000000000 : UInt64).toNat = 9218868437227405312 := by decide +kernel
  unfold vf_n64
  rw [UInt64.le_iff_toNat_le, UInt64.toNat_and, e1, e2, Nat.and_two_pow_sub_one_eq_mod]
  exact h
theorem nn_z {n : Int32} (h : n ≠ 0) : ¬ FP.Core.DZero (FP.Core.i2d n) := by
  rw [FP.Core.zero_bits2]
  exact FP.Core.i2d_ne_zero h
theorem nn_core (a b : UInt64) (ha : FP.Core.dIsNaN a = false) (hb : FP.Core.DFin b) (hz : ¬ FP.Core.DZero b) : (FP.Core.ddiv a b).toNat % 2 ^ 63 ≤ 9218868437227405312 := by
  have e := FP.Core.ddiv_out ha hb hz
  rw [FP.Core.notNaN_iff, FP.Core.ne_nan] at e
  exact e
theorem nn_div2 (a b : UInt64) (ha : FP.Core.dIsNaN a = false) (hb : FP.Core.DFin b) (hz : ¬ FP.Core.DZero b) : vf_n64 (FP.ddiv a b) := by
  rw [FP.ddiv_core]
  exact nn_bits _ (nn_core a b ha hb hz)
theorem nn_n (a : UInt64) (h : FP.Core.DFin a) : FP.Core.dIsNaN a = false := FP.Core.DFin.notNaN h
theorem nn_div3 (a b : UInt64) (ha : FP.Core.DFin a) (hb : FP.Core.DFin b) (hz : ¬ FP.Core.DZero b) : vf_n64 (FP.ddiv a b) := nn_div2 a b (nn_n a ha) hb hz
theorem nn_div (x : Int32) {n : Int32} (h : n ≠ 0) : vf_n64 (FP.ddiv (FP.i2d x) (FP.i2d n)) := by
  have k := nn_div3 (FP.Core.i2d x) (FP.Core.i2d n) (nn_f x) (nn_f n) (nn_z h)
  rw [← FP.i2d_core] at k
  exact k
