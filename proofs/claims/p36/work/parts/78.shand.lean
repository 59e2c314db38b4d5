/-! What is done by hand, in Sim's cells. -/
theorem mAW_f {P : Mem} (hp : PK P) (s e so : Int32) : mWs (mAW P s e so) = mWs P + 1 ∧ mSh (mAW P s e so) = mSh P ∧ (∀ q, mAW P s e so 32 q = if q = mWs P then s else P 32 q) ∧ (∀ q, mAW P s e so 33 q = if q = mWs P then so else P 33 q) ∧ mAW P s e so 34 (7 + mWs P) = e ∧ (∀ j, j ≠ 7 + mWs P → mAW P s e so 34 j = P 34 j) ∧ mAW P s e so 30 = P 30 := by
  have hws := hp.1.ws
  have e1 : P 29 1 = nI (mWs P) := nI_tn hp.1.1.1
  have et : tn (P 29 1) = mWs P := rfl
  have b29 : mAW P s e so 29 1 = nI (mWs P + 1) := by unfold mAW; rw [wr_eq, e1]; exact nI_1 _
  have b29' : mAW P s e so 29 2 = P 29 2 := by unfold mAW; rw [wr_ne (by omega), wr_ne (by omega), wr_ne (by omega), wr_ne (by omega), wr_ne (by omega), wr_ne (by omega)]
  refine ⟨by show tn (mAW P s e so 29 1) = _; rw [b29, tn_nI (by omega)], by show tn (mAW P s e so 29 2) = _; rw [b29'], fun q => ?_, fun q => ?_, ?_, fun j hj => ?_, ?_⟩
  · unfold mAW
    rw [wr_ne (by omega), wr_ne (by omega), wr_ne (by omega), wr_ap, et]
    by_cases z : q = mWs P
    · rw [if_pos ⟨rfl, z⟩, if_pos z]
    · rw [if_neg (fun y => z y.2), if_neg z, wr_ne (by omega), wr_ne (by omega)]
  · unfold mAW
    rw [wr_ne (by omega), wr_ne (by omega), wr_ap, et]
    by_cases z : q = mWs P
    · rw [if_pos ⟨rfl, z⟩, if_pos z]
    · rw [if_neg (fun y => z y.2), if_neg z, wr_ne (by omega), wr_ne (by omega), wr_ne (by omega)]
  · unfold mAW
    rw [wr_ne (by omega), et, wr_eq]
  · unfold mAW
    rw [wr_ne (by omega), et, wr_ne (by omega), wr_ne (by omega), wr_ne (by omega), wr_ne (by omega), wr_ne (by omega)]
  · unfold mAW
    rw [wr_cell (by decide), wr_cell (by decide), wr_cell (by decide), wr_cell (by decide), wr_cell (by decide), wr_cell (by decide)]
theorem mSho1_f {P : Mem} (hp : PK P) (s wy ld : Int32) : mSh (mSho1 P s wy ld) = mSh P + 1 ∧ mWs (mSho1 P s wy ld) = mWs P ∧ (∀ c, c ≠ 29 → c ≠ 34 → mSho1 P s wy ld c = P c) ∧ (∀ j, j ≠ 27 + mSh P → j ≠ 67 + mSh P → j ≠ 107 + mSh P → j ≠ 147 + mSh P → mSho1 P s wy ld 34 j = P 34 j) ∧ mSho1 P s wy ld 34 (27 + mSh P) = ld ∧ mSho1 P s wy ld 34 (67 + mSh P) = s ∧ mSho1 P s wy ld 34 (107 + mSh P) = wy ∧ mSho1 P s wy ld 34 (147 + mSh P) = 0 := by
  have hsh := hp.1.sh
  have e1 : P 29 2 = nI (mSh P) := nI_tn hp.1.2.1.1
  have et : tn (P 29 2) = mSh P := rfl
  have b29 : mSho1 P s wy ld 29 2 = nI (mSh P + 1) := by unfold mSho1; rw [wr_eq, e1]; exact nI_1 _
  have b29' : mSho1 P s wy ld 29 1 = P 29 1 := by unfold mSho1; rw [wr_ne (by omega), wr_ne (by omega), wr_ne (by omega), wr_ne (by omega), wr_ne (by omega), wr_ne (by omega)]
  refine ⟨by show tn (mSho1 P s wy ld 29 2) = _; rw [b29, tn_nI (by omega)], by show tn (mSho1 P s wy ld 29 1) = _; rw [b29'], fun c h1 h2 => ?_, fun j h1 h2 h3 h4 => ?_, ?_, ?_, ?_, ?_⟩
  · unfold mSho1
    rw [wr_cell h1, wr_cell h2, wr_cell h2, wr_cell h2, wr_cell h2, wr_cell h1]
  · unfold mSho1
    rw [et, wr_ne (by omega), wr_ne (by omega), wr_ne (by omega), wr_ne (by omega), wr_ne (by omega), wr_ne (by omega)]
  · unfold mSho1; rw [et, wr_ne (by omega), wr_ne (by omega), wr_ne (by omega), wr_ne (by omega), wr_eq]
  · unfold mSho1; rw [et, wr_ne (by omega), wr_ne (by omega), wr_ne (by omega), wr_eq]
  · unfold mSho1; rw [et, wr_ne (by omega), wr_ne (by omega), wr_eq]
  · unfold mSho1; rw [et, wr_ne (by omega), wr_eq]
/-- two new addresses beside an old canyon's -/
theorem inj2 {ad : Nat → Nat} {nW nS nW' nS' a b q r : Nat} (inj : ∀ i j, su nW nS i → su nW nS j → ad i = ad j → i = j) (nq : ∀ i, su nW nS i → ad i ≠ q) (nr : ∀ i, su nW nS i → ad i ≠ r) (hqr : q ≠ r) (hs : ∀ i, su nW' nS' i → i = b ∨ su nW nS i) (hab : a ≠ b) : ∀ i j, su nW' nS' i → su nW' nS' j → aN (aN ad a q) b r i = aN (aN ad a q) b r j → i = j := by
  have key : ∀ i, su nW' nS' i → (i = b ∧ aN (aN ad a q) b r i = r) ∨ (i ≠ b ∧ i = a ∧ aN (aN ad a q) b r i = q) ∨ (i ≠ b ∧ i ≠ a ∧ su nW nS i ∧ aN (aN ad a q) b r i = ad i) := fun i hi => by
    by_cases e : i = b
    · exact Or.inl ⟨e, by rw [e, aN_eq]⟩
    · by_cases e2 : i = a
      · exact Or.inr (Or.inl ⟨e, e2, by rw [aN_ne e, e2, aN_eq]⟩)
      · exact Or.inr (Or.inr ⟨e, e2, (hs i hi).resolve_left e, by rw [aN_ne e, aN_ne e2]⟩)
  intro i j hi hj e
  rcases key i hi with ⟨a1, a2⟩ | ⟨a1, a2, a3⟩ | ⟨a1, a2, a3, a4⟩ <;> rcases key j hj with ⟨b1, b2⟩ | ⟨b1, b2, b3⟩ | ⟨b1, b2, b3, b4⟩
  · rw [a1, b1]
  · rw [a2, b3] at e; exact absurd e.symm hqr
  · rw [a2, b4] at e; exact absurd e.symm (nr j b3)
  · rw [a3, b2] at e; exact absurd e hqr
  · rw [a2, b2]
  · rw [a3, b4] at e; exact absurd e.symm (nq j b3)
  · rw [a4, b2] at e; exact absurd e (nr i a3)
  · rw [a4, b3] at e; exact absurd e (nq i a3)
  · rw [a4, b4] at e; exact inj i j a3 b3 e
section HND
variable {g : GT} {D D' : DM} {ad : Nat → Nat} {P : Mem}
/-- a wall more -/
theorem SM.addW (hp : PK P) (hn : mWs P < 10) {q qr : Nat} {s e so : Int32} (nq : ∀ i, su (mWs P) (mSh P) i → ad i ≠ q) (nr : ∀ i, su (mWs P) (mSh P) i → ad i ≠ qr) (hqr : q ≠ qr) (sm : SM g D' ad P (fun e => P 34 (3 + e)) [0]) (ob : OB D' (ad 0) 2 [.ref (ad 1), .ref q, .ref (ad 3), .ref (ad 4), .ref (ad 5), .int (P 34 0), .int (P 34 1), .int (P 34 2)]) (rq : RA g D' q (mWs P + 1) (fun j => if j = mWs P then some qr else some (ad (10 + j)))) (rr : IA g D' qr 4 (q4 s e so 0)) (z0 : P 34 (17 + mWs P) = 0) : SP g D' (aN (aN ad 2 q) (10 + mWs P) qr) (mAW P s e so) := by
  obtain ⟨w1, w2, f32, f33, f7, f34, f30⟩ := mAW_f hp s e so
  have hm := sm.n
  have ex : ∀ i, i ≠ 2 → i ≠ 10 + mWs P → aN (aN ad 2 q) (10 + mWs P) qr i = ad i := fun i h1 h2 => by rw [aN_ne h2, aN_ne h1]
  have e2 : aN (aN ad 2 q) (10 + mWs P) qr 2 = q := by rw [aN_ne (by omega), aN_eq]
  refine SM.mk' ⟨by omega, by omega⟩ ?_ ?_ ?_ ?_ ?_ ?_ ?_ (fun w hw => ?_) (fun k hk => ?_)
  · rw [w1, w2]
    exact inj2 sm.2.1 nq nr hqr (fun i hi => by unfold su at hi ⊢; omega) (by omega)
  · rw [ex 0 (by decide) (by omega), ex 1 (by decide) (by omega), e2, ex 3 (by decide) (by omega), ex 4 (by decide) (by omega), ex 5 (by decide) (by omega), f34 0 (by omega), f34 1 (by omega), f34 2 (by omega)]
    exact ob
  · rw [ex 1 (by decide) (by omega), f30]
    exact sm.snow (nm1 (by decide))
  · rw [e2, w1]
    refine rq.ext (fun j hj => ?_)
    by_cases c : j = mWs P
    · rw [if_pos c, c, aN_eq]
    · rw [if_neg c, ex _ (by omega) (by omega)]
  · rw [ex 3 (by decide) (by omega), w2]
    exact (sm.shouts (nm1 (by decide))).ext (fun k hk => by rw [ex _ (by omega) (by omega)])
  · rw [ex 4 (by decide) (by omega)]
    exact (sm.coins (nm1 (by decide))).ext (fun k hk => (f34 _ (by omega)).symm)
  · rw [ex 5 (by decide) (by omega)]
    exact (sm.silent (nm1 (by decide))).ext (fun k hk => (f34 _ (by omega)).symm)
  · rw [w1] at hw
    by_cases c : w = mWs P
    · subst c
      rw [aN_eq]
      refine rr.ext (fun j hj => ?_)
      unfold rW q4
      rw [f32, if_pos rfl, f33, if_pos rfl, f7, f34 _ (by omega), z0]
    · rw [ex _ (by omega) (by omega)]
      refine (sm.wrow (by omega) (nm1 (by omega))).ext (fun j hj => ?_)
      unfold rW
      rw [f32, if_neg c, f33, if_neg c, f34 _ (by omega), f34 _ (by omega)]
  · rw [w2] at hk
    rw [ex _ (by omega) (by omega)]
    obtain ⟨f, a1, a2⟩ := sm.srow hk (nm1 (by omega))
    refine ⟨f, a1, ?_⟩
    unfold RS
    rw [f34 _ (by omega), f34 _ (by omega), f34 _ (by omega), f34 _ (by omega)]
    exact a2
/-- a shout more -/
theorem SM.addS (hp : PK P) (hn : mSh P < 40) {q qr : Nat} {s wy ld : Int32} (nq : ∀ i, su (mWs P) (mSh P) i → ad i ≠ q) (nr : ∀ i, su (mWs P) (mSh P) i → ad i ≠ qr) (hqr : q ≠ qr) (sm : SM g D' ad P (fun e => P 34 (3 + e)) [0]) (ob : OB D' (ad 0) 2 [.ref (ad 1), .ref (ad 2), .ref q, .ref (ad 4), .ref (ad 5), .int (P 34 0), .int (P 34 1), .int (P 34 2)]) (rq : RA g D' q (mSh P + 1) (fun j => if j = mSh P then some qr else some (ad (20 + j)))) (rr : IA g D' qr 4 (q4 ld s wy 0)) : SP g D' (aN (aN ad 3 q) (20 + mSh P) qr) (mSho1 P s wy ld) := by
  obtain ⟨w1, w2, fc, f34, f1, f2, f3, f4⟩ := mSho1_f hp s wy ld
  have hm := sm.n
  have ex : ∀ i, i ≠ 3 → i ≠ 20 + mSh P → aN (aN ad 3 q) (20 + mSh P) qr i = ad i := fun i h1 h2 => by rw [aN_ne h2, aN_ne h1]
  have e2 : aN (aN ad 3 q) (20 + mSh P) qr 3 = q := by rw [aN_ne (by omega), aN_eq]
  have g34 : ∀ j, j < 27 → mSho1 P s wy ld 34 j = P 34 j := fun j hj => f34 j (by omega) (by omega) (by omega) (by omega)
  refine SM.mk' ⟨by omega, by omega⟩ ?_ ?_ ?_ ?_ ?_ ?_ ?_ (fun w hw => ?_) (fun k hk => ?_)
  · rw [w1, w2]
    exact inj2 sm.2.1 nq nr hqr (fun i hi => by unfold su at hi ⊢; omega) (by omega)
  · rw [ex 0 (by decide) (by omega), ex 1 (by decide) (by omega), ex 2 (by decide) (by omega), e2, ex 4 (by decide) (by omega), ex 5 (by decide) (by omega), g34 0 (by omega), g34 1 (by omega), g34 2 (by omega)]
    exact ob
  · rw [ex 1 (by decide) (by omega), fc 30 (by decide) (by decide)]
    exact sm.snow (nm1 (by decide))
  · rw [ex 2 (by decide) (by omega), w2]
    exact (sm.walls (nm1 (by decide))).ext (fun k hk => by rw [ex _ (by omega) (by omega)])
  · rw [e2, w1]
    refine rq.ext (fun j hj => ?_)
    by_cases c : j = mSh P
    · rw [if_pos c, c, aN_eq]
    · rw [if_neg c, ex _ (by omega) (by omega)]
  · rw [ex 4 (by decide) (by omega)]
    exact (sm.coins (nm1 (by decide))).ext (fun k hk => (g34 _ (by omega)).symm)
  · rw [ex 5 (by decide) (by omega)]
    exact (sm.silent (nm1 (by decide))).ext (fun k hk => (g34 _ (by omega)).symm)
  · rw [w2] at hw
    rw [ex _ (by omega) (by omega)]
    refine (sm.wrow hw (nm1 (by omega))).ext (fun j hj => ?_)
    unfold rW
    rw [fc 32 (by decide) (by decide), fc 33 (by decide) (by decide), g34 _ (by omega), g34 _ (by omega)]
  · rw [w1] at hk
    by_cases c : k = mSh P
    · subst c
      rw [aN_eq]
      exact ⟨_, rr, f1.symm, f4.symm, fun _ => ⟨f2.symm, f3.symm⟩⟩
    · rw [ex _ (by omega) (by omega)]
      obtain ⟨f, a1, a2⟩ := sm.srow (k := k) (by omega) (nm1 (by omega))
      refine ⟨f, a1, ?_⟩
      unfold RS
      rw [f34 _ (by omega) (by omega) (by omega) (by omega), f34 _ (by omega) (by omega) (by omega) (by omega), f34 _ (by omega) (by omega) (by omega) (by omega), f34 _ (by omega) (by omega) (by omega) (by omega)]
      exact a2
/-- snow in a new array -/
theorem SM.snowN {q : Nat} {s : Nat} {x : Int32} (nq : ∀ i, su (mWs P) (mSh P) i → ad i ≠ q) (sm : SM g D' ad P (fun e => P 34 (3 + e)) [0]) (ob : OB D' (ad 0) 2 [.ref q, .ref (ad 2), .ref (ad 3), .ref (ad 4), .ref (ad 5), .int (P 34 0), .int (P 34 1), .int (P 34 2)]) (rr : IA g D' q 32 (upd (P 30) s x)) : SP g D' (aN ad 1 q) (wr (wr P 29 0 0) 30 s x) := by
  have hm := sm.n
  have ex : ∀ i, i ≠ 1 → aN ad 1 q i = ad i := fun i h1 => aN_ne h1
  have g34 : wr (wr P 29 0 0) 30 s x 34 = P 34 := by rw [wr_cell (by decide), wr_cell (by decide)]
  refine SM.mk' hm (fun i j hi hj e => ?_) ?_ ?_ ?_ ?_ ?_ ?_ (fun w hw => ?_) (fun k hk => ?_)
  · have hi : su (mWs P) (mSh P) i := hi
    have hj : su (mWs P) (mSh P) j := hj
    by_cases c : i = 1 <;> by_cases c2 : j = 1
    · rw [c, c2]
    · subst c
      rw [aN_eq, ex j c2] at e
      exact absurd e.symm (nq j hj)
    · subst c2
      rw [aN_eq, ex i c] at e
      exact absurd e (nq i hi)
    · rw [ex i c, ex j c2] at e
      exact sm.2.1 i j hi hj e
  · rw [ex 0 (by decide), ex 2 (by decide), ex 3 (by decide), ex 4 (by decide), ex 5 (by decide), aN_eq, g34]
    exact ob
  · rw [aN_eq]
    refine rr.ext (fun j hj => ?_)
    unfold upd
    rw [wr_ap]
    by_cases c : j = s
    · rw [if_pos c, if_pos ⟨rfl, c⟩]
    · rw [if_neg c, if_neg (fun z => c z.2), wr_ne (by omega)]
  · rw [ex 2 (by decide)]
    exact (sm.walls (nm1 (by decide))).ext (fun k hk => by rw [ex _ (by omega)])
  · rw [ex 3 (by decide)]
    exact (sm.shouts (nm1 (by decide))).ext (fun k hk => by rw [ex _ (by omega)])
  · rw [ex 4 (by decide), g34]
    exact sm.coins (nm1 (by decide))
  · rw [ex 5 (by decide), g34]
    exact sm.silent (nm1 (by decide))
  · rw [ex _ (by omega)]
    refine (sm.wrow hw (nm1 (by omega))).ext (fun j hj => ?_)
    unfold rW
    rw [g34, wr_cell (M := wr P 29 0 0) (k' := 32) (by decide), wr_cell (M := wr P 29 0 0) (k' := 33) (by decide), wr_cell (k' := 32) (by decide), wr_cell (k' := 33) (by decide)]
  · rw [ex _ (by omega)]
    obtain ⟨f, a1, a2⟩ := sm.srow hk (nm1 (by omega))
    refine ⟨f, a1, ?_⟩
    unfold RS
    rw [g34]
    exact a2
/-- nothing but what was thrown -/
theorem SM.t0 {c : Nat → Int32} {mk : List Nat} (h : SM g D ad P c mk) {Q : Mem} (e : ∀ c, c ≠ 29 → Q c = P c) (e29 : Q 29 1 = P 29 1 ∧ Q 29 2 = P 29 2) : SM g D ad Q c mk := by
  refine h.cong e29 (fun _ j _ => by rw [e 34 (by decide)]) (fun _ j _ => by rw [e 30 (by decide)]) (fun _ _ _ => rfl) (fun _ j _ => by rw [e 34 (by decide)]) (fun w _ _ j _ => ?_) (fun k _ _ => by rw [e 34 (by decide)]; exact ⟨rfl, rfl, rfl, rfl⟩)
  unfold rW
  rw [e 32 (by decide), e 33 (by decide), e 34 (by decide)]
end HND
