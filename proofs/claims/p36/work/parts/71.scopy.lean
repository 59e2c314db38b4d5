/-! Sim copied. -/
theorem SM.mk' {g : GT} {D : DM} {ad : Nat → Nat} {P : Mem} {c : Nat → Int32} (hn : mWs P ≤ 10 ∧ mSh P ≤ 40) (inj : ∀ i j, su (mWs P) (mSh P) i → su (mWs P) (mSh P) j → ad i = ad j → i = j) (ob : OB D (ad 0) 2 [.ref (ad 1), .ref (ad 2), .ref (ad 3), .ref (ad 4), .ref (ad 5), .int (P 34 0), .int (P 34 1), .int (P 34 2)]) (sn : IA g D (ad 1) 32 (P 30)) (wa : RA g D (ad 2) (mWs P) (fun w => some (ad (10 + w)))) (sh : RA g D (ad 3) (mSh P) (fun k => some (ad (20 + k)))) (co : IA g D (ad 4) 2 c) (si : IA g D (ad 5) 2 (fun e => P 34 (5 + e))) (wr : ∀ w, w < mWs P → IA g D (ad (10 + w)) 4 (rW P w)) (sr : ∀ k, k < mSh P → ∃ f, IA g D (ad (20 + k)) 4 f ∧ RS P k f) : SM g D ad P c [] := by
  refine ⟨hn, inj, fun i _ => ⟨fun _ => ob, fun _ => sn, fun _ => wa, fun _ => sh, fun _ => co, fun _ => si, fun w z hw => ?_, fun k z hk => ?_⟩⟩
  · subst z; exact wr w hw
  · subst z; exact sr k hk
def dW (i x : Nat) : Prop := x = 0 ∨ x = 1 ∨ x = 2 ∨ (10 ≤ x ∧ x < 10 + i)
def dS (nW i x : Nat) : Prop := x = 0 ∨ x = 1 ∨ x = 2 ∨ x = 3 ∨ (10 ≤ x ∧ x < 10 + nW) ∨ (20 ≤ x ∧ x < 20 + i)
/-- a copy under way -/
def CP (D0 D : DM) (ad ad' : Nat → Nat) (dm : Nat → Prop) (o : Nat) : Prop := Le D0 D ∧ AI D ad' dm ∧ (ad' 1 = ad 1 ∧ ad' 0 = o) ∧ (∀ x, dm x → x ≠ 1 → D0 (ad' x) = none)
/-- a cell more -/
theorem CP.add {D0 D D' : DM} {ad ad' : Nat → Nat} {dm dm' : Nat → Prop} {o t q : Nat} (h : CP D0 D ad ad' dm o) (hq : D q = none) (ht : Tl D D') (hq' : D' q ≠ none) (hle : Le D0 D') (hd : ∀ i, dm' i → i = t ∨ dm i) (hnt : ¬ dm t) (h2 : 2 ≤ t) : CP D0 D' ad (aN ad' t q) dm' o := by
  refine ⟨hle, h.2.1.add hq ht hq' hd hnt, ⟨by rw [aN_ne (by omega)]; exact h.2.2.1.1, by rw [aN_ne (by omega)]; exact h.2.2.1.2⟩, fun x hx h1 => ?_⟩
  by_cases e : x = t
  · rw [e, aN_eq]; exact h.1.none hq
  · rw [aN_ne e]
    exact h.2.2.2 x ((hd x hx).resolve_left e) h1
theorem CP.keep {D0 D D' : DM} {ad ad' : Nat → Nat} {dm : Nat → Prop} {o : Nat} (h : CP D0 D ad ad' dm o) (ht : Tl D D') (hle : Le D0 D') : CP D0 D' ad ad' dm o := ⟨hle, h.2.1.tl ht, h.2.2.1, h.2.2.2⟩
abbrev rmX2_copy : Room := { frames := 2, cells := 60, slots := 310, locals := 90 }
set_option maxHeartbeats 1000000 in
set_option maxRecDepth 100000 in
theorem qs_copy_l2 {X : XT} {l : Launch} {g : GT} {R : Option Value → Mem → DM → Prop} {M : Mem} {D0 : DM} {ad : Nat → Nat} {P : Mem} {c : Nat → Int32} {o : Nat} (h0 : SM g D0 ad P c []) {aw as a4 a5 : Nat} (next : ∀ (D : DM) (ad' : Nat → Nat), CP D0 D ad ad' (dS (mWs P) (mSh P)) o → (ad' 2 = aw ∧ ad' 3 = as) → OB D o 2 [.ref (ad 1), .ref aw, .ref as, .ref a4, .ref a5, .int 0, .int 0, .int 0] → RA g D aw (mWs P) (fun w => some (ad' (10 + w))) → RA g D as (mSh P) (fun k => some (ad' (20 + k))) → (∀ w, w < mWs P → IA g D (ad' (10 + w)) 4 (rW P w)) → (∀ k, k < mSh P → ∃ f, IA g D (ad' (20 + k)) 4 f ∧ RS P k f) → UX X g (18 + mSh P) (100 + 5 * mSh P) 110 [(1, .ref o), (0, .ref (ad 0))] [] M D) (C : Cx X g l cX2_copy 3 RX2 (some (.object "CanyonEchoesLaw$Sim")) rmX2_copy) (hq : RU X g rmX2_copy R) : ∀ (n i : Nat) (D : DM) (ad' : Nat → Nat), i ≤ mSh P → mSh P + 1 ≤ i + n → CP D0 D ad ad' (dS (mWs P) i) o → (ad' 2 = aw ∧ ad' 3 = as) → OB D o 2 [.ref (ad 1), .ref aw, .ref as, .ref a4, .ref a5, .int 0, .int 0, .int 0] → RA g D aw (mWs P) (fun w => some (ad' (10 + w))) → RA g D as (mSh P) (fun k => if k < i then some (ad' (20 + k)) else none) → (∀ w, w < mWs P → IA g D (ad' (10 + w)) 4 (rW P w)) → (∀ k, k < i → ∃ f, IA g D (ad' (20 + k)) 4 f ∧ RS P k f) → UX X g (18 + i) (100 + mSh P + 4 * i) 77 [(2, .int (nI i)), (1, .ref o), (0, .ref (ad 0))] [] M D := by
  intro n
  induction n with
  | zero =>
    intro i D ad' h1 h2; omega
  | succ n ih =>
    intro i D ad' h1 h2 cp ea ob rw rs iw is
    have h := h0.le cp.1
    have hn := h0.n
    refine u_iload_n C dX2_copy_77 rfl ?_
    refine u_aload_n C dX2_copy_78 rfl ?_
    refine u_getF C fl_X2_18 (h.ob nm0) rfl dX2_copy_79 ?_
    refine u_ralen C (h.shouts nm0) dX2_copy_82 ?_
    refine u_icmp_ge C (tgt := 110) dX2_copy_83 (by decide) (fun c83 => ?_) (fun c83 => ?_)
    · have he : i = mSh P := Nat.le_antisymm h1 ((nI_leI (a := mSh P) (b := i) (by omega) (by omega)).mp c83)
      subst he
      refine u_widen (kc' := 18 + mSh P) (ks' := 100 + 5 * mSh P) (by omega) (by omega) ?_
      exact u_lsub [1, 2] rfl (next D ad' cp ea ob rw (rs.ext (fun k hk => by rw [if_pos hk])) iw is)
    · have hlt : i < mSh P := Nat.lt_of_not_le (fun z => c83 ((nI_leI (a := mSh P) (b := i) (by omega) (by omega)).mpr z))
      obtain ⟨f, ir, rf⟩ := h.srow hlt nm0
      refine u_aload_n C dX2_copy_86 rfl ?_
      refine u_getF C fl_X2_18 (ob) rfl dX2_copy_87 ?_
      refine u_iload_n C dX2_copy_90 rfl ?_
      refine u_aload_n C dX2_copy_91 rfl ?_
      refine u_getF C fl_X2_18 (h.ob nm0) rfl dX2_copy_92 ?_
      refine u_iload_n C dX2_copy_95 rfl ?_
      refine u_aald C (h.shouts nm0) rfl (by omega : i < mSh P) (by omega) rfl dX2_copy_96 ?_
      refine u_clone C (by decide +kernel) (ir) ⟨by decide, Nat.le_of_ble_eq_true rfl, by show 18 + i + 1 ≤ 60; omega, by show 100 + mSh P + 4 * i + 4 ≤ 310; omega⟩ dX2_copy_97 (fun qcrow D1 z1 o1 r1 => ?_)
      have hle := Le.ot o1 z1
      have ob := ob.le hle
      have rw := rw.le hle
      have rs := rs.le hle
      have iw : ∀ w, w < mWs P → IA g D1 (ad' (10 + w)) 4 (rW P w) := fun w hw => (iw w hw).le hle
      have is : ∀ k, k < i → ∃ f, IA g D1 (ad' (20 + k)) 4 f ∧ RS P k f := fun k hk => by
        obtain ⟨f, a1, a2⟩ := is k hk
        exact ⟨f, a1.le hle, a2⟩
      have iq := r1
      have hq0 := z1
      have t1 : Tl D D1 := Tl.ot o1 iq.some
      have l1 := cp.1.tr hle
      refine u_castA C (by decide +kernel) (iq) dX2_copy_100 ?_
      refine u_aast C (rs) (iq) rfl (by omega) (by omega) dX2_copy_103 (fun D2 o2 r2 => ?_)
      have nas : D0 as = none := by rw [← ea.2]; exact cp.2.2.2 3 (by unfold dS; omega) (by decide)
      have n3 : ∀ x, dS (mWs P) i x → x ≠ 3 → ad' x ≠ as := fun x hx hx3 e => hx3 (cp.2.1.1 x 3 hx (by unfold dS; omega) (by rw [e, ea.2]))
      have nq : qcrow ≠ as := fun e => (cp.2.1.2 3 (by unfold dS; omega)) (by rw [ea.2, ← e]; exact hq0)
      have t2 : Tl D D2 := t1.tr (Tl.ot o2 (r2).some)
      have cp2 : CP D0 D2 ad (aN ad' (20 + i) qcrow) (dS (mWs P) (i + 1)) o := cp.add hq0 t2 (iq.ot o2 nq).some (l1.wr o2 nas) (fun x hx => by unfold dS at hx ⊢; omega) (by unfold dS; omega) (by omega)
      have ob2 := ob.ot o2 (by rw [← cp.2.2.1.2]; exact n3 0 (by unfold dS; omega) (by decide))
      have rw2 : RA g D2 aw (mWs P) (fun w => some (aN ad' (20 + i) qcrow (10 + w))) := (rw.ot o2 (by rw [← ea.1]; exact n3 2 (by unfold dS; omega) (by decide))).ext (fun w hw => by rw [aN_ne (by omega)])
      have rs2 : RA g D2 as (mSh P) (fun k => if k < i + 1 then some (aN ad' (20 + i) qcrow (20 + k)) else none) := (r2).ext (fun k hk => by
        by_cases e : k = i
        · rw [e, if_pos rfl, if_pos (by omega), aN_eq]
        · rw [if_neg e, aN_ne (by omega)]
          by_cases e2 : k < i
          · rw [if_pos e2, if_pos (by omega)]
          · rw [if_neg e2, if_neg (by omega)])
      have iw2 : ∀ w, w < mWs P → IA g D2 (aN ad' (20 + i) qcrow (10 + w)) 4 (rW P w) := fun w hw => by
        rw [aN_ne (by omega)]
        exact (iw w hw).ot o2 (n3 _ (by unfold dS; omega) (by omega))
      have is2 : ∀ k, k < i + 1 → ∃ f, IA g D2 (aN ad' (20 + i) qcrow (20 + k)) 4 f ∧ RS P k f := fun k hk => by
        by_cases e : k = i
        · subst e
          rw [aN_eq]
          exact ⟨f, iq.ot o2 nq, rf⟩
        · rw [aN_ne (by omega)]
          obtain ⟨f2, a1, a2⟩ := is k (by omega)
          exact ⟨f2, a1.ot o2 (n3 _ (by unfold dS; omega) (by omega)), a2⟩
      refine u_iinc C (v := nI (i + 1)) (lo' := [(2, _), (1, _), (0, _)]) dX2_copy_104 rfl (nI_inc _) (by decide) rfl ?_
      refine u_goto C (tgt := 77) dX2_copy_107 (by decide) ?_
      refine u_widen (kc' := 18 + (i + 1)) (ks' := 100 + mSh P + 4 * (i + 1)) (by omega) (by omega) ?_
      exact u_lsub [0, 1, 2] rfl (ih (i + 1) _ _ hlt (by omega) cp2 ⟨by rw [aN_ne (by omega)]; exact ea.1, by rw [aN_ne (by omega)]; exact ea.2⟩ ob2 rw2 rs2 iw2 is2)
set_option maxHeartbeats 1000000 in
set_option maxRecDepth 100000 in
theorem qs_copy_l1 {X : XT} {l : Launch} {g : GT} {R : Option Value → Mem → DM → Prop} {M : Mem} {D0 : DM} {ad : Nat → Nat} {P : Mem} {c : Nat → Int32} {o : Nat} (h0 : SM g D0 ad P c []) {aw a3 a4 a5 : Nat} (next : ∀ (D : DM) (ad' : Nat → Nat), CP D0 D ad ad' (dW (mWs P)) o → ad' 2 = aw → OB D o 2 [.ref (ad 1), .ref aw, .ref a3, .ref a4, .ref a5, .int 0, .int 0, .int 0] → RA g D aw (mWs P) (fun w => some (ad' (10 + w))) → (∀ w, w < mWs P → IA g D (ad' (10 + w)) 4 (rW P w)) → UX X g 17 100 63 [(1, .ref o), (0, .ref (ad 0))] [] M D) (C : Cx X g l cX2_copy 3 RX2 (some (.object "CanyonEchoesLaw$Sim")) rmX2_copy) (hq : RU X g rmX2_copy R) : ∀ (n i : Nat) (D : DM) (ad' : Nat → Nat), i ≤ mWs P → mWs P + 1 ≤ i + n → CP D0 D ad ad' (dW i) o → ad' 2 = aw → OB D o 2 [.ref (ad 1), .ref aw, .ref a3, .ref a4, .ref a5, .int 0, .int 0, .int 0] → RA g D aw (mWs P) (fun w => if w < i then some (ad' (10 + w)) else none) → (∀ w, w < i → IA g D (ad' (10 + w)) 4 (rW P w)) → UX X g (7 + i) (60 + 4 * i) 30 [(2, .int (nI i)), (1, .ref o), (0, .ref (ad 0))] [] M D := by
  intro n
  induction n with
  | zero =>
    intro i D ad' h1 h2; omega
  | succ n ih =>
    intro i D ad' h1 h2 cp ea ob rw iw
    have h := h0.le cp.1
    have hn := h0.n
    refine u_iload_n C dX2_copy_30 rfl ?_
    refine u_aload_n C dX2_copy_31 rfl ?_
    refine u_getF C fl_X2_14 (h.ob nm0) rfl dX2_copy_32 ?_
    refine u_ralen C (h.walls nm0) dX2_copy_35 ?_
    refine u_icmp_ge C (tgt := 63) dX2_copy_36 (by decide) (fun c36 => ?_) (fun c36 => ?_)
    · have he : i = mWs P := Nat.le_antisymm h1 ((nI_leI (a := mWs P) (b := i) (by omega) (by omega)).mp c36)
      subst he
      refine u_widen (kc' := 17) (ks' := 100) (by omega) (by omega) ?_
      exact u_lsub [1, 2] rfl (next D ad' cp ea ob (rw.ext (fun k hk => by rw [if_pos hk])) iw)
    · have hlt : i < mWs P := Nat.lt_of_not_le (fun z => c36 ((nI_leI (a := mWs P) (b := i) (by omega) (by omega)).mpr z))
      have ir := h.wrow hlt nm0
      refine u_aload_n C dX2_copy_39 rfl ?_
      refine u_getF C fl_X2_14 (ob) rfl dX2_copy_40 ?_
      refine u_iload_n C dX2_copy_43 rfl ?_
      refine u_aload_n C dX2_copy_44 rfl ?_
      refine u_getF C fl_X2_14 (h.ob nm0) rfl dX2_copy_45 ?_
      refine u_iload_n C dX2_copy_48 rfl ?_
      refine u_aald C (h.walls nm0) rfl (by omega : i < mWs P) (by omega) rfl dX2_copy_49 ?_
      refine u_clone C (by decide +kernel) (ir) ⟨by decide, Nat.le_of_ble_eq_true rfl, by show 7 + i + 1 ≤ 60; omega, by show 60 + 4 * i + 4 ≤ 310; omega⟩ dX2_copy_50 (fun qcrow D1 z1 o1 r1 => ?_)
      have hle := Le.ot o1 z1
      have ob := ob.le hle
      have rw := rw.le hle
      have iw : ∀ w, w < i → IA g D1 (ad' (10 + w)) 4 (rW P w) := fun w hw => (iw w hw).le hle
      have iq := r1
      have hq0 := z1
      have t1 : Tl D D1 := Tl.ot o1 iq.some
      have l1 := cp.1.tr hle
      refine u_castA C (by decide +kernel) (iq) dX2_copy_53 ?_
      refine u_aast C (rw) (iq) rfl (by omega) (by omega) dX2_copy_56 (fun D2 o2 r2 => ?_)
      have nas : D0 aw = none := by rw [← ea]; exact cp.2.2.2 2 (by unfold dW; omega) (by decide)
      have n3 : ∀ x, dW i x → x ≠ 2 → ad' x ≠ aw := fun x hx hx3 e => hx3 (cp.2.1.1 x 2 hx (by unfold dW; omega) (by rw [e, ea]))
      have nq : qcrow ≠ aw := fun e => (cp.2.1.2 2 (by unfold dW; omega)) (by rw [ea, ← e]; exact hq0)
      have t2 : Tl D D2 := t1.tr (Tl.ot o2 (r2).some)
      have cp2 : CP D0 D2 ad (aN ad' (10 + i) qcrow) (dW (i + 1)) o := cp.add hq0 t2 (iq.ot o2 nq).some (l1.wr o2 nas) (fun x hx => by unfold dW at hx ⊢; omega) (by unfold dW; omega) (by omega)
      have ob2 := ob.ot o2 (by rw [← cp.2.2.1.2]; exact n3 0 (by unfold dW; omega) (by decide))
      have rw2 : RA g D2 aw (mWs P) (fun k => if k < i + 1 then some (aN ad' (10 + i) qcrow (10 + k)) else none) := (r2).ext (fun k hk => by
        by_cases e : k = i
        · rw [e, if_pos rfl, if_pos (by omega), aN_eq]
        · rw [if_neg e, aN_ne (by omega)]
          by_cases e2 : k < i
          · rw [if_pos e2, if_pos (by omega)]
          · rw [if_neg e2, if_neg (by omega)])
      have iw2 : ∀ w, w < i + 1 → IA g D2 (aN ad' (10 + i) qcrow (10 + w)) 4 (rW P w) := fun w hw => by
        by_cases e : w = i
        · subst e
          rw [aN_eq]
          exact iq.ot o2 nq
        · rw [aN_ne (by omega)]
          exact (iw w (by omega)).ot o2 (n3 _ (by unfold dW; omega) (by omega))
      refine u_iinc C (v := nI (i + 1)) (lo' := [(2, _), (1, _), (0, _)]) dX2_copy_57 rfl (nI_inc _) (by decide) rfl ?_
      refine u_goto C (tgt := 30) dX2_copy_60 (by decide) ?_
      refine u_widen (kc' := 7 + (i + 1)) (ks' := 60 + 4 * (i + 1)) (by omega) (by omega) ?_
      exact u_lsub [0, 1, 2] rfl (ih (i + 1) _ _ hlt (by omega) cp2 (by rw [aN_ne (by omega)]; exact ea) ob2 rw2 iw2)
