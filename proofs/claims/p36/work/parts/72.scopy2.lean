/-! Sim copied, whole. -/
set_option maxHeartbeats 1000000 in
set_option maxRecDepth 100000 in
theorem qs_copy_e {X : XT} {l : Launch} {g : GT} {R : Option Value → Mem → DM → Prop} {M : Mem} {D0 D : DM} {ad ad' : Nat → Nat} {P : Mem} {c : Nat → Int32} {o aw as a4 a5 : Nat} (h0 : SM g D0 ad P c []) (cp : CP D0 D ad ad' (dS (mWs P) (mSh P)) o) (ea : ad' 2 = aw ∧ ad' 3 = as) (ob : OB D o 2 [.ref (ad 1), .ref aw, .ref as, .ref a4, .ref a5, .int 0, .int 0, .int 0]) (rw : RA g D aw (mWs P) (fun w => some (ad' (10 + w)))) (rs : RA g D as (mSh P) (fun k => some (ad' (20 + k)))) (iw : (∀ w, w < mWs P → IA g D (ad' (10 + w)) 4 (rW P w))) (is : ∀ k, k < mSh P → ∃ f, IA g D (ad' (20 + k)) 4 f ∧ RS P k f) (hR : ∀ (D1 : DM) (A : Nat → Nat), A 0 = o → A 1 = ad 1 → SM g D1 A P c [] → Le D0 D1 → (∀ i, su (mWs P) (mSh P) i → i ≠ 1 → D0 (A i) = none) → R (some (.ref o)) M D1) (C : Cx X g l cX2_copy 3 RX2 (some (.object "CanyonEchoesLaw$Sim")) rmX2_copy) (hq : RU X g rmX2_copy R) : UX X g (18 + mSh P) (100 + 5 * mSh P) 110 [(1, .ref o), (0, .ref (ad 0))] [] M D := by
  have h := h0.le cp.1
  have hn := h0.n
  have n0 : ∀ x, dS (mWs P) (mSh P) x → x ≠ 0 → ad' x ≠ o := fun x hx h1 e => h1 (cp.2.1.1 x 0 hx (by unfold dS; omega) (by rw [e, cp.2.2.1.2]))
  have nao : D0 o = none := by rw [← cp.2.2.1.2]; exact cp.2.2.2 0 (by unfold dS; omega) (by decide)
  refine u_aload_n C dX2_copy_110 rfl ?_
  refine u_aload_n C dX2_copy_111 rfl ?_
  refine u_getF C fl_X2_21 (h.ob nm0) rfl dX2_copy_112 ?_
  refine u_clone C (by decide +kernel) (h.coins nm0) ⟨by decide, Nat.le_of_ble_eq_true rfl, by show 18 + mSh P + 1 ≤ 60; omega, by show 100 + 5 * mSh P + 2 ≤ 310; omega⟩ dX2_copy_115 (fun qcq D1 z1 o1 r1 => ?_)
  have hle := Le.ot o1 z1
  have hqo4 : o ≠ qcq := fun e => ob.some (by rw [e]; exact z1)
  have ob := ob.le hle
  have rw := rw.le hle
  have rs := rs.le hle
  have iw : ∀ w, w < mWs P → IA g D1 (ad' (10 + w)) 4 (rW P w) := fun w hw => (iw w hw).le hle
  have is : ∀ k, k < mSh P → ∃ f, IA g D1 (ad' (20 + k)) 4 f ∧ RS P k f := fun k hk => by
    obtain ⟨f, a1, a2⟩ := is k hk
    exact ⟨f, a1.le hle, a2⟩
  have iq4 := r1
  have cp := cp.add (t := 4) z1 (Tl.ot o1 (r1).some) (r1).some (cp.1.tr hle) (dm' := fun x => x = 4 ∨ dS (mWs P) (mSh P) x) (fun x hx => hx) (by unfold dS; omega) (by omega)
  have h := h0.le cp.1
  refine u_castA C (by decide +kernel) (iq4) dX2_copy_118 ?_
  refine u_putR C fn_X2_21 (ob) (Nat.le_of_ble_eq_true rfl) dX2_copy_121 (fun D2 o2 r2 => ?_)
  have ob : OB D2 o 2 [.ref (ad 1), .ref aw, .ref as, .ref qcq, .ref a5, .int 0, .int 0, .int 0] := r2
  have rw := rw.ot o2 (by rw [← ea.1]; exact n0 2 (by unfold dS; omega) (by decide))
  have rs := rs.ot o2 (by rw [← ea.2]; exact n0 3 (by unfold dS; omega) (by decide))
  have iw : ∀ w, w < mWs P → IA g D2 (ad' (10 + w)) 4 (rW P w) := fun w hw => (iw w hw).ot o2 (n0 _ (by unfold dS; omega) (by omega))
  have is : ∀ k, k < mSh P → ∃ f, IA g D2 (ad' (20 + k)) 4 f ∧ RS P k f := fun k hk => by
    obtain ⟨f, a1, a2⟩ := is k hk
    exact ⟨f, a1.ot o2 (n0 _ (by unfold dS; omega) (by omega)), a2⟩
  have iq4 := iq4.ot o2 (Ne.symm hqo4)
  have cp := cp.keep (Tl.ot o2 (r2).some) (cp.1.wr o2 nao)
  have h := h0.le cp.1
  refine u_aload_n C dX2_copy_124 rfl ?_
  refine u_aload_n C dX2_copy_125 rfl ?_
  refine u_getF C fl_X2_24 (h.ob nm0) rfl dX2_copy_126 ?_
  refine u_clone C (by decide +kernel) (h.silent nm0) ⟨by decide, Nat.le_of_ble_eq_true rfl, by show 18 + mSh P + 1 + 1 ≤ 60; omega, by show 100 + 5 * mSh P + 2 + 2 ≤ 310; omega⟩ dX2_copy_129 (fun qlq D3 z3 o3 r3 => ?_)
  have hle := Le.ot o3 z3
  have hqo5 : o ≠ qlq := fun e => ob.some (by rw [e]; exact z3)
  have ob := ob.le hle
  have rw := rw.le hle
  have rs := rs.le hle
  have iw : ∀ w, w < mWs P → IA g D3 (ad' (10 + w)) 4 (rW P w) := fun w hw => (iw w hw).le hle
  have is : ∀ k, k < mSh P → ∃ f, IA g D3 (ad' (20 + k)) 4 f ∧ RS P k f := fun k hk => by
    obtain ⟨f, a1, a2⟩ := is k hk
    exact ⟨f, a1.le hle, a2⟩
  have iq4 := iq4.le hle
  have iq5 := r3
  have cp := cp.add (t := 5) z3 (Tl.ot o3 (r3).some) (r3).some (cp.1.tr hle) (dm' := fun x => x = 5 ∨ x = 4 ∨ dS (mWs P) (mSh P) x) (fun x hx => hx) (by unfold dS; omega) (by omega)
  have h := h0.le cp.1
  refine u_castA C (by decide +kernel) (iq5) dX2_copy_132 ?_
  refine u_putR C fn_X2_24 (ob) (Nat.le_of_ble_eq_true rfl) dX2_copy_135 (fun D4 o4 r4 => ?_)
  have ob : OB D4 o 2 [.ref (ad 1), .ref aw, .ref as, .ref qcq, .ref qlq, .int 0, .int 0, .int 0] := r4
  have rw := rw.ot o4 (by rw [← ea.1]; exact n0 2 (by unfold dS; omega) (by decide))
  have rs := rs.ot o4 (by rw [← ea.2]; exact n0 3 (by unfold dS; omega) (by decide))
  have iw : ∀ w, w < mWs P → IA g D4 (ad' (10 + w)) 4 (rW P w) := fun w hw => (iw w hw).ot o4 (n0 _ (by unfold dS; omega) (by omega))
  have is : ∀ k, k < mSh P → ∃ f, IA g D4 (ad' (20 + k)) 4 f ∧ RS P k f := fun k hk => by
    obtain ⟨f, a1, a2⟩ := is k hk
    exact ⟨f, a1.ot o4 (n0 _ (by unfold dS; omega) (by omega)), a2⟩
  have iq4 := iq4.ot o4 (Ne.symm hqo4)
  have iq5 := iq5.ot o4 (Ne.symm hqo5)
  have cp := cp.keep (Tl.ot o4 (r4).some) (cp.1.wr o4 nao)
  have h := h0.le cp.1
  refine u_aload_n C dX2_copy_138 rfl ?_
  refine u_aload_n C dX2_copy_139 rfl ?_
  refine u_getF C (fl_X2_32.fl) (h.ob nm0) rfl dX2_copy_140 ?_
  refine u_putI C fl_X2_32 (ob) (Nat.le_of_ble_eq_true rfl) dX2_copy_143 (fun D5 o5 r5 => ?_)
  have ob : OB D5 o 2 [.ref (ad 1), .ref aw, .ref as, .ref qcq, .ref qlq, .int (P 34 0), .int 0, .int 0] := r5
  have rw := rw.ot o5 (by rw [← ea.1]; exact n0 2 (by unfold dS; omega) (by decide))
  have rs := rs.ot o5 (by rw [← ea.2]; exact n0 3 (by unfold dS; omega) (by decide))
  have iw : ∀ w, w < mWs P → IA g D5 (ad' (10 + w)) 4 (rW P w) := fun w hw => (iw w hw).ot o5 (n0 _ (by unfold dS; omega) (by omega))
  have is : ∀ k, k < mSh P → ∃ f, IA g D5 (ad' (20 + k)) 4 f ∧ RS P k f := fun k hk => by
    obtain ⟨f, a1, a2⟩ := is k hk
    exact ⟨f, a1.ot o5 (n0 _ (by unfold dS; omega) (by omega)), a2⟩
  have iq4 := iq4.ot o5 (Ne.symm hqo4)
  have iq5 := iq5.ot o5 (Ne.symm hqo5)
  have cp := cp.keep (Tl.ot o5 (r5).some) (cp.1.wr o5 nao)
  have h := h0.le cp.1
  refine u_aload_n C dX2_copy_146 rfl ?_
  refine u_aload_n C dX2_copy_147 rfl ?_
  refine u_getF C (fl_X2_36.fl) (h.ob nm0) rfl dX2_copy_148 ?_
  refine u_putI C fl_X2_36 (ob) (Nat.le_of_ble_eq_true rfl) dX2_copy_151 (fun D6 o6 r6 => ?_)
  have ob : OB D6 o 2 [.ref (ad 1), .ref aw, .ref as, .ref qcq, .ref qlq, .int (P 34 0), .int (P 34 1), .int 0] := r6
  have rw := rw.ot o6 (by rw [← ea.1]; exact n0 2 (by unfold dS; omega) (by decide))
  have rs := rs.ot o6 (by rw [← ea.2]; exact n0 3 (by unfold dS; omega) (by decide))
  have iw : ∀ w, w < mWs P → IA g D6 (ad' (10 + w)) 4 (rW P w) := fun w hw => (iw w hw).ot o6 (n0 _ (by unfold dS; omega) (by omega))
  have is : ∀ k, k < mSh P → ∃ f, IA g D6 (ad' (20 + k)) 4 f ∧ RS P k f := fun k hk => by
    obtain ⟨f, a1, a2⟩ := is k hk
    exact ⟨f, a1.ot o6 (n0 _ (by unfold dS; omega) (by omega)), a2⟩
  have iq4 := iq4.ot o6 (Ne.symm hqo4)
  have iq5 := iq5.ot o6 (Ne.symm hqo5)
  have cp := cp.keep (Tl.ot o6 (r6).some) (cp.1.wr o6 nao)
  have h := h0.le cp.1
  refine u_aload_n C dX2_copy_154 rfl ?_
  refine u_aload_n C dX2_copy_155 rfl ?_
  refine u_getF C (fl_X2_39.fl) (h.ob nm0) rfl dX2_copy_156 ?_
  refine u_putI C fl_X2_39 (ob) (Nat.le_of_ble_eq_true rfl) dX2_copy_159 (fun D7 o7 r7 => ?_)
  have ob : OB D7 o 2 [.ref (ad 1), .ref aw, .ref as, .ref qcq, .ref qlq, .int (P 34 0), .int (P 34 1), .int (P 34 2)] := r7
  have rw := rw.ot o7 (by rw [← ea.1]; exact n0 2 (by unfold dS; omega) (by decide))
  have rs := rs.ot o7 (by rw [← ea.2]; exact n0 3 (by unfold dS; omega) (by decide))
  have iw : ∀ w, w < mWs P → IA g D7 (ad' (10 + w)) 4 (rW P w) := fun w hw => (iw w hw).ot o7 (n0 _ (by unfold dS; omega) (by omega))
  have is : ∀ k, k < mSh P → ∃ f, IA g D7 (ad' (20 + k)) 4 f ∧ RS P k f := fun k hk => by
    obtain ⟨f, a1, a2⟩ := is k hk
    exact ⟨f, a1.ot o7 (n0 _ (by unfold dS; omega) (by omega)), a2⟩
  have iq4 := iq4.ot o7 (Ne.symm hqo4)
  have iq5 := iq5.ot o7 (Ne.symm hqo5)
  have cp := cp.keep (Tl.ot o7 (r7).some) (cp.1.wr o7 nao)
  have h := h0.le cp.1
  refine u_aload_n C dX2_copy_162 rfl ?_
  have e4 : aN (aN ad' 4 qcq) 5 qlq 4 = qcq := by rw [aN_ne (by decide), aN_eq]
  have e5 : aN (aN ad' 4 qcq) 5 qlq 5 = qlq := aN_eq _ _ _
  have ex : ∀ x, x ≠ 4 → x ≠ 5 → aN (aN ad' 4 qcq) 5 qlq x = ad' x := fun x h4 h5 => by rw [aN_ne h5, aN_ne h4]
  generalize hA : aN (aN ad' 4 qcq) 5 qlq = A at cp e4 e5 ex
  have hsu : ∀ i, su (mWs P) (mSh P) i → (i = 5 ∨ i = 4 ∨ dS (mWs P) (mSh P) i) := fun i hi => by unfold su at hi; unfold dS; omega
  have sm : SM g D7 A P c [] := SM.mk' h0.n (fun i j hi hj e => cp.2.1.1 i j (hsu i hi) (hsu j hj) e)
    (by rw [cp.2.2.1.2, cp.2.2.1.1, ex 2 (by decide) (by decide), ex 3 (by decide) (by decide), e4, e5, ea.1, ea.2]; exact ob)
    (by rw [cp.2.2.1.1]; exact h.snow nm0)
    (by rw [ex 2 (by decide) (by decide), ea.1]; exact rw.ext (fun w hw => by rw [ex _ (by omega) (by omega)]))
    (by rw [ex 3 (by decide) (by decide), ea.2]; exact rs.ext (fun w hw => by rw [ex _ (by omega) (by omega)]))
    (by rw [e4]; exact iq4) (by rw [e5]; exact iq5) (fun w hw => by rw [ex _ (by omega) (by omega)]; exact iw w hw) (fun k hk => by rw [ex _ (by omega) (by omega)]; exact is k hk)
  have fin9 : R (some (.ref o)) M D7 := hR _ A cp.2.2.1.2 cp.2.2.1.1 sm cp.1 (fun i hi h1 => cp.2.2.2 i (hsu i hi) h1)
  exact u_aret C (Or.inl ⟨_, rfl⟩) hq ⟨by show 18 + mSh P + 1 + 1 ≤ 60; omega, by show 100 + 5 * mSh P + 2 + 2 ≤ 310; omega⟩ dX2_copy_163 (fin9)
set_option maxHeartbeats 1000000 in
set_option maxRecDepth 100000 in
theorem qs_copy_m {X : XT} {l : Launch} {g : GT} {R : Option Value → Mem → DM → Prop} {M : Mem} {D0 : DM} {ad : Nat → Nat} {P : Mem} {c : Nat → Int32} {o : Nat} (h0 : SM g D0 ad P c []) {D : DM} {ad' : Nat → Nat} {aw a3 a4 a5 : Nat} (cp : CP D0 D ad ad' (dW (mWs P)) o) (ea : ad' 2 = aw) (ob : OB D o 2 [.ref (ad 1), .ref aw, .ref a3, .ref a4, .ref a5, .int 0, .int 0, .int 0]) (rw : RA g D aw (mWs P) (fun w => some (ad' (10 + w)))) (iw : (∀ w, w < mWs P → IA g D (ad' (10 + w)) 4 (rW P w))) (hR : ∀ (D1 : DM) (A : Nat → Nat), A 0 = o → A 1 = ad 1 → SM g D1 A P c [] → Le D0 D1 → (∀ i, su (mWs P) (mSh P) i → i ≠ 1 → D0 (A i) = none) → R (some (.ref o)) M D1) (C : Cx X g l cX2_copy 3 RX2 (some (.object "CanyonEchoesLaw$Sim")) rmX2_copy) (hq : RU X g rmX2_copy R) : UX X g 17 100 63 [(1, .ref o), (0, .ref (ad 0))] [] M D := by
  have h := h0.le cp.1
  have hn := h0.n
  have n0 : ∀ x, dW (mWs P) x → x ≠ 0 → ad' x ≠ o := fun x hx h1 e => h1 (cp.2.1.1 x 0 hx (by unfold dW; omega) (by rw [e, cp.2.2.1.2]))
  have nao : D0 o = none := by rw [← cp.2.2.1.2]; exact cp.2.2.2 0 (by unfold dW; omega) (by decide)
  refine u_aload_n C dX2_copy_63 rfl ?_
  refine u_aload_n C dX2_copy_64 rfl ?_
  refine u_getF C fl_X2_18 (h.ob nm0) rfl dX2_copy_65 ?_
  refine u_ralen C (h.shouts nm0) dX2_copy_68 ?_
  refine u_newR C (by decide +kernel) (N := mSh P) (rfl) (by omega) ⟨by decide, by show 100 + mSh P ≤ 310; omega⟩ dX2_copy_69 (fun qos D1 z1 o1 r1 => ?_)
  have hle := Le.ot o1 z1
  have hqo : o ≠ qos := fun e => ob.some (by rw [e]; exact z1)
  have ob := ob.le hle
  have rw := rw.le hle
  have iw : ∀ w, w < mWs P → IA g D1 (ad' (10 + w)) 4 (rW P w) := fun w hw => (iw w hw).le hle
  have rs := r1
  have cp := cp.add (t := 3) z1 (Tl.ot o1 (r1).some) (r1).some (cp.1.tr hle) (dm' := dS (mWs P) 0) (fun x hx => by unfold dS at hx; unfold dW; omega) (by unfold dW; omega) (by omega)
  have h := h0.le cp.1
  refine u_putR C fn_X2_18 (ob) (Nat.le_of_ble_eq_true rfl) dX2_copy_72 (fun D2 o2 r2 => ?_)
  have ob : OB D2 o 2 [.ref (ad 1), .ref aw, .ref qos, .ref a4, .ref a5, .int 0, .int 0, .int 0] := r2
  have rw := rw.ot o2 (by rw [← ea]; exact n0 2 (by unfold dW; omega) (by decide))
  have iw : ∀ w, w < mWs P → IA g D2 (ad' (10 + w)) 4 (rW P w) := fun w hw => (iw w hw).ot o2 (n0 _ (by unfold dW; omega) (by omega))
  have rs := rs.ot o2 (Ne.symm hqo)
  have cp := cp.keep (Tl.ot o2 (r2).some) (cp.1.wr o2 nao)
  have h := h0.le cp.1
  refine u_iconst C (v := 0) dX2_copy_75 (by decide) ?_
  refine u_istore_n C (lo' := [(2, _), (1, _), (0, _)]) dX2_copy_76 (by decide) rfl ?_
  exact u_lsub [0, 1, 2] rfl (qs_copy_l2 h0 (fun D1 A cp1 ea1 ob1 rw1 rs1 iw1 is1 => qs_copy_e h0 cp1 ea1 ob1 rw1 rs1 iw1 is1 hR C hq) C hq (mSh P + 1) 0 _ _ (Nat.zero_le _) (by omega) cp ⟨by rw [aN_ne (by decide)]; exact ea, aN_eq _ _ _⟩ ob (rw.ext (fun w hw => by rw [aN_ne (by omega)])) (rs.ext (fun k hk => by rw [if_neg (by omega)])) (fun w hw => by rw [aN_ne (by omega)]; exact iw w hw) (fun k hk => absurd hk (by omega)))
set_option maxHeartbeats 1000000 in
set_option maxRecDepth 100000 in
theorem qs_copy (l : Launch) (g : GT) (M : Mem) (D : DM) {ad : Nat → Nat} {P : Mem} {c : Nat → Int32} (h0 : SM g D ad P c []) : CU l yX2_copy cX2_copy 3 (some (.object "CanyonEchoesLaw$Sim")) rmX2_copy g M D [.ref (ad 0)] (fun r M1 D1 => M1 = M ∧ ∃ ad', r = some (.ref (ad' 0)) ∧ ad' 1 = ad 1 ∧ SM g D1 ad' P c [] ∧ Le D D1 ∧ ∀ i, su (mWs P) (mSh P) i → i ≠ 1 → D (ad' i) = none) := by
  refine CU.of (by decide) (Nat.le_of_ble_eq_true rfl) (fun X C hq => ?_)
  have C : Cx X g l cX2_copy 3 RX2 (some (.object "CanyonEchoesLaw$Sim")) rmX2_copy := C
  show UX X g 0 0 0 [(0, .ref (ad 0))] [] M D
  have hn := h0.n
  refine u_new C nw_X2_8 ⟨by decide, by decide⟩ dX2_copy_0 (fun qo D1 z1 o1 r1 => ?_)
  have hle := Le.ot o1 z1
  have ob := r1
  have hzo := z1
  have h := h0.le hle
  refine u_dup C dX2_copy_3 rfl ?_
  refine u_callI C (qs_init l g M _ ob) cd_X2_init rfl ki_X2_27 (as := []) rfl rfl ⟨⟨by decide, by decide⟩, by decide, by decide⟩ (Nat.le_of_ble_eq_true rfl) dX2_copy_4 (fun v9 M9 D9 e9 => ?_)
  obtain ⟨rfl, rfl, a1, a2, a3, a4, a5, n9⟩ := e9
  obtain ⟨ob, -, i2, i3, i4, i5, -, -, n10⟩ := n9
  have hle : Le D D9 := fun q e x => n10 q e (fun w => by subst w; rw [hzo] at x; cases x) (hle q e x)
  have h := h0.le hle
  show UX X g 6 44 7 [(0, .ref (ad 0))] [.ref qo] M9 D9
  refine u_astore_n C (lo' := [(1, _), (0, _)]) dX2_copy_7 (by decide) rfl ?_
  refine u_aload_n C dX2_copy_8 rfl ?_
  refine u_aload_n C dX2_copy_9 rfl ?_
  refine u_getF C fl_X2_7 (h.ob nm0) rfl dX2_copy_10 ?_
  refine u_putR C fn_X2_7 (ob) (Nat.le_of_ble_eq_true rfl) dX2_copy_13 (fun D2 o2 r2 => ?_)
  have ob : OB D2 qo 2 [.ref (ad 1), .ref a2, .ref a3, .ref a4, .ref a5, .int 0, .int 0, .int 0] := r2
  have hle := hle.wr o2 hzo
  have h := h0.le hle
  refine u_aload_n C dX2_copy_16 rfl ?_
  refine u_aload_n C dX2_copy_17 rfl ?_
  refine u_getF C fl_X2_14 (h.ob nm0) rfl dX2_copy_18 ?_
  refine u_ralen C (h.walls nm0) dX2_copy_21 ?_
  refine u_newR C (by decide +kernel) (N := mWs P) (rfl) (by omega) ⟨by decide, by show 44 + mWs P ≤ 310; omega⟩ dX2_copy_22 (fun qow D3 z3 o3 r3 => ?_)
  have hlw := Le.ot o3 z3
  have nqw : D qow = none := hle.none z3
  have hqo : qo ≠ qow := fun e => ob.some (by rw [e]; exact z3)
  have ob := ob.le hlw
  have rw := r3
  have hle := hle.tr hlw
  have h := h0.le hle
  refine u_putR C fn_X2_14 (ob) (Nat.le_of_ble_eq_true rfl) dX2_copy_25 (fun D4 o4 r4 => ?_)
  have ob : OB D4 qo 2 [.ref (ad 1), .ref qow, .ref a3, .ref a4, .ref a5, .int 0, .int 0, .int 0] := r4
  have rw := rw.ot o4 (Ne.symm hqo)
  have hle := hle.wr o4 hzo
  have h := h0.le hle
  have n1o : ad 1 ≠ qo := fun e => h0.told (su_c (i := 1) (by omega)) nm0 (by rw [e]; exact hzo)
  have n1w : ad 1 ≠ qow := fun e => h0.told (su_c (i := 1) (by omega)) nm0 (by rw [e]; exact nqw)
  have cp : CP D D4 ad (fun i => if i = 0 then qo else if i = 2 then qow else ad 1) (dW 0) qo := by
    refine ⟨hle, ⟨fun i j hi hj e => ?_, fun i hi => ?_⟩, ⟨rfl, rfl⟩, fun x hx h1 => ?_⟩
    · have hi3 : i = 0 ∨ i = 1 ∨ i = 2 := by unfold dW at hi; omega
      have hj3 : j = 0 ∨ j = 1 ∨ j = 2 := by unfold dW at hj; omega
      rcases hi3 with rfl | rfl | rfl <;> rcases hj3 with rfl | rfl | rfl <;> first | rfl | exact absurd e n1o | exact absurd e.symm n1o | exact absurd e n1w | exact absurd e.symm n1w | exact absurd e hqo | exact absurd e.symm hqo
    · have hi3 : i = 0 ∨ i = 1 ∨ i = 2 := by unfold dW at hi; omega
      rcases hi3 with rfl | rfl | rfl
      · exact ob.some
      · exact h.told (su_c (i := 1) (by omega)) nm0
      · exact rw.some
    · have hi3 : x = 0 ∨ x = 2 := by unfold dW at hx; omega
      rcases hi3 with rfl | rfl
      · exact hzo
      · exact nqw
  refine u_iconst C (v := 0) dX2_copy_28 (by decide) ?_
  refine u_istore_n C (lo' := [(2, _), (1, _), (0, _)]) dX2_copy_29 (by decide) rfl ?_
  refine u_widen (kc' := 7) (ks' := 60) (by omega) (by show 44 + mWs P ≤ 60; omega) ?_
  exact u_lsub [0, 1, 2] rfl (qs_copy_l1 h0 (fun D1 A cp1 ea1 ob1 rw1 iw1 => qs_copy_m h0 cp1 ea1 ob1 rw1 iw1 (fun D2 A2 b0 b1 b2 b3 b4 => ⟨rfl, A2, by rw [b0], b1, b2, b3, b4⟩) C hq) C hq (mWs P + 1) 0 _ _ (Nat.zero_le _) (by omega) cp rfl ob (rw.ext (fun k hk => by rw [if_neg (by omega)])) (fun w hw => absurd hw (by omega)))
