/-! The law's body: a beat, what was before it. -/
def FL4 (Q : Mem) (f5 f4 f3 f2 : Nat → Int32) (k : Nat) : Prop := ∀ i, i < k → f5 i = mPl Q i ∧ f4 i = Q 34 (27 + i) ∧ f3 i = Q 34 (147 + i) ∧ f2 i = b2i (mRt Q i)
theorem FL4.add {Q : Mem} {f5 f4 f3 f2 : Nat → Int32} {k : Nat} (h : FL4 Q f5 f4 f3 f2 k) : FL4 Q (upd f5 k (mPl Q k)) (upd f4 k (Q 34 (27 + k))) (upd f3 k (Q 34 (147 + k))) (upd f2 k (b2i (mRt Q k))) (k + 1) := fun i hi => by
  by_cases c : i = k
  · subst c
    rw [upd_eq, upd_eq, upd_eq, upd_eq]
    exact ⟨rfl, rfl, rfl, rfl⟩
  · rw [upd_ne c, upd_ne c, upd_ne c, upd_ne c]
    exact h i (by omega)
set_option maxHeartbeats 1000000 in
set_option maxRecDepth 100000 in
theorem q_b_l2 {X : XT} {l : Launch} {g : GT} {b t : Nat} {x : Int32}  {ad : Nat → Nat} {Q : Mem} {nb th qq jj q20 q24 : Nat} {v19 v21 hv : Int32} {L0 : List AE} {kc ks : Nat} (hk : kc ≤ 55000 ∧ ks ≤ 850000) {qa ql qt qr qo qs : Nat} {f2 f3 f4 f5 : Nat → Int32} {M : Mem} (li : LI nb M Q) (hK : ∀ (D : DM), SP g D ad Q → AR g D (mWs Q) (mSh Q) ad ((qs, 2, .inl (fun e => Q 34 (5 + e))) :: (qo, mWs Q, .inl (owF Q)) :: (qr, mSh Q, .inr f2) :: (qt, mSh Q, .inl f3) :: (ql, mSh Q, .inl f4) :: (qa, mSh Q, .inl f5) :: L0) → UX X g (kc) (ks) 920 [(0, .ref b), (1, .ref (ga g 0)), (2, .ref (ad 0)), (3, .int (nI t)), (4, .int x), (7, .int (nI (mSh Q))), (8, .int (nI (mWs Q))), (14, .int (nI th)), (19, .int v19), (20, .ref q20), (21, .int v21), (22, .int (nI qq)), (23, .int hv), (24, .ref q24), (25, .int (nI jj)), (26, .ref qa), (27, .ref ql), (28, .ref qt), (29, .ref qr), (30, .ref qo), (31, .ref qs)] [] M D) (C : Cx X g l cL_law 39 RL (some .boolean) room_1) : ∀ (n w : Nat) (D : DM) (f1 : Nat → Int32), w ≤ mWs Q → mWs Q + 1 ≤ w + n → (∀ i, i < w → f1 i = owF Q i) → SP g D ad Q → AR g D (mWs Q) (mSh Q) ad ((qs, 2, .inl (fun e => Q 34 (5 + e))) :: (qo, mWs Q, .inl f1) :: (qr, mSh Q, .inr f2) :: (qt, mSh Q, .inl f3) :: (ql, mSh Q, .inl f4) :: (qa, mSh Q, .inl f5) :: L0) → UX X g (kc) (ks) 896 [(0, .ref b), (1, .ref (ga g 0)), (2, .ref (ad 0)), (3, .int (nI t)), (4, .int x), (7, .int (nI (mSh Q))), (8, .int (nI (mWs Q))), (14, .int (nI th)), (19, .int v19), (20, .ref q20), (21, .int v21), (22, .int (nI qq)), (23, .int hv), (24, .ref q24), (25, .int (nI jj)), (26, .ref qa), (27, .ref ql), (28, .ref qt), (29, .ref qr), (30, .ref qo), (31, .ref qs), (32, .int (nI w))] [] M D := by
  intro n
  induction n with
  | zero =>
    intro w D f1 h1 h2; omega
  | succ n ih =>
    intro w D f1 h1 h2 hf h A
    have hn := h.n
    refine u_iload C dL_law_896 rfl ?_
    refine u_iload C dL_law_898 rfl ?_
    refine u_icmp_ge C (tgt := 920) dL_law_900 (by decide) (fun c900 => ?_) (fun c900 => ?_)
    · have he : w = mWs Q := Nat.le_antisymm h1 ((nI_leI (a := mWs Q) (b := w) (by omega) (by omega)).mp c900)
      exact u_lsub [0, 1, 2, 3, 4, 5, 6, 7, 8, 9, 10, 11, 12, 13, 14, 15, 16, 17, 18, 19, 20] rfl (hK D h (A.xi (k := 1) rfl (fun j hj => hf j (by omega))))
    · have hlt : w < mWs Q := Nat.lt_of_not_le (fun z => c900 ((nI_leI (a := mWs Q) (b := w) (by omega) (by omega)).mpr z))
      refine u_aload C dL_law_903 rfl ?_
      refine u_iload C dL_law_905 rfl ?_
      refine u_aload_n C dL_law_907 rfl ?_
      refine u_iload C dL_law_908 rfl ?_
      refine u_callC0 C (fun B => k_ownerOf li hlt B) cd_X1_ownerOf kl_L_149 ci1 rfl (by decide) (as := [_]) rfl rfl (rm_l ⟨by decide, by decide⟩ ⟨by decide, by decide⟩ (by omega)) ⟨rfl, rfl⟩ (Nat.le_of_ble_eq_true rfl) dL_law_910 ?_
      refine u_iast C (A.i (k := 1) rfl) rfl hlt (by omega) dL_law_913 (fun D1 o1 r1 => ?_)
      have h := h.ar A (k := 1) rfl o1
      have A := A.si (k := 1) rfl o1 r1
      have hf2 : ∀ i, i < w + 1 → upd f1 w (Q 34 (7 + w)) i = owF Q i := fun i hi => by
        by_cases c : i = w
        · subst c
          exact upd_eq _ _ _
        · rw [upd_ne c]
          exact hf i (by omega)
      refine u_iinc C (v := nI (w + 1)) (lo' := [(32, _), (0, _), (1, _), (2, _), (3, _), (4, _), (7, _), (8, _), (14, _), (19, _), (20, _), (21, _), (22, _), (23, _), (24, _), (25, _), (26, _), (27, _), (28, _), (29, _), (30, _), (31, _)]) dL_law_914 rfl (nI_inc _) (by decide) rfl ?_
      refine u_goto C (tgt := 896) dL_law_917 (by decide) ?_
      exact u_lsub [1, 2, 3, 4, 5, 6, 7, 8, 9, 10, 11, 12, 13, 14, 15, 16, 17, 18, 19, 20, 21, 0] rfl (ih (w + 1) _ (upd f1 w (Q 34 (7 + w))) hlt (by omega) hf2 h A)
set_option maxHeartbeats 1000000 in
set_option maxRecDepth 100000 in
theorem q_b_l1 {X : XT} {l : Launch} {g : GT} {b t : Nat} {x : Int32}  {ad : Nat → Nat} {Q : Mem} {nb th qq jj q20 q24 : Nat} {v19 v21 hv : Int32} {L0 : List AE} {kc ks : Nat} (hk : kc ≤ 55000 ∧ ks ≤ 850000) {qa ql qt qr qo qs : Nat} {M : Mem} (li : LI nb M Q) (hK : ∀ (D : DM) (f5 f4 f3 f2 : Nat → Int32), FL4 Q f5 f4 f3 f2 (mSh Q) → SP g D ad Q → AR g D (mWs Q) (mSh Q) ad ((qs, 2, .inl (fun e => Q 34 (5 + e))) :: (qo, mWs Q, .inl (fun _ => 0)) :: (qr, mSh Q, .inr f2) :: (qt, mSh Q, .inl f3) :: (ql, mSh Q, .inl f4) :: (qa, mSh Q, .inl f5) :: L0) → UX X g (kc) (ks) 896 [(0, .ref b), (1, .ref (ga g 0)), (2, .ref (ad 0)), (3, .int (nI t)), (4, .int x), (7, .int (nI (mSh Q))), (8, .int (nI (mWs Q))), (14, .int (nI th)), (19, .int v19), (20, .ref q20), (21, .int v21), (22, .int (nI qq)), (23, .int hv), (24, .ref q24), (25, .int (nI jj)), (26, .ref qa), (27, .ref ql), (28, .ref qt), (29, .ref qr), (30, .ref qo), (31, .ref qs), (32, .int (nI 0))] [] M D) (C : Cx X g l cL_law 39 RL (some .boolean) room_1) : ∀ (n k : Nat) (D : DM) (f5 f4 f3 f2 : Nat → Int32), k ≤ mSh Q → mSh Q + 1 ≤ k + n → FL4 Q f5 f4 f3 f2 k → SP g D ad Q → AR g D (mWs Q) (mSh Q) ad ((qs, 2, .inl (fun e => Q 34 (5 + e))) :: (qo, mWs Q, .inl (fun _ => 0)) :: (qr, mSh Q, .inr f2) :: (qt, mSh Q, .inl f3) :: (ql, mSh Q, .inl f4) :: (qa, mSh Q, .inl f5) :: L0) → UX X g (kc) (ks) 836 [(0, .ref b), (1, .ref (ga g 0)), (2, .ref (ad 0)), (3, .int (nI t)), (4, .int x), (7, .int (nI (mSh Q))), (8, .int (nI (mWs Q))), (14, .int (nI th)), (19, .int v19), (20, .ref q20), (21, .int v21), (22, .int (nI qq)), (23, .int hv), (24, .ref q24), (25, .int (nI jj)), (26, .ref qa), (27, .ref ql), (28, .ref qt), (29, .ref qr), (30, .ref qo), (31, .ref qs), (32, .int (nI k))] [] M D := by
  intro n
  induction n with
  | zero =>
    intro k D f5 f4 f3 f2 h1 h2; omega
  | succ n ih =>
    intro k D f5 f4 f3 f2 h1 h2 hf h A
    have hn := h.n
    refine u_iload C dL_law_836 rfl ?_
    refine u_iload C dL_law_838 rfl ?_
    refine u_icmp_ge C (tgt := 893) dL_law_840 (by decide) (fun c840 => ?_) (fun c840 => ?_)
    · have he : k = mSh Q := Nat.le_antisymm h1 ((nI_leI (a := mSh Q) (b := k) (by omega) (by omega)).mp c840)
      refine u_iconst C (v := 0) dL_law_893 (by decide) ?_
      refine u_istore C (lo' := [(32, _), (0, _), (1, _), (2, _), (3, _), (4, _), (7, _), (8, _), (14, _), (19, _), (20, _), (21, _), (22, _), (23, _), (24, _), (25, _), (26, _), (27, _), (28, _), (29, _), (30, _), (31, _)]) dL_law_894 (by decide) rfl ?_
      exact u_lsub [1, 2, 3, 4, 5, 6, 7, 8, 9, 10, 11, 12, 13, 14, 15, 16, 17, 18, 19, 20, 21, 0] rfl (hK D f5 f4 f3 f2 (by rw [← he]; exact hf) h A)
    · have hlt : k < mSh Q := Nat.lt_of_not_le (fun z => c840 ((nI_leI (a := mSh Q) (b := k) (by omega) (by omega)).mpr z))
      refine u_aload C dL_law_843 rfl ?_
      refine u_iload C dL_law_845 rfl ?_
      refine u_aload_n C dL_law_847 rfl ?_
      refine u_iload C dL_law_848 rfl ?_
      refine u_callC0 C (fun B => k_placeOf li hlt B) cd_X1_placeOf kl_L_95 ci1 rfl (by decide) (as := [_]) rfl rfl (rm_l ⟨by decide, by decide⟩ ⟨by decide, by decide⟩ (by omega)) ⟨rfl, rfl⟩ (Nat.le_of_ble_eq_true rfl) dL_law_850 ?_
      refine u_iast C (A.i (k := 5) rfl) rfl hlt (by omega) dL_law_853 (fun D1 o1 r1 => ?_)
      have h := h.ar A (k := 5) rfl o1
      have A := A.si (k := 5) rfl o1 r1
      refine u_aload C dL_law_854 rfl ?_
      refine u_iload C dL_law_856 rfl ?_
      refine u_aload_n C dL_law_858 rfl ?_
      refine u_iload C dL_law_859 rfl ?_
      refine u_callC0 C (fun B => k_loudnessOf li hlt B) cd_X1_loudnessOf kl_L_92 ci1 rfl (by decide) (as := [_]) rfl rfl (rm_l ⟨by decide, by decide⟩ ⟨by decide, by decide⟩ (by omega)) ⟨rfl, rfl⟩ (Nat.le_of_ble_eq_true rfl) dL_law_861 ?_
      refine u_iast C (A.i (k := 4) rfl) rfl hlt (by omega) dL_law_864 (fun D2 o2 r2 => ?_)
      have h := h.ar A (k := 4) rfl o2
      have A := A.si (k := 4) rfl o2 r2
      refine u_aload C dL_law_865 rfl ?_
      refine u_iload C dL_law_867 rfl ?_
      refine u_aload_n C dL_law_869 rfl ?_
      refine u_iload C dL_law_870 rfl ?_
      refine u_callC0 C (fun B => k_turnsOf li hlt B) cd_X1_turnsOf kl_L_98 ci1 rfl (by decide) (as := [_]) rfl rfl (rm_l ⟨by decide, by decide⟩ ⟨by decide, by decide⟩ (by omega)) ⟨rfl, rfl⟩ (Nat.le_of_ble_eq_true rfl) dL_law_872 ?_
      refine u_iast C (A.i (k := 3) rfl) rfl hlt (by omega) dL_law_875 (fun D3 o3 r3 => ?_)
      have h := h.ar A (k := 3) rfl o3
      have A := A.si (k := 3) rfl o3 r3
      refine u_aload C dL_law_876 rfl ?_
      refine u_iload C dL_law_878 rfl ?_
      refine u_aload_n C dL_law_880 rfl ?_
      refine u_iload C dL_law_881 rfl ?_
      refine u_callC0 C (fun B => k_goesRight li hlt B) cd_X1_goesRight kl_L_101 ci1 rfl (by decide) (as := [_]) rfl rfl (rm_l ⟨by decide, by decide⟩ ⟨by decide, by decide⟩ (by omega)) ⟨rfl, rfl⟩ (Nat.le_of_ble_eq_true rfl) dL_law_883 ?_
      refine u_zast C (A.z (k := 2) rfl) rfl hlt (by omega)  nar_b dL_law_886 (fun D4 o4 r4 => ?_)
      have h := h.ar A (k := 2) rfl o4
      have A := A.sz (k := 2) rfl o4 r4
      refine u_iinc C (v := nI (k + 1)) (lo' := [(32, _), (0, _), (1, _), (2, _), (3, _), (4, _), (7, _), (8, _), (14, _), (19, _), (20, _), (21, _), (22, _), (23, _), (24, _), (25, _), (26, _), (27, _), (28, _), (29, _), (30, _), (31, _)]) dL_law_887 rfl (nI_inc _) (by decide) rfl ?_
      refine u_goto C (tgt := 836) dL_law_890 (by decide) ?_
      have A : AR g D4 (mWs Q) (mSh Q) ad ((qs, 2, .inl (fun e => Q 34 (5 + e))) :: (qo, mWs Q, .inl (fun _ => 0)) :: (qr, mSh Q, .inr (upd f2 k (b2i (mRt Q k)))) :: (qt, mSh Q, .inl (upd f3 k (Q 34 (147 + k)))) :: (ql, mSh Q, .inl (upd f4 k (Q 34 (27 + k)))) :: (qa, mSh Q, .inl (upd f5 k (mPl Q k))) :: L0) := A
      exact u_lsub [1, 2, 3, 4, 5, 6, 7, 8, 9, 10, 11, 12, 13, 14, 15, 16, 17, 18, 19, 20, 21, 0] rfl (ih (k + 1) _ _ _ _ _ hlt (by omega) hf.add h A)
set_option maxHeartbeats 1000000 in
set_option maxRecDepth 100000 in
theorem q_b_new {X : XT} {l : Launch} {g : GT} {b t : Nat} {x : Int32}  {ad : Nat → Nat} {Q : Mem} {nb th qq jj q20 q24 : Nat} {v19 v21 hv : Int32} {L0 : List AE} {kc ks : Nat} (hk : kc ≤ 50000 ∧ ks ≤ 800000) {M : Mem} {D : DM} (li : LI nb M Q) (h : SP g D ad Q) (A : AR g D (mWs Q) (mSh Q) ad L0) (hK : ∀ (D : DM) (qa ql qt qr qo qs : Nat), SP g D ad Q → AR g D (mWs Q) (mSh Q) ad ((qs, 2, .inl (fun e => Q 34 (5 + e))) :: (qo, mWs Q, .inl (fun _ => 0)) :: (qr, mSh Q, .inr (fun _ => 0)) :: (qt, mSh Q, .inl (fun _ => 0)) :: (ql, mSh Q, .inl (fun _ => 0)) :: (qa, mSh Q, .inl (fun _ => 0)) :: L0) → UX X g (kc + 6) (ks + 180) 836 [(0, .ref b), (1, .ref (ga g 0)), (2, .ref (ad 0)), (3, .int (nI t)), (4, .int x), (7, .int (nI (mSh Q))), (8, .int (nI (mWs Q))), (14, .int (nI th)), (19, .int v19), (20, .ref q20), (21, .int v21), (22, .int (nI qq)), (23, .int hv), (24, .ref q24), (25, .int (nI jj)), (26, .ref qa), (27, .ref ql), (28, .ref qt), (29, .ref qr), (30, .ref qo), (31, .ref qs), (32, .int (nI 0))] [] M D) (C : Cx X g l cL_law 39 RL (some .boolean) room_1) : UX X g (kc) (ks) 782 [(0, .ref b), (1, .ref (ga g 0)), (2, .ref (ad 0)), (3, .int (nI t)), (4, .int x), (7, .int (nI (mSh Q))), (8, .int (nI (mWs Q))), (14, .int (nI th)), (19, .int v19), (20, .ref q20), (21, .int v21), (22, .int (nI qq)), (23, .int hv), (24, .ref q24), (25, .int (nI jj))] [] M D := by
  have hn := h.n
  refine u_iload C dL_law_782 rfl ?_
  refine u_newI C (N := mSh Q) (rfl) (by omega) (rm_n (by omega) (by omega)) dL_law_784 (fun qat D1 z1 o1 r1 => ?_)
  have A := A.ni h.ts z1 o1 r1
  have h := h.le (Le.ot o1 z1)
  refine u_astore C (lo' := [(26, _), (0, _), (1, _), (2, _), (3, _), (4, _), (7, _), (8, _), (14, _), (19, _), (20, _), (21, _), (22, _), (23, _), (24, _), (25, _)]) dL_law_786 (by decide) rfl ?_
  refine u_iload C dL_law_788 rfl ?_
  refine u_newI C (N := mSh Q) (rfl) (by omega) (rm_n (by omega) (by omega)) dL_law_790 (fun qlouds D2 z2 o2 r2 => ?_)
  have A := A.ni h.ts z2 o2 r2
  have h := h.le (Le.ot o2 z2)
  refine u_astore C (lo' := [(27, _), (26, _), (0, _), (1, _), (2, _), (3, _), (4, _), (7, _), (8, _), (14, _), (19, _), (20, _), (21, _), (22, _), (23, _), (24, _), (25, _)]) dL_law_792 (by decide) rfl ?_
  refine u_iload C dL_law_794 rfl ?_
  refine u_newI C (N := mSh Q) (rfl) (by omega) (rm_n (by omega) (by omega)) dL_law_796 (fun qturned D3 z3 o3 r3 => ?_)
  have A := A.ni h.ts z3 o3 r3
  have h := h.le (Le.ot o3 z3)
  refine u_astore C (lo' := [(28, _), (27, _), (26, _), (0, _), (1, _), (2, _), (3, _), (4, _), (7, _), (8, _), (14, _), (19, _), (20, _), (21, _), (22, _), (23, _), (24, _), (25, _)]) dL_law_798 (by decide) rfl ?_
  refine u_iload C dL_law_800 rfl ?_
  refine u_newZ C (N := mSh Q) (rfl) (by omega) (rm_n (by omega) (by omega)) dL_law_802 (fun qright D4 z4 o4 r4 => ?_)
  have A := A.nz h.ts z4 o4 r4
  have h := h.le (Le.ot o4 z4)
  refine u_astore C (lo' := [(29, _), (28, _), (27, _), (26, _), (0, _), (1, _), (2, _), (3, _), (4, _), (7, _), (8, _), (14, _), (19, _), (20, _), (21, _), (22, _), (23, _), (24, _), (25, _)]) dL_law_804 (by decide) rfl ?_
  refine u_iload C dL_law_806 rfl ?_
  refine u_newI C (N := mWs Q) (rfl) (by omega) (rm_n (by omega) (by omega)) dL_law_808 (fun qowner D5 z5 o5 r5 => ?_)
  have A := A.ni h.ts z5 o5 r5
  have h := h.le (Le.ot o5 z5)
  refine u_astore C (lo' := [(30, _), (29, _), (28, _), (27, _), (26, _), (0, _), (1, _), (2, _), (3, _), (4, _), (7, _), (8, _), (14, _), (19, _), (20, _), (21, _), (22, _), (23, _), (24, _), (25, _)]) dL_law_810 (by decide) rfl ?_
  refine u_iconst C (v := 2) dL_law_812 (by decide) ?_
  refine u_newI C (N := 2) (rfl) (by decide) (rm_n (by omega) (by omega)) dL_law_813 (fun qsilent D6 z6 o6 r6 => ?_)
  have A := A.ni h.ts z6 o6 r6
  have h := h.le (Le.ot o6 z6)
  refine u_dup C dL_law_815 rfl ?_
  refine u_iconst C (v := 0) dL_law_816 (by decide) ?_
  refine u_aload_n C dL_law_817 rfl ?_
  refine u_iconst C (v := 0) dL_law_818 (by decide) ?_
  refine u_callC0 C (fun B => k_silentFor li (e := 0) (by decide) B) cd_X1_silentFor kl_L_128 ci1 rfl (by decide) (as := [_]) rfl rfl (rm_l ⟨by decide, by decide⟩ ⟨by decide, by decide⟩ (by omega)) ⟨rfl, rfl⟩ (Nat.le_of_ble_eq_true rfl) dL_law_819 ?_
  refine u_iast C (A.i (k := 0) rfl) rfl (by decide : 0 < 2) (by decide) dL_law_822 (fun D7 o7 r7 => ?_)
  have h := h.ar A (k := 0) rfl o7
  have A := A.si (k := 0) rfl o7 r7
  refine u_dup C dL_law_823 rfl ?_
  refine u_iconst C (v := 1) dL_law_824 (by decide) ?_
  refine u_aload_n C dL_law_825 rfl ?_
  refine u_iconst C (v := 1) dL_law_826 (by decide) ?_
  refine u_callC0 C (fun B => k_silentFor li (e := 1) (by decide) B) cd_X1_silentFor kl_L_128 ci1 rfl (by decide) (as := [_]) rfl rfl (rm_l ⟨by decide, by decide⟩ ⟨by decide, by decide⟩ (by omega)) ⟨rfl, rfl⟩ (Nat.le_of_ble_eq_true rfl) dL_law_827 ?_
  refine u_iast C (A.i (k := 0) rfl) rfl (by decide : 1 < 2) (by decide) dL_law_830 (fun D8 o8 r8 => ?_)
  have h := h.ar A (k := 0) rfl o8
  have A := A.si (k := 0) rfl o8 r8
  refine u_astore C (lo' := [(31, _), (30, _), (29, _), (28, _), (27, _), (26, _), (0, _), (1, _), (2, _), (3, _), (4, _), (7, _), (8, _), (14, _), (19, _), (20, _), (21, _), (22, _), (23, _), (24, _), (25, _)]) dL_law_831 (by decide) rfl ?_
  refine u_iconst C (v := 0) dL_law_833 (by decide) ?_
  refine u_istore C (lo' := [(32, _), (31, _), (30, _), (29, _), (28, _), (27, _), (26, _), (0, _), (1, _), (2, _), (3, _), (4, _), (7, _), (8, _), (14, _), (19, _), (20, _), (21, _), (22, _), (23, _), (24, _), (25, _)]) dL_law_834 (by decide) rfl ?_
  have A := A.xi (k := 0) (f' := fun e => Q 34 (5 + e)) rfl (fun j hj => by rcases (show j = 0 ∨ j = 1 by omega) with rfl | rfl <;> rfl)
  refine u_widen (kc' := kc + 6) (ks' := ks + 180) (by omega) (by omega) ?_
  exact u_lsub [7, 8, 9, 10, 11, 12, 13, 14, 15, 16, 17, 18, 19, 20, 21, 6, 5, 4, 3, 2, 1, 0] rfl (hK _ qat qlouds qturned qright qowner qsilent h A)
set_option maxHeartbeats 1000000 in
set_option maxRecDepth 100000 in
theorem q_b_pass {X : XT} {l : Launch} {g : GT} {b t : Nat} {x : Int32}  {ad : Nat → Nat} {Q : Mem} {nb th qq jj q20 q24 : Nat} {v19 v21 hv : Int32} {L0 : List AE} {kc ks : Nat} (hk : kc ≤ 55000 ∧ ks ≤ 850000) {qa ql qt qr qo qs : Nat} {f2 f3 f4 f5 : Nat → Int32} {M : Mem} {D : DM} (hnb : nb + 100 ≤ 100000) (li : LI nb M Q) (h : SP g D ad Q) (hf : FL4 Q f5 f4 f3 f2 (mSh Q)) (A : AR g D (mWs Q) (mSh Q) ad ((qs, 2, .inl (fun e => Q 34 (5 + e))) :: (qo, mWs Q, .inl (owF Q)) :: (qr, mSh Q, .inr f2) :: (qt, mSh Q, .inl f3) :: (ql, mSh Q, .inl f4) :: (qa, mSh Q, .inl f5) :: L0)) (hK : ∀ (M : Mem) (D : DM) (qc : Nat), LI (nb + 1) M (mBeat Q) → SP g D ad (mBeat Q) → AR g D (mWs Q) (mSh Q) ad ((qc, 2, .inl (fun e => Q 34 (3 + e))) :: (qs, 2, .inl (fun e => Q 34 (5 + e))) :: (qo, mWs Q, .inl (owF Q)) :: (qr, mSh Q, .inr (fun k => b2i (mRt Q k))) :: (qt, mSh Q, .inl (fun k => Q 34 (147 + k))) :: (ql, mSh Q, .inl (lvF Q)) :: (qa, mSh Q, .inl (mPl Q)) :: L0) → UX X g (kc + 3) (ks + 44) 973 [(0, .ref b), (1, .ref (ga g 0)), (2, .ref (ad 0)), (3, .int (nI t)), (4, .int x), (7, .int (nI (mSh Q))), (8, .int (nI (mWs Q))), (14, .int (nI th)), (19, .int v19), (20, .ref q20), (21, .int v21), (22, .int (nI qq)), (23, .int hv), (24, .ref q24), (25, .int (nI jj)), (26, .ref qa), (27, .ref ql), (28, .ref qt), (29, .ref qr), (30, .ref qo), (31, .ref qs), (32, .int (Q 34 1)), (33, .int (Q 34 2)), (34, .ref qc), (35, .int 0), (36, .int 0)] [] M D) (C : Cx X g l cL_law 39 RL (some .boolean) room_1) : UX X g (kc) (ks) 920 [(0, .ref b), (1, .ref (ga g 0)), (2, .ref (ad 0)), (3, .int (nI t)), (4, .int x), (7, .int (nI (mSh Q))), (8, .int (nI (mWs Q))), (14, .int (nI th)), (19, .int v19), (20, .ref q20), (21, .int v21), (22, .int (nI qq)), (23, .int hv), (24, .ref q24), (25, .int (nI jj)), (26, .ref qa), (27, .ref ql), (28, .ref qt), (29, .ref qr), (30, .ref qo), (31, .ref qs)] [] M D := by
  have hn := h.n
  have A := A.xz (k := 2) (f' := fun k => b2i (mRt Q k)) rfl (fun j hj => (hf j hj).2.2.2) 
  have A := A.xi (k := 3) (f' := fun k => Q 34 (147 + k)) rfl (fun j hj => (hf j hj).2.2.1)
  have A := A.xi (k := 4) (f' := lvF Q) rfl (fun j hj => (hf j hj).2.1)
  have A := A.xi (k := 5) (f' := mPl Q) rfl (fun j hj => (hf j hj).1)
  refine u_aload_n C dL_law_920 rfl ?_
  refine u_callC0 C (fun B => k_overlaps li  B) cd_X1_overlaps kl_L_152 ci1 rfl (by decide) (as := []) rfl rfl (rm_l ⟨by decide, by decide⟩ ⟨by decide, by decide⟩ (by omega)) ⟨rfl, rfl⟩ (Nat.le_of_ble_eq_true rfl) dL_law_921 ?_
  refine u_istore C (lo' := [(32, _), (0, _), (1, _), (2, _), (3, _), (4, _), (7, _), (8, _), (14, _), (19, _), (20, _), (21, _), (22, _), (23, _), (24, _), (25, _), (26, _), (27, _), (28, _), (29, _), (30, _), (31, _)]) dL_law_924 (by decide) rfl ?_
  refine u_aload_n C dL_law_926 rfl ?_
  refine u_callC0 C (fun B => k_inherited li  B) cd_X1_inherited kl_L_155 ci1 rfl (by decide) (as := []) rfl rfl (rm_l ⟨by decide, by decide⟩ ⟨by decide, by decide⟩ (by omega)) ⟨rfl, rfl⟩ (Nat.le_of_ble_eq_true rfl) dL_law_927 ?_
  refine u_istore C (lo' := [(33, _), (32, _), (0, _), (1, _), (2, _), (3, _), (4, _), (7, _), (8, _), (14, _), (19, _), (20, _), (21, _), (22, _), (23, _), (24, _), (25, _), (26, _), (27, _), (28, _), (29, _), (30, _), (31, _)]) dL_law_930 (by decide) rfl ?_
  refine u_iconst C (v := 2) dL_law_932 (by decide) ?_
  refine u_newI C (N := 2) (rfl) (by decide) (rm_n (by omega) (by omega)) dL_law_933 (fun qcoins D1 z1 o1 r1 => ?_)
  have A := A.ni h.ts z1 o1 r1
  have h := h.le (Le.ot o1 z1)
  refine u_dup C dL_law_935 rfl ?_
  refine u_iconst C (v := 0) dL_law_936 (by decide) ?_
  refine u_aload_n C dL_law_937 rfl ?_
  refine u_iconst C (v := 0) dL_law_938 (by decide) ?_
  refine u_callC0 C (fun B => k_coinsOf li (e := 0) (by decide) B) cd_X1_coinsOf kl_L_122 ci1 rfl (by decide) (as := [_]) rfl rfl (rm_l ⟨by decide, by decide⟩ ⟨by decide, by decide⟩ (by omega)) ⟨rfl, rfl⟩ (Nat.le_of_ble_eq_true rfl) dL_law_939 ?_
  refine u_iast C (A.i (k := 0) rfl) rfl (by decide : 0 < 2) (by decide) dL_law_942 (fun D2 o2 r2 => ?_)
  have h := h.ar A (k := 0) rfl o2
  have A := A.si (k := 0) rfl o2 r2
  refine u_dup C dL_law_943 rfl ?_
  refine u_iconst C (v := 1) dL_law_944 (by decide) ?_
  refine u_aload_n C dL_law_945 rfl ?_
  refine u_iconst C (v := 1) dL_law_946 (by decide) ?_
  refine u_callC0 C (fun B => k_coinsOf li (e := 1) (by decide) B) cd_X1_coinsOf kl_L_122 ci1 rfl (by decide) (as := [_]) rfl rfl (rm_l ⟨by decide, by decide⟩ ⟨by decide, by decide⟩ (by omega)) ⟨rfl, rfl⟩ (Nat.le_of_ble_eq_true rfl) dL_law_947 ?_
  refine u_iast C (A.i (k := 0) rfl) rfl (by decide : 1 < 2) (by decide) dL_law_950 (fun D3 o3 r3 => ?_)
  have h := h.ar A (k := 0) rfl o3
  have A := A.si (k := 0) rfl o3 r3
  refine u_astore C (lo' := [(34, _), (33, _), (32, _), (0, _), (1, _), (2, _), (3, _), (4, _), (7, _), (8, _), (14, _), (19, _), (20, _), (21, _), (22, _), (23, _), (24, _), (25, _), (26, _), (27, _), (28, _), (29, _), (30, _), (31, _)]) dL_law_951 (by decide) rfl ?_
  refine u_aload_n C dL_law_953 rfl ?_
  refine u_iconst C (v := 1) dL_law_954 (by decide) ?_
  refine u_callC0 C (fun B => (by
    have z := q1_pass l (B, g.2) M li.ok (nI 1) ⟨by decide, by decide⟩
    rw [tn_nI (by omega)] at z
    exact z)) cd_X1_pass kl_L_64 ci1 rfl (by decide) (as := [_]) rfl rfl (rm_l ⟨by decide, by decide⟩ ⟨by decide, by decide⟩ (by omega)) ⟨rfl, rfl⟩ (Nat.le_of_ble_eq_true rfl) dL_law_955 ?_
  refine u_aload_n C dL_law_958 rfl ?_
  refine u_callV C (qs_pass l g _ _ li.pk h) cd_X2_pass kl_L_158 ci2 (h.ob nm0) (as := []) rfl rfl (rm_l ⟨by decide, by decide⟩ ⟨by decide, by decide⟩ (by omega)) (Nat.le_of_ble_eq_true rfl) dL_law_959 (fun v9 M9 D9 e9 => ?_)
  obtain ⟨rfl, em, h9, f9⟩ := e9
  have em := em.symm
  subst em
  have l9 := li.beats 1 (by omega)
  have e1 : cBeats 1 M 1 9 0 = mBeat Q 34 3 := (l9.1.1.2.2.2.1 0 (by omega)).1
  have e2 : cBeats 1 M 1 9 1 = mBeat Q 34 4 := (l9.1.1.2.2.2.1 1 (by omega)).1
  have e3 : M 9 0 = Q 34 3 := (li.1.1.2.2.2.1 0 (by omega)).1
  have e4 : M 9 1 = Q 34 4 := (li.1.1.2.2.2.1 1 (by omega)).1
  have ee : cBeats 1 M 1 9 0 + cBeats 1 M 1 9 1 - (M 9 0 + M 9 1) = mGt Q := by
    unfold mGt
    rw [e1, e2, e3, e4]
    grind
  refine u_widen (kc' := kc + 3) (ks' := ks + 44) (by show _ + 2 ≤ _; omega) (by show _ + 42 ≤ _; omega) ?_
  rw [show Option.toList (some (Value.int (mGt Q))) = [Value.int (mGt Q)] from rfl, ee]
  refine u_icmp_eq C (tgt := 967) dL_law_962 (by decide) (fun c962 => ?_) (fun c962 => absurd rfl c962)
  refine u_iconst C (v := 0) dL_law_967 (by decide) ?_
  refine u_istore C (lo' := [(35, _), (34, _), (33, _), (32, _), (0, _), (1, _), (2, _), (3, _), (4, _), (7, _), (8, _), (14, _), (19, _), (20, _), (21, _), (22, _), (23, _), (24, _), (25, _), (26, _), (27, _), (28, _), (29, _), (30, _), (31, _)]) dL_law_968 (by decide) rfl ?_
  refine u_iconst C (v := 0) dL_law_970 (by decide) ?_
  refine u_istore C (lo' := [(36, _), (35, _), (34, _), (33, _), (32, _), (0, _), (1, _), (2, _), (3, _), (4, _), (7, _), (8, _), (14, _), (19, _), (20, _), (21, _), (22, _), (23, _), (24, _), (25, _), (26, _), (27, _), (28, _), (29, _), (30, _), (31, _)]) dL_law_971 (by decide) rfl ?_
  have A := A.xi (k := 0) (f' := fun e => Q 34 (3 + e)) rfl (fun j hj => by rcases (show j = 0 ∨ j = 1 by omega) with rfl | rfl <;> rfl)
  have A := A.fr f9
  exact u_lsub [5, 6, 7, 8, 9, 10, 11, 12, 13, 14, 15, 16, 17, 18, 19, 20, 21, 22, 23, 24, 25, 4, 3, 2, 1, 0] rfl (hK _ D9 qcoins l9 h9 A)
