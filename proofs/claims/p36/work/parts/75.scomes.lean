/-! The law's own helpers: comes, below. -/
def Cms (Q : Mem) (th : Int32) : Prop := ∃ t, 0 < t ∧ (∀ j, j ≤ t → 0 < mBeats Q j 34 27) ∧ mBeats Q t 34 67 = th
abbrev rmL_comes : Room := { frames := 4, cells := 270, slots := 4800, locals := 150 }
set_option maxHeartbeats 1000000 in
set_option maxRecDepth 100000 in
theorem qL_comes_lp {X : XT} {l : Launch} {g : GT} {R : Option Value → Mem → DM → Prop} {M : Mem} {D0 : DM} {A : Nat → Nat} {Q : Mem} (pq : PK Q) (hq1 : mSh Q = 1) (z : ∀ i, su (mWs Q) 1 i → i ≠ 1 → D0 (A i) = none) {th : Int32} (hR0 : ∀ {D : DM}, Le D0 D → ¬ Cms Q th → R (some (.int 0)) M D) (hR1 : ∀ {D : DM}, Le D0 D → Cms Q th → R (some (.int 1)) M D) (C : Cx X g l cL_comes 6 RL (some .boolean) rmL_comes) (hq : RU X g rmL_comes R) : ∀ (n t : Nat) (D : DM), (mBeats Q t 34 27).toInt + t ≤ 99 ∧ 100 ≤ t + n → SP g D A (mBeats Q t) → Le D0 D → (∀ j, j < t → 0 < mBeats Q j 34 27) → (∀ j, 0 < j → j ≤ t → 0 < mBeats Q j 34 27 → mBeats Q j 34 67 ≠ th) → UX X g (62 + 2 * t) (315 + 42 * t) 18 [(5, .ref (A 0)), (3, .int th)] [] M D := by
  intro n
  induction n with
  | zero =>
    intro t D ht h hle hal hno
    exact absurd ht.1 (by
      obtain ⟨pt, n1, n2⟩ := mBeats_pk pq t
      have := i_le.mp (pt.lv (k := 0) (by omega)).1.1
      rw [i_c0] at this
      have e7 : (mBeats Q t 34 (27 + 0)).toInt = (mBeats Q t 34 27).toInt := rfl
      omega)
  | succ n ih =>
    intro t D ht h hle hal hno
    obtain ⟨pt, n1, n2⟩ := mBeats_pk pq t
    have hk0 : (0 : Nat) < mSh (mBeats Q t) := by omega
    have hl99 := (pt.lv hk0).1.2
    obtain ⟨f, r0, s0, s3, s1⟩ := h.srow hk0 nm0
    have s0 : f 0 = mBeats Q t 34 27 := s0
    have s3 : f 3 = mBeats Q t 34 147 := s3
    have s1 : 0 < mBeats Q t 34 27 → f 1 = mBeats Q t 34 67 ∧ f 2 = mBeats Q t 34 107 := s1
    have r0 := r0.qq
    rw [s0, s3] at r0
    refine u_aload C dL_comes_18 rfl ?_
    refine u_getF C fl_L_50 (h.ob nm0) rfl dL_comes_20 ?_
    refine u_iconst C (v := 0) dL_comes_23 (by decide) ?_
    refine u_aald C (h.shouts nm0) rfl hk0 (by omega) rfl dL_comes_24 ?_
    refine u_iconst C (v := 0) dL_comes_25 (by decide) ?_
    refine u_ialv C (r0) rfl (by decide) (by decide) (v := mBeats Q t 34 27) rfl dL_comes_26 ?_
    refine u_if_le C (tgt := 63) dL_comes_27 (by decide) (fun c27 => ?_) (fun c27 => ?_)
    · have hd : ¬ 0 < mBeats Q t 34 27 := Int32.not_lt.mpr c27
      have hnc : ¬ Cms Q th := fun ⟨t', p1, p2, p3⟩ => by
        by_cases e : t' < t
        · exact hno t' p1 (by omega) (p2 t' (Nat.le_refl _)) p3
        · exact hd (p2 t (by omega))
      have ht99 : t ≤ 99 := by have := i_le.mp (pt.lv hk0).1.1; rw [i_c0] at this; have e7 : (mBeats Q t 34 (27 + 0)).toInt = (mBeats Q t 34 27).toInt := rfl; omega
      refine u_iconst C (v := 0) dL_comes_63 (by decide) ?_
      exact u_zret C hq (by decide) ⟨by show 62 + 2 * t ≤ 270; omega, by show 315 + 42 * t ≤ 4800; omega⟩ dL_comes_64 ((hR0 hle hnc))
    · have hl := Int32.not_le.mp c27
      have hl2 := i_lt.mp hl
      rw [i_c0] at hl2
      refine u_aload C dL_comes_30 rfl ?_
      refine u_callV C (qs_pass l g M _ pt h) cd_X2_pass kl_L_158 ci2 (h.ob nm0) (as := []) rfl rfl ⟨⟨by decide, by decide⟩, by show 62 + 2 * t + 2 ≤ 270; omega, by show 315 + 42 * t + 42 ≤ 4800; omega⟩ (Nat.le_of_ble_eq_true rfl) dL_comes_32 (fun v9 M9 D9 e9 => ?_)
      obtain ⟨rfl, rfl, h9, f9⟩ := e9
      have bq := (beat_quieter pt hk0).2 hl
      have bq : 0 ≤ (mBeats Q (t + 1) 34 27).toInt ∧ (mBeats Q (t + 1) 34 27).toInt + 1 ≤ (mBeats Q t 34 27).toInt := bq
      have h9 : SP g D9 A (mBeats Q (t + 1)) := h9
      have hle2 := hle.fr f9 (by rw [n1, n2, hq1]; exact z)
      obtain ⟨pt9, n91, n92⟩ := mBeats_pk pq (t + 1)
      obtain ⟨S, hS⟩ : ∃ S, S = mBeats Q (t + 1) := ⟨_, rfl⟩
      rw [← hS] at h9 pt9 n91 n92 bq
      have hk9 : (0 : Nat) < mSh S := by omega
      obtain ⟨f9, r9, t0, t3, t1⟩ := h9.srow hk9 nm0
      have t0 : f9 0 = S 34 27 := t0
      have t3 : f9 3 = S 34 147 := t3
      have t1 : 0 < S 34 27 → f9 1 = S 34 67 ∧ f9 2 = S 34 107 := t1
      have r9 := r9.qq
      rw [t0, t3] at r9
      have hal2 : ∀ j, j < t + 1 → 0 < mBeats Q j 34 27 := fun j hj => by
        by_cases e : j = t
        · subst e; exact hl
        · exact hal j (by omega)
      refine u_pop C dL_comes_35 rfl ?_
      refine u_aload C dL_comes_36 rfl ?_
      refine u_getF C fl_L_50 (h9.ob nm0) rfl dL_comes_38 ?_
      refine u_iconst C (v := 0) dL_comes_41 (by decide) ?_
      refine u_aald C (h9.shouts nm0) rfl hk9 (by omega) rfl dL_comes_42 ?_
      refine u_iconst C (v := 0) dL_comes_43 (by decide) ?_
      refine u_ialv C (r9) rfl (by decide) (by decide) (v := S 34 27) rfl dL_comes_44 ?_
      refine u_if_le C (tgt := 18) dL_comes_45 (by decide) (fun c45 => ?_) (fun c45 => ?_)
      · subst hS
        have hno2 : ∀ j, 0 < j → j ≤ t + 1 → 0 < mBeats Q j 34 27 → mBeats Q j 34 67 ≠ th := fun j j0 j1 j2 => by
          by_cases e : j = t + 1
          · subst e; exact absurd j2 (Int32.not_lt.mpr c45)
          · exact hno j j0 (by omega) j2
        refine u_widen (kc' := 62 + 2 * (t + 1)) (ks' := 315 + 42 * (t + 1)) (by show 62 + 2 * t + 2 ≤ _; omega) (by show 315 + 42 * t + 42 ≤ _; omega) ?_
        exact ih (t + 1) D9 ⟨by omega, by omega⟩ h9 hle2 hal2 hno2
      · have hl9 := Int32.not_le.mp c45
        obtain ⟨t1, t2⟩ := t1 hl9
        rw [t1] at r9
        refine u_aload C dL_comes_48 rfl ?_
        refine u_getF C fl_L_50 (h9.ob nm0) rfl dL_comes_50 ?_
        refine u_iconst C (v := 0) dL_comes_53 (by decide) ?_
        refine u_aald C (h9.shouts nm0) rfl hk9 (by omega) rfl dL_comes_54 ?_
        refine u_iconst C (v := 1) dL_comes_55 (by decide) ?_
        refine u_ialv C (r9) rfl (by decide) (by decide) (v := S 34 67) rfl dL_comes_56 ?_
        refine u_iload_n C dL_comes_57 rfl ?_
        refine u_icmp_ne C (tgt := 18) dL_comes_58 (by decide) (fun c58 => ?_) (fun c58 => ?_)
        · subst hS
          have hno2 : ∀ j, 0 < j → j ≤ t + 1 → 0 < mBeats Q j 34 27 → mBeats Q j 34 67 ≠ th := fun j j0 j1 j2 => by
            by_cases e : j = t + 1
            · subst e; exact c58
            · exact hno j j0 (by omega) j2
          refine u_widen (kc' := 62 + 2 * (t + 1)) (ks' := 315 + 42 * (t + 1)) (by show 62 + 2 * t + 2 ≤ _; omega) (by show 315 + 42 * t + 42 ≤ _; omega) ?_
          exact ih (t + 1) D9 ⟨by omega, by omega⟩ h9 hle2 hal2 hno2
        · subst hS
          have hyes : Cms Q th := ⟨t + 1, by omega, fun j hj => by
            by_cases e : j = t + 1
            · subst e; exact hl9
            · exact hal2 j (by omega), c58⟩
          refine u_iconst C (v := 1) dL_comes_61 (by decide) ?_
          exact u_zret C hq (by decide) ⟨by show 62 + 2 * t + 2 ≤ 270; omega, by show 315 + 42 * t + 42 ≤ 4800; omega⟩ dL_comes_62 ((hR1 hle2 hyes))
set_option maxHeartbeats 1000000 in
set_option maxRecDepth 100000 in
theorem qL_comes (l : Launch) (g : GT) (M : Mem) (D : DM) {ad : Nat → Nat} {P : Mem} (hp : PK P) (h : SP g D ad P) {s ld : Int32} (r0 th : Int32) (hs : 0 ≤ s ∧ s ≤ 31) (hl : 1 ≤ ld ∧ ld ≤ 99) : CU l yL_comes cL_comes 6 (some .boolean) rmL_comes g M D [.ref (ad 0), .int s, .int r0, .int th, .int ld] (fun r M1 D1 => M1 = M ∧ Le D D1 ∧ ((r = some (.int 1) ∧ Cms (mAl P s (if r0 = 0 then -1 else 1) ld) th) ∨ (r = some (.int 0) ∧ ¬ Cms (mAl P s (if r0 = 0 then -1 else 1) ld) th))) := by
  refine CU.of (by decide) (Nat.le_of_ble_eq_true rfl) (fun X C hq => ?_)
  have C : Cx X g l cL_comes 6 RL (some .boolean) rmL_comes := C
  show UX X g 0 0 0 [(0, .ref (ad 0)), (1, .int s), (2, .int r0), (3, .int th), (4, .int ld)] [] M D
  refine u_aload_n C dL_comes_0 rfl ?_
  refine u_iload_n C dL_comes_1 rfl ?_
  refine u_iload_n C dL_comes_2 rfl ?_
  refine u_if_eq C (tgt := 10) dL_comes_3 (by decide) (fun c3 => ?_) (fun c3 => ?_)
  · have ew : (if r0 = 0 then (-1 : Int32) else 1) = -1 := if_pos c3
    rw [ew] at hq
    have hw9 : (-1 : Int32) = 1 ∨ (-1 : Int32) = -1 := Or.inr rfl
    refine u_iconst C (v := (-1)) dL_comes_10 (by decide) ?_
    refine u_iload C dL_comes_11 rfl ?_
    refine u_callV C (qs_alone l g M _ h _ _ _) cd_X2_alone kl_L_169 ci2 (h.ob nm0) (as := [_, _, _]) rfl rfl ⟨⟨by decide, by decide⟩, by decide, by decide⟩ (Nat.le_of_ble_eq_true rfl) dL_comes_13 (fun v9 M9 D9 e9 => ?_)
    obtain ⟨rfl, A, rfl, hA1, sm, hle, hz⟩ := e9
    have pq := hp.al (l := ld) hs hw9 hl
    show UX X g 62 315 16 _ [.ref (A 0)] M9 D9
    refine u_astore C (lo' := [(5, _), (0, _), (1, _), (2, _), (3, _), (4, _)]) dL_comes_16 (by decide) rfl ?_
    exact u_lsub [0, 4] rfl (qL_comes_lp pq rfl hz (fun l1 a => ⟨rfl, l1, Or.inr ⟨rfl, a⟩⟩) (fun l1 a => ⟨rfl, l1, Or.inl ⟨rfl, a⟩⟩) C hq 100 0 D9 ⟨by have := i_le.mp hl.2; rw [i_c99] at this; show (mAl P s _ ld 34 27).toInt + 0 ≤ 99; rw [mAl_r.1]; omega, by omega⟩ sm hle (fun j hj => absurd hj (Nat.not_lt_zero _)) (fun j j0 j1 => by omega))
  · have ew : (if r0 = 0 then (-1 : Int32) else 1) = 1 := if_neg c3
    rw [ew] at hq
    have hw9 : (1 : Int32) = 1 ∨ (1 : Int32) = -1 := Or.inl rfl
    refine u_iconst C (v := 1) dL_comes_6 (by decide) ?_
    refine u_goto C (tgt := 11) dL_comes_7 (by decide) ?_
    refine u_iload C dL_comes_11 rfl ?_
    refine u_callV C (qs_alone l g M _ h _ _ _) cd_X2_alone kl_L_169 ci2 (h.ob nm0) (as := [_, _, _]) rfl rfl ⟨⟨by decide, by decide⟩, by decide, by decide⟩ (Nat.le_of_ble_eq_true rfl) dL_comes_13 (fun v9 M9 D9 e9 => ?_)
    obtain ⟨rfl, A, rfl, hA1, sm, hle, hz⟩ := e9
    have pq := hp.al (l := ld) hs hw9 hl
    show UX X g 62 315 16 _ [.ref (A 0)] M9 D9
    refine u_astore C (lo' := [(5, _), (0, _), (1, _), (2, _), (3, _), (4, _)]) dL_comes_16 (by decide) rfl ?_
    exact u_lsub [0, 4] rfl (qL_comes_lp pq rfl hz (fun l1 a => ⟨rfl, l1, Or.inr ⟨rfl, a⟩⟩) (fun l1 a => ⟨rfl, l1, Or.inl ⟨rfl, a⟩⟩) C hq 100 0 D9 ⟨by have := i_le.mp hl.2; rw [i_c99] at this; show (mAl P s _ ld 34 27).toInt + 0 ≤ 99; rw [mAl_r.1]; omega, by omega⟩ sm hle (fun j hj => absurd hj (Nat.not_lt_zero _)) (fun j j0 j1 => by omega))
/-- (v & 0x7fffffff) % n -/
def bl (v : Int32) (n : Nat) : Nat := tn ((v &&& 2147483647) - (v &&& 2147483647) / nI n * nI n)
theorem and_pos (v : Int32) : 0 ≤ (v &&& 2147483647).toInt := by
  have hm : (v &&& 2147483647 : Int32).toBitVec.msb = false := by
    rw [Int32.toBitVec_and, BitVec.msb_and]
    have e : (2147483647 : Int32).toBitVec.msb = false := by decide
    rw [e, Bool.and_false]
  have e : (v &&& 2147483647 : Int32).toInt = ((v &&& 2147483647 : Int32).toBitVec.toNat : Int) := BitVec.toInt_eq_toNat_of_msb hm
  omega
theorem rem_is {x : Int32} {n : Nat} (hx : 0 ≤ x.toInt) (h : 0 < n) (hn : n ≤ 1000) : (x - x / nI n * nI n).toInt = x.toInt % n := by
  have hn2 : (nI n).toInt = n := i_nI (by omega)
  have hlt : x.toInt < 2147483648 := Int32.toInt_lt x
  have hd0 : 0 ≤ x.toInt / (n : Int) := Int.ediv_nonneg hx (by omega)
  have hd1 : x.toInt / (n : Int) ≤ x.toInt := Int.ediv_le_self _ hx
  have hm := Int.mul_ediv_add_emod x.toInt n
  have hr0 := Int.emod_nonneg x.toInt (show (n : Int) ≠ 0 by omega)
  have hr1 := Int.emod_lt_of_pos x.toInt (show (0 : Int) < n by omega)
  have e1 : (x / nI n).toInt = x.toInt / (n : Int) := by
    rw [Int32.toInt_div, hn2, Int.tdiv_eq_ediv_of_nonneg hx]
    exact Int.bmod_eq_of_le (by omega) (by omega)
  have e2 : (x / nI n * nI n).toInt = x.toInt / (n : Int) * n := by
    rw [Int32.toInt_mul, e1, hn2]
    have c : x.toInt / (n : Int) * n = x.toInt - x.toInt % n := by rw [Int.mul_comm]; omega
    rw [c]
    exact Int.bmod_eq_of_le (by omega) (by omega)
  rw [Int32.toInt_sub, e2]
  have c : x.toInt / (n : Int) * n = x.toInt - x.toInt % n := by rw [Int.mul_comm]; omega
  rw [c, show x.toInt - (x.toInt - x.toInt % (n : Int)) = x.toInt % n by omega]
  exact Int.bmod_eq_of_le (by omega) (by omega)
theorem bl_lt (v : Int32) {n : Nat} (h : 0 < n) (hn : n ≤ 1000) : bl v n < n ∧ (v &&& 2147483647) - (v &&& 2147483647) / nI n * nI n = nI (bl v n) := by
  have e := rem_is (and_pos v) h hn
  have hr0 := Int.emod_nonneg (v &&& 2147483647).toInt (show (n : Int) ≠ 0 by omega)
  have hr1 := Int.emod_lt_of_pos (v &&& 2147483647).toInt (show (0 : Int) < n by omega)
  have hp : 0 ≤ (v &&& 2147483647) - (v &&& 2147483647) / nI n * nI n := i_le.mpr (by rw [i_c0, e]; exact hr0)
  have e2 := i_tn hp
  exact ⟨by have e3 : (bl v n : Int) = _ := e2; rw [e] at e3; omega, nI_tn hp⟩
abbrev rmL_below : Room := { frames := 0, cells := 0, slots := 0, locals := 0 }
set_option maxHeartbeats 1000000 in
set_option maxRecDepth 100000 in
theorem qL_below (l : Launch) (g : GT) (M : Mem) (D : DM) {v : Int32} {n : Nat} (h0 : 0 < n) (hn : n ≤ 1000) : CU l yL_below cL_below 2 (some .int) rmL_below g M D [.int v, .int (nI n)] (fun r M1 D1 => r = some (.int (nI (bl v n))) ∧ M1 = M ∧ D1 = D) := by
  refine CU.of (by decide) (Nat.le_of_ble_eq_true rfl) (fun X C hq => ?_)
  have C : Cx X g l cL_below 2 RL (some .int) rmL_below := C
  show UX X g 0 0 0 [(0, .int v), (1, .int (nI n))] [] M D
  refine u_iload_n C dL_below_0 rfl ?_
  refine u_ldc C (v := 2147483647) (by decide +kernel) dL_below_1 ?_
  refine u_iand C dL_below_3 ?_
  refine u_iload_n C dL_below_4 rfl ?_
  refine u_irem C (fun z => absurd (congrArg tn z) (by rw [tn_nI (by omega)]; show ¬ n = 0; omega)) dL_below_5 ?_
  exact u_iret C hq ⟨by decide, by decide⟩ dL_below_6 (⟨by rw [(bl_lt v h0 hn).2], rfl, rfl⟩)
