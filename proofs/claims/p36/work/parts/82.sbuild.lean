/-! The first memory, and that all holds in it. -/
def M0 : Mem := fun k => if k = 3 ∨ k = 4 ∨ k = 17 ∨ k = 18 ∨ k = 31 then cpn (fun _ => -1) (fun _ => 0) 32 else fun _ => 0
theorem M0_0 {k : Nat} (h : ¬ (k = 3 ∨ k = 4 ∨ k = 17 ∨ k = 18 ∨ k = 31)) : M0 k = fun _ => 0 := by
  unfold M0
  rw [if_neg h]
theorem M0_1 {k j : Nat} (h : k = 3 ∨ k = 4 ∨ k = 17 ∨ k = 18 ∨ k = 31) (hj : j < 32) : M0 k j = -1 := by
  unfold M0
  rw [if_pos h]
  exact if_pos hj
theorem inv_0 : Rel 1 0 M0 M0 ∧ Zz 1 M0 ∧ liveN (M0 11) 40 ≤ 8 := by
  have z : ∀ k j, ¬ (k = 3 ∨ k = 4 ∨ k = 17 ∨ k = 18 ∨ k = 31) → M0 k j = 0 := fun k j h => by rw [M0_0 h]
  have e11 : ∀ k, ¬ 0 < M0 (1 + 10) k := fun k => by rw [z (1 + 10) k (by omega)]; decide
  have hl0 : liveN (M0 (1 + 10)) 40 = 0 := liveN_zero 40 (fun k _ => e11 k)
  have hsh : mSh M0 = 0 := by
    show tn (M0 29 2) = 0
    rw [z 29 2 (by omega)]
    rfl
  refine ⟨⟨⟨?_, fun s hs => ?_, fun w hw => ?_, fun e he => ?_, fun k hk => ?_, fun k hk hl => absurd hl (e11 k), fun k hk _ => ?_, fun k _ _ => e11 k, ?_⟩, fun s hs => ?_, ⟨?_, ?_, fun s hs => ?_, fun w hw => ?_, fun s hs => ?_, fun k hk hl => absurd hl (e11 k)⟩, ⟨?_, ?_, fun s hs => ?_, fun w hw => ?_⟩, ⟨fun s hs => ?_, fun w hw => ?_⟩, fun k hk => ?_, fun e he => ?_, fun e he => ?_⟩, ⟨fun w hw hw2 => ?_, fun s hs => ?_⟩, ?_⟩
  · simp only [z 1 _ (by omega), z 34 _ (by omega), z 29 _ (by omega)]
    exact ⟨trivial, trivial, trivial, trivial, trivial⟩
  · rw [z (1 + 1) s (by omega), z 30 s (by omega), M0_1 (k := 1 + 2) (by omega) hs, M0_1 (k := 31) (by omega) hs]
    exact ⟨rfl, rfl⟩
  · rw [z (1 + 4) w (by omega), z (1 + 5) w (by omega), z (1 + 6) w (by omega), z (1 + 7) w (by omega), z 32 w (by omega), z 33 w (by omega), z 34 _ (by omega), z 34 _ (by omega)]
    exact ⟨rfl, rfl, rfl, rfl⟩
  · rw [z (1 + 8) e (by omega), z (1 + 9) e (by omega), z 34 _ (by omega), z 34 _ (by omega)]
    exact ⟨rfl, rfl⟩
  · rw [z (1 + 10) k (by omega), z (1 + 13) k (by omega), z 34 _ (by omega), z 34 _ (by omega)]
    exact ⟨rfl, rfl⟩
  · rw [hsh] at hk
    omega
  · rw [hl0, z 1 3 (by omega)]
    rfl
  · rw [M0_1 (k := 1 + 3) (by omega) hs]
    unfold mLoudest
    rw [hsh]
    rfl
  · rw [z 1 1 (by omega)]; decide
  · rw [z 1 2 (by omega)]; decide
  · exact Or.inl (M0_1 (by omega) hs)
  · rw [z (1 + 5) w (by omega)]; decide
  · exact Or.inl (M0_1 (by omega) hs)
  · rw [z 29 1 (by omega)]; decide
  · rw [z 29 2 (by omega)]; decide
  · exact Or.inl (M0_1 (by omega) hs)
  · rw [z 34 _ (by omega)]; decide
  · rw [z 30 s (by omega)]; decide
  · rw [z 33 w (by omega)]; decide
  · rw [z (1 + 10) k (by omega)]; decide
  · rw [z (1 + 8) e (by omega)]
    exact ⟨by decide, by rw [i_c0]; omega⟩
  · rw [z (1 + 9) e (by omega)]; decide
  · exact z _ w (by omega)
  · exact Or.inl (M0_1 (by omega) hs)
  · show liveN (M0 (1 + 10)) 40 ≤ 8
    rw [hl0]
    decide
theorem m0_n : mWs M0 = 0 ∧ mSh M0 = 0 := by
  constructor
  · show tn (M0 29 1) = 0
    rw [M0_0 (by decide)]; rfl
  · show tn (M0 29 2) = 0
    rw [M0_0 (by decide)]; rfl
theorem li_0 : LI 0 M0 M0 := by
  have z : ∀ k j, ¬ (k = 3 ∨ k = 4 ∨ k = 17 ∨ k = 18 ∨ k = 31) → M0 k j = 0 := fun k j h => by rw [M0_0 h]
  obtain ⟨e1, e2⟩ := m0_n
  refine ⟨inv_0.1, inv_0.2.1, inv_0.2.2, ⟨inv_0.1.2.2.2.1, inv_0.1.2.2.2.2.1, ⟨fun w hw => absurd hw (by omega), fun s hs => Or.inl (M0_1 (by omega) hs)⟩, fun k hk => ?_⟩, ⟨?_, ?_⟩, fun j k hj => absurd hj (by omega)⟩
  · rw [z 34 _ (by omega)]
    exact ⟨⟨by decide, by decide⟩, fun h => absurd h (by decide)⟩
  · rw [e1, z 34 _ (by omega), z 34 _ (by omega)]
    rfl
  · rw [e1, e2]
    rfl
theorem NO.sp {g : GT} {D D1 : DM} {a a1 a2 a3 a4 a5 : Nat} (h : NO g D D1 a a1 a2 a3 a4 a5) (ha : D a ≠ none) : SP g D1 (fun i => if i = 0 then a else if i = 1 then a1 else if i = 2 then a2 else if i = 3 then a3 else if i = 4 then a4 else a5) M0 := by
  obtain ⟨ob, i1, r2, r3, i4, i5, ⟨n1, n2, n3, n4, n5⟩, ⟨k1, k2, k3, k4, k5, k6, k7, k8, k9, k10⟩, -⟩ := h
  have z : ∀ k j, ¬ (k = 3 ∨ k = 4 ∨ k = 17 ∨ k = 18 ∨ k = 31) → M0 k j = 0 := fun k j h => by rw [M0_0 h]
  obtain ⟨e1, e2⟩ := m0_n
  have m : ∀ q, D q = none → a ≠ q := fun q hq e => ha (by rw [e]; exact hq)
  have b1 := m _ n1
  have b2 := m _ n2
  have b3 := m _ n3
  have b4 := m _ n4
  have b5 := m _ n5
  refine SM.mk' ⟨by omega, by omega⟩ (fun i j hi hj e => ?_) ?_ (i1.ext (fun j hj => (z 30 j (by omega)).symm)) (by rw [e1]; exact r2.ext (fun j hj => absurd hj (by omega))) (by rw [e2]; exact r3.ext (fun j hj => absurd hj (by omega))) (i4.ext (fun j hj => (z 34 _ (by omega)).symm)) (i5.ext (fun j hj => (z 34 _ (by omega)).symm)) (fun w hw => absurd hw (by omega)) (fun k hk => absurd hk (by omega))
  · rw [e1, e2] at hi hj
    have hi : i < 6 := by unfold su at hi; omega
    have hj : j < 6 := by unfold su at hj; omega
    rcases (show i = 0 ∨ i = 1 ∨ i = 2 ∨ i = 3 ∨ i = 4 ∨ i = 5 by omega) with rfl | rfl | rfl | rfl | rfl | rfl <;> rcases (show j = 0 ∨ j = 1 ∨ j = 2 ∨ j = 3 ∨ j = 4 ∨ j = 5 by omega) with rfl | rfl | rfl | rfl | rfl | rfl <;> first | rfl | exact absurd e (by assumption) | exact absurd e.symm (by assumption)
  · rw [z 34 0 (by omega), z 34 1 (by omega), z 34 2 (by omega)]
    exact ob
theorem k15 : ∀ k, k < 36 → nI k - nI k / 15 * 15 = nI (k % 15) := by decide +kernel
abbrev rmL_build : Room := { frames := 10, cells := 8000, slots := 170000, locals := 230 }
set_option maxHeartbeats 1000000 in
set_option maxRecDepth 100000 in
theorem qL_build_lp {X : XT} {l : Launch} {g : GT} {R : Option Value → Mem → DM → Prop} {b L N : Nat} {xs : Nat → Int32} (hl : l.stackTraces = false) (hS : SX X g b L xs) (hN : N ≤ 35) (hR : ∀ {k : Nat} {M : Mem} {D : DM} {ad : Nat → Nat} {P : Mem}, LI (100 * k) M P → SP g D ad P → k ≤ 35 → R (some (.ref (ad 0))) M D) (C : Cx X g l cL_build 6 RL (some (.object "CanyonEchoesLaw$Sim")) rmL_build) (hq : RU X g rmL_build R) : ∀ (n k : Nat) (M : Mem) (D : DM) (ad : Nat → Nat) (P : Mem), k ≤ N → N + 1 ≤ k + n → LI (100 * k) M P → SP g D ad P → UX X g (10 + 210 * k) (100 + 4400 * k) 25 [(4, .int (nI k)), (3, .int (nI N)), (2, .ref (ad 0)), (0, .ref (ga g 0)), (1, .ref b)] [] M D := by
  intro n
  induction n with
  | zero =>
    intro k M D ad P h1 h2; omega
  | succ n ih =>
    intro k M D ad P h1 h2 li h
    refine u_iload C dL_build_25 rfl ?_
    refine u_iload_n C dL_build_27 rfl ?_
    refine u_icmp_ge C (tgt := 95) dL_build_28 (by decide) (fun c28 => ?_) (fun c28 => ?_)
    · refine u_aload_n C dL_build_95 rfl ?_
      exact u_aret C (Or.inl ⟨_, rfl⟩) hq ⟨by show 10 + 210 * k ≤ 8000; omega, by show 100 + 4400 * k ≤ 170000; omega⟩ dL_build_96 (hR li h (by omega))
    · have hlt : k < N := Nat.lt_of_not_le (fun z => c28 ((nI_leI (a := N) (b := k) (by omega) (by omega)).mpr z))
      refine u_aload_n C dL_build_31 rfl ?_
      refine u_iconst C (v := 1) dL_build_32 (by decide) ?_
      refine u_iload C dL_build_33 rfl ?_
      refine u_bipush C (v := 15) dL_build_35 (by decide) ?_
      refine u_irem C (by decide) dL_build_37 ?_
      rw [k15 k (by omega)]
      refine u_iadd C dL_build_38 ?_
      rw [show (1 : Int32) + nI (k % 15) = nI (1 + k % 15) from nI_add 1 _]
      refine u_callSS C hS (qL_cell l g _ _ (k := 1 + k % 15) (by omega)) cd_L_cell kl_L_71 (as := [_, _]) rfl rfl ⟨⟨by decide, by decide⟩, by show 10 + 210 * k + 0 ≤ 8000; omega, by show 100 + 4400 * k + 0 ≤ 170000; omega⟩ (Nat.le_of_ble_eq_true rfl) dL_build_39 (fun v9 M9 D9 e9 => ?_)
      obtain ⟨⟨v, rfl⟩, em, ed⟩ := e9
      have em := em.symm
      have ed := ed.symm
      subst em
      subst ed
      refine u_iload C dL_build_42 rfl ?_
      refine u_bipush C (v := 15) dL_build_44 (by decide) ?_
      refine u_idiv C (by decide) dL_build_46 ?_
      refine u_iconst C (v := 3) dL_build_47 (by decide) ?_
      refine u_imul C dL_build_48 ?_
      refine u_ishr C dL_build_49 ?_
      refine u_bipush C (v := 37) dL_build_50 (by decide) ?_
      refine u_iload C dL_build_52 rfl ?_
      refine u_imul C dL_build_54 ?_
      refine u_iadd C dL_build_55 ?_
      refine u_istore C (lo' := [(5, _), (4, _), (3, _), (2, _), (0, _), (1, _)]) dL_build_56 (by decide) rfl ?_
      refine u_aload_n C dL_build_58 rfl ?_
      refine u_aload_n C dL_build_59 rfl ?_
      refine u_iload C dL_build_60 rfl ?_
      refine u_iconst C (v := 5) dL_build_62 (by decide) ?_
      refine u_icmp_ge C (tgt := 79) dL_build_63 (by decide) (fun c63 => ?_) (fun c63 => ?_)
      · refine u_iload C dL_build_79 rfl ?_
        refine u_callSW C (qL_act l hl g _ _ li (by omega) h _) cw_L_act kl_L_75 (as := [_, _, _]) rfl rfl ⟨⟨by decide, by decide⟩, by show 10 + 210 * k + 210 ≤ 8000; omega, by show 100 + 4400 * k + 4400 ≤ 170000; omega⟩ (Nat.le_of_ble_eq_true rfl) dL_build_81 (fun v9 M9 D9 e9 => ?_)
        obtain ⟨rfl, A1, P1, li1, h1, eA⟩ := e9
        rw [← eA]
        refine u_widen (kc' := 10 + 210 * (k + 1)) (ks' := 100 + 4400 * (k + 1)) (by show 10 + 210 * k + 210 ≤ _; omega) (by show 100 + 4400 * k + 4400 ≤ _; omega) ?_
        rw [show Option.toList (some (Value.int 1)) = [Value.int 1] from rfl]
        refine u_if_ne C (tgt := 89) dL_build_84 (by decide) (fun c84 => ?_) (fun c84 => absurd c84 (by decide))
        refine u_iinc C (v := nI (k + 1)) (lo' := [(4, _), (5, _), (3, _), (2, _), (0, _), (1, _)]) dL_build_89 rfl (nI_inc _) (by decide) rfl ?_
        refine u_goto C (tgt := 25) dL_build_92 (by decide) ?_
        exact u_lsub [0, 2, 3, 4, 5] rfl (ih (k + 1) _ _ A1 P1 (by omega) (by omega) (li1.le (by omega)) h1)
      · refine u_iload C dL_build_66 rfl ?_
        refine u_iload C dL_build_68 rfl ?_
        refine u_bipush C (v := 12) dL_build_70 (by decide) ?_
        refine u_callS0 C (qL_below l g _ _ (n := 12) (by omega) (by omega)) cd_L_below kl_L_9 (as := [_, _]) rfl rfl ⟨⟨by decide, by decide⟩, by show 10 + 210 * k + 0 ≤ 8000; omega, by show 100 + 4400 * k + 0 ≤ 170000; omega⟩ ⟨rfl, rfl⟩ (Nat.le_of_ble_eq_true rfl) dL_build_72 ?_
        refine u_isub C dL_build_75 ?_
        refine u_goto C (tgt := 81) dL_build_76 (by decide) ?_
        refine u_callSW C (qL_act l hl g _ _ li (by omega) h _) cw_L_act kl_L_75 (as := [_, _, _]) rfl rfl ⟨⟨by decide, by decide⟩, by show 10 + 210 * k + 210 ≤ 8000; omega, by show 100 + 4400 * k + 4400 ≤ 170000; omega⟩ (Nat.le_of_ble_eq_true rfl) dL_build_81 (fun v9 M9 D9 e9 => ?_)
        obtain ⟨rfl, A1, P1, li1, h1, eA⟩ := e9
        rw [← eA]
        refine u_widen (kc' := 10 + 210 * (k + 1)) (ks' := 100 + 4400 * (k + 1)) (by show 10 + 210 * k + 210 ≤ _; omega) (by show 100 + 4400 * k + 4400 ≤ _; omega) ?_
        rw [show Option.toList (some (Value.int 1)) = [Value.int 1] from rfl]
        refine u_if_ne C (tgt := 89) dL_build_84 (by decide) (fun c84 => ?_) (fun c84 => absurd c84 (by decide))
        refine u_iinc C (v := nI (k + 1)) (lo' := [(4, _), (5, _), (3, _), (2, _), (0, _), (1, _)]) dL_build_89 rfl (nI_inc _) (by decide) rfl ?_
        refine u_goto C (tgt := 25) dL_build_92 (by decide) ?_
        exact u_lsub [0, 2, 3, 4, 5] rfl (ih (k + 1) _ _ A1 P1 (by omega) (by omega) (li1.le (by omega)) h1)
set_option maxHeartbeats 1000000 in
set_option maxRecDepth 100000 in
theorem qL_build (l : Launch) (g : GT) (M : Mem) (D : DM) {b L : Nat} {xs : Nat → Int32} (hl : l.stackTraces = false) (li : LI 0 M M0) : CUS l yL_build cL_build 6 (some (.object "CanyonEchoesLaw$Sim")) rmL_build b L xs g M D [.ref (ga g 0), .ref b] (fun r M1 D1 => ∃ A P1, r = some (.ref (A 0)) ∧ LI 3500 M1 P1 ∧ SP g D1 A P1) := by
  refine CUS.of (by decide) (Nat.le_of_ble_eq_true rfl) (fun X C hq hS => ?_)
  have C : Cx X g l cL_build 6 RL (some (.object "CanyonEchoesLaw$Sim")) rmL_build := C
  show UX X g 0 0 0 [(0, .ref (ga g 0)), (1, .ref b)] [] M D
  refine u_new C nw_L_16 ⟨by decide, by decide⟩ dL_build_0 (fun qsim D1 z1 o1 r1 => ?_)
  have hob := r1
  refine u_dup C dL_build_3 rfl ?_
  refine u_callIN C (qs_init l g M _ hob) cd_X2_init rfl ki_L_70 (as := []) rfl rfl ⟨⟨by decide, by decide⟩, by decide, by decide⟩ (Nat.le_of_ble_eq_true rfl) dL_build_4 (fun v9 M9 D9 e9 => ?_)
  obtain ⟨rfl, em, a1, a2, a3, a4, a5, no⟩ := e9
  have em := em.symm
  subst em
  have h := no.sp hob.some
  obtain ⟨ad, had⟩ : ∃ ad : Nat → Nat, ad = fun i => if i = 0 then qsim else if i = 1 then a1 else if i = 2 then a2 else if i = 3 then a3 else if i = 4 then a4 else a5 := ⟨_, rfl⟩
  have ea : qsim = ad 0 := by rw [had]; rfl
  rw [← had] at h
  rw [ea]
  refine u_astore_n C (lo' := [(2, _), (0, _), (1, _)]) dL_build_7 (by decide) rfl ?_
  refine u_bipush C (v := 6) dL_build_8 (by decide) ?_
  refine u_aload_n C dL_build_10 rfl ?_
  refine u_iconst C (v := 0) dL_build_11 (by decide) ?_
  refine u_callSS C hS (qL_cell l g _ _ (k := 0) (by omega)) cd_L_cell kl_L_71 (as := [_, _]) rfl rfl ⟨⟨by decide, by decide⟩, by decide, by decide⟩ (Nat.le_of_ble_eq_true rfl) dL_build_12 (fun v9 M9 D9 e9 => ?_)
  obtain ⟨⟨v, rfl⟩, em, ed⟩ := e9
  have em := em.symm
  have ed := ed.symm
  subst em
  subst ed
  refine u_bipush C (v := 30) dL_build_15 (by decide) ?_
  refine u_callS0 C (qL_below l g _ _ (n := 30) (by omega) (by omega)) cd_L_below kl_L_9 (as := [_, _]) rfl rfl ⟨⟨by decide, by decide⟩, by decide, by decide⟩ ⟨rfl, rfl⟩ (Nat.le_of_ble_eq_true rfl) dL_build_17 ?_
  obtain ⟨t, ht⟩ : ∃ t, t = bl v 30 := ⟨_, rfl⟩
  have lt : t < 30 := by rw [ht]; exact (bl_lt _ (by omega) (by omega)).1
  rw [← ht]
  refine u_iadd C dL_build_20 ?_
  rw [show (6 : Int32) + nI t = nI (6 + t) from nI_add 6 _]
  refine u_istore_n C (lo' := [(3, _), (2, _), (0, _), (1, _)]) dL_build_21 (by decide) rfl ?_
  refine u_iconst C (v := 0) dL_build_22 (by decide) ?_
  refine u_istore C (lo' := [(4, _), (3, _), (2, _), (0, _), (1, _)]) dL_build_23 (by decide) rfl ?_
  refine u_widen (kc' := 10) (ks' := 100) (by decide) (by decide) ?_
  exact u_lsub [0, 1, 2, 3, 4] rfl (qL_build_lp hl hS (N := 6 + t) (by omega) (fun l1 s1 hk => ⟨_, _, rfl, l1.le (by omega), s1⟩) C hq 40 0 _ _ ad M0 (by omega) (by omega) li h)
