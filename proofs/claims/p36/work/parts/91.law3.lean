/-! The law's body: the arrays of a beat. -/
theorem nar_b {c : Prop} [Decidable c] : vp_nar .boolean (b2i c) = b2i c := by
  by_cases h : c
  · rw [b2i_t h]; decide
  · rw [b2i_f h]; decide
def Qt (P : Mem) (qq : Nat) : Prop := qq ≤ 99 ∧ (∀ j, j < qq → 0 < mMany (mBeats P j)) ∧ ∀ j, qq ≤ j → ¬ 0 < mMany (mBeats P j)
theorem upd_eq (f : Nat → Int32) (k : Nat) (v : Int32) : upd f k v k = v := if_pos rfl
theorem upd_ne {f : Nat → Int32} {k i : Nat} {v : Int32} (h : i ≠ k) : upd f k v i = f i := if_neg h
set_option maxHeartbeats 1000000 in
set_option maxRecDepth 100000 in
theorem q_ahead {X : XT} {l : Launch} {g : GT} {b t : Nat} {x : Int32}  {ad : Nat → Nat} {nb : Nat} {P : Mem} {kc ks : Nat} (hk : kc ≤ 50000 ∧ ks ≤ 800000) {M : Mem} {D : DM} (li : LI nb M P) (h : SP g D ad P) (hnb : nb + 100 ≤ 100000) {th : Nat} (lth : th < 32) {d : Int64} (hd : ∀ M', LI nb M' P → cDig M' = d) (hK : ∀ (M : Mem) (D : DM) (qd qh bt qq : Nat), (1 ≤ bt ∧ bt ≤ 20) → Qt P qq → LI nb M P → SP g D ad P → AR g D (mWs P) (mSh P) ad [(qh, 2, .inl (fun e => P 34 (3 + e))), (qd, 2, .inl (fun e => mBeats P bt 34 (3 + e) - P 34 (3 + e)))] → UX X g (kc + 2) (ks + 4) 775 [(0, .ref b), (1, .ref (ga g 0)), (2, .ref (ad 0)), (3, .int (nI t)), (4, .int x), (7, .int (nI (mSh P))), (8, .int (nI (mWs P))), (14, .int (nI th)), (19, .int (nI bt)), (20, .ref qd), (21, .int (mLOL (mKeep P) (nI th) bt)), (22, .int (nI qq)), (23, .int 0), (24, .ref qh), (25, .int (nI 1))] [] M D) (C : Cx X g l cL_law 39 RL (some .boolean) room_1) : UX X g (kc) (ks) 681 [(0, .ref b), (1, .ref (ga g 0)), (2, .ref (ad 0)), (3, .int (nI t)), (4, .int x), (5, .long d), (7, .int (nI (mSh P))), (8, .int (nI (mWs P))), (14, .int (nI th))] [] M D := by
  have hn := h.n
  refine u_iconst C (v := 1) dL_law_681 (by decide) ?_
  refine u_iload C dL_law_682 rfl ?_
  refine u_bipush C (v := 6) dL_law_684 (by decide) ?_
  refine u_ishr C dL_law_686 ?_
  refine u_bipush C (v := 20) dL_law_687 (by decide) ?_
  refine u_callS0 C (qL_below l g M _ (v := x >>> (6 &&& 31)) (n := 20) (by omega) (by omega)) cd_L_below kl_L_9 (as := [_, _]) rfl rfl (rm_l ⟨by decide, by decide⟩ ⟨by decide, by decide⟩ (by omega)) ⟨rfl, rfl⟩ (Nat.le_of_ble_eq_true rfl) dL_law_689 ?_
  obtain ⟨u, hu⟩ : ∃ u, u = bl (x >>> (6 &&& 31)) 20 := ⟨_, rfl⟩
  have lu : u < 20 := by rw [hu]; exact (bl_lt _ (by omega) (by omega)).1
  rw [← hu]
  refine u_iadd C dL_law_692 ?_
  refine u_ttop (v' := .int (nI (1 + u))) (congrArg Value.int (nI_add 1 u)) ?_
  have hb : 1 ≤ 1 + u ∧ 1 + u ≤ 100 := ⟨by omega, by omega⟩
  refine u_istore C (lo' := [(19, _), (0, _), (1, _), (2, _), (3, _), (4, _), (5, _), (7, _), (8, _), (14, _)]) dL_law_693 (by decide) rfl ?_
  refine u_iconst C (v := 2) dL_law_695 (by decide) ?_
  refine u_newI C (N := 2) (rfl) (by decide) (rm_n (by omega) (by omega)) dL_law_696 (fun qdue D1 z1 o1 r1 => ?_)
  have A := (AR.nil (g := g) (D := D) (nW := mWs P) (nS := mSh P) (ad := ad)).ni h.ts z1 o1 r1
  have h := h.le (Le.ot o1 z1)
  refine u_dup C dL_law_698 rfl ?_
  refine u_iconst C (v := 0) dL_law_699 (by decide) ?_
  refine u_aload_n C dL_law_700 rfl ?_
  refine u_iconst C (v := 0) dL_law_701 (by decide) ?_
  refine u_iload C dL_law_702 rfl ?_
  refine u_callC0 C (fun B => k_coinsIn li hnb (e := 0) (b := 1 + u) (by decide) hb B) cd_X1_coinsIn kl_L_144 ci1 rfl (by decide) (as := [_, _]) rfl rfl (rm_l ⟨by decide, by decide⟩ ⟨by decide, by decide⟩ (by omega)) ⟨rfl, rfl⟩ (Nat.le_of_ble_eq_true rfl) dL_law_704 ?_
  have li := li.fr (show cFr 15 M (cRun 15 3 (1 + u) (cCopy M)) from ((cCopy_fr M).tr (cRun_fr 15 3 _ (cCopy M))))
  obtain ⟨M1, hM1⟩ : ∃ M1, M1 = cRun 15 3 (1 + u) (cCopy M) := ⟨_, rfl⟩
  rw [← hM1] at li ⊢
  refine u_iast C (A.i (k := 0) rfl) rfl (by decide : 0 < 2) (by decide) dL_law_707 (fun D2 o2 r2 => ?_)
  have h := h.ar A (k := 0) rfl o2
  have A := A.si (k := 0) rfl o2 r2
  refine u_dup C dL_law_708 rfl ?_
  refine u_iconst C (v := 1) dL_law_709 (by decide) ?_
  refine u_aload_n C dL_law_710 rfl ?_
  refine u_iconst C (v := 1) dL_law_711 (by decide) ?_
  refine u_iload C dL_law_712 rfl ?_
  refine u_callC0 C (fun B => k_coinsIn li hnb (e := 1) (b := 1 + u) (by decide) hb B) cd_X1_coinsIn kl_L_144 ci1 rfl (by decide) (as := [_, _]) rfl rfl (rm_l ⟨by decide, by decide⟩ ⟨by decide, by decide⟩ (by omega)) ⟨rfl, rfl⟩ (Nat.le_of_ble_eq_true rfl) dL_law_714 ?_
  have li := li.fr (show cFr 15 M1 (cRun 15 3 (1 + u) (cCopy M1)) from ((cCopy_fr M1).tr (cRun_fr 15 3 _ (cCopy M1))))
  obtain ⟨M2, hM2⟩ : ∃ M2, M2 = cRun 15 3 (1 + u) (cCopy M1) := ⟨_, rfl⟩
  rw [← hM2] at li ⊢
  refine u_iast C (A.i (k := 0) rfl) rfl (by decide : 1 < 2) (by decide) dL_law_717 (fun D3 o3 r3 => ?_)
  have h := h.ar A (k := 0) rfl o3
  have A := A.si (k := 0) rfl o3 r3
  refine u_astore C (lo' := [(20, _), (19, _), (0, _), (1, _), (2, _), (3, _), (4, _), (5, _), (7, _), (8, _), (14, _)]) dL_law_718 (by decide) rfl ?_
  refine u_aload_n C dL_law_720 rfl ?_
  refine u_iload C dL_law_721 rfl ?_
  refine u_iload C dL_law_723 rfl ?_
  refine u_callC0 C (fun B => k_loudestOn li hnb lth hb B) cd_X1_loudestOn kl_L_147 ci1 rfl (by decide) (as := [_, _]) rfl rfl (rm_l ⟨by decide, by decide⟩ ⟨by decide, by decide⟩ (by omega)) ⟨rfl, rfl⟩ (Nat.le_of_ble_eq_true rfl) dL_law_725 ?_
  have li := li.fr (show cFr 15 M2 (cRun 15 3 (1 + u) (cCopy M2)) from ((cCopy_fr M2).tr (cRun_fr 15 3 _ (cCopy M2))))
  obtain ⟨M3, hM3⟩ : ∃ M3, M3 = cRun 15 3 (1 + u) (cCopy M2) := ⟨_, rfl⟩
  rw [← hM3] at li ⊢
  refine u_istore C (lo' := [(21, _), (20, _), (19, _), (0, _), (1, _), (2, _), (3, _), (4, _), (5, _), (7, _), (8, _), (14, _)]) dL_law_728 (by decide) rfl ?_
  refine u_aload_n C dL_law_730 rfl ?_
  refine u_callC0 C (fun B => k_beatsUntilQuiet li hnb B) cd_X1_beatsUntilQuiet kl_L_108 ci1 rfl (by decide) (as := []) rfl rfl (rm_l ⟨by decide, by decide⟩ ⟨by decide, by decide⟩ (by omega)) ⟨rfl, rfl⟩ (Nat.le_of_ble_eq_true rfl) dL_law_731 ?_
  have hq : Qt P (cCnt 15 3 99 (cCopy M3)) := li.quiet hnb
  obtain ⟨qq, hqq⟩ : ∃ qq, qq = cCnt 15 3 99 (cCopy M3) := ⟨_, rfl⟩
  rw [← hqq] at hq ⊢
  have li := li.fr (show cFr 15 M3 (cRun 15 3 99 (cCopy M3)) from ((cCopy_fr M3).tr (cRun_fr 15 3 99 (cCopy M3))))
  obtain ⟨M4, hM4⟩ : ∃ M4, M4 = cRun 15 3 99 (cCopy M3) := ⟨_, rfl⟩
  rw [← hM4] at li ⊢
  refine u_istore C (lo' := [(22, _), (21, _), (20, _), (19, _), (0, _), (1, _), (2, _), (3, _), (4, _), (5, _), (7, _), (8, _), (14, _)]) dL_law_734 (by decide) rfl ?_
  refine u_aload_n C dL_law_736 rfl ?_
  refine u_callC0 C (fun B => k_digest li B) cd_X1_digest kl_L_84 ci1 rfl (by decide) (as := []) rfl rfl (rm_l ⟨by decide, by decide⟩ ⟨by decide, by decide⟩ (by omega)) ⟨rfl, rfl⟩ (Nat.le_of_ble_eq_true rfl) dL_law_737 ?_
  rw [hd _ li]
  have li := li.fr (cDm_fr M4)
  obtain ⟨M5, hM5⟩ : ∃ M5, M5 = cDm M4 := ⟨_, rfl⟩
  rw [← hM5] at li ⊢
  refine u_lload C dL_law_740 rfl ?_
  refine u_lcmp C dL_law_742 ?_
  refine u_if_eq C (tgt := 748) dL_law_743 (by decide) (fun c743 => ?_) (fun c743 => absurd (lgc d) c743)
  refine u_iconst C (v := 0) dL_law_748 (by decide) ?_
  refine u_istore C (lo' := [(23, _), (22, _), (21, _), (20, _), (19, _), (0, _), (1, _), (2, _), (3, _), (4, _), (5, _), (7, _), (8, _), (14, _)]) dL_law_749 (by decide) rfl ?_
  refine u_iconst C (v := 2) dL_law_751 (by decide) ?_
  refine u_newI C (N := 2) (rfl) (by decide) (rm_n (by omega) (by omega)) dL_law_752 (fun qhad D4 z4 o4 r4 => ?_)
  have A := A.ni h.ts z4 o4 r4
  have h := h.le (Le.ot o4 z4)
  refine u_dup C dL_law_754 rfl ?_
  refine u_iconst C (v := 0) dL_law_755 (by decide) ?_
  refine u_aload_n C dL_law_756 rfl ?_
  refine u_iconst C (v := 0) dL_law_757 (by decide) ?_
  refine u_callC0 C (fun B => k_coinsOf li (e := 0) (by decide) B) cd_X1_coinsOf kl_L_122 ci1 rfl (by decide) (as := [_]) rfl rfl (rm_l ⟨by decide, by decide⟩ ⟨by decide, by decide⟩ (by omega)) ⟨rfl, rfl⟩ (Nat.le_of_ble_eq_true rfl) dL_law_758 ?_
  refine u_iast C (A.i (k := 0) rfl) rfl (by decide : 0 < 2) (by decide) dL_law_761 (fun D5 o5 r5 => ?_)
  have h := h.ar A (k := 0) rfl o5
  have A := A.si (k := 0) rfl o5 r5
  refine u_dup C dL_law_762 rfl ?_
  refine u_iconst C (v := 1) dL_law_763 (by decide) ?_
  refine u_aload_n C dL_law_764 rfl ?_
  refine u_iconst C (v := 1) dL_law_765 (by decide) ?_
  refine u_callC0 C (fun B => k_coinsOf li (e := 1) (by decide) B) cd_X1_coinsOf kl_L_122 ci1 rfl (by decide) (as := [_]) rfl rfl (rm_l ⟨by decide, by decide⟩ ⟨by decide, by decide⟩ (by omega)) ⟨rfl, rfl⟩ (Nat.le_of_ble_eq_true rfl) dL_law_766 ?_
  refine u_iast C (A.i (k := 0) rfl) rfl (by decide : 1 < 2) (by decide) dL_law_769 (fun D6 o6 r6 => ?_)
  have h := h.ar A (k := 0) rfl o6
  have A := A.si (k := 0) rfl o6 r6
  refine u_astore C (lo' := [(24, _), (23, _), (22, _), (21, _), (20, _), (19, _), (0, _), (1, _), (2, _), (3, _), (4, _), (5, _), (7, _), (8, _), (14, _)]) dL_law_770 (by decide) rfl ?_
  refine u_iconst C (v := 1) dL_law_772 (by decide) ?_
  refine u_istore C (lo' := [(25, _), (24, _), (23, _), (22, _), (21, _), (20, _), (19, _), (0, _), (1, _), (2, _), (3, _), (4, _), (5, _), (7, _), (8, _), (14, _)]) dL_law_773 (by decide) rfl ?_
  have A := A.xi (k := 0) (f' := fun e => P 34 (3 + e)) rfl (fun j hj => by rcases (show j = 0 ∨ j = 1 by omega) with rfl | rfl <;> rfl)
  have A := A.xi (k := 1) (f' := fun e => mBeats P (1 + u) 34 (3 + e) - P 34 (3 + e)) rfl (fun j hj => by rcases (show j = 0 ∨ j = 1 by omega) with rfl | rfl <;> rfl)
  exact u_lsub [7, 8, 9, 10, 11, 13, 14, 15, 6, 5, 4, 3, 2, 1, 0] rfl (hK M5 _ qdue qhad (1 + u) qq ⟨by omega, by omega⟩ hq li h A)
set_option maxHeartbeats 1000000 in
set_option maxRecDepth 100000 in
theorem q_last {X : XT} {l : Launch} {g : GT} {b t : Nat} {x : Int32}  {ad : Nat → Nat} {nb : Nat} {P : Mem} {kc ks : Nat} (hk : kc ≤ 50000 ∧ ks ≤ 800000) {nb9 th qq qd qh bt jj : Nat} {M : Mem} {D : DM} (li : LI nb9 M (mBeats P bt)) (h : SP g D ad (mBeats P bt)) (A : AR g D (mWs P) (mSh P) ad [(qh, 2, .inl (fun e => P 34 (3 + e))), (qd, 2, .inl (fun e => mBeats P bt 34 (3 + e) - P 34 (3 + e)))]) (hK : UX X g kc ks 22 [(0, .ref b), (1, .ref (ga g 0)), (2, .ref (ad 0)), (3, .int (nI (t + 1)))] [] M D) (C : Cx X g l cL_law 39 RL (some .boolean) room_1) : UX X g (kc) (ks) 1440 [(0, .ref b), (1, .ref (ga g 0)), (2, .ref (ad 0)), (3, .int (nI t)), (4, .int x), (7, .int (nI (mSh P))), (8, .int (nI (mWs P))), (14, .int (nI th)), (19, .int (nI bt)), (20, .ref qd), (21, .int (mLOL (mKeep P) (nI th) bt)), (22, .int (nI qq)), (23, .int (mLOL (mKeep P) (nI th) bt)), (24, .ref qh), (25, .int (nI jj))] [] M D := by
  refine u_aload_n C dL_law_1440 rfl ?_
  refine u_iconst C (v := 0) dL_law_1441 (by decide) ?_
  refine u_callC0 C (fun B => k_coinsOf li (e := 0) (by decide) B) cd_X1_coinsOf kl_L_122 ci1 rfl (by decide) (as := [_]) rfl rfl (rm_l ⟨by decide, by decide⟩ ⟨by decide, by decide⟩ (by omega)) ⟨rfl, rfl⟩ (Nat.le_of_ble_eq_true rfl) dL_law_1442 ?_
  refine u_aload C dL_law_1445 rfl ?_
  refine u_iconst C (v := 0) dL_law_1447 (by decide) ?_
  refine u_ialv C (A.i (k := 0) rfl) rfl (by decide) (by decide) (v := P 34 (3 + 0)) rfl dL_law_1448 ?_
  refine u_aload C dL_law_1449 rfl ?_
  refine u_iconst C (v := 0) dL_law_1451 (by decide) ?_
  refine u_ialv C (A.i (k := 1) rfl) rfl (by decide) (by decide) (v := (mBeats P bt 34 (3 + 0) - P 34 (3 + 0))) rfl dL_law_1452 ?_
  refine u_iadd C dL_law_1453 ?_
  refine u_icmp_ne C (tgt := 1481) dL_law_1454 (by decide) (fun c1454 => absurd (show mBeats P bt 34 (3 + 0) = P 34 (3 + 0) + (mBeats P bt 34 (3 + 0) - P 34 (3 + 0)) by grind) c1454) (fun c1454 => ?_)
  refine u_aload_n C dL_law_1457 rfl ?_
  refine u_iconst C (v := 1) dL_law_1458 (by decide) ?_
  refine u_callC0 C (fun B => k_coinsOf li (e := 1) (by decide) B) cd_X1_coinsOf kl_L_122 ci1 rfl (by decide) (as := [_]) rfl rfl (rm_l ⟨by decide, by decide⟩ ⟨by decide, by decide⟩ (by omega)) ⟨rfl, rfl⟩ (Nat.le_of_ble_eq_true rfl) dL_law_1459 ?_
  refine u_aload C dL_law_1462 rfl ?_
  refine u_iconst C (v := 1) dL_law_1464 (by decide) ?_
  refine u_ialv C (A.i (k := 0) rfl) rfl (by decide) (by decide) (v := P 34 (3 + 1)) rfl dL_law_1465 ?_
  refine u_aload C dL_law_1466 rfl ?_
  refine u_iconst C (v := 1) dL_law_1468 (by decide) ?_
  refine u_ialv C (A.i (k := 1) rfl) rfl (by decide) (by decide) (v := (mBeats P bt 34 (3 + 1) - P 34 (3 + 1))) rfl dL_law_1469 ?_
  refine u_iadd C dL_law_1470 ?_
  refine u_icmp_ne C (tgt := 1481) dL_law_1471 (by decide) (fun c1471 => absurd (show mBeats P bt 34 (3 + 1) = P 34 (3 + 1) + (mBeats P bt 34 (3 + 1) - P 34 (3 + 1)) by grind) c1471) (fun c1471 => ?_)
  refine u_iload C dL_law_1474 rfl ?_
  refine u_iload C dL_law_1476 rfl ?_
  refine u_icmp_eq C (tgt := 1483) dL_law_1478 (by decide) (fun c1478 => ?_) (fun c1478 => absurd rfl c1478)
  refine u_iinc C (v := nI (t + 1)) (lo' := [(3, _), (0, _), (1, _), (2, _), (4, _), (7, _), (8, _), (14, _), (19, _), (20, _), (21, _), (22, _), (23, _), (24, _), (25, _)]) dL_law_1483 rfl (nI_inc _) (by decide) rfl ?_
  refine u_goto C (tgt := 22) dL_law_1486 (by decide) ?_
  exact u_lsub [1, 2, 3, 0] rfl (hK)
