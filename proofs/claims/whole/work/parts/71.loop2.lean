/-! The law's loop: the calls without a helper, and the round. -/
theorem and63 (x : Int32) : ∃ n : Nat, n < 64 ∧ x &&& 63 = nI n := by
  refine ⟨x.toBitVec.toNat % 64, Nat.mod_lt _ (by decide), Int32.toBitVec_inj.mp (BitVec.eq_of_toNat_eq ?_)⟩
  rw [Int32.toBitVec_and, BitVec.toNat_and]
  have e : ((63 : Int32).toBitVec).toNat = 2 ^ 6 - 1 := by decide
  rw [e, Nat.and_two_pow_sub_one_eq_mod]
  show _ = (BitVec.ofNat 32 (x.toBitVec.toNat % 64)).toNat
  rw [BitVec.toNat_ofNat, Nat.mod_eq_of_lt (a := x.toBitVec.toNat % 64)]
  have := Nat.mod_lt x.toBitVec.toNat (show 0 < 64 by decide)
  omega
def Ob (l : Launch) (g : GT) (s : Int32) (nb : Nat) (M : Mem) : Prop :=
  ∃ (rm : Room) (k v : Int32) (M1 M2 : Mem), CMW l yL_goesRight cL_goesRight 4 (some .int) hhL_goesRight rm g M [.ref (ga g 0), .int s, .ref (ga g 37)] (some (.int k)) M1 ∧ CM l yX2_goesRight cX2_goesRight 2 (some .boolean) rmX2_goesRight g M1 [.ref (ga g 29), .int s] (some (.int v)) M2 ∧ M2 29 0 = k ∧ (k = 0 → M2 37 0 = v) ∧ Inv (nb + 100) M2 ∧ ((rm.frames + 1 ≤ room_1.frames ∧ 8 + (4 + 11) + rm.locals ≤ room_1.locals) ∧ rm.cells ≤ 1 ∧ rm.slots ≤ 6) ∧ (v = 0 ∨ v = 1)
theorem b2i_01 (p : Prop) [Decidable p] : b2i p = 0 ∨ b2i p = 1 := by
  by_cases c : p
  · exact Or.inr (b2i_t c)
  · exact Or.inl (b2i_f c)
theorem ob_goesRight {l : Launch} {g : GT} (hl : l.stackTraces = false) {nb : Nat} {M : Mem} (h : Inv nb M) (s : Int32) : Ob l g s nb M := by
  by_cases c : 0 ≤ s ∧ s < M 1 2
  · obtain ⟨k, hk, hk40, hks⟩ := h.ks c
    have hk2 : k < mSh M := by rw [← h.sh2]; exact hk
    subst hks
    have htk : tn (nI k) = k := tn_nI (by omega)
    have e : b2i (0 < M 13 (tn (nI k))) = b2i (mRt (wr (wr M 37 0 (b2i (0 < M 13 (tn (nI k))))) 29 0 0) k) := b2i_iff (by rw [htk]; exact (pl_is (h.rp cFr.rf _) hk2).2)
    refine ⟨_, 0, _, _, _, qL_goesRight (q1_goesRight l g M h.ok1 (nI k) c), q2_goesRight l g _ (h.rq cFr.rf _).1 k hk2, wr_eq, fun _ => ?_, h.same (((Fa.o (by omega))).tr (Fa.o (by omega))) (((Fb.o (by omega))).tr Fb.t) (by omega), ⟨⟨by decide, by decide⟩, by decide, by decide⟩, b2i_01 _⟩
    rw [← e]
    rfl
  · exact ⟨_, 1, 0, M, _, qLeB_goesRight (q1x_goesRight l hl g M s c), q2_goesRight_b l g M s (fun z => c (h.shouts.mp z)), wr_eq, fun z => absurd z (by decide), h.same (Fa.o (by omega)) Fb.t (by omega), ⟨⟨by decide, by decide⟩, by decide, by decide⟩, Or.inl rfl⟩
theorem sel_01 {v : Int32} (hv : v = 0 ∨ v = 1) : v.toInt64 = if v = 0 then 0 else 1 := by
  rcases hv with rfl | rfl <;> decide
set_option maxHeartbeats 1000000 in
set_option maxRecDepth 100000 in
theorem lo_beat {X : XT} {g : GT} {l : Launch} {b L i nb kc ks : Nat} {xs : Nat → Int32} {M : Mem} (hl : l.stackTraces = false) (C : Cx X g l cL_law 9 RL (some .boolean) room_1) (S : Sc X g b L xs) (hi : i + 4 ≤ L) (h : Inv nb M) (hnb : nb + 200 ≤ 100000) (hk : kc ≤ 590 ∧ ks ≤ 9000) (K : ∀ M', Inv (nb + 100) M' → V X g (kc + 1) (ks + 8) 1849 (loL g b i) [] M') : V X g kc ks 540 (loL g b i) [] M := by
  have hL := S.2.2.2
  refine x_aload_n C dL_law_540 rfl ?_
  refine x_callV0r C (q1_beat l g M) cd_X1_beat kl_L_122 ci1 rfl (by decide) (as := []) rfl rfl (rm_0 ⟨by decide, by decide⟩ ⟨by decide, by decide⟩ (by omega)) ⟨rfl, rfl⟩ (Nat.le_of_ble_eq_true rfl) dL_law_541 ?_
  refine x_aload_n C dL_law_544 rfl ?_
  refine x_callV0r C (q2_beat l g M) cd_X2_beat kl_L_125 ci2 rfl (by decide) (as := []) rfl rfl (rm_0 ⟨by decide, by decide⟩ ⟨by decide, by decide⟩ (by omega)) ⟨rfl, rfl⟩ (Nat.le_of_ble_eq_true rfl) dL_law_545 ?_
  refine x_icmp_eq C (tgt := 1849) dL_law_548 (by decide) (fun _ => ?_) (fun c => absurd (h.1.1.1.1) c)
  exact x_widen (by omega) (by omega) (K _ (h.dir cFr.rf 0 (Or.inl rfl)))
set_option maxHeartbeats 1000000 in
set_option maxRecDepth 100000 in
theorem lo_walls {X : XT} {g : GT} {l : Launch} {b L i nb kc ks : Nat} {xs : Nat → Int32} {M : Mem} (hl : l.stackTraces = false) (C : Cx X g l cL_law 9 RL (some .boolean) room_1) (S : Sc X g b L xs) (hi : i + 4 ≤ L) (h : Inv nb M) (hnb : nb + 200 ≤ 100000) (hk : kc ≤ 590 ∧ ks ≤ 9000) (K : ∀ M', Inv (nb + 100) M' → V X g (kc + 1) (ks + 8) 1849 (loL g b i) [] M') : V X g kc ks 553 (loL g b i) [] M := by
  have hL := S.2.2.2
  refine x_aload_n C dL_law_553 rfl ?_
  refine x_callV0r C (q1_walls l g M) cd_X1_walls kl_L_126 ci1 rfl (by decide) (as := []) rfl rfl (rm_0 ⟨by decide, by decide⟩ ⟨by decide, by decide⟩ (by omega)) ⟨rfl, rfl⟩ (Nat.le_of_ble_eq_true rfl) dL_law_554 ?_
  refine x_aload_n C dL_law_557 rfl ?_
  refine x_callV0r C (q2_walls l g M) cd_X2_walls kl_L_129 ci2 rfl (by decide) (as := []) rfl rfl (rm_0 ⟨by decide, by decide⟩ ⟨by decide, by decide⟩ (by omega)) ⟨rfl, rfl⟩ (Nat.le_of_ble_eq_true rfl) dL_law_558 ?_
  refine x_icmp_eq C (tgt := 1849) dL_law_561 (by decide) (fun _ => ?_) (fun c => absurd (h.1.1.1.2.1) c)
  exact x_widen (by omega) (by omega) (K _ (h.dir cFr.rf 0 (Or.inl rfl)))
set_option maxHeartbeats 1000000 in
set_option maxRecDepth 100000 in
theorem lo_shouts {X : XT} {g : GT} {l : Launch} {b L i nb kc ks : Nat} {xs : Nat → Int32} {M : Mem} (hl : l.stackTraces = false) (C : Cx X g l cL_law 9 RL (some .boolean) room_1) (S : Sc X g b L xs) (hi : i + 4 ≤ L) (h : Inv nb M) (hnb : nb + 200 ≤ 100000) (hk : kc ≤ 590 ∧ ks ≤ 9000) (K : ∀ M', Inv (nb + 100) M' → V X g (kc + 1) (ks + 8) 1849 (loL g b i) [] M') : V X g kc ks 566 (loL g b i) [] M := by
  have hL := S.2.2.2
  refine x_aload_n C dL_law_566 rfl ?_
  refine x_callV0r C (q1_shouts l g M) cd_X1_shouts kl_L_130 ci1 rfl (by decide) (as := []) rfl rfl (rm_0 ⟨by decide, by decide⟩ ⟨by decide, by decide⟩ (by omega)) ⟨rfl, rfl⟩ (Nat.le_of_ble_eq_true rfl) dL_law_567 ?_
  refine x_aload_n C dL_law_570 rfl ?_
  refine x_callV0r C (q2_shouts l g M) cd_X2_shouts kl_L_133 ci2 rfl (by decide) (as := []) rfl rfl (rm_0 ⟨by decide, by decide⟩ ⟨by decide, by decide⟩ (by omega)) ⟨rfl, rfl⟩ (Nat.le_of_ble_eq_true rfl) dL_law_571 ?_
  refine x_icmp_eq C (tgt := 1849) dL_law_574 (by decide) (fun _ => ?_) (fun c => absurd (h.1.1.1.2.2.1) c)
  exact x_widen (by omega) (by omega) (K _ (h.dir cFr.rf 0 (Or.inl rfl)))
set_option maxHeartbeats 1000000 in
set_option maxRecDepth 100000 in
theorem lo_underWay {X : XT} {g : GT} {l : Launch} {b L i nb kc ks : Nat} {xs : Nat → Int32} {M : Mem} (hl : l.stackTraces = false) (C : Cx X g l cL_law 9 RL (some .boolean) room_1) (S : Sc X g b L xs) (hi : i + 4 ≤ L) (h : Inv nb M) (hnb : nb + 200 ≤ 100000) (hk : kc ≤ 590 ∧ ks ≤ 9000) (K : ∀ M', Inv (nb + 100) M' → V X g (kc + 1) (ks + 8) 1849 (loL g b i) [] M') : V X g kc ks 579 (loL g b i) [] M := by
  have hL := S.2.2.2
  refine x_aload_n C dL_law_579 rfl ?_
  refine x_callV0r C (q1_underWay l g M) cd_X1_underWay kl_L_134 ci1 rfl (by decide) (as := []) rfl rfl (rm_0 ⟨by decide, by decide⟩ ⟨by decide, by decide⟩ (by omega)) ⟨rfl, rfl⟩ (Nat.le_of_ble_eq_true rfl) dL_law_580 ?_
  refine x_aload_n C dL_law_583 rfl ?_
  refine x_callV0r C (q2_underWay l g M h.1.2.2.2.1) cd_X2_underWay kl_L_137 ci2 rfl (by decide) (as := []) rfl rfl (rm_0 ⟨by decide, by decide⟩ ⟨by decide, by decide⟩ (by omega)) ⟨rfl, rfl⟩ (Nat.le_of_ble_eq_true rfl) dL_law_584 ?_
  refine x_icmp_eq C (tgt := 1849) dL_law_587 (by decide) (fun _ => ?_) (fun c => absurd ((rel_many h.1).symm) c)
  exact x_widen (by omega) (by omega) (K _ (h.dir cFr.rf 0 (Or.inl rfl)))
set_option maxHeartbeats 1000000 in
set_option maxRecDepth 100000 in
theorem lo_overlaps {X : XT} {g : GT} {l : Launch} {b L i nb kc ks : Nat} {xs : Nat → Int32} {M : Mem} (hl : l.stackTraces = false) (C : Cx X g l cL_law 9 RL (some .boolean) room_1) (S : Sc X g b L xs) (hi : i + 4 ≤ L) (h : Inv nb M) (hnb : nb + 200 ≤ 100000) (hk : kc ≤ 590 ∧ ks ≤ 9000) (K : ∀ M', Inv (nb + 100) M' → V X g (kc + 1) (ks + 8) 1849 (loL g b i) [] M') : V X g kc ks 592 (loL g b i) [] M := by
  have hL := S.2.2.2
  refine x_aload_n C dL_law_592 rfl ?_
  refine x_callV0r C (q1_overlaps l g M) cd_X1_overlaps kl_L_138 ci1 rfl (by decide) (as := []) rfl rfl (rm_0 ⟨by decide, by decide⟩ ⟨by decide, by decide⟩ (by omega)) ⟨rfl, rfl⟩ (Nat.le_of_ble_eq_true rfl) dL_law_593 ?_
  refine x_aload_n C dL_law_596 rfl ?_
  refine x_callV0r C (q2_overlaps l g M) cd_X2_overlaps kl_L_141 ci2 rfl (by decide) (as := []) rfl rfl (rm_0 ⟨by decide, by decide⟩ ⟨by decide, by decide⟩ (by omega)) ⟨rfl, rfl⟩ (Nat.le_of_ble_eq_true rfl) dL_law_597 ?_
  refine x_icmp_eq C (tgt := 1849) dL_law_600 (by decide) (fun _ => ?_) (fun c => absurd (h.1.1.1.2.2.2.1) c)
  exact x_widen (by omega) (by omega) (K _ (h.dir cFr.rf 0 (Or.inl rfl)))
set_option maxHeartbeats 1000000 in
set_option maxRecDepth 100000 in
theorem lo_inherited {X : XT} {g : GT} {l : Launch} {b L i nb kc ks : Nat} {xs : Nat → Int32} {M : Mem} (hl : l.stackTraces = false) (C : Cx X g l cL_law 9 RL (some .boolean) room_1) (S : Sc X g b L xs) (hi : i + 4 ≤ L) (h : Inv nb M) (hnb : nb + 200 ≤ 100000) (hk : kc ≤ 590 ∧ ks ≤ 9000) (K : ∀ M', Inv (nb + 100) M' → V X g (kc + 1) (ks + 8) 1849 (loL g b i) [] M') : V X g kc ks 1109 (loL g b i) [] M := by
  have hL := S.2.2.2
  refine x_aload_n C dL_law_1109 rfl ?_
  refine x_callV0r C (q1_inherited l g M) cd_X1_inherited kl_L_169 ci1 rfl (by decide) (as := []) rfl rfl (rm_0 ⟨by decide, by decide⟩ ⟨by decide, by decide⟩ (by omega)) ⟨rfl, rfl⟩ (Nat.le_of_ble_eq_true rfl) dL_law_1110 ?_
  refine x_aload_n C dL_law_1113 rfl ?_
  refine x_callV0r C (q2_inherited l g M) cd_X2_inherited kl_L_172 ci2 rfl (by decide) (as := []) rfl rfl (rm_0 ⟨by decide, by decide⟩ ⟨by decide, by decide⟩ (by omega)) ⟨rfl, rfl⟩ (Nat.le_of_ble_eq_true rfl) dL_law_1114 ?_
  refine x_icmp_eq C (tgt := 1849) dL_law_1117 (by decide) (fun _ => ?_) (fun c => absurd (h.1.1.1.2.2.2.2) c)
  exact x_widen (by omega) (by omega) (K _ (h.dir cFr.rf 0 (Or.inl rfl)))
set_option maxHeartbeats 1000000 in
set_option maxRecDepth 100000 in
theorem lo_beatsUntilQuiet {X : XT} {g : GT} {l : Launch} {b L i nb kc ks : Nat} {xs : Nat → Int32} {M : Mem} (hl : l.stackTraces = false) (C : Cx X g l cL_law 9 RL (some .boolean) room_1) (S : Sc X g b L xs) (hi : i + 4 ≤ L) (h : Inv nb M) (hnb : nb + 200 ≤ 100000) (hk : kc ≤ 590 ∧ ks ≤ 9000) (K : ∀ M', Inv (nb + 100) M' → V X g (kc + 1) (ks + 8) 1849 (loL g b i) [] M') : V X g kc ks 1493 (loL g b i) [] M := by
  have hL := S.2.2.2
  refine x_aload_n C dL_law_1493 rfl ?_
  refine x_callV0r C (q1_beatsUntilQuiet l g M h.ok1) cd_X1_beatsUntilQuiet kl_L_192 ci1 rfl (by decide) (as := []) rfl rfl (rm_0 ⟨by decide, by decide⟩ ⟨by decide, by decide⟩ (by omega)) ⟨rfl, rfl⟩ (Nat.le_of_ble_eq_true rfl) dL_law_1494 ?_
  refine x_aload_n C dL_law_1497 rfl ?_
  refine x_callV0r C (q2_beatsUntilQuiet l g _ (h.md ((cCopy_fr M).tr (cRun_fr 15 3 99 (cCopy M)))).2.2.2.1 (cCnt 15 3 99 (cCopy M)) (h.quiet hnb).1 (h.quiet hnb).2) cd_X2_beatsUntilQuiet kl_L_195 ci2 rfl (by decide) (as := []) rfl rfl (rm_0 ⟨by decide, by decide⟩ ⟨by decide, by decide⟩ (by omega)) ⟨rfl, rfl⟩ (Nat.le_of_ble_eq_true rfl) dL_law_1498 ?_
  refine x_icmp_eq C (tgt := 1849) dL_law_1501 (by decide) (fun _ => ?_) (fun c => absurd (rfl) c)
  exact x_widen (by omega) (by omega) (K _ (h.dir ((cCopy_fr M).tr (cRun_fr 15 3 99 (cCopy M))) (cCnt 15 3 99 (cCopy M)) (Or.inr rfl)))
set_option maxHeartbeats 1000000 in
set_option maxRecDepth 100000 in
theorem lo_digest {X : XT} {g : GT} {l : Launch} {b L i nb kc ks : Nat} {xs : Nat → Int32} {M : Mem} (hl : l.stackTraces = false) (C : Cx X g l cL_law 9 RL (some .boolean) room_1) (S : Sc X g b L xs) (hi : i + 4 ≤ L) (hg : gn g = 38) (h : Inv nb M) (hnb : nb + 200 ≤ 100000) (hk : kc ≤ 590 ∧ ks ≤ 9000) (K : ∀ M', Inv (nb + 100) M' → V X g (kc + 1) (ks + 8) 1849 (loL g b i) [] M') : V X g kc ks 1835 (loL g b i) [] M := by
  have hL := S.2.2.2
  refine x_aload_n C dL_law_1835 rfl ?_
  refine x_callV0r C (q1_digest l g M h.ok1) cd_X1_digest kl_L_213 ci1 rfl (by decide) (as := []) rfl rfl (rm_0 ⟨by decide, by decide⟩ ⟨by decide, by decide⟩ (by omega)) ⟨rfl, rfl⟩ (Nat.le_of_ble_eq_true rfl) dL_law_1836 ?_
  refine x_aload_n C dL_law_1839 rfl ?_
  refine x_callV C (q2_digest l g _ hg (h.md (cDm_fr M)).2.2.2.1 (h.md (cDm_fr M)).2.2.2.2.1 (cCnt 15 3 99 (cCopy M)) (h.digt hnb).1 (h.digt hnb).2) cd_X2_digest kl_L_217 ci2 rfl (by decide) (as := []) rfl rfl (rm_0 ⟨by decide, by decide⟩ ⟨by decide, by decide⟩ (by omega)) (Nat.le_of_ble_eq_true rfl) dL_law_1840 ?_
  refine x_lcmp C dL_law_1843 ?_
  refine x_if_eq C (tgt := 1849) dL_law_1844 (by decide) (fun _ => ?_) (fun c => absurd (by rw [h.digv hnb]; exact lgc _) c)
  exact K _ (h.dig _)
set_option maxHeartbeats 1000000 in
set_option maxRecDepth 100000 in
theorem lo_meanLoudness {X : XT} {g : GT} {l : Launch} {b L i nb kc ks : Nat} {xs : Nat → Int32} {M : Mem} (hl : l.stackTraces = false) (C : Cx X g l cL_law 9 RL (some .boolean) room_1) (S : Sc X g b L xs) (hi : i + 4 ≤ L) (h : Inv nb M) (hnb : nb + 200 ≤ 100000) (hk : kc ≤ 590 ∧ ks ≤ 9000) (K : ∀ M', Inv (nb + 100) M' → V X g (kc + 1) (ks + 8) 1849 (loL g b i) [] M') : V X g kc ks 1794 (loL g b i) [] M := by
  have hL := S.2.2.2
  obtain ⟨m1, m2, m3⟩ := h.mean
  refine x_aload_n C dL_law_1794 rfl ?_
  refine x_callV0r C (q1_meanLoudness l g M h.ok1 m2) cd_X1_meanLoudness kl_L_208 ci1 rfl (by decide) (as := []) rfl rfl (rm_0 ⟨by decide, by decide⟩ ⟨by decide, by decide⟩ (by omega)) ⟨rfl, rfl⟩ (Nat.le_of_ble_eq_true rfl) dL_law_1795 ?_
  refine x_dstore C (lo' := [(5, _), (4, _), (3, _), (2, _), (1, _), (0, _)]) dL_law_1798 (by decide) rfl ?_
  refine x_aload_n C dL_law_1800 rfl ?_
  refine x_callV0r C (q2_meanLoudness l g M h.1.2.2.2.1 m3) cd_X2_meanLoudness kl_L_212 ci2 rfl (by decide) (as := []) rfl rfl (rm_0 ⟨by decide, by decide⟩ ⟨by decide, by decide⟩ (by omega)) ⟨rfl, rfl⟩ (Nat.le_of_ble_eq_true rfl) dL_law_1801 ?_
  rw [← m1]
  generalize cMean M = p
  refine x_dstore C (lo' := [(7, _), (5, _), (4, _), (3, _), (2, _), (1, _), (0, _)]) dL_law_1804 (by decide) rfl ?_
  have fin : V X g kc ks 1832 [(7, .double p), (5, .double p), (4, .int (nI i)), (3, .ref (ga g 37)), (2, .ref (ga g 29)), (1, .ref (ga g 0)), (0, .ref b)] [] (wr M 29 0 0) := by
    refine x_goto C (tgt := 1849) dL_law_1832 (by decide) ?_
    exact x_widen (by omega) (by omega) (x_lsub [2, 3, 4, 5, 6] rfl (K _ (h.dir cFr.rf 0 (Or.inl rfl))))
  refine x_dload C dL_law_1806 rfl ?_
  refine x_dload C dL_law_1808 rfl ?_
  refine x_dcmp C dL_law_1810 ?_
  refine x_if_eq C (tgt := 1832) dL_law_1811 (by decide) (fun _ => fin) (fun c => ?_)
  refine x_dload C dL_law_1814 rfl ?_
  refine x_dload C dL_law_1816 rfl ?_
  refine x_dcmp C dL_law_1818 ?_
  refine x_if_eq C (tgt := 1830) dL_law_1819 (by decide) (fun c2 => absurd c2 c) (fun _ => ?_)
  refine x_dload C dL_law_1822 rfl ?_
  refine x_dload C dL_law_1824 rfl ?_
  refine x_dcmp C dL_law_1826 ?_
  exact x_if_ne C (tgt := 1832) dL_law_1827 (by decide) (fun _ => fin) (fun c3 => absurd c3 c)
