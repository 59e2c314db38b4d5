/-! The law's body. -/
theorem rm_l {rm : Room} {mL kc ks : Nat} (h : rm.frames + 1 ≤ room_1.frames ∧ 8 + (mL + 11) + rm.locals ≤ room_1.locals) (h2 : rm.cells ≤ 9000 ∧ rm.slots ≤ 200000) (hk : kc ≤ 60000 ∧ ks ≤ 900000) : Rm rm room_1 mL kc ks := by
  obtain ⟨h3, h4⟩ := h2
  refine ⟨h, ?_, ?_⟩
  · show _ ≤ 982245
    omega
  · show _ ≤ 6154733
    omega
theorem rm_n {kc ks N : Nat} (hk : kc ≤ 60000 ∧ ks ≤ 900000) (hN : N ≤ 1000) : kc + 1 ≤ room_1.cells ∧ ks + N ≤ room_1.slots := by
  refine ⟨?_, ?_⟩
  · show _ ≤ 982245
    omega
  · show _ ≤ 6154733
    omega
set_option maxHeartbeats 1000000 in
set_option maxRecDepth 100000 in
theorem q_acts {X : XT} {l : Launch} {g : GT} {b t : Nat} {x : Int32}  (hl : l.stackTraces = false) {kc ks nb : Nat} (hk : kc ≤ 40000 ∧ ks ≤ 700000) (hnb : nb ≤ 50000) (hK : ∀ (M : Mem) (D : DM) (ad : Nat → Nat) (P : Mem), LI (nb + 400) M P → SP g D ad P → UX X g (kc + 840) (ks + 17600) 82 [(0, .ref b), (1, .ref (ga g 0)), (2, .ref (ad 0)), (3, .int (nI t)), (4, .int x)] [] M D) (C : Cx X g l cL_law 39 RL (some .boolean) room_1) : ∀ (n k : Nat) (M : Mem) (D : DM) (ad : Nat → Nat) (P : Mem), k ≤ 4 → 5 ≤ k + n → LI (nb + 100 * k) M P → SP g D ad P → UX X g (kc + 210 * k) (ks + 4400 * k) 47 [(0, .ref b), (1, .ref (ga g 0)), (2, .ref (ad 0)), (3, .int (nI t)), (4, .int x), (5, .int (nI k))] [] M D := by
  intro n
  induction n with
  | zero =>
    intro k M D ad P h1 h2; omega
  | succ n ih =>
    intro k M D ad P h1 h2 li h
    refine u_iload C dL_law_47 rfl ?_
    refine u_iconst C (v := 4) dL_law_49 (by decide) ?_
    refine u_icmp_ge C (tgt := 82) dL_law_50 (by decide) (fun c50 => ?_) (fun c50 => ?_)
    · have he : k = 4 := Nat.le_antisymm h1 ((nI_leI (a := 4) (b := k) (by omega) (by omega)).mp c50)
      subst he
      exact u_lsub [0, 1, 2, 3, 4] rfl (hK M D ad P (li.le (by omega)) h)
    · have hlt : k < 4 := Nat.lt_of_not_le (fun z => c50 ((nI_leI (a := 4) (b := k) (by omega) (by omega)).mpr z))
      refine u_aload_n C dL_law_53 rfl ?_
      refine u_aload_n C dL_law_54 rfl ?_
      refine u_iload C dL_law_55 rfl ?_
      refine u_iconst C (v := 3) dL_law_57 (by decide) ?_
      refine u_iload C dL_law_58 rfl ?_
      refine u_imul C dL_law_60 ?_
      refine u_ishr C dL_law_61 ?_
      refine u_bipush C (v := 29) dL_law_62 (by decide) ?_
      refine u_iload C dL_law_64 rfl ?_
      refine u_imul C dL_law_66 ?_
      refine u_iadd C dL_law_67 ?_
      refine u_callSW C (qL_act l hl g _ _ li (by omega) h _) cw_L_act kl_L_75 (as := [_, _, _]) rfl rfl (rm_l ⟨by decide, by decide⟩ ⟨by decide, by decide⟩ (by omega)) (Nat.le_of_ble_eq_true rfl) dL_law_68 (fun v9 M9 D9 e9 => ?_)
      obtain ⟨rfl, A1, P1, li1, h1', eA⟩ := e9
      rw [← eA]
      refine u_widen (kc' := kc + 210 * (k + 1)) (ks' := ks + 4400 * (k + 1)) (by show kc + 210 * k + 210 ≤ _; omega) (by show ks + 4400 * k + 4400 ≤ _; omega) ?_
      rw [show Option.toList (some (Value.int 1)) = [Value.int 1] from rfl]
      refine u_if_ne C (tgt := 76) dL_law_71 (by decide) (fun c71 => ?_) (fun c71 => absurd c71 (by decide))
      refine u_iinc C (v := nI (k + 1)) (lo' := [(5, _), (0, _), (1, _), (2, _), (3, _), (4, _)]) dL_law_76 rfl (nI_inc _) (by decide) rfl ?_
      refine u_goto C (tgt := 47) dL_law_79 (by decide) ?_
      exact u_lsub [1, 2, 3, 4, 5, 0] rfl (ih (k + 1) _ _ A1 P1 (by omega) (by omega) (li1.le (by omega)) h1')
def TK (P : Mem) (f : Nat → Int32) (k : Nat) : Prop := ∀ s, s < 32 → (f s ≠ 0 ↔ ∃ j, j < k ∧ 0 < P 34 (27 + j) ∧ P 34 (67 + j) = nI s)
theorem TK.no {P : Mem} {f : Nat → Int32} {k : Nat} (h : TK P f k) (hl : ¬ 0 < P 34 (27 + k)) : TK P f (k + 1) := fun s hs => by
  rw [h s hs]
  constructor
  · rintro ⟨j, a, b⟩; exact ⟨j, by omega, b⟩
  · rintro ⟨j, a, b⟩
    by_cases z : j = k
    · subst z; exact absurd b.1 hl
    · exact ⟨j, by omega, b⟩
theorem TK.yes {P : Mem} {f : Nat → Int32} {k p : Nat} (h : TK P f k) (hl : 0 < P 34 (27 + k)) (ep : P 34 (67 + k) = nI p) (hp : p < 32) : TK P (upd f p 1) (k + 1) := fun s hs => by
  unfold upd
  by_cases z : s = p
  · subst z
    rw [if_pos rfl]
    exact ⟨fun _ => ⟨k, by omega, hl, ep⟩, fun _ => by decide⟩
  · rw [if_neg z, h s hs]
    constructor
    · rintro ⟨j, a, b⟩; exact ⟨j, by omega, b⟩
    · rintro ⟨j, a, b⟩
      by_cases y : j = k
      · subst y
        rw [ep] at b
        exact absurd (nI_inj' (by omega) (by omega) b.2).symm z
      · exact ⟨j, by omega, b⟩
set_option maxHeartbeats 1000000 in
set_option maxRecDepth 100000 in
theorem q_shouts {X : XT} {l : Launch} {g : GT} {b t : Nat} {x : Int32}  {ad : Nat → Nat} {nb : Nat} {P : Mem} {kc ks : Nat} (hk : kc ≤ 50000 ∧ ks ≤ 800000) (hnb : nb + 100 ≤ 100000) {d : Int64} (hK : ∀ (M : Mem) (D : DM) (q9 : Nat) (f : Nat → Int32), LI nb M P → SP g D ad P → AR g D (mWs P) (mSh P) ad [(q9, 32, .inr f)] → TK P f (mSh P) → UX X g (kc) (ks) 302 [(0, .ref b), (1, .ref (ga g 0)), (2, .ref (ad 0)), (3, .int (nI t)), (4, .int x), (5, .long d), (7, .int (nI (mSh P))), (8, .int (nI (mWs P))), (9, .ref q9), (10, .int (mMany P)), (11, .int (uS P (mSh P)))] [] M D) (C : Cx X g l cL_law 39 RL (some .boolean) room_1) : ∀ (n k : Nat) (M : Mem) (D : DM) (q9 : Nat) (f : Nat → Int32), k ≤ mSh P → mSh P + 1 ≤ k + n → LI nb M P → SP g D ad P → AR g D (mWs P) (mSh P) ad [(q9, 32, .inr f)] → TK P f k → UX X g (kc) (ks) 115 [(0, .ref b), (1, .ref (ga g 0)), (2, .ref (ad 0)), (3, .int (nI t)), (4, .int x), (5, .long d), (7, .int (nI (mSh P))), (8, .int (nI (mWs P))), (9, .ref q9), (10, .int (mManyL P k)), (11, .int (uS P k)), (12, .int (nI k))] [] M D := by
  intro n
  induction n with
  | zero =>
    intro k M D q9 f h1 h2; omega
  | succ n ih =>
    intro k M D q9 f h1 h2 li h A htk
    have hn := h.n
    have Ah := A.2.2
    refine u_iload C dL_law_115 rfl ?_
    refine u_iload C dL_law_117 rfl ?_
    refine u_icmp_ge C (tgt := 302) dL_law_119 (by decide) (fun c119 => ?_) (fun c119 => ?_)
    · have he : k = mSh P := Nat.le_antisymm h1 ((nI_leI (a := mSh P) (b := k) (by omega) (by omega)).mp c119)
      rw [he]
      exact u_lsub [0, 1, 2, 3, 4, 5, 6, 7, 8, 9, 10] rfl (hK M D q9 f li h A (by rw [← he]; exact htk))
    · have hlt : k < mSh P := Nat.lt_of_not_le (fun z => c119 ((nI_leI (a := mSh P) (b := k) (by omega) (by omega)).mpr z))
      have hv := li.pk.lv hlt
      refine u_aload_n C dL_law_122 rfl ?_
      refine u_iload C dL_law_123 rfl ?_
      refine u_callC0 C (fun B => k_loudnessOf li hlt B) cd_X1_loudnessOf kl_L_92 ci1 rfl (by decide) (as := [_]) rfl rfl (rm_l ⟨by decide, by decide⟩ ⟨by decide, by decide⟩ (by omega)) ⟨rfl, rfl⟩ (Nat.le_of_ble_eq_true rfl) dL_law_125 ?_
      refine u_istore C (lo' := [(13, _), (0, _), (1, _), (2, _), (3, _), (4, _), (5, _), (7, _), (8, _), (9, _), (10, _), (11, _), (12, _)]) dL_law_128 (by decide) rfl ?_
      refine u_aload_n C dL_law_130 rfl ?_
      refine u_iload C dL_law_131 rfl ?_
      refine u_callC0 C (fun B => k_placeOf li hlt B) cd_X1_placeOf kl_L_95 ci1 rfl (by decide) (as := [_]) rfl rfl (rm_l ⟨by decide, by decide⟩ ⟨by decide, by decide⟩ (by omega)) ⟨rfl, rfl⟩ (Nat.le_of_ble_eq_true rfl) dL_law_133 ?_
      refine u_istore C (lo' := [(14, _), (13, _), (0, _), (1, _), (2, _), (3, _), (4, _), (5, _), (7, _), (8, _), (9, _), (10, _), (11, _), (12, _)]) dL_law_136 (by decide) rfl ?_
      refine u_iload C dL_law_138 rfl ?_
      refine u_aload_n C dL_law_140 rfl ?_
      refine u_iload C dL_law_141 rfl ?_
      refine u_callC0 C (fun B => k_turnsOf li hlt B) cd_X1_turnsOf kl_L_98 ci1 rfl (by decide) (as := [_]) rfl rfl (rm_l ⟨by decide, by decide⟩ ⟨by decide, by decide⟩ (by omega)) ⟨rfl, rfl⟩ (Nat.le_of_ble_eq_true rfl) dL_law_143 ?_
      refine u_iadd C dL_law_146 ?_
      refine u_istore C (lo' := [(11, _), (14, _), (13, _), (0, _), (1, _), (2, _), (3, _), (4, _), (5, _), (7, _), (8, _), (9, _), (10, _), (12, _)]) dL_law_147 (by decide) rfl ?_
      refine u_iload C dL_law_149 rfl ?_
      refine u_if_lt C (tgt := 256) dL_law_151 (by decide) (fun c151 => absurd c151 (Int32.not_lt.mpr hv.1.1)) (fun c151 => ?_)
      refine u_iload C dL_law_154 rfl ?_
      refine u_bipush C (v := 99) dL_law_156 (by decide) ?_
      refine u_icmp_gt C (tgt := 256) dL_law_158 (by decide) (fun c158 => absurd c158 (Int32.not_lt.mpr hv.1.2)) (fun c158 => ?_)
      refine u_iload C dL_law_161 rfl ?_
      refine u_if_le C (tgt := 170) dL_law_163 (by decide) (fun c163 => ?_) (fun c163 => ?_)
      · have hd0 : ¬ 0 < P 34 (27 + k) := Int32.not_lt.mpr c163
        have e0 : P 34 (27 + k) = 0 := Int32.le_antisymm c163 hv.1.1
        have epl : mPl P k = -1 := if_neg hd0
        have em : mManyL P k = mManyL P (k + 1) := by rw [show mManyL P (k + 1) = mManyL P k + (if 0 < P 34 (27 + k) then 1 else 0) from rfl, if_neg hd0, Int32.add_zero]
        rw [epl]
        refine u_iconst C (v := 0) dL_law_170 (by decide) ?_
        refine u_iload C dL_law_171 rfl ?_
        refine u_if_lt C (tgt := 180) dL_law_173 (by decide) (fun c173 => ?_) (fun c173 => absurd (by decide) c173)
        refine u_iconst C (v := 0) dL_law_180 (by decide) ?_
        refine u_icmp_ne C (tgt := 256) dL_law_181 (by decide) (fun c181 => absurd rfl c181) (fun c181 => ?_)
        refine u_iload C dL_law_184 rfl ?_
        refine u_bipush C (v := 31) dL_law_186 (by decide) ?_
        refine u_icmp_gt C (tgt := 256) dL_law_188 (by decide) (fun c188 => absurd c188 (by decide)) (fun c188 => ?_)
        refine u_iload C dL_law_191 rfl ?_
        refine u_if_ne C (tgt := 205) dL_law_193 (by decide) (fun c193 => absurd e0 c193) (fun c193 => ?_)
        refine u_aload_n C dL_law_196 rfl ?_
        refine u_iload C dL_law_197 rfl ?_
        refine u_callC0 C (fun B => k_goesRight li hlt B) cd_X1_goesRight kl_L_101 ci1 rfl (by decide) (as := [_]) rfl rfl (rm_l ⟨by decide, by decide⟩ ⟨by decide, by decide⟩ (by omega)) ⟨rfl, rfl⟩ (Nat.le_of_ble_eq_true rfl) dL_law_199 ?_
        refine u_bif_ne C (tgt := 256) dL_law_202 (by decide) (fun c202 => absurd c202.1 hd0) (fun c202 => ?_)
        refine u_aload_n C dL_law_205 rfl ?_
        refine u_iload C dL_law_206 rfl ?_
        refine u_callC0 C (fun B => k_beatsUntilGone li hnb hlt B) cd_X1_beatsUntilGone kl_L_105 ci1 rfl (by decide) (as := [_]) rfl rfl (rm_l ⟨by decide, by decide⟩ ⟨by decide, by decide⟩ (by omega)) ⟨rfl, rfl⟩ (Nat.le_of_ble_eq_true rfl) dL_law_208 ?_
        have ge1 := li.gone_is hnb hlt
        obtain ⟨c1, hc1⟩ : ∃ c1, c1 = nI (cCnt 25 k 99 (cCopy M)) := ⟨_, rfl⟩
        rw [← hc1] at ge1 ⊢
        have li := li.fr (show cFr 15 M (cRun 25 k 99 (cCopy M)) from ((cCopy_fr M).tr (cRun_fr 25 k 99 (cCopy M))))
        obtain ⟨M1, hM1⟩ : ∃ M1, M1 = cRun 25 k 99 (cCopy M) := ⟨_, rfl⟩
        rw [← hM1] at li ⊢
        refine u_iload C dL_law_211 rfl ?_
        refine u_icmp_gt C (tgt := 256) dL_law_213 (by decide) (fun c213 => absurd c213 (Int32.not_lt.mpr ge1.1)) (fun c213 => ?_)
        refine u_aload_n C dL_law_216 rfl ?_
        refine u_iload C dL_law_217 rfl ?_
        refine u_callC0 C (fun B => k_beatsUntilGone li hnb hlt B) cd_X1_beatsUntilGone kl_L_105 ci1 rfl (by decide) (as := [_]) rfl rfl (rm_l ⟨by decide, by decide⟩ ⟨by decide, by decide⟩ (by omega)) ⟨rfl, rfl⟩ (Nat.le_of_ble_eq_true rfl) dL_law_219 ?_
        have ge2 := li.gone_is hnb hlt
        obtain ⟨c2, hc2⟩ : ∃ c2, c2 = nI (cCnt 25 k 99 (cCopy M1)) := ⟨_, rfl⟩
        rw [← hc2] at ge2 ⊢
        have li := li.fr (show cFr 15 M1 (cRun 25 k 99 (cCopy M1)) from ((cCopy_fr M1).tr (cRun_fr 25 k 99 (cCopy M1))))
        obtain ⟨M2, hM2⟩ : ∃ M2, M2 = cRun 25 k 99 (cCopy M1) := ⟨_, rfl⟩
        rw [← hM2] at li ⊢
        refine u_if_ne C (tgt := 229) dL_law_222 (by decide) (fun c222 => absurd (ge2.2.mpr e0) c222) (fun c222 => ?_)
        refine u_iconst C (v := 1) dL_law_225 (by decide) ?_
        refine u_goto C (tgt := 230) dL_law_226 (by decide) ?_
        refine u_iload C dL_law_230 rfl ?_
        refine u_if_ne C (tgt := 239) dL_law_232 (by decide) (fun c232 => absurd e0 c232) (fun c232 => ?_)
        refine u_iconst C (v := 1) dL_law_235 (by decide) ?_
        refine u_goto C (tgt := 240) dL_law_236 (by decide) ?_
        refine u_icmp_ne C (tgt := 256) dL_law_240 (by decide) (fun c240 => absurd rfl c240) (fun c240 => ?_)
        refine u_aload_n C dL_law_243 rfl ?_
        refine u_iload C dL_law_244 rfl ?_
        refine u_callC0 C (fun B => k_beatsUntilGone li hnb hlt B) cd_X1_beatsUntilGone kl_L_105 ci1 rfl (by decide) (as := [_]) rfl rfl (rm_l ⟨by decide, by decide⟩ ⟨by decide, by decide⟩ (by omega)) ⟨rfl, rfl⟩ (Nat.le_of_ble_eq_true rfl) dL_law_246 ?_
        have li2 := li
        obtain ⟨c3, hc3⟩ : ∃ c3, c3 = nI (cCnt 25 k 99 (cCopy M2)) := ⟨_, rfl⟩
        rw [← hc3]
        have li := li.fr (show cFr 15 M2 (cRun 25 k 99 (cCopy M2)) from ((cCopy_fr M2).tr (cRun_fr 25 k 99 (cCopy M2))))
        obtain ⟨M3, hM3⟩ : ∃ M3, M3 = cRun 25 k 99 (cCopy M2) := ⟨_, rfl⟩
        rw [← hM3] at li ⊢
        refine u_aload_n C dL_law_249 rfl ?_
        refine u_callC0 C (fun B => k_beatsUntilQuiet li hnb B) cd_X1_beatsUntilQuiet kl_L_108 ci1 rfl (by decide) (as := []) rfl rfl (rm_l ⟨by decide, by decide⟩ ⟨by decide, by decide⟩ (by omega)) ⟨rfl, rfl⟩ (Nat.le_of_ble_eq_true rfl) dL_law_250 ?_
        have ge4 := li2.gone_q li hnb hlt
        obtain ⟨c4, hc4⟩ : ∃ c4, c4 = nI (cCnt 15 3 99 (cCopy M3)) := ⟨_, rfl⟩
        rw [← hc4, ← hc3] at ge4
        rw [← hc4]
        have li := li.fr (show cFr 15 M3 (cRun 15 3 99 (cCopy M3)) from ((cCopy_fr M3).tr (cRun_fr 15 3 99 (cCopy M3))))
        obtain ⟨M4, hM4⟩ : ∃ M4, M4 = cRun 15 3 99 (cCopy M3) := ⟨_, rfl⟩
        rw [← hM4] at li ⊢
        refine u_icmp_le C (tgt := 258) dL_law_253 (by decide) (fun c253 => ?_) (fun c253 => absurd ge4 c253)
        refine u_iload C dL_law_258 rfl ?_
        refine u_if_ge C (tgt := 266) dL_law_260 (by decide) (fun c260 => absurd c260 (by decide)) (fun c260 => ?_)
        refine u_goto C (tgt := 296) dL_law_263 (by decide) ?_
        refine u_iinc C (v := nI (k + 1)) (lo' := [(12, _), (11, _), (14, _), (13, _), (0, _), (1, _), (2, _), (3, _), (4, _), (5, _), (7, _), (8, _), (9, _), (10, _)]) dL_law_296 rfl (nI_inc _) (by decide) rfl ?_
        refine u_goto C (tgt := 115) dL_law_299 (by decide) ?_
        rw [em]
        exact u_lsub [4, 5, 6, 7, 8, 9, 10, 11, 12, 13, 1, 0] rfl (ih (k + 1) M4 D q9 f hlt (by omega) li h A (htk.no hd0))
      · have hl0 : 0 < P 34 (27 + k) := Int32.not_le.mp c163
        have e0 : ¬ P 34 (27 + k) = 0 := fun z => by rw [z] at hl0; exact absurd hl0 (by decide)
        obtain ⟨p, hp32, ep⟩ : ∃ p, p < 32 ∧ P 34 (67 + k) = nI p := ⟨_, tn31 (hv.2 hl0).1, nI_tn (hv.2 hl0).1.1⟩
        have epl : mPl P k = nI p := (if_pos hl0).trans ep
        have em : mManyL P k + Int32.ofInt 1 = mManyL P (k + 1) := by rw [show mManyL P (k + 1) = mManyL P k + (if 0 < P 34 (27 + k) then 1 else 0) from rfl, if_pos hl0]; rfl
        have f0 : f p = 0 := Classical.byContradiction (fun z => by
          obtain ⟨j, a1, a2, a3⟩ := (htk p hp32).mp z
          have := li.2.2.2.2.2 j k (by omega) hlt a2 hl0 (a3.trans ep.symm)
          omega)
        have eo : mLA P (nI p) = P 34 (27 + k) := by rw [← ep]; exact li.own hlt hl0
        rw [epl]
        refine u_iconst C (v := 1) dL_law_166 (by decide) ?_
        refine u_goto C (tgt := 171) dL_law_167 (by decide) ?_
        refine u_iload C dL_law_171 rfl ?_
        refine u_if_lt C (tgt := 180) dL_law_173 (by decide) (fun c173 => absurd c173 (nI_pos (by omega))) (fun c173 => ?_)
        refine u_iconst C (v := 1) dL_law_176 (by decide) ?_
        refine u_goto C (tgt := 181) dL_law_177 (by decide) ?_
        refine u_icmp_ne C (tgt := 256) dL_law_181 (by decide) (fun c181 => absurd rfl c181) (fun c181 => ?_)
        refine u_iload C dL_law_184 rfl ?_
        refine u_bipush C (v := 31) dL_law_186 (by decide) ?_
        refine u_icmp_gt C (tgt := 256) dL_law_188 (by decide) (fun c188 => absurd c188 (Int32.not_lt.mpr (nI_le (b := 31) (by omega) (by decide)))) (fun c188 => ?_)
        refine u_iload C dL_law_191 rfl ?_
        refine u_if_ne C (tgt := 205) dL_law_193 (by decide) (fun c193 => ?_) (fun c193 => absurd c193 e0)
        refine u_aload_n C dL_law_205 rfl ?_
        refine u_iload C dL_law_206 rfl ?_
        refine u_callC0 C (fun B => k_beatsUntilGone li hnb hlt B) cd_X1_beatsUntilGone kl_L_105 ci1 rfl (by decide) (as := [_]) rfl rfl (rm_l ⟨by decide, by decide⟩ ⟨by decide, by decide⟩ (by omega)) ⟨rfl, rfl⟩ (Nat.le_of_ble_eq_true rfl) dL_law_208 ?_
        have ge1 := li.gone_is hnb hlt
        obtain ⟨c1, hc1⟩ : ∃ c1, c1 = nI (cCnt 25 k 99 (cCopy M)) := ⟨_, rfl⟩
        rw [← hc1] at ge1 ⊢
        have li := li.fr (show cFr 15 M (cRun 25 k 99 (cCopy M)) from ((cCopy_fr M).tr (cRun_fr 25 k 99 (cCopy M))))
        obtain ⟨M1, hM1⟩ : ∃ M1, M1 = cRun 25 k 99 (cCopy M) := ⟨_, rfl⟩
        rw [← hM1] at li ⊢
        refine u_iload C dL_law_211 rfl ?_
        refine u_icmp_gt C (tgt := 256) dL_law_213 (by decide) (fun c213 => absurd c213 (Int32.not_lt.mpr ge1.1)) (fun c213 => ?_)
        refine u_aload_n C dL_law_216 rfl ?_
        refine u_iload C dL_law_217 rfl ?_
        refine u_callC0 C (fun B => k_beatsUntilGone li hnb hlt B) cd_X1_beatsUntilGone kl_L_105 ci1 rfl (by decide) (as := [_]) rfl rfl (rm_l ⟨by decide, by decide⟩ ⟨by decide, by decide⟩ (by omega)) ⟨rfl, rfl⟩ (Nat.le_of_ble_eq_true rfl) dL_law_219 ?_
        have ge2 := li.gone_is hnb hlt
        obtain ⟨c2, hc2⟩ : ∃ c2, c2 = nI (cCnt 25 k 99 (cCopy M1)) := ⟨_, rfl⟩
        rw [← hc2] at ge2 ⊢
        have li := li.fr (show cFr 15 M1 (cRun 25 k 99 (cCopy M1)) from ((cCopy_fr M1).tr (cRun_fr 25 k 99 (cCopy M1))))
        obtain ⟨M2, hM2⟩ : ∃ M2, M2 = cRun 25 k 99 (cCopy M1) := ⟨_, rfl⟩
        rw [← hM2] at li ⊢
        refine u_if_ne C (tgt := 229) dL_law_222 (by decide) (fun c222 => ?_) (fun c222 => absurd (ge2.2.mp c222) e0)
        refine u_iconst C (v := 0) dL_law_229 (by decide) ?_
        refine u_iload C dL_law_230 rfl ?_
        refine u_if_ne C (tgt := 239) dL_law_232 (by decide) (fun c232 => ?_) (fun c232 => absurd c232 e0)
        refine u_iconst C (v := 0) dL_law_239 (by decide) ?_
        refine u_icmp_ne C (tgt := 256) dL_law_240 (by decide) (fun c240 => absurd rfl c240) (fun c240 => ?_)
        refine u_aload_n C dL_law_243 rfl ?_
        refine u_iload C dL_law_244 rfl ?_
        refine u_callC0 C (fun B => k_beatsUntilGone li hnb hlt B) cd_X1_beatsUntilGone kl_L_105 ci1 rfl (by decide) (as := [_]) rfl rfl (rm_l ⟨by decide, by decide⟩ ⟨by decide, by decide⟩ (by omega)) ⟨rfl, rfl⟩ (Nat.le_of_ble_eq_true rfl) dL_law_246 ?_
        have li2 := li
        obtain ⟨c3, hc3⟩ : ∃ c3, c3 = nI (cCnt 25 k 99 (cCopy M2)) := ⟨_, rfl⟩
        rw [← hc3]
        have li := li.fr (show cFr 15 M2 (cRun 25 k 99 (cCopy M2)) from ((cCopy_fr M2).tr (cRun_fr 25 k 99 (cCopy M2))))
        obtain ⟨M3, hM3⟩ : ∃ M3, M3 = cRun 25 k 99 (cCopy M2) := ⟨_, rfl⟩
        rw [← hM3] at li ⊢
        refine u_aload_n C dL_law_249 rfl ?_
        refine u_callC0 C (fun B => k_beatsUntilQuiet li hnb B) cd_X1_beatsUntilQuiet kl_L_108 ci1 rfl (by decide) (as := []) rfl rfl (rm_l ⟨by decide, by decide⟩ ⟨by decide, by decide⟩ (by omega)) ⟨rfl, rfl⟩ (Nat.le_of_ble_eq_true rfl) dL_law_250 ?_
        have ge4 := li2.gone_q li hnb hlt
        obtain ⟨c4, hc4⟩ : ∃ c4, c4 = nI (cCnt 15 3 99 (cCopy M3)) := ⟨_, rfl⟩
        rw [← hc4, ← hc3] at ge4
        rw [← hc4]
        have li := li.fr (show cFr 15 M3 (cRun 15 3 99 (cCopy M3)) from ((cCopy_fr M3).tr (cRun_fr 15 3 99 (cCopy M3))))
        obtain ⟨M4, hM4⟩ : ∃ M4, M4 = cRun 15 3 99 (cCopy M3) := ⟨_, rfl⟩
        rw [← hM4] at li ⊢
        refine u_icmp_le C (tgt := 258) dL_law_253 (by decide) (fun c253 => ?_) (fun c253 => absurd ge4 c253)
        refine u_iload C dL_law_258 rfl ?_
        refine u_if_ge C (tgt := 266) dL_law_260 (by decide) (fun c260 => ?_) (fun c260 => absurd (nI_pos' (by omega)) c260)
        refine u_iinc C (v := mManyL P (k + 1)) (lo' := [(10, _), (11, _), (14, _), (13, _), (0, _), (1, _), (2, _), (3, _), (4, _), (5, _), (7, _), (8, _), (9, _), (12, _)]) dL_law_266 rfl (em) (by decide) rfl ?_
        refine u_aload C dL_law_269 rfl ?_
        refine u_iload C dL_law_271 rfl ?_
        refine u_zald C (A.z (k := 0) rfl) rfl hp32 (by decide) dL_law_273 ?_
        refine u_if_ne C (tgt := 288) dL_law_274 (by decide) (fun c274 => absurd f0 c274) (fun c274 => ?_)
        refine u_aload_n C dL_law_277 rfl ?_
        refine u_iload C dL_law_278 rfl ?_
        refine u_callC0 C (fun B => k_loudOn li hp32 B) cd_X1_loudOn kl_L_111 ci1 rfl (by decide) (as := [_]) rfl rfl (rm_l ⟨by decide, by decide⟩ ⟨by decide, by decide⟩ (by omega)) ⟨rfl, rfl⟩ (Nat.le_of_ble_eq_true rfl) dL_law_280 ?_
        refine u_iload C dL_law_283 rfl ?_
        refine u_icmp_eq C (tgt := 290) dL_law_285 (by decide) (fun c285 => ?_) (fun c285 => absurd eo c285)
        refine u_aload C dL_law_290 rfl ?_
        refine u_iload C dL_law_292 rfl ?_
        refine u_iconst C (v := 1) dL_law_294 (by decide) ?_
        refine u_zast C (A.z (k := 0) rfl) rfl hp32 (by decide)  (v' := 1) (by decide) dL_law_295 (fun D1 o1 r1 => ?_)
        have A := A.sz (k := 0) rfl o1 r1
        have h := h.ot o1 (fun i hi _ => Ah _ List.mem_cons_self i hi)
        have htk2 := htk.yes hl0 ep hp32
        refine u_iinc C (v := nI (k + 1)) (lo' := [(12, _), (10, _), (11, _), (14, _), (13, _), (0, _), (1, _), (2, _), (3, _), (4, _), (5, _), (7, _), (8, _), (9, _)]) dL_law_296 rfl (nI_inc _) (by decide) rfl ?_
        refine u_goto C (tgt := 115) dL_law_299 (by decide) ?_
        exact u_lsub [5, 6, 7, 8, 9, 10, 11, 12, 13, 1, 2, 0] rfl (ih (k + 1) M4 _ q9 _ hlt (by omega) li h A htk2)
set_option maxHeartbeats 1000000 in
set_option maxRecDepth 100000 in
theorem q_first {X : XT} {l : Launch} {g : GT} {b t : Nat} {x : Int32}  {ad : Nat → Nat} {nb : Nat} {P : Mem} {M : Mem} {D : DM} {kc ks : Nat} (hk : kc ≤ 45000 ∧ ks ≤ 750000) (hnb : nb + 100 ≤ 100000) (li : LI nb M P) (h : SP g D ad P) (hK : ∀ (d : Int64) (M : Mem) (D : DM) (q9 : Nat) (f : Nat → Int32), (∀ M', LI nb M' P → cDig M' = d) → LI nb M P → SP g D ad P → AR g D (mWs P) (mSh P) ad [(q9, 32, .inr f)] → TK P f (mSh P) → UX X g (kc + 1) (ks + 32) 302 [(0, .ref b), (1, .ref (ga g 0)), (2, .ref (ad 0)), (3, .int (nI t)), (4, .int x), (5, .long d), (7, .int (nI (mSh P))), (8, .int (nI (mWs P))), (9, .ref q9), (10, .int (mMany P)), (11, .int (uS P (mSh P)))] [] M D) (C : Cx X g l cL_law 39 RL (some .boolean) room_1) : UX X g (kc) (ks) 82 [(0, .ref b), (1, .ref (ga g 0)), (2, .ref (ad 0)), (3, .int (nI t)), (4, .int x)] [] M D := by
  have hn := h.n
  refine u_aload_n C dL_law_82 rfl ?_
  refine u_callC0 C (fun B => k_digest li B) cd_X1_digest kl_L_84 ci1 rfl (by decide) (as := []) rfl rfl (rm_l ⟨by decide, by decide⟩ ⟨by decide, by decide⟩ (by omega)) ⟨rfl, rfl⟩ (Nat.le_of_ble_eq_true rfl) dL_law_83 ?_
  obtain ⟨d, hd⟩ : ∃ d, d = cDig M := ⟨_, rfl⟩
  rw [← hd]
  have li0 := li
  have li := li.fr (cDm_fr M)
  refine u_lstore C (lo' := [(5, _), (0, _), (1, _), (2, _), (3, _), (4, _)]) dL_law_86 (by decide) rfl ?_
  refine u_aload_n C dL_law_88 rfl ?_
  refine u_callC0 C (fun B => k_shouts li  B) cd_X1_shouts kl_L_88 ci1 rfl (by decide) (as := []) rfl rfl (rm_l ⟨by decide, by decide⟩ ⟨by decide, by decide⟩ (by omega)) ⟨rfl, rfl⟩ (Nat.le_of_ble_eq_true rfl) dL_law_89 ?_
  refine u_istore C (lo' := [(7, _), (5, _), (0, _), (1, _), (2, _), (3, _), (4, _)]) dL_law_92 (by decide) rfl ?_
  refine u_aload_n C dL_law_94 rfl ?_
  refine u_callC0 C (fun B => k_walls li  B) cd_X1_walls kl_L_90 ci1 rfl (by decide) (as := []) rfl rfl (rm_l ⟨by decide, by decide⟩ ⟨by decide, by decide⟩ (by omega)) ⟨rfl, rfl⟩ (Nat.le_of_ble_eq_true rfl) dL_law_95 ?_
  refine u_istore C (lo' := [(8, _), (7, _), (5, _), (0, _), (1, _), (2, _), (3, _), (4, _)]) dL_law_98 (by decide) rfl ?_
  refine u_bipush C (v := 32) dL_law_100 (by decide) ?_
  refine u_newZ C (N := 32) (rfl) (by decide) (rm_n (by omega) (by omega)) dL_law_102 (fun qtk D1 z1 o1 r1 => ?_)
  have A := (AR.nil (g := g) (D := D) (nW := mWs P) (nS := mSh P) (ad := ad)).nz h.ts z1 o1 r1
  have h := h.le (Le.ot o1 z1)
  refine u_astore C (lo' := [(9, _), (8, _), (7, _), (5, _), (0, _), (1, _), (2, _), (3, _), (4, _)]) dL_law_104 (by decide) rfl ?_
  refine u_iconst C (v := 0) dL_law_106 (by decide) ?_
  refine u_istore C (lo' := [(10, _), (9, _), (8, _), (7, _), (5, _), (0, _), (1, _), (2, _), (3, _), (4, _)]) dL_law_107 (by decide) rfl ?_
  refine u_iconst C (v := 0) dL_law_109 (by decide) ?_
  refine u_istore C (lo' := [(11, _), (10, _), (9, _), (8, _), (7, _), (5, _), (0, _), (1, _), (2, _), (3, _), (4, _)]) dL_law_110 (by decide) rfl ?_
  refine u_iconst C (v := 0) dL_law_112 (by decide) ?_
  refine u_istore C (lo' := [(12, _), (11, _), (10, _), (9, _), (8, _), (7, _), (5, _), (0, _), (1, _), (2, _), (3, _), (4, _)]) dL_law_113 (by decide) rfl ?_
  exact u_lsub [7, 8, 9, 10, 11, 6, 5, 4, 3, 2, 1, 0] rfl (q_shouts (kc := kc + 1) (ks := ks + 32) (by omega) hnb (hK d · · · · (fun M' li9 => by rw [hd]; exact dig_same li9 li0 hnb)) C (mSh P + 1) 0 _ _ qtk _ (by omega) (by omega) li h A (fun s hs => ⟨fun z => absurd rfl z, fun ⟨j, a, _⟩ => absurd a (by omega)⟩))
