/-! Something that a number chooses, done to both. -/
abbrev rmL_act : Room := { frames := 8, cells := 210, slots := 4400, locals := 170 }
set_option maxHeartbeats 1000000 in
set_option maxRecDepth 100000 in
theorem qL_act_w {X : XT} {l : Launch} {g : GT} {R : Option Value → Mem → DM → Prop} (hl : l.stackTraces = false) {M : Mem} {D : DM} {ad : Nat → Nat} {nb : Nat} {P : Mem} {x : Int32} {s : Nat} (ls : s < 32) (li : LI nb M P) (hnb : nb + 100 ≤ 100000) (h : SP g D ad P) (hR : ∀ (M1 : Mem) (D1 : DM) (A : Nat → Nat) (P1 : Mem), LI (nb + 100) M1 P1 → SP g D1 A P1 → A 0 = ad 0 → R (some (.int 1)) M1 D1) (C : Cx X g l cL_act 8 RL (some .boolean) rmL_act) (hq : RU X g rmL_act R) (hT : (xC X).exceptionTable.toList = tableOf hhL_act) : UX X g 0 0 64 [(4, .int 1), (3, .int (nI s)), (0, .ref (ga g 0)), (1, .ref (ad 0)), (2, .int x)] [] M D := by
  have hn := h.n
  have hp := li.pk
  refine u_iload_n C dL_act_64 rfl ?_
  refine u_bipush C (v := 9) dL_act_65 (by decide) ?_
  refine u_ishr C dL_act_67 ?_
  refine u_iconst C (v := 2) dL_act_68 (by decide) ?_
  refine u_callS0 C (qL_below l g M _ (v := x >>> (9 &&& 31)) (n := 2) (by omega) (by omega)) cd_L_below kl_L_9 (as := [_, _]) rfl rfl ⟨⟨by decide, by decide⟩, by decide, by decide⟩ ⟨rfl, rfl⟩ (Nat.le_of_ble_eq_true rfl) dL_act_69 ?_
  obtain ⟨e, he⟩ : ∃ e, e = bl (x >>> (9 &&& 31)) 2 := ⟨_, rfl⟩
  have le : e < 2 := by rw [he]; exact (bl_lt _ (by omega) (by omega)).1
  rw [← he]
  refine u_istore C (lo' := [(5, _), (4, _), (3, _), (0, _), (1, _), (2, _)]) dL_act_72 (by decide) rfl ?_
  refine u_iload_n C dL_act_74 rfl ?_
  refine u_iconst C (v := 5) dL_act_75 (by decide) ?_
  refine u_ishr C dL_act_76 ?_
  refine u_bipush C (v := 6) dL_act_77 (by decide) ?_
  refine u_callS0 C (qL_below l g M _ (v := x >>> (5 &&& 31)) (n := 6) (by omega) (by omega)) cd_L_below kl_L_9 (as := [_, _]) rfl rfl ⟨⟨by decide, by decide⟩, by decide, by decide⟩ ⟨rfl, rfl⟩ (Nat.le_of_ble_eq_true rfl) dL_act_79 ?_
  obtain ⟨so, hso⟩ : ∃ so, so = bl (x >>> (5 &&& 31)) 6 := ⟨_, rfl⟩
  have lso : so < 6 := by rw [hso]; exact (bl_lt _ (by omega) (by omega)).1
  rw [← hso]
  refine u_istore C (lo' := [(6, _), (5, _), (4, _), (3, _), (0, _), (1, _), (2, _)]) dL_act_82 (by decide) rfl ?_
  refine u_aload_n C dL_act_84 rfl ?_
  refine u_getF C fl_L_15 (h.ob nm0) rfl dL_act_85 ?_
  refine u_ralen C (h.walls nm0) dL_act_88 ?_
  refine u_istore C (lo' := [(7, _), (6, _), (5, _), (4, _), (3, _), (0, _), (1, _), (2, _)]) dL_act_89 (by decide) rfl ?_
  refine u_iload C dL_act_91 rfl ?_
  refine u_bipush C (v := 10) dL_act_93 (by decide) ?_
  refine u_icmp_ge C (tgt := 110) dL_act_95 (by decide) (fun c95 => ?_) (fun c95 => ?_)
  · have in_so : 0 ≤ nI so ∧ nI so ≤ 5 := ⟨nI_pos' (by omega), nI_le (b := 5) (by omega) (by decide)⟩
    have hbad : M 1 1 = 10 ∨ M 3 (tn (nI s)) ≠ -1 := Or.inl (by rw [li.w1.1, show mWs P = 10 by have := (nI_leI (a := 10) (b := mWs P) (by omega) (by omega)).mp c95; omega]; rfl)
    refine u_iconst C (v := 0) dL_act_110 (by decide) ?_
    refine u_istore C (lo' := [(4, _), (7, _), (6, _), (5, _), (3, _), (0, _), (1, _), (2, _)]) dL_act_111 (by decide) rfl ?_
    refine u_iload C dL_act_113 rfl ?_
    refine u_if_eq C (tgt := 150) dL_act_115 (by decide) (fun _ => ?_) (fun c => absurd (by decide) c)
    refine u_aload_n C dL_act_150 rfl ?_
    refine u_iload_n C dL_act_151 rfl ?_
    refine u_iload C dL_act_152 rfl ?_
    refine u_iload C dL_act_154 rfl ?_
    refine u_callCx C hT (pre := []) (x := (12, 174, 487, 68)) (suf := [(175, 184, 487, 68), (185, 240, 487, 68), (241, 299, 487, 68), (300, 437, 487, 68), (438, 486, 487, 68)]) (by decide) (fun B => q1x_addWall_4 l hl (B, g.2) M li.ok (nI s) (nI e) (nI so) (in_s ls) (in_e le) in_so hbad) cd_X1_addWall kl_L_29 ci1 rfl (by decide) (as := [_, _, _]) rfl rfl ⟨⟨by decide, by decide⟩, by decide, by decide⟩ (Nat.le_of_ble_eq_true rfl) dL_act_156 ⟨by decide, by decide, by decide +kernel, by decide +kernel⟩ (fun qx => ?_)
    refine u_astore C (lo' := [(5, _), (4, _), (7, _), (6, _), (3, _), (0, _), (1, _), (2, _)]) dL_act_487 (by decide) rfl ?_
    refine u_iload C dL_act_489 rfl ?_
    refine u_if_ne C (tgt := 498) dL_act_491 (by decide) (fun c => absurd c (by decide)) (fun _ => ?_)
    refine u_iconst C (v := 1) dL_act_494 (by decide) ?_
    refine u_goto C (tgt := 499) dL_act_495 (by decide) ?_
    exact u_zret C hq (by decide) ⟨by decide, by decide⟩ dL_act_499 (hR _ _ _ _ (li.le (by omega)) h rfl)
  · have in_so : 0 ≤ nI so ∧ nI so ≤ 5 := ⟨nI_pos' (by omega), nI_le (b := 5) (by omega) (by decide)⟩
    refine u_aload_n C dL_act_98 rfl ?_
    refine u_iload_n C dL_act_99 rfl ?_
    refine u_callV0 C (qs_wallOn l g M _ h ⟨nm0, nm0, fun _ _ => nm0⟩ (nI s)) cd_X2_wallOn kl_L_21 ci2 (h.ob nm0) (as := [_]) rfl rfl ⟨⟨by decide, by decide⟩, by decide, by decide⟩ ⟨rfl, rfl⟩ (Nat.le_of_ble_eq_true rfl) dL_act_100 ?_
    rw [sWO_is hp.2.2.1 (in_s ls), tn_nI (by omega)]
    refine u_if_ge C (tgt := 110) dL_act_103 (by decide) (fun c103 => ?_) (fun c103 => ?_)
    · have hbad : M 1 1 = 10 ∨ M 3 (tn (nI s)) ≠ -1 := Or.inr (fun z => by
        rw [tn_nI (by omega), show M 3 s = P 31 s from (li.1.1.2.1 s ls).2] at z
        rw [z] at c103
        exact absurd c103 (by decide))
      refine u_iconst C (v := 0) dL_act_110 (by decide) ?_
      refine u_istore C (lo' := [(4, _), (7, _), (6, _), (5, _), (3, _), (0, _), (1, _), (2, _)]) dL_act_111 (by decide) rfl ?_
      refine u_iload C dL_act_113 rfl ?_
      refine u_if_eq C (tgt := 150) dL_act_115 (by decide) (fun _ => ?_) (fun c => absurd (by decide) c)
      refine u_aload_n C dL_act_150 rfl ?_
      refine u_iload_n C dL_act_151 rfl ?_
      refine u_iload C dL_act_152 rfl ?_
      refine u_iload C dL_act_154 rfl ?_
      refine u_callCx C hT (pre := []) (x := (12, 174, 487, 68)) (suf := [(175, 184, 487, 68), (185, 240, 487, 68), (241, 299, 487, 68), (300, 437, 487, 68), (438, 486, 487, 68)]) (by decide) (fun B => q1x_addWall_4 l hl (B, g.2) M li.ok (nI s) (nI e) (nI so) (in_s ls) (in_e le) in_so hbad) cd_X1_addWall kl_L_29 ci1 rfl (by decide) (as := [_, _, _]) rfl rfl ⟨⟨by decide, by decide⟩, by decide, by decide⟩ (Nat.le_of_ble_eq_true rfl) dL_act_156 ⟨by decide, by decide, by decide +kernel, by decide +kernel⟩ (fun qx => ?_)
      refine u_astore C (lo' := [(5, _), (4, _), (7, _), (6, _), (3, _), (0, _), (1, _), (2, _)]) dL_act_487 (by decide) rfl ?_
      refine u_iload C dL_act_489 rfl ?_
      refine u_if_ne C (tgt := 498) dL_act_491 (by decide) (fun c => absurd c (by decide)) (fun _ => ?_)
      refine u_iconst C (v := 1) dL_act_494 (by decide) ?_
      refine u_goto C (tgt := 499) dL_act_495 (by decide) ?_
      exact u_zret C hq (by decide) ⟨by decide, by decide⟩ dL_act_499 (hR _ _ _ _ (li.le (by omega)) h rfl)
    · have hnw : mWs P < 10 := Nat.lt_of_not_le (fun z => c95 ((nI_leI (a := 10) (b := mWs P) (by omega) (by omega)).mpr z))
      have hw31 : P 31 s = -1 := (hp.2.2.1.2 s ls).resolve_right (fun ⟨w, a1, a2, _⟩ => c103 (by rw [a2]; exact nI_pos' (by omega)))
      have hw3 : M 3 (tn (nI s)) = -1 := by rw [tn_nI (by omega), show M 3 s = P 31 s from (li.1.1.2.1 s ls).2]; exact hw31
      have n10 : ¬ M 1 1 = 10 := by
        rw [li.w1.1]
        intro z
        have := congrArg tn z
        rw [tn_nI (by omega)] at this
        have e10 : tn (10 : Int32) = 10 := by decide
        omega
      refine u_iconst C (v := 1) dL_act_106 (by decide) ?_
      refine u_goto C (tgt := 111) dL_act_107 (by decide) ?_
      refine u_istore C (lo' := [(4, _), (7, _), (6, _), (5, _), (3, _), (0, _), (1, _), (2, _)]) dL_act_111 (by decide) rfl ?_
      refine u_iload C dL_act_113 rfl ?_
      refine u_if_eq C (tgt := 150) dL_act_115 (by decide) (fun c => absurd c (by decide)) (fun _ => ?_)
      refine u_aload_n C dL_act_118 rfl ?_
      refine u_aload_n C dL_act_119 rfl ?_
      refine u_getF C fl_L_15 (h.ob nm0) rfl dL_act_120 ?_
      refine u_iconst C (v := 4) dL_act_123 (by decide) ?_
      refine u_newI C (N := 4) (rfl) (by decide) ⟨by decide, by decide⟩ dL_act_124 (fun qrow D1 z1 o1 r1 => ?_)
      have l1 := Le.ot o1 z1
      have nqr : ∀ i, su (mWs P) (mSh P) i → ad i ≠ qrow := fun i hi e => h.told hi nm0 (by rw [e]; exact z1)
      have h := h.le l1
      have ir := r1
      refine u_dup C dL_act_126 rfl ?_
      refine u_iconst C (v := 0) dL_act_127 (by decide) ?_
      refine u_iload_n C dL_act_128 rfl ?_
      refine u_iast C (ir) rfl (by decide : 0 < 4) (by decide) dL_act_129 (fun D2 o2 r2 => ?_)
      have h := h.ot o2 (fun i hi _ => nqr i hi)
      have ir := r2
      refine u_dup C dL_act_130 rfl ?_
      refine u_iconst C (v := 1) dL_act_131 (by decide) ?_
      refine u_iload C dL_act_132 rfl ?_
      refine u_iast C (ir) rfl (by decide : 1 < 4) (by decide) dL_act_134 (fun D3 o3 r3 => ?_)
      have h := h.ot o3 (fun i hi _ => nqr i hi)
      have ir := r3
      refine u_dup C dL_act_135 rfl ?_
      refine u_iconst C (v := 2) dL_act_136 (by decide) ?_
      refine u_iload C dL_act_137 rfl ?_
      refine u_iast C (ir) rfl (by decide : 2 < 4) (by decide) dL_act_139 (fun D4 o4 r4 => ?_)
      have h := h.ot o4 (fun i hi _ => nqr i hi)
      have ir := r4
      refine u_dup C dL_act_140 rfl ?_
      refine u_iconst C (v := 3) dL_act_141 (by decide) ?_
      refine u_iconst C (v := 0) dL_act_142 (by decide) ?_
      refine u_iast C (ir) rfl (by decide : 3 < 4) (by decide) dL_act_143 (fun D5 o5 r5 => ?_)
      have h := h.ot o5 (fun i hi _ => nqr i hi)
      have ir := r5
      have ir := z4_all ir
      refine u_callS C (qs_with l g M _ (n0 := mWs P) (by omega) (h.walls nm0) ⟨_, ir⟩ (fun i hi => ⟨_, h.wrow hi nm0⟩)) cd_X2_with kl_L_25 (as := [_, _]) rfl rfl ⟨⟨by decide, by decide⟩, by decide, by decide⟩ (Nat.le_of_ble_eq_true rfl) dL_act_144 (fun v9 M9 D9 e9 => ?_)
      obtain ⟨em, q, rfl, zq, oq, rq⟩ := e9
      have em := em.symm
      subst em
      have nq : ∀ i, su (mWs P) (mSh P) i → ad i ≠ q := fun i hi e => h.told hi nm0 (by rw [e]; exact zq)
      have hqr : q ≠ qrow := fun e => ir.some (by rw [← e]; exact zq)
      have l2 := Le.ot oq zq
      have h := h.le l2
      have ir := ir.le l2
      show UX X g 2 45 147 _ [.ref q, .ref (ad 0)] M D9
      refine u_putR C fn_L_15 (h.ob nm0) (Nat.le_of_ble_eq_true rfl) dL_act_147 (fun D6 o6 r6 => ?_)
      have ob : OB D6 (ad 0) 2 [.ref (ad 1), .ref q, .ref (ad 3), .ref (ad 4), .ref (ad 5), .int (P 34 0), .int (P 34 1), .int (P 34 2)] := r6
      have sm := (h.mask (mk' := [0]) (fun i hi => absurd hi List.not_mem_nil)).otm o6 (su_c (by omega)) List.mem_cons_self
      have rq := rq.ot o6 (Ne.symm (nq 0 (su_c (by omega))))
      have ir := ir.ot o6 (Ne.symm (nqr 0 (su_c (by omega))))
      have z0 : P 34 (17 + mWs P) = 0 := by
        rw [← (show M 8 (mWs P) = P 34 (17 + mWs P) from (li.1.1.2.2.1 _ hnw).2.2.2)]
        exact li.2.1.1 _ (by rw [li.w1.1, tn_nI (by omega)]; exact Nat.le_refl _) hnw
      have sp2 := SM.addW (e := nI e) (so := nI so) (s := nI s) hp hnw nq nqr hqr sm ob rq ir z0
      refine u_aload_n C dL_act_150 rfl ?_
      refine u_iload_n C dL_act_151 rfl ?_
      refine u_iload C dL_act_152 rfl ?_
      refine u_iload C dL_act_154 rfl ?_
      refine u_callC0 C (fun B => (by
    have z := q1_addWall l (B, g.2) M li.ok (nI s) (nI e) (nI so) (in_s ls) (in_e le) in_so n10 hw3
    rw [li.w1.1] at z
    exact z)) cd_X1_addWall kl_L_29 ci1 rfl (by decide) (as := [_, _, _]) rfl rfl ⟨⟨by decide, by decide⟩, by decide, by decide⟩ ⟨rfl, rfl⟩ (Nat.le_of_ble_eq_true rfl) dL_act_156 ?_
      refine u_iload C dL_act_159 rfl ?_
      refine u_icmp_ne C (tgt := 173) dL_act_161 (by decide) (fun c161 => absurd rfl c161) (fun c161 => ?_)
      refine u_iload C dL_act_164 rfl ?_
      refine u_if_eq C (tgt := 173) dL_act_166 (by decide) (fun c => absurd c (by decide)) (fun _ => ?_)
      refine u_iconst C (v := 1) dL_act_169 (by decide) ?_
      refine u_goto C (tgt := 174) dL_act_170 (by decide) ?_
      exact u_zret C hq (by decide) ⟨by decide, by decide⟩ dL_act_174 (hR _ _ _ _ ((li.build (in_s ls) (in_e le) in_so hnw (by rw [tn_nI (by omega)]; exact hw31)).le (by omega)) sp2 (by rw [aN_ne (by omega), aN_ne (by decide)]))
set_option maxHeartbeats 1000000 in
set_option maxRecDepth 100000 in
theorem qL_act_h {X : XT} {l : Launch} {g : GT} {R : Option Value → Mem → DM → Prop} (hl : l.stackTraces = false) {M : Mem} {D : DM} {ad : Nat → Nat} {nb : Nat} {P : Mem} {x : Int32} {s : Nat} (ls : s < 32) (li : LI nb M P) (hnb : nb + 100 ≤ 100000) (h : SP g D ad P) (hR : ∀ (M1 : Mem) (D1 : DM) (A : Nat → Nat) (P1 : Mem), LI (nb + 100) M1 P1 → SP g D1 A P1 → A 0 = ad 0 → R (some (.int 1)) M1 D1) (C : Cx X g l cL_act 8 RL (some .boolean) rmL_act) (hq : RU X g rmL_act R) (hT : (xC X).exceptionTable.toList = tableOf hhL_act) : UX X g 0 0 175 [(4, .int 1), (3, .int (nI s)), (0, .ref (ga g 0)), (1, .ref (ad 0)), (2, .int x)] [] M D := by
  have hn := h.n
  have hp := li.pk
  refine u_aload_n C dL_act_175 rfl ?_
  refine u_getF C fl_L_15 (h.ob nm0) rfl dL_act_176 ?_
  refine u_ralen C (h.walls nm0) dL_act_179 ?_
  refine u_if_ne C (tgt := 185) dL_act_180 (by decide) (fun c180 => ?_) (fun c180 => ?_)
  · have hw0 : 0 < mWs P := Nat.pos_of_ne_zero (fun z => by
      rw [z] at c180
      exact c180 rfl)
    refine u_aload_n C dL_act_185 rfl ?_
    refine u_getF C fl_L_15 (h.ob nm0) rfl dL_act_186 ?_
    refine u_iload_n C dL_act_189 rfl ?_
    refine u_iconst C (v := 4) dL_act_190 (by decide) ?_
    refine u_ishr C dL_act_191 ?_
    refine u_aload_n C dL_act_192 rfl ?_
    refine u_getF C fl_L_15 (h.ob nm0) rfl dL_act_193 ?_
    refine u_ralen C (h.walls nm0) dL_act_196 ?_
    refine u_callS0 C (qL_below l g M _ (v := x >>> (4 &&& 31)) (n := (mWs P)) (by omega) (by omega)) cd_L_below kl_L_9 (as := [_, _]) rfl rfl ⟨⟨by decide, by decide⟩, by decide, by decide⟩ ⟨rfl, rfl⟩ (Nat.le_of_ble_eq_true rfl) dL_act_197 ?_
    obtain ⟨w, hw⟩ : ∃ w, w = bl (x >>> (4 &&& 31)) (mWs P) := ⟨_, rfl⟩
    have lw : w < (mWs P) := by rw [hw]; exact (bl_lt _ (by omega) (by omega)).1
    rw [← hw]
    refine u_aald C (h.walls nm0) rfl (by omega : w < mWs P) (by omega) rfl dL_act_200 ?_
    refine u_astore C (lo' := [(5, _), (4, _), (3, _), (0, _), (1, _), (2, _)]) dL_act_201 (by decide) rfl ?_
    refine u_aload C dL_act_203 rfl ?_
    refine u_iconst C (v := 1) dL_act_205 (by decide) ?_
    refine u_iconst C (v := 1) dL_act_206 (by decide) ?_
    refine u_aload C dL_act_207 rfl ?_
    refine u_iconst C (v := 1) dL_act_209 (by decide) ?_
    refine u_ialv C (h.wrow lw nm0) rfl (by decide) (by decide) (v := P 34 (7 + w)) rfl dL_act_210 ?_
    refine u_isub C dL_act_211 ?_
    refine u_iast C (h.wrow lw nm0) rfl (by decide : 1 < 4) (by decide) dL_act_212 (fun D1 o1 r1 => ?_)
    have h2 := h.w1 lw (fun i hi => absurd hi List.not_mem_nil) o1 r1
    have ho := hp.1.2.2.2 w (by omega)
    have ex : cOth (M 6 w) = 1 - P 34 (7 + w) := by
      rw [show M 6 w = P 34 (7 + w) from (li.1.1.2.2.1 w (by omega)).2.1]
      rw [nI_tn ho.1]
      exact cOth_nI (tn1 ho)
    have hx : 0 ≤ 1 - P 34 (7 + w) ∧ 1 - P 34 (7 + w) ≤ 1 := by rw [← ex]; exact cOth_in _
    have h := h2
    have e9 : rW (wr P 34 (7 + w) (1 - P 34 (7 + w))) w 1 = 1 - P 34 (7 + w) := by
      unfold rW
      rw [if_neg (by decide), if_pos rfl, wr_eq]
    refine u_aload_n C dL_act_213 rfl ?_
    refine u_iload_n C dL_act_214 rfl ?_
    refine u_iconst C (v := 4) dL_act_215 (by decide) ?_
    refine u_ishr C dL_act_216 ?_
    refine u_aload_n C dL_act_217 rfl ?_
    refine u_getF C fl_L_15 (h.ob nm0) rfl dL_act_218 ?_
    refine u_ralen C (h.walls nm0) dL_act_221 ?_
    refine u_callS0 C (qL_below l g M _ (v := x >>> (4 &&& 31)) (n := (mWs P)) (by omega) (by omega)) cd_L_below kl_L_9 (as := [_, _]) rfl rfl ⟨⟨by decide, by decide⟩, by decide, by decide⟩ ⟨rfl, rfl⟩ (Nat.le_of_ble_eq_true rfl) dL_act_222 ?_
    rw [← hw]
    refine u_callC0 C (fun B => (by
    have z := q1_hand l (B, g.2) M li.ok (nI w) (li.wri lw)
    rw [tn_nI (by omega), ex] at z
    exact z)) cd_X1_hand kl_L_35 ci1 rfl (by decide) (as := [_]) rfl rfl ⟨⟨by decide, by decide⟩, by decide, by decide⟩ ⟨rfl, rfl⟩ (Nat.le_of_ble_eq_true rfl) dL_act_225 ?_
    refine u_aload C dL_act_228 rfl ?_
    refine u_iconst C (v := 1) dL_act_230 (by decide) ?_
    refine u_ialv C (h.wrow lw nm0) rfl (by decide) (by decide) (v := (1 - P 34 (7 + w))) e9 dL_act_231 ?_
    refine u_icmp_ne C (tgt := 239) dL_act_232 (by decide) (fun c232 => absurd rfl c232) (fun c232 => ?_)
    refine u_iconst C (v := 1) dL_act_235 (by decide) ?_
    refine u_goto C (tgt := 240) dL_act_236 (by decide) ?_
    have sp2 : SP g D1 ad (wr (wr P 29 0 0) 34 (7 + w) (1 - P 34 (7 + w))) := by
      have b : ∀ j, wr (wr P 29 0 0) 34 (7 + w) (1 - P 34 (7 + w)) 34 j = wr P 34 (7 + w) (1 - P 34 (7 + w)) 34 j := fun j => by
        by_cases z : j = 7 + w
        · subst z; rw [wr_eq, wr_eq]
        · rw [wr_ne (by omega), wr_ne (by omega), wr_ne (by omega)]
      refine (h2.t0 (Q := wr (wr P 29 0 0) 34 (7 + w) (1 - P 34 (7 + w))) (fun c hc => ?_) ⟨rfl, rfl⟩).cong ⟨rfl, rfl⟩ (fun _ _ _ => rfl) (fun _ _ _ => rfl) (fun _ e he => ?_) (fun _ _ _ => rfl) (fun _ _ _ _ _ => rfl) (fun _ _ _ => ⟨rfl, rfl, rfl, rfl⟩)
      · by_cases z : c = 34
        · subst z; funext j; exact b j
        · rw [wr_cell z, wr_cell hc, wr_cell z]
      · rw [b, wr_ne (by omega)]
    exact u_zret C hq (by decide) ⟨by decide, by decide⟩ dL_act_240 (hR _ _ _ _ ((li.hand lw hx).le (by omega)) sp2 rfl)
  · refine u_iconst C (v := 1) dL_act_183 (by decide) ?_
    exact u_zret C hq (by decide) ⟨by decide, by decide⟩ dL_act_184 (hR _ _ _ _ (li.le (by omega)) h rfl)
set_option maxHeartbeats 1000000 in
set_option maxRecDepth 100000 in
theorem qL_act_s {X : XT} {l : Launch} {g : GT} {R : Option Value → Mem → DM → Prop} (hl : l.stackTraces = false) {M : Mem} {D : DM} {ad : Nat → Nat} {nb : Nat} {P : Mem} {x : Int32} {s : Nat} (ls : s < 32) (li : LI nb M P) (hnb : nb + 100 ≤ 100000) (h : SP g D ad P) (hR : ∀ (M1 : Mem) (D1 : DM) (A : Nat → Nat) (P1 : Mem), LI (nb + 100) M1 P1 → SP g D1 A P1 → A 0 = ad 0 → R (some (.int 1)) M1 D1) (C : Cx X g l cL_act 8 RL (some .boolean) rmL_act) (hq : RU X g rmL_act R) (hT : (xC X).exceptionTable.toList = tableOf hhL_act) : UX X g 0 0 241 [(4, .int 1), (3, .int (nI s)), (0, .ref (ga g 0)), (1, .ref (ad 0)), (2, .int x)] [] M D := by
  have hn := h.n
  have hp := li.pk
  refine u_aload_n C dL_act_241 rfl ?_
  refine u_getF C fl_L_38 (h.ob nm0) rfl dL_act_242 ?_
  refine u_iload_n C dL_act_245 rfl ?_
  refine u_iald C (h.snow nm0) rfl ls (by decide) dL_act_246 ?_
  refine u_istore C (lo' := [(5, _), (4, _), (3, _), (0, _), (1, _), (2, _)]) dL_act_247 (by decide) rfl ?_
  refine u_aload_n C dL_act_249 rfl ?_
  refine u_aload_n C dL_act_250 rfl ?_
  refine u_getF C fl_L_38 (h.ob nm0) rfl dL_act_251 ?_
  refine u_clone C (by decide +kernel) (h.snow nm0) ⟨by decide, Nat.le_of_ble_eq_true rfl, by decide, by decide⟩ dL_act_254 (fun qns D1 z1 o1 r1 => ?_)
  have l1 := Le.ot o1 z1
  have nq : ∀ i, su (mWs P) (mSh P) i → ad i ≠ qns := fun i hi e => h.told hi nm0 (by rw [e]; exact z1)
  have h := h.le l1
  have ns := r1
  refine u_castA C (by decide +kernel) (ns) dL_act_257 ?_
  refine u_putR C fn_L_38 (h.ob nm0) (Nat.le_of_ble_eq_true rfl) dL_act_260 (fun D2 o2 r2 => ?_)
  have ob : OB D2 (ad 0) 2 [.ref qns, .ref (ad 2), .ref (ad 3), .ref (ad 4), .ref (ad 5), .int (P 34 0), .int (P 34 1), .int (P 34 2)] := r2
  have sm := (h.mask (mk' := [0]) (fun i hi => absurd hi List.not_mem_nil)).otm o2 (su_c (by omega)) List.mem_cons_self
  have ns := ns.ot o2 (Ne.symm (nq 0 (su_c (by omega))))
  refine u_aload_n C dL_act_263 rfl ?_
  refine u_getF C fl_L_38 (ob) rfl dL_act_264 ?_
  refine u_iload_n C dL_act_267 rfl ?_
  refine u_iload_n C dL_act_268 rfl ?_
  refine u_bipush C (v := 6) dL_act_269 (by decide) ?_
  refine u_ishr C dL_act_271 ?_
  refine u_bipush C (v := 6) dL_act_272 (by decide) ?_
  refine u_callS0 C (qL_below l g M _ (v := x >>> (6 &&& 31)) (n := 6) (by omega) (by omega)) cd_L_below kl_L_9 (as := [_, _]) rfl rfl ⟨⟨by decide, by decide⟩, by decide, by decide⟩ ⟨rfl, rfl⟩ (Nat.le_of_ble_eq_true rfl) dL_act_274 ?_
  obtain ⟨v, hv⟩ : ∃ v, v = bl (x >>> (6 &&& 31)) 6 := ⟨_, rfl⟩
  have lv : v < 6 := by rw [hv]; exact (bl_lt _ (by omega) (by omega)).1
  rw [← hv]
  refine u_iast C (ns) rfl ls (by decide) dL_act_277 (fun D3 o3 r3 => ?_)
  have sm := sm.ot o3 (fun i hi _ => nq i hi)
  have ob := ob.ot o3 (nq 0 (su_c (by omega)))
  have ns := r3
  have in_v : 0 ≤ nI v ∧ nI v ≤ 5 := ⟨nI_pos' (by omega), nI_le (b := 5) (by omega) (by decide)⟩
  have sp2 : SP g D3 (aN ad 1 qns) (wr (wr P 29 0 0) 30 s (nI v)) := SM.snowN nq sm ob ns
  refine u_aload_n C dL_act_278 rfl ?_
  refine u_iload_n C dL_act_279 rfl ?_
  refine u_aload_n C dL_act_280 rfl ?_
  refine u_getF C fl_L_38 (ob) rfl dL_act_281 ?_
  refine u_iload_n C dL_act_284 rfl ?_
  refine u_iald C (ns) rfl ls (by decide) dL_act_285 ?_
  refine u_ttop (v' := .int (nI v)) (by unfold upd; rw [if_pos rfl]) ?_
  refine u_callC0 C (fun B => (by
    have z := q1_setSnow l (B, g.2) M (nI s) (nI v) (in_s ls) in_v
    rw [tn_nI (by omega), show M 2 s = P 30 s from (li.1.1.2.1 s ls).1] at z
    exact z)) cd_X1_setSnow kl_L_47 ci1 rfl (by decide) (as := [_, _]) rfl rfl ⟨⟨by decide, by decide⟩, by decide, by decide⟩ ⟨rfl, rfl⟩ (Nat.le_of_ble_eq_true rfl) dL_act_286 ?_
  refine u_iload C dL_act_289 rfl ?_
  refine u_icmp_ne C (tgt := 298) dL_act_291 (by decide) (fun c291 => absurd rfl c291) (fun c291 => ?_)
  refine u_iconst C (v := 1) dL_act_294 (by decide) ?_
  refine u_goto C (tgt := 299) dL_act_295 (by decide) ?_
  exact u_zret C hq (by decide) ⟨by decide, by decide⟩ dL_act_299 (hR _ _ _ _ ((li.snow in_v).le (by omega)) sp2 (aN_ne (by decide)))
set_option maxHeartbeats 1000000 in
set_option maxRecDepth 100000 in
theorem qL_act_o {X : XT} {l : Launch} {g : GT} {R : Option Value → Mem → DM → Prop} (hl : l.stackTraces = false) {M : Mem} {D : DM} {ad : Nat → Nat} {nb : Nat} {P : Mem} {x : Int32} {s : Nat} (ls : s < 32) (li : LI nb M P) (hnb : nb + 100 ≤ 100000) (h : SP g D ad P) (hR : ∀ (M1 : Mem) (D1 : DM) (A : Nat → Nat) (P1 : Mem), LI (nb + 100) M1 P1 → SP g D1 A P1 → A 0 = ad 0 → R (some (.int 1)) M1 D1) (C : Cx X g l cL_act 8 RL (some .boolean) rmL_act) (hq : RU X g rmL_act R) (hT : (xC X).exceptionTable.toList = tableOf hhL_act) : UX X g 0 0 300 [(4, .int 1), (3, .int (nI s)), (0, .ref (ga g 0)), (1, .ref (ad 0)), (2, .int x)] [] M D := by
  have hn := h.n
  have hp := li.pk
  refine u_iload_n C dL_act_300 rfl ?_
  refine u_bipush C (v := 9) dL_act_301 (by decide) ?_
  refine u_ishr C dL_act_303 ?_
  refine u_iconst C (v := 2) dL_act_304 (by decide) ?_
  refine u_callS0 C (qL_below l g M _ (v := x >>> (9 &&& 31)) (n := 2) (by omega) (by omega)) cd_L_below kl_L_9 (as := [_, _]) rfl rfl ⟨⟨by decide, by decide⟩, by decide, by decide⟩ ⟨rfl, rfl⟩ (Nat.le_of_ble_eq_true rfl) dL_act_305 ?_
  obtain ⟨e, he⟩ : ∃ e, e = bl (x >>> (9 &&& 31)) 2 := ⟨_, rfl⟩
  have le : e < 2 := by rw [he]; exact (bl_lt _ (by omega) (by omega)).1
  rw [← he]
  refine u_if_ne C (tgt := 315) dL_act_308 (by decide) (fun c308 => ?_) (fun c308 => ?_)
  · refine u_iconst C (v := 0) dL_act_315 (by decide) ?_
    refine u_istore C (lo' := [(5, _), (4, _), (3, _), (0, _), (1, _), (2, _)]) dL_act_316 (by decide) rfl ?_
    refine u_iconst C (v := 1) dL_act_318 (by decide) ?_
    refine u_iload_n C dL_act_319 rfl ?_
    refine u_iconst C (v := 5) dL_act_320 (by decide) ?_
    refine u_ishr C dL_act_321 ?_
    refine u_bipush C (v := 99) dL_act_322 (by decide) ?_
    refine u_callS0 C (qL_below l g M _ (v := x >>> (5 &&& 31)) (n := 99) (by omega) (by omega)) cd_L_below kl_L_9 (as := [_, _]) rfl rfl ⟨⟨by decide, by decide⟩, by decide, by decide⟩ ⟨rfl, rfl⟩ (Nat.le_of_ble_eq_true rfl) dL_act_324 ?_
    obtain ⟨b, hb⟩ : ∃ b, b = bl (x >>> (5 &&& 31)) 99 := ⟨_, rfl⟩
    have lb : b < 99 := by rw [hb]; exact (bl_lt _ (by omega) (by omega)).1
    rw [← hb]
    have e1b : (1 : Int32) + nI b = nI (1 + b) := nI_add 1 b
    have hlv : M 1 3 = nI (liveN (M 11) 40) := li.1.1.2.2.2.2.2.2.2.2
    have in_l : (1 : Int32) ≤ 1 + nI b ∧ 1 + nI b ≤ 99 := by rw [e1b]; exact ⟨nI_le (a := 1) (by omega) (by omega), nI_le (b := 99) (by omega) (by decide)⟩
    have h8b : M 1 3 ≤ 8 := by rw [hlv]; exact nI_le (b := 8) li.2.2.1 (by decide)
    have hlo : M 4 (tn (nI s)) = mLoudest P (nI s) := by
      have := li.1.2.1 s ls
      rw [tn_nI (by omega)]
      exact this
    refine u_iadd C dL_act_327 ?_
    refine u_istore C (lo' := [(6, _), (5, _), (4, _), (3, _), (0, _), (1, _), (2, _)]) dL_act_328 (by decide) rfl ?_
    refine u_aload_n C dL_act_330 rfl ?_
    refine u_getF C fl_L_50 (h.ob nm0) rfl dL_act_331 ?_
    refine u_ralen C (h.shouts nm0) dL_act_334 ?_
    refine u_istore C (lo' := [(7, _), (6, _), (5, _), (4, _), (3, _), (0, _), (1, _), (2, _)]) dL_act_335 (by decide) rfl ?_
    refine u_iload C dL_act_337 rfl ?_
    refine u_bipush C (v := 40) dL_act_339 (by decide) ?_
    refine u_icmp_ge C (tgt := 365) dL_act_341 (by decide) (fun c341 => ?_) (fun c341 => ?_)
    · have hbad : M 1 2 = 40 ∨ M 1 3 = 8 ∨ M 4 (tn (nI s)) ≠ -1 := Or.inl (by rw [li.w1.2, show mSh P = 40 by have := (nI_leI (a := 40) (b := mSh P) (by omega) (by omega)).mp c341; omega]; rfl)
      refine u_iconst C (v := 0) dL_act_365 (by decide) ?_
      refine u_istore C (lo' := [(4, _), (7, _), (6, _), (5, _), (3, _), (0, _), (1, _), (2, _)]) dL_act_366 (by decide) rfl ?_
      refine u_iload C dL_act_368 rfl ?_
      refine u_if_eq C (tgt := 413) dL_act_370 (by decide) (fun _ => ?_) (fun c => absurd (by decide) c)
      refine u_aload_n C dL_act_413 rfl ?_
      refine u_iload_n C dL_act_414 rfl ?_
      refine u_iload C dL_act_415 rfl ?_
      refine u_iload C dL_act_417 rfl ?_
      refine u_callCx C hT (pre := [(12, 174, 487, 68), (175, 184, 487, 68), (185, 240, 487, 68), (241, 299, 487, 68)]) (x := (300, 437, 487, 68)) (suf := [(438, 486, 487, 68)]) (by decide) (fun B => q1x_shout_3 l hl (B, g.2) M li.ok h8b (nI s) 0 (1 + nI b) (in_s ls) in_l hbad) cd_X1_shout kl_L_60 ci1 rfl (by decide) (as := [_, _, _]) rfl rfl ⟨⟨by decide, by decide⟩, by decide, by decide⟩ (Nat.le_of_ble_eq_true rfl) dL_act_419 ⟨by decide, by decide, by decide +kernel, by decide +kernel⟩ (fun qx => ?_)
      refine u_astore C (lo' := [(5, _), (4, _), (7, _), (6, _), (3, _), (0, _), (1, _), (2, _)]) dL_act_487 (by decide) rfl ?_
      refine u_iload C dL_act_489 rfl ?_
      refine u_if_ne C (tgt := 498) dL_act_491 (by decide) (fun c => absurd c (by decide)) (fun _ => ?_)
      refine u_iconst C (v := 1) dL_act_494 (by decide) ?_
      refine u_goto C (tgt := 499) dL_act_495 (by decide) ?_
      exact u_zret C hq (by decide) ⟨by decide, by decide⟩ dL_act_499 (hR _ _ _ _ (li.le (by omega)) h rfl)
    · refine u_aload_n C dL_act_344 rfl ?_
      refine u_callV0 C (qs_underWay l g M _ h ⟨nm0, nm0, fun _ _ => nm0⟩) cd_X2_underWay kl_L_53 ci2 (h.ob nm0) (as := []) rfl rfl ⟨⟨by decide, by decide⟩, by decide, by decide⟩ ⟨rfl, rfl⟩ (Nat.le_of_ble_eq_true rfl) dL_act_345 ?_
      refine u_bipush C (v := 8) dL_act_348 (by decide) ?_
      refine u_icmp_ge C (tgt := 365) dL_act_350 (by decide) (fun c350 => ?_) (fun c350 => ?_)
      · have hbad : M 1 2 = 40 ∨ M 1 3 = 8 ∨ M 4 (tn (nI s)) ≠ -1 := Or.inr (Or.inl (by
          rw [rel_many li.1, hlv] at c350
          have z := (nI_leI (a := 8) (b := liveN (M 11) 40) (by omega) (by have := li.2.2.1; omega)).mp c350
          rw [hlv, show liveN (M 11) 40 = 8 by have := li.2.2.1; omega]
          rfl))
        refine u_iconst C (v := 0) dL_act_365 (by decide) ?_
        refine u_istore C (lo' := [(4, _), (7, _), (6, _), (5, _), (3, _), (0, _), (1, _), (2, _)]) dL_act_366 (by decide) rfl ?_
        refine u_iload C dL_act_368 rfl ?_
        refine u_if_eq C (tgt := 413) dL_act_370 (by decide) (fun _ => ?_) (fun c => absurd (by decide) c)
        refine u_aload_n C dL_act_413 rfl ?_
        refine u_iload_n C dL_act_414 rfl ?_
        refine u_iload C dL_act_415 rfl ?_
        refine u_iload C dL_act_417 rfl ?_
        refine u_callCx C hT (pre := [(12, 174, 487, 68), (175, 184, 487, 68), (185, 240, 487, 68), (241, 299, 487, 68)]) (x := (300, 437, 487, 68)) (suf := [(438, 486, 487, 68)]) (by decide) (fun B => q1x_shout_3 l hl (B, g.2) M li.ok h8b (nI s) 0 (1 + nI b) (in_s ls) in_l hbad) cd_X1_shout kl_L_60 ci1 rfl (by decide) (as := [_, _, _]) rfl rfl ⟨⟨by decide, by decide⟩, by decide, by decide⟩ (Nat.le_of_ble_eq_true rfl) dL_act_419 ⟨by decide, by decide, by decide +kernel, by decide +kernel⟩ (fun qx => ?_)
        refine u_astore C (lo' := [(5, _), (4, _), (7, _), (6, _), (3, _), (0, _), (1, _), (2, _)]) dL_act_487 (by decide) rfl ?_
        refine u_iload C dL_act_489 rfl ?_
        refine u_if_ne C (tgt := 498) dL_act_491 (by decide) (fun c => absurd c (by decide)) (fun _ => ?_)
        refine u_iconst C (v := 1) dL_act_494 (by decide) ?_
        refine u_goto C (tgt := 499) dL_act_495 (by decide) ?_
        exact u_zret C hq (by decide) ⟨by decide, by decide⟩ dL_act_499 (hR _ _ _ _ (li.le (by omega)) h rfl)
      · refine u_aload_n C dL_act_353 rfl ?_
        refine u_iload_n C dL_act_354 rfl ?_
        refine u_callV0 C (qs_loudestOn l g M _ h ⟨nm0, nm0, fun _ _ => nm0⟩ (nI s)) cd_X2_loudestOn kl_L_57 ci2 (h.ob nm0) (as := [_]) rfl rfl ⟨⟨by decide, by decide⟩, by decide, by decide⟩ ⟨rfl, rfl⟩ (Nat.le_of_ble_eq_true rfl) dL_act_355 ?_
        refine u_if_ge C (tgt := 365) dL_act_358 (by decide) (fun c358 => ?_) (fun c358 => ?_)
        · have hbad : M 1 2 = 40 ∨ M 1 3 = 8 ∨ M 4 (tn (nI s)) ≠ -1 := Or.inr (Or.inr (fun z => by
            rw [hlo] at z
            rw [z] at c358
            exact absurd c358 (by decide)))
          refine u_iconst C (v := 0) dL_act_365 (by decide) ?_
          refine u_istore C (lo' := [(4, _), (7, _), (6, _), (5, _), (3, _), (0, _), (1, _), (2, _)]) dL_act_366 (by decide) rfl ?_
          refine u_iload C dL_act_368 rfl ?_
          refine u_if_eq C (tgt := 413) dL_act_370 (by decide) (fun _ => ?_) (fun c => absurd (by decide) c)
          refine u_aload_n C dL_act_413 rfl ?_
          refine u_iload_n C dL_act_414 rfl ?_
          refine u_iload C dL_act_415 rfl ?_
          refine u_iload C dL_act_417 rfl ?_
          refine u_callCx C hT (pre := [(12, 174, 487, 68), (175, 184, 487, 68), (185, 240, 487, 68), (241, 299, 487, 68)]) (x := (300, 437, 487, 68)) (suf := [(438, 486, 487, 68)]) (by decide) (fun B => q1x_shout_3 l hl (B, g.2) M li.ok h8b (nI s) 0 (1 + nI b) (in_s ls) in_l hbad) cd_X1_shout kl_L_60 ci1 rfl (by decide) (as := [_, _, _]) rfl rfl ⟨⟨by decide, by decide⟩, by decide, by decide⟩ (Nat.le_of_ble_eq_true rfl) dL_act_419 ⟨by decide, by decide, by decide +kernel, by decide +kernel⟩ (fun qx => ?_)
          refine u_astore C (lo' := [(5, _), (4, _), (7, _), (6, _), (3, _), (0, _), (1, _), (2, _)]) dL_act_487 (by decide) rfl ?_
          refine u_iload C dL_act_489 rfl ?_
          refine u_if_ne C (tgt := 498) dL_act_491 (by decide) (fun c => absurd c (by decide)) (fun _ => ?_)
          refine u_iconst C (v := 1) dL_act_494 (by decide) ?_
          refine u_goto C (tgt := 499) dL_act_495 (by decide) ?_
          exact u_zret C hq (by decide) ⟨by decide, by decide⟩ dL_act_499 (hR _ _ _ _ (li.le (by omega)) h rfl)
        · have hnw : mSh P < 40 := Nat.lt_of_not_le (fun z => c341 ((nI_leI (a := 40) (b := mSh P) (by omega) (by omega)).mpr z))
          have hl8 : liveN (M 11) 40 < 8 := by
            rw [rel_many li.1, hlv] at c350
            exact Nat.lt_of_not_le (fun z => c350 ((nI_leI (a := 8) (b := liveN (M 11) 40) (by omega) (by have := li.2.2.1; omega)).mpr z))
          have hno : mLoudest P (nI s) = -1 := by
            rcases mLdL_or P (nI s) (mSh P) (by omega) with z | z
            · exact z
            · exact absurd z.1 c358
          have n40 : ¬ M 1 2 = 40 := by
            rw [li.w1.2]
            intro z
            have := congrArg tn z
            rw [tn_nI (by omega)] at this
            have e10 : tn (40 : Int32) = 40 := by decide
            omega
          have n8 : ¬ M 1 3 = 8 := by
            rw [hlv]
            intro z
            have := congrArg tn z
            rw [tn_nI (by omega)] at this
            have e10 : tn (8 : Int32) = 8 := by decide
            omega
          refine u_iconst C (v := 1) dL_act_361 (by decide) ?_
          refine u_goto C (tgt := 366) dL_act_362 (by decide) ?_
          refine u_istore C (lo' := [(4, _), (7, _), (6, _), (5, _), (3, _), (0, _), (1, _), (2, _)]) dL_act_366 (by decide) rfl ?_
          refine u_iload C dL_act_368 rfl ?_
          refine u_if_eq C (tgt := 413) dL_act_370 (by decide) (fun c => absurd c (by decide)) (fun _ => ?_)
          refine u_aload_n C dL_act_373 rfl ?_
          refine u_aload_n C dL_act_374 rfl ?_
          refine u_getF C fl_L_50 (h.ob nm0) rfl dL_act_375 ?_
          refine u_iconst C (v := 4) dL_act_378 (by decide) ?_
          refine u_newI C (N := 4) (rfl) (by decide) ⟨by decide, by decide⟩ dL_act_379 (fun qrow D1 z1 o1 r1 => ?_)
          have l1 := Le.ot o1 z1
          have nqr : ∀ i, su (mWs P) (mSh P) i → ad i ≠ qrow := fun i hi e => h.told hi nm0 (by rw [e]; exact z1)
          have h := h.le l1
          have ir := r1
          refine u_dup C dL_act_381 rfl ?_
          refine u_iconst C (v := 0) dL_act_382 (by decide) ?_
          refine u_iload C dL_act_383 rfl ?_
          refine u_iast C (ir) rfl (by decide : 0 < 4) (by decide) dL_act_385 (fun D2 o2 r2 => ?_)
          have h := h.ot o2 (fun i hi _ => nqr i hi)
          have ir := r2
          refine u_dup C dL_act_386 rfl ?_
          refine u_iconst C (v := 1) dL_act_387 (by decide) ?_
          refine u_iload_n C dL_act_388 rfl ?_
          refine u_iast C (ir) rfl (by decide : 1 < 4) (by decide) dL_act_389 (fun D3 o3 r3 => ?_)
          have h := h.ot o3 (fun i hi _ => nqr i hi)
          have ir := r3
          refine u_dup C dL_act_390 rfl ?_
          refine u_iconst C (v := 2) dL_act_391 (by decide) ?_
          refine u_iload C dL_act_392 rfl ?_
          refine u_if_eq C (tgt := 401) dL_act_394 (by decide) (fun _ => ?_) (fun c => absurd (by decide) c)
          refine u_iconst C (v := (-1)) dL_act_401 (by decide) ?_
          refine u_iast C (ir) rfl (by decide : 2 < 4) (by decide) dL_act_402 (fun D4 o4 r4 => ?_)
          have h := h.ot o4 (fun i hi _ => nqr i hi)
          have ir := r4
          refine u_dup C dL_act_403 rfl ?_
          refine u_iconst C (v := 3) dL_act_404 (by decide) ?_
          refine u_iconst C (v := 0) dL_act_405 (by decide) ?_
          refine u_iast C (ir) rfl (by decide : 3 < 4) (by decide) dL_act_406 (fun D5 o5 r5 => ?_)
          have h := h.ot o5 (fun i hi _ => nqr i hi)
          have ir := r5
          have ir := z4_all ir
          refine u_callS C (qs_with l g M _ (n0 := mSh P) (by omega) (h.shouts nm0) ⟨_, ir⟩ (fun i hi => by obtain ⟨f, a, _⟩ := h.srow hi nm0; exact ⟨f, a⟩)) cd_X2_with kl_L_25 (as := [_, _]) rfl rfl ⟨⟨by decide, by decide⟩, by decide, by decide⟩ (Nat.le_of_ble_eq_true rfl) dL_act_407 (fun v9 M9 D9 e9 => ?_)
          obtain ⟨em, q, rfl, zq, oq, rq⟩ := e9
          have em := em.symm
          subst em
          have nq : ∀ i, su (mWs P) (mSh P) i → ad i ≠ q := fun i hi e => h.told hi nm0 (by rw [e]; exact zq)
          have hqr : q ≠ qrow := fun e => ir.some (by rw [← e]; exact zq)
          have l2 := Le.ot oq zq
          have h := h.le l2
          have ir := ir.le l2
          show UX X g 2 45 410 _ [.ref q, .ref (ad 0)] M D9
          refine u_putR C fn_L_50 (h.ob nm0) (Nat.le_of_ble_eq_true rfl) dL_act_410 (fun D6 o6 r6 => ?_)
          have ob : OB D6 (ad 0) 2 [.ref (ad 1), .ref (ad 2), .ref q, .ref (ad 4), .ref (ad 5), .int (P 34 0), .int (P 34 1), .int (P 34 2)] := r6
          have sm := (h.mask (mk' := [0]) (fun i hi => absurd hi List.not_mem_nil)).otm o6 (su_c (by omega)) List.mem_cons_self
          have rq := rq.ot o6 (Ne.symm (nq 0 (su_c (by omega))))
          have ir := ir.ot o6 (Ne.symm (nqr 0 (su_c (by omega))))
          have sp2 := SM.addS hp hnw nq nqr hqr sm ob rq ir
          refine u_aload_n C dL_act_413 rfl ?_
          refine u_iload_n C dL_act_414 rfl ?_
          refine u_iload C dL_act_415 rfl ?_
          refine u_iload C dL_act_417 rfl ?_
          refine u_callC0 C (fun B => (by
    have z := q1_shout l (B, g.2) M li.ok h8b (nI s) 0 (1 + nI b) (in_s ls) in_l n40 n8 (hlo.trans hno)
    rw [li.w1.2] at z
    exact z)) cd_X1_shout kl_L_60 ci1 rfl (by decide) (as := [_, _, _]) rfl rfl ⟨⟨by decide, by decide⟩, by decide, by decide⟩ ⟨rfl, rfl⟩ (Nat.le_of_ble_eq_true rfl) dL_act_419 ?_
          refine u_iload C dL_act_422 rfl ?_
          refine u_icmp_ne C (tgt := 436) dL_act_424 (by decide) (fun c424 => absurd rfl c424) (fun c424 => ?_)
          refine u_iload C dL_act_427 rfl ?_
          refine u_if_eq C (tgt := 436) dL_act_429 (by decide) (fun c => absurd c (by decide)) (fun _ => ?_)
          refine u_iconst C (v := 1) dL_act_432 (by decide) ?_
          refine u_goto C (tgt := 437) dL_act_433 (by decide) ?_
          exact u_zret C hq (by decide) ⟨by decide, by decide⟩ dL_act_437 ((by
    refine hR _ _ _ _ (LI.le ?_ (by omega : nb ≤ nb + 100)) sp2 (by rw [aN_ne (by omega), aN_ne (by decide)])
    exact li.shout (in_s ls) (by first | exact Or.inl rfl | exact Or.inr rfl) in_l hnw hl8 hno))
  · refine u_iconst C (v := 1) dL_act_311 (by decide) ?_
    refine u_goto C (tgt := 316) dL_act_312 (by decide) ?_
    refine u_istore C (lo' := [(5, _), (4, _), (3, _), (0, _), (1, _), (2, _)]) dL_act_316 (by decide) rfl ?_
    refine u_iconst C (v := 1) dL_act_318 (by decide) ?_
    refine u_iload_n C dL_act_319 rfl ?_
    refine u_iconst C (v := 5) dL_act_320 (by decide) ?_
    refine u_ishr C dL_act_321 ?_
    refine u_bipush C (v := 99) dL_act_322 (by decide) ?_
    refine u_callS0 C (qL_below l g M _ (v := x >>> (5 &&& 31)) (n := 99) (by omega) (by omega)) cd_L_below kl_L_9 (as := [_, _]) rfl rfl ⟨⟨by decide, by decide⟩, by decide, by decide⟩ ⟨rfl, rfl⟩ (Nat.le_of_ble_eq_true rfl) dL_act_324 ?_
    obtain ⟨b, hb⟩ : ∃ b, b = bl (x >>> (5 &&& 31)) 99 := ⟨_, rfl⟩
    have lb : b < 99 := by rw [hb]; exact (bl_lt _ (by omega) (by omega)).1
    rw [← hb]
    have e1b : (1 : Int32) + nI b = nI (1 + b) := nI_add 1 b
    have hlv : M 1 3 = nI (liveN (M 11) 40) := li.1.1.2.2.2.2.2.2.2.2
    have in_l : (1 : Int32) ≤ 1 + nI b ∧ 1 + nI b ≤ 99 := by rw [e1b]; exact ⟨nI_le (a := 1) (by omega) (by omega), nI_le (b := 99) (by omega) (by decide)⟩
    have h8b : M 1 3 ≤ 8 := by rw [hlv]; exact nI_le (b := 8) li.2.2.1 (by decide)
    have hlo : M 4 (tn (nI s)) = mLoudest P (nI s) := by
      have := li.1.2.1 s ls
      rw [tn_nI (by omega)]
      exact this
    refine u_iadd C dL_act_327 ?_
    refine u_istore C (lo' := [(6, _), (5, _), (4, _), (3, _), (0, _), (1, _), (2, _)]) dL_act_328 (by decide) rfl ?_
    refine u_aload_n C dL_act_330 rfl ?_
    refine u_getF C fl_L_50 (h.ob nm0) rfl dL_act_331 ?_
    refine u_ralen C (h.shouts nm0) dL_act_334 ?_
    refine u_istore C (lo' := [(7, _), (6, _), (5, _), (4, _), (3, _), (0, _), (1, _), (2, _)]) dL_act_335 (by decide) rfl ?_
    refine u_iload C dL_act_337 rfl ?_
    refine u_bipush C (v := 40) dL_act_339 (by decide) ?_
    refine u_icmp_ge C (tgt := 365) dL_act_341 (by decide) (fun c341 => ?_) (fun c341 => ?_)
    · have hbad : M 1 2 = 40 ∨ M 1 3 = 8 ∨ M 4 (tn (nI s)) ≠ -1 := Or.inl (by rw [li.w1.2, show mSh P = 40 by have := (nI_leI (a := 40) (b := mSh P) (by omega) (by omega)).mp c341; omega]; rfl)
      refine u_iconst C (v := 0) dL_act_365 (by decide) ?_
      refine u_istore C (lo' := [(4, _), (7, _), (6, _), (5, _), (3, _), (0, _), (1, _), (2, _)]) dL_act_366 (by decide) rfl ?_
      refine u_iload C dL_act_368 rfl ?_
      refine u_if_eq C (tgt := 413) dL_act_370 (by decide) (fun _ => ?_) (fun c => absurd (by decide) c)
      refine u_aload_n C dL_act_413 rfl ?_
      refine u_iload_n C dL_act_414 rfl ?_
      refine u_iload C dL_act_415 rfl ?_
      refine u_iload C dL_act_417 rfl ?_
      refine u_callCx C hT (pre := [(12, 174, 487, 68), (175, 184, 487, 68), (185, 240, 487, 68), (241, 299, 487, 68)]) (x := (300, 437, 487, 68)) (suf := [(438, 486, 487, 68)]) (by decide) (fun B => q1x_shout_3 l hl (B, g.2) M li.ok h8b (nI s) 1 (1 + nI b) (in_s ls) in_l hbad) cd_X1_shout kl_L_60 ci1 rfl (by decide) (as := [_, _, _]) rfl rfl ⟨⟨by decide, by decide⟩, by decide, by decide⟩ (Nat.le_of_ble_eq_true rfl) dL_act_419 ⟨by decide, by decide, by decide +kernel, by decide +kernel⟩ (fun qx => ?_)
      refine u_astore C (lo' := [(5, _), (4, _), (7, _), (6, _), (3, _), (0, _), (1, _), (2, _)]) dL_act_487 (by decide) rfl ?_
      refine u_iload C dL_act_489 rfl ?_
      refine u_if_ne C (tgt := 498) dL_act_491 (by decide) (fun c => absurd c (by decide)) (fun _ => ?_)
      refine u_iconst C (v := 1) dL_act_494 (by decide) ?_
      refine u_goto C (tgt := 499) dL_act_495 (by decide) ?_
      exact u_zret C hq (by decide) ⟨by decide, by decide⟩ dL_act_499 (hR _ _ _ _ (li.le (by omega)) h rfl)
    · refine u_aload_n C dL_act_344 rfl ?_
      refine u_callV0 C (qs_underWay l g M _ h ⟨nm0, nm0, fun _ _ => nm0⟩) cd_X2_underWay kl_L_53 ci2 (h.ob nm0) (as := []) rfl rfl ⟨⟨by decide, by decide⟩, by decide, by decide⟩ ⟨rfl, rfl⟩ (Nat.le_of_ble_eq_true rfl) dL_act_345 ?_
      refine u_bipush C (v := 8) dL_act_348 (by decide) ?_
      refine u_icmp_ge C (tgt := 365) dL_act_350 (by decide) (fun c350 => ?_) (fun c350 => ?_)
      · have hbad : M 1 2 = 40 ∨ M 1 3 = 8 ∨ M 4 (tn (nI s)) ≠ -1 := Or.inr (Or.inl (by
          rw [rel_many li.1, hlv] at c350
          have z := (nI_leI (a := 8) (b := liveN (M 11) 40) (by omega) (by have := li.2.2.1; omega)).mp c350
          rw [hlv, show liveN (M 11) 40 = 8 by have := li.2.2.1; omega]
          rfl))
        refine u_iconst C (v := 0) dL_act_365 (by decide) ?_
        refine u_istore C (lo' := [(4, _), (7, _), (6, _), (5, _), (3, _), (0, _), (1, _), (2, _)]) dL_act_366 (by decide) rfl ?_
        refine u_iload C dL_act_368 rfl ?_
        refine u_if_eq C (tgt := 413) dL_act_370 (by decide) (fun _ => ?_) (fun c => absurd (by decide) c)
        refine u_aload_n C dL_act_413 rfl ?_
        refine u_iload_n C dL_act_414 rfl ?_
        refine u_iload C dL_act_415 rfl ?_
        refine u_iload C dL_act_417 rfl ?_
        refine u_callCx C hT (pre := [(12, 174, 487, 68), (175, 184, 487, 68), (185, 240, 487, 68), (241, 299, 487, 68)]) (x := (300, 437, 487, 68)) (suf := [(438, 486, 487, 68)]) (by decide) (fun B => q1x_shout_3 l hl (B, g.2) M li.ok h8b (nI s) 1 (1 + nI b) (in_s ls) in_l hbad) cd_X1_shout kl_L_60 ci1 rfl (by decide) (as := [_, _, _]) rfl rfl ⟨⟨by decide, by decide⟩, by decide, by decide⟩ (Nat.le_of_ble_eq_true rfl) dL_act_419 ⟨by decide, by decide, by decide +kernel, by decide +kernel⟩ (fun qx => ?_)
        refine u_astore C (lo' := [(5, _), (4, _), (7, _), (6, _), (3, _), (0, _), (1, _), (2, _)]) dL_act_487 (by decide) rfl ?_
        refine u_iload C dL_act_489 rfl ?_
        refine u_if_ne C (tgt := 498) dL_act_491 (by decide) (fun c => absurd c (by decide)) (fun _ => ?_)
        refine u_iconst C (v := 1) dL_act_494 (by decide) ?_
        refine u_goto C (tgt := 499) dL_act_495 (by decide) ?_
        exact u_zret C hq (by decide) ⟨by decide, by decide⟩ dL_act_499 (hR _ _ _ _ (li.le (by omega)) h rfl)
      · refine u_aload_n C dL_act_353 rfl ?_
        refine u_iload_n C dL_act_354 rfl ?_
        refine u_callV0 C (qs_loudestOn l g M _ h ⟨nm0, nm0, fun _ _ => nm0⟩ (nI s)) cd_X2_loudestOn kl_L_57 ci2 (h.ob nm0) (as := [_]) rfl rfl ⟨⟨by decide, by decide⟩, by decide, by decide⟩ ⟨rfl, rfl⟩ (Nat.le_of_ble_eq_true rfl) dL_act_355 ?_
        refine u_if_ge C (tgt := 365) dL_act_358 (by decide) (fun c358 => ?_) (fun c358 => ?_)
        · have hbad : M 1 2 = 40 ∨ M 1 3 = 8 ∨ M 4 (tn (nI s)) ≠ -1 := Or.inr (Or.inr (fun z => by
            rw [hlo] at z
            rw [z] at c358
            exact absurd c358 (by decide)))
          refine u_iconst C (v := 0) dL_act_365 (by decide) ?_
          refine u_istore C (lo' := [(4, _), (7, _), (6, _), (5, _), (3, _), (0, _), (1, _), (2, _)]) dL_act_366 (by decide) rfl ?_
          refine u_iload C dL_act_368 rfl ?_
          refine u_if_eq C (tgt := 413) dL_act_370 (by decide) (fun _ => ?_) (fun c => absurd (by decide) c)
          refine u_aload_n C dL_act_413 rfl ?_
          refine u_iload_n C dL_act_414 rfl ?_
          refine u_iload C dL_act_415 rfl ?_
          refine u_iload C dL_act_417 rfl ?_
          refine u_callCx C hT (pre := [(12, 174, 487, 68), (175, 184, 487, 68), (185, 240, 487, 68), (241, 299, 487, 68)]) (x := (300, 437, 487, 68)) (suf := [(438, 486, 487, 68)]) (by decide) (fun B => q1x_shout_3 l hl (B, g.2) M li.ok h8b (nI s) 1 (1 + nI b) (in_s ls) in_l hbad) cd_X1_shout kl_L_60 ci1 rfl (by decide) (as := [_, _, _]) rfl rfl ⟨⟨by decide, by decide⟩, by decide, by decide⟩ (Nat.le_of_ble_eq_true rfl) dL_act_419 ⟨by decide, by decide, by decide +kernel, by decide +kernel⟩ (fun qx => ?_)
          refine u_astore C (lo' := [(5, _), (4, _), (7, _), (6, _), (3, _), (0, _), (1, _), (2, _)]) dL_act_487 (by decide) rfl ?_
          refine u_iload C dL_act_489 rfl ?_
          refine u_if_ne C (tgt := 498) dL_act_491 (by decide) (fun c => absurd c (by decide)) (fun _ => ?_)
          refine u_iconst C (v := 1) dL_act_494 (by decide) ?_
          refine u_goto C (tgt := 499) dL_act_495 (by decide) ?_
          exact u_zret C hq (by decide) ⟨by decide, by decide⟩ dL_act_499 (hR _ _ _ _ (li.le (by omega)) h rfl)
        · have hnw : mSh P < 40 := Nat.lt_of_not_le (fun z => c341 ((nI_leI (a := 40) (b := mSh P) (by omega) (by omega)).mpr z))
          have hl8 : liveN (M 11) 40 < 8 := by
            rw [rel_many li.1, hlv] at c350
            exact Nat.lt_of_not_le (fun z => c350 ((nI_leI (a := 8) (b := liveN (M 11) 40) (by omega) (by have := li.2.2.1; omega)).mpr z))
          have hno : mLoudest P (nI s) = -1 := by
            rcases mLdL_or P (nI s) (mSh P) (by omega) with z | z
            · exact z
            · exact absurd z.1 c358
          have n40 : ¬ M 1 2 = 40 := by
            rw [li.w1.2]
            intro z
            have := congrArg tn z
            rw [tn_nI (by omega)] at this
            have e10 : tn (40 : Int32) = 40 := by decide
            omega
          have n8 : ¬ M 1 3 = 8 := by
            rw [hlv]
            intro z
            have := congrArg tn z
            rw [tn_nI (by omega)] at this
            have e10 : tn (8 : Int32) = 8 := by decide
            omega
          refine u_iconst C (v := 1) dL_act_361 (by decide) ?_
          refine u_goto C (tgt := 366) dL_act_362 (by decide) ?_
          refine u_istore C (lo' := [(4, _), (7, _), (6, _), (5, _), (3, _), (0, _), (1, _), (2, _)]) dL_act_366 (by decide) rfl ?_
          refine u_iload C dL_act_368 rfl ?_
          refine u_if_eq C (tgt := 413) dL_act_370 (by decide) (fun c => absurd c (by decide)) (fun _ => ?_)
          refine u_aload_n C dL_act_373 rfl ?_
          refine u_aload_n C dL_act_374 rfl ?_
          refine u_getF C fl_L_50 (h.ob nm0) rfl dL_act_375 ?_
          refine u_iconst C (v := 4) dL_act_378 (by decide) ?_
          refine u_newI C (N := 4) (rfl) (by decide) ⟨by decide, by decide⟩ dL_act_379 (fun qrow D1 z1 o1 r1 => ?_)
          have l1 := Le.ot o1 z1
          have nqr : ∀ i, su (mWs P) (mSh P) i → ad i ≠ qrow := fun i hi e => h.told hi nm0 (by rw [e]; exact z1)
          have h := h.le l1
          have ir := r1
          refine u_dup C dL_act_381 rfl ?_
          refine u_iconst C (v := 0) dL_act_382 (by decide) ?_
          refine u_iload C dL_act_383 rfl ?_
          refine u_iast C (ir) rfl (by decide : 0 < 4) (by decide) dL_act_385 (fun D2 o2 r2 => ?_)
          have h := h.ot o2 (fun i hi _ => nqr i hi)
          have ir := r2
          refine u_dup C dL_act_386 rfl ?_
          refine u_iconst C (v := 1) dL_act_387 (by decide) ?_
          refine u_iload_n C dL_act_388 rfl ?_
          refine u_iast C (ir) rfl (by decide : 1 < 4) (by decide) dL_act_389 (fun D3 o3 r3 => ?_)
          have h := h.ot o3 (fun i hi _ => nqr i hi)
          have ir := r3
          refine u_dup C dL_act_390 rfl ?_
          refine u_iconst C (v := 2) dL_act_391 (by decide) ?_
          refine u_iload C dL_act_392 rfl ?_
          refine u_if_eq C (tgt := 401) dL_act_394 (by decide) (fun c => absurd c (by decide)) (fun _ => ?_)
          refine u_iconst C (v := 1) dL_act_397 (by decide) ?_
          refine u_goto C (tgt := 402) dL_act_398 (by decide) ?_
          refine u_iast C (ir) rfl (by decide : 2 < 4) (by decide) dL_act_402 (fun D4 o4 r4 => ?_)
          have h := h.ot o4 (fun i hi _ => nqr i hi)
          have ir := r4
          refine u_dup C dL_act_403 rfl ?_
          refine u_iconst C (v := 3) dL_act_404 (by decide) ?_
          refine u_iconst C (v := 0) dL_act_405 (by decide) ?_
          refine u_iast C (ir) rfl (by decide : 3 < 4) (by decide) dL_act_406 (fun D5 o5 r5 => ?_)
          have h := h.ot o5 (fun i hi _ => nqr i hi)
          have ir := r5
          have ir := z4_all ir
          refine u_callS C (qs_with l g M _ (n0 := mSh P) (by omega) (h.shouts nm0) ⟨_, ir⟩ (fun i hi => by obtain ⟨f, a, _⟩ := h.srow hi nm0; exact ⟨f, a⟩)) cd_X2_with kl_L_25 (as := [_, _]) rfl rfl ⟨⟨by decide, by decide⟩, by decide, by decide⟩ (Nat.le_of_ble_eq_true rfl) dL_act_407 (fun v9 M9 D9 e9 => ?_)
          obtain ⟨em, q, rfl, zq, oq, rq⟩ := e9
          have em := em.symm
          subst em
          have nq : ∀ i, su (mWs P) (mSh P) i → ad i ≠ q := fun i hi e => h.told hi nm0 (by rw [e]; exact zq)
          have hqr : q ≠ qrow := fun e => ir.some (by rw [← e]; exact zq)
          have l2 := Le.ot oq zq
          have h := h.le l2
          have ir := ir.le l2
          show UX X g 2 45 410 _ [.ref q, .ref (ad 0)] M D9
          refine u_putR C fn_L_50 (h.ob nm0) (Nat.le_of_ble_eq_true rfl) dL_act_410 (fun D6 o6 r6 => ?_)
          have ob : OB D6 (ad 0) 2 [.ref (ad 1), .ref (ad 2), .ref q, .ref (ad 4), .ref (ad 5), .int (P 34 0), .int (P 34 1), .int (P 34 2)] := r6
          have sm := (h.mask (mk' := [0]) (fun i hi => absurd hi List.not_mem_nil)).otm o6 (su_c (by omega)) List.mem_cons_self
          have rq := rq.ot o6 (Ne.symm (nq 0 (su_c (by omega))))
          have ir := ir.ot o6 (Ne.symm (nqr 0 (su_c (by omega))))
          have sp2 := SM.addS hp hnw nq nqr hqr sm ob rq ir
          refine u_aload_n C dL_act_413 rfl ?_
          refine u_iload_n C dL_act_414 rfl ?_
          refine u_iload C dL_act_415 rfl ?_
          refine u_iload C dL_act_417 rfl ?_
          refine u_callC0 C (fun B => (by
    have z := q1_shout l (B, g.2) M li.ok h8b (nI s) 1 (1 + nI b) (in_s ls) in_l n40 n8 (hlo.trans hno)
    rw [li.w1.2] at z
    exact z)) cd_X1_shout kl_L_60 ci1 rfl (by decide) (as := [_, _, _]) rfl rfl ⟨⟨by decide, by decide⟩, by decide, by decide⟩ ⟨rfl, rfl⟩ (Nat.le_of_ble_eq_true rfl) dL_act_419 ?_
          refine u_iload C dL_act_422 rfl ?_
          refine u_icmp_ne C (tgt := 436) dL_act_424 (by decide) (fun c424 => absurd rfl c424) (fun c424 => ?_)
          refine u_iload C dL_act_427 rfl ?_
          refine u_if_eq C (tgt := 436) dL_act_429 (by decide) (fun c => absurd c (by decide)) (fun _ => ?_)
          refine u_iconst C (v := 1) dL_act_432 (by decide) ?_
          refine u_goto C (tgt := 437) dL_act_433 (by decide) ?_
          exact u_zret C hq (by decide) ⟨by decide, by decide⟩ dL_act_437 ((by
    refine hR _ _ _ _ (LI.le ?_ (by omega : nb ≤ nb + 100)) sp2 (by rw [aN_ne (by omega), aN_ne (by decide)])
    exact li.shout (in_s ls) (by first | exact Or.inl rfl | exact Or.inr rfl) in_l hnw hl8 hno))
set_option maxHeartbeats 1000000 in
set_option maxRecDepth 100000 in
theorem qL_act_p {X : XT} {l : Launch} {g : GT} {R : Option Value → Mem → DM → Prop} (hl : l.stackTraces = false) {M : Mem} {D : DM} {ad : Nat → Nat} {nb : Nat} {P : Mem} {x : Int32} {s : Nat} (ls : s < 32) (li : LI nb M P) (hnb : nb + 100 ≤ 100000) (h : SP g D ad P) (hR : ∀ (M1 : Mem) (D1 : DM) (A : Nat → Nat) (P1 : Mem), LI (nb + 100) M1 P1 → SP g D1 A P1 → A 0 = ad 0 → R (some (.int 1)) M1 D1) (C : Cx X g l cL_act 8 RL (some .boolean) rmL_act) (hq : RU X g rmL_act R) (hT : (xC X).exceptionTable.toList = tableOf hhL_act) : UX X g 0 0 438 [(4, .int 1), (3, .int (nI s)), (0, .ref (ga g 0)), (1, .ref (ad 0)), (2, .int x)] [] M D := by
  have hn := h.n
  have hp := li.pk
  refine u_iconst C (v := 1) dL_act_438 (by decide) ?_
  refine u_iload_n C dL_act_439 rfl ?_
  refine u_iconst C (v := 4) dL_act_440 (by decide) ?_
  refine u_ishr C dL_act_441 ?_
  refine u_iload_n C dL_act_442 rfl ?_
  refine u_bipush C (v := 8) dL_act_443 (by decide) ?_
  refine u_ishr C dL_act_445 ?_
  refine u_bipush C (v := 6) dL_act_446 (by decide) ?_
  refine u_callS0 C (qL_below l g M _ (v := x >>> (8 &&& 31)) (n := 6) (by omega) (by omega)) cd_L_below kl_L_9 (as := [_, _]) rfl rfl ⟨⟨by decide, by decide⟩, by decide, by decide⟩ ⟨rfl, rfl⟩ (Nat.le_of_ble_eq_true rfl) dL_act_448 ?_
  obtain ⟨b, hb⟩ : ∃ b, b = bl (x >>> (8 &&& 31)) 6 := ⟨_, rfl⟩
  have lb : b < 6 := by rw [hb]; exact (bl_lt _ (by omega) (by omega)).1
  rw [← hb]
  refine u_if_ne C (tgt := 459) dL_act_451 (by decide) (fun c451 => ?_) (fun c451 => ?_)
  · refine u_iconst C (v := 5) dL_act_459 (by decide) ?_
    refine u_callS0 C (qL_below l g M _ (v := x >>> (4 &&& 31)) (n := 5) (by omega) (by omega)) cd_L_below kl_L_9 (as := [_, _]) rfl rfl ⟨⟨by decide, by decide⟩, by decide, by decide⟩ ⟨rfl, rfl⟩ (Nat.le_of_ble_eq_true rfl) dL_act_460 ?_
    obtain ⟨t, ht⟩ : ∃ t, t = bl (x >>> (4 &&& 31)) 5 := ⟨_, rfl⟩
    have lt : t < 5 := by rw [ht]; exact (bl_lt _ (by omega) (by omega)).1
    rw [← ht]
    refine u_iadd C dL_act_463 ?_
    refine u_ttop (v' := .int (nI (1 + t))) (congrArg Value.int (nI_add 1 t)) ?_
    have hb2 : 1 ≤ nI (1 + t) ∧ nI (1 + t) ≤ 100 := ⟨nI_le (a := 1) (by omega) (by omega), nI_le (b := 100) (by omega) (by omega)⟩
    refine u_istore C (lo' := [(5, _), (4, _), (3, _), (0, _), (1, _), (2, _)]) dL_act_464 (by decide) rfl ?_
    refine u_aload_n C dL_act_466 rfl ?_
    refine u_iload C dL_act_467 rfl ?_
    refine u_callC0 C (fun B => (by
    have z := q1_pass l (B, g.2) M li.ok (nI (1 + t)) hb2
    rw [tn_nI (by omega)] at z
    exact z)) cd_X1_pass kl_L_64 ci1 rfl (by decide) (as := [_]) rfl rfl ⟨⟨by decide, by decide⟩, by decide, by decide⟩ ⟨rfl, rfl⟩ (Nat.le_of_ble_eq_true rfl) dL_act_469 ?_
    refine u_aload_n C dL_act_472 rfl ?_
    refine u_iload C dL_act_473 rfl ?_
    refine u_callV C (qs_pass_ l g _ _ hp h (b := 1 + t) (by omega)) cd_X2_pass_ kl_L_67 ci2 (h.ob nm0) (as := [_]) rfl rfl ⟨⟨by decide, by decide⟩, by decide, by decide⟩ (Nat.le_of_ble_eq_true rfl) dL_act_475 (fun v9 M9 D9 e9 => ?_)
    obtain ⟨rfl, em, h9, f9⟩ := e9
    have em := em.symm
    subst em
    have l9 := li.beats (1 + t) (by omega)
    have e1 : cBeats 1 M (1 + t) 9 0 = mBeats P (1 + t) 34 3 := (l9.1.1.2.2.2.1 0 (by omega)).1
    have e2 : cBeats 1 M (1 + t) 9 1 = mBeats P (1 + t) 34 4 := (l9.1.1.2.2.2.1 1 (by omega)).1
    have e3 : M 9 0 = P 34 3 := (li.1.1.2.2.2.1 0 (by omega)).1
    have e4 : M 9 1 = P 34 4 := (li.1.1.2.2.2.1 1 (by omega)).1
    have ee : cBeats 1 M (1 + t) 9 0 + cBeats 1 M (1 + t) 9 1 - (M 9 0 + M 9 1) = mGts P (1 + t) := by
      rw [mGts_is, e1, e2, e3, e4]
      grind
    show UX X g 200 4200 478 _ [.int (mGts P (1 + t)), .int (cBeats 1 M (1 + t) 9 0 + cBeats 1 M (1 + t) 9 1 - (M 9 0 + M 9 1))] _ D9
    rw [ee]
    refine u_icmp_ne C (tgt := 485) dL_act_478 (by decide) (fun c478 => absurd rfl c478) (fun c478 => ?_)
    refine u_iconst C (v := 1) dL_act_481 (by decide) ?_
    refine u_goto C (tgt := 486) dL_act_482 (by decide) ?_
    exact u_zret C hq (by decide) ⟨by decide, by decide⟩ dL_act_486 (hR _ _ _ _ (l9.le (by omega)) h9 rfl)
  · refine u_bipush C (v := 100) dL_act_454 (by decide) ?_
    refine u_goto C (tgt := 460) dL_act_456 (by decide) ?_
    refine u_callS0 C (qL_below l g M _ (v := x >>> (4 &&& 31)) (n := 100) (by omega) (by omega)) cd_L_below kl_L_9 (as := [_, _]) rfl rfl ⟨⟨by decide, by decide⟩, by decide, by decide⟩ ⟨rfl, rfl⟩ (Nat.le_of_ble_eq_true rfl) dL_act_460 ?_
    obtain ⟨t, ht⟩ : ∃ t, t = bl (x >>> (4 &&& 31)) 100 := ⟨_, rfl⟩
    have lt : t < 100 := by rw [ht]; exact (bl_lt _ (by omega) (by omega)).1
    rw [← ht]
    refine u_iadd C dL_act_463 ?_
    refine u_ttop (v' := .int (nI (1 + t))) (congrArg Value.int (nI_add 1 t)) ?_
    have hb2 : 1 ≤ nI (1 + t) ∧ nI (1 + t) ≤ 100 := ⟨nI_le (a := 1) (by omega) (by omega), nI_le (b := 100) (by omega) (by omega)⟩
    refine u_istore C (lo' := [(5, _), (4, _), (3, _), (0, _), (1, _), (2, _)]) dL_act_464 (by decide) rfl ?_
    refine u_aload_n C dL_act_466 rfl ?_
    refine u_iload C dL_act_467 rfl ?_
    refine u_callC0 C (fun B => (by
    have z := q1_pass l (B, g.2) M li.ok (nI (1 + t)) hb2
    rw [tn_nI (by omega)] at z
    exact z)) cd_X1_pass kl_L_64 ci1 rfl (by decide) (as := [_]) rfl rfl ⟨⟨by decide, by decide⟩, by decide, by decide⟩ ⟨rfl, rfl⟩ (Nat.le_of_ble_eq_true rfl) dL_act_469 ?_
    refine u_aload_n C dL_act_472 rfl ?_
    refine u_iload C dL_act_473 rfl ?_
    refine u_callV C (qs_pass_ l g _ _ hp h (b := 1 + t) (by omega)) cd_X2_pass_ kl_L_67 ci2 (h.ob nm0) (as := [_]) rfl rfl ⟨⟨by decide, by decide⟩, by decide, by decide⟩ (Nat.le_of_ble_eq_true rfl) dL_act_475 (fun v9 M9 D9 e9 => ?_)
    obtain ⟨rfl, em, h9, f9⟩ := e9
    have em := em.symm
    subst em
    have l9 := li.beats (1 + t) (by omega)
    have e1 : cBeats 1 M (1 + t) 9 0 = mBeats P (1 + t) 34 3 := (l9.1.1.2.2.2.1 0 (by omega)).1
    have e2 : cBeats 1 M (1 + t) 9 1 = mBeats P (1 + t) 34 4 := (l9.1.1.2.2.2.1 1 (by omega)).1
    have e3 : M 9 0 = P 34 3 := (li.1.1.2.2.2.1 0 (by omega)).1
    have e4 : M 9 1 = P 34 4 := (li.1.1.2.2.2.1 1 (by omega)).1
    have ee : cBeats 1 M (1 + t) 9 0 + cBeats 1 M (1 + t) 9 1 - (M 9 0 + M 9 1) = mGts P (1 + t) := by
      rw [mGts_is, e1, e2, e3, e4]
      grind
    show UX X g 200 4200 478 _ [.int (mGts P (1 + t)), .int (cBeats 1 M (1 + t) 9 0 + cBeats 1 M (1 + t) 9 1 - (M 9 0 + M 9 1))] _ D9
    rw [ee]
    refine u_icmp_ne C (tgt := 485) dL_act_478 (by decide) (fun c478 => absurd rfl c478) (fun c478 => ?_)
    refine u_iconst C (v := 1) dL_act_481 (by decide) ?_
    refine u_goto C (tgt := 486) dL_act_482 (by decide) ?_
    exact u_zret C hq (by decide) ⟨by decide, by decide⟩ dL_act_486 (hR _ _ _ _ (l9.le (by omega)) h9 rfl)
set_option maxHeartbeats 1000000 in
set_option maxRecDepth 100000 in
theorem qL_act (l : Launch) (hl : l.stackTraces = false) (g : GT) (M : Mem) (D : DM) {ad : Nat → Nat} {nb : Nat} {P : Mem} (li : LI nb M P) (hnb : nb + 100 ≤ 100000) (h : SP g D ad P) (x : Int32) : CUW l yL_act cL_act 8 (some .boolean) hhL_act rmL_act g M D [.ref (ga g 0), .ref (ad 0), .int x] (fun r M1 D1 => r = some (.int 1) ∧ ∃ A P1, LI (nb + 100) M1 P1 ∧ SP g D1 A P1 ∧ A 0 = ad 0) := by
  refine CUW.of (by decide) (Nat.le_of_ble_eq_true rfl) cw_L_act.1 (fun X C hq hT => ?_)
  have C : Cx X g l cL_act 8 RL (some .boolean) rmL_act := C
  show UX X g 0 0 0 [(0, .ref (ga g 0)), (1, .ref (ad 0)), (2, .int x)] [] M D
  refine u_iload_n C dL_act_0 rfl ?_
  refine u_iconst C (v := 3) dL_act_1 (by decide) ?_
  refine u_ishr C dL_act_2 ?_
  refine u_bipush C (v := 32) dL_act_3 (by decide) ?_
  refine u_callS0 C (qL_below l g M _ (v := x >>> (3 &&& 31)) (n := 32) (by omega) (by omega)) cd_L_below kl_L_9 (as := [_, _]) rfl rfl ⟨⟨by decide, by decide⟩, by decide, by decide⟩ ⟨rfl, rfl⟩ (Nat.le_of_ble_eq_true rfl) dL_act_5 ?_
  obtain ⟨s, hs⟩ : ∃ s, s = bl (x >>> (3 &&& 31)) 32 := ⟨_, rfl⟩
  have ls : s < 32 := by rw [hs]; exact (bl_lt _ (by omega) (by omega)).1
  rw [← hs]
  refine u_istore_n C (lo' := [(3, _), (0, _), (1, _), (2, _)]) dL_act_8 (by decide) rfl ?_
  refine u_iconst C (v := 1) dL_act_9 (by decide) ?_
  refine u_istore C (lo' := [(4, _), (3, _), (0, _), (1, _), (2, _)]) dL_act_10 (by decide) rfl ?_
  refine u_iload_n C dL_act_12 rfl ?_
  refine u_bipush C (v := 12) dL_act_13 (by decide) ?_
  refine u_callS0 C (qL_below l g M _ (v := x) (n := 12) (by omega) (by omega)) cd_L_below kl_L_9 (as := [_, _]) rfl rfl ⟨⟨by decide, by decide⟩, by decide, by decide⟩ ⟨rfl, rfl⟩ (Nat.le_of_ble_eq_true rfl) dL_act_15 ?_
  obtain ⟨t, ht⟩ : ∃ t, t = bl (x) 12 := ⟨_, rfl⟩
  have lt : t < 12 := by rw [ht]; exact (bl_lt _ (by omega) (by omega)).1
  rw [← ht]
  rcases (show t = 0 ∨ t = 1 ∨ t = 2 ∨ t = 3 ∨ t = 4 ∨ t = 5 ∨ t = 6 ∨ t = 7 ∨ t = 8 ∨ t = 9 ∨ t = 10 ∨ t = 11 by omega) with rfl | rfl | rfl | rfl | rfl | rfl | rfl | rfl | rfl | rfl | rfl | rfl
  · refine u_tabIn C (x := nI 0) (off := 46) (tgt := 64) dL_act_18 (by decide) (by decide) rfl (by decide) ?_
    exact u_lsub [0, 1, 2, 3, 4] rfl (qL_act_w hl ls li hnb h (fun M1 D1 A P1 a b c => ⟨rfl, A, P1, a, b, c⟩) C hq hT)
  · refine u_tabIn C (x := nI 1) (off := 46) (tgt := 64) dL_act_18 (by decide) (by decide) rfl (by decide) ?_
    exact u_lsub [0, 1, 2, 3, 4] rfl (qL_act_w hl ls li hnb h (fun M1 D1 A P1 a b c => ⟨rfl, A, P1, a, b, c⟩) C hq hT)
  · refine u_tabIn C (x := nI 2) (off := 157) (tgt := 175) dL_act_18 (by decide) (by decide) rfl (by decide) ?_
    exact u_lsub [0, 1, 2, 3, 4] rfl (qL_act_h hl ls li hnb h (fun M1 D1 A P1 a b c => ⟨rfl, A, P1, a, b, c⟩) C hq hT)
  · refine u_tabIn C (x := nI 3) (off := 223) (tgt := 241) dL_act_18 (by decide) (by decide) rfl (by decide) ?_
    exact u_lsub [0, 1, 2, 3, 4] rfl (qL_act_s hl ls li hnb h (fun M1 D1 A P1 a b c => ⟨rfl, A, P1, a, b, c⟩) C hq hT)
  · refine u_tabIn C (x := nI 4) (off := 282) (tgt := 300) dL_act_18 (by decide) (by decide) rfl (by decide) ?_
    exact u_lsub [0, 1, 2, 3, 4] rfl (qL_act_o hl ls li hnb h (fun M1 D1 A P1 a b c => ⟨rfl, A, P1, a, b, c⟩) C hq hT)
  · refine u_tabIn C (x := nI 5) (off := 282) (tgt := 300) dL_act_18 (by decide) (by decide) rfl (by decide) ?_
    exact u_lsub [0, 1, 2, 3, 4] rfl (qL_act_o hl ls li hnb h (fun M1 D1 A P1 a b c => ⟨rfl, A, P1, a, b, c⟩) C hq hT)
  · refine u_tabIn C (x := nI 6) (off := 282) (tgt := 300) dL_act_18 (by decide) (by decide) rfl (by decide) ?_
    exact u_lsub [0, 1, 2, 3, 4] rfl (qL_act_o hl ls li hnb h (fun M1 D1 A P1 a b c => ⟨rfl, A, P1, a, b, c⟩) C hq hT)
  · refine u_tabIn C (x := nI 7) (off := 282) (tgt := 300) dL_act_18 (by decide) (by decide) rfl (by decide) ?_
    exact u_lsub [0, 1, 2, 3, 4] rfl (qL_act_o hl ls li hnb h (fun M1 D1 A P1 a b c => ⟨rfl, A, P1, a, b, c⟩) C hq hT)
  · refine u_tabOut C (x := nI 8) (tgt := 438) dL_act_18 (Or.inr (by decide)) (by decide) ?_
    exact u_lsub [0, 1, 2, 3, 4] rfl (qL_act_p hl ls li hnb h (fun M1 D1 A P1 a b c => ⟨rfl, A, P1, a, b, c⟩) C hq hT)
  · refine u_tabOut C (x := nI 9) (tgt := 438) dL_act_18 (Or.inr (by decide)) (by decide) ?_
    exact u_lsub [0, 1, 2, 3, 4] rfl (qL_act_p hl ls li hnb h (fun M1 D1 A P1 a b c => ⟨rfl, A, P1, a, b, c⟩) C hq hT)
  · refine u_tabOut C (x := nI 10) (tgt := 438) dL_act_18 (Or.inr (by decide)) (by decide) ?_
    exact u_lsub [0, 1, 2, 3, 4] rfl (qL_act_p hl ls li hnb h (fun M1 D1 A P1 a b c => ⟨rfl, A, P1, a, b, c⟩) C hq hT)
  · refine u_tabOut C (x := nI 11) (tgt := 438) dL_act_18 (Or.inr (by decide)) (by decide) ?_
    exact u_lsub [0, 1, 2, 3, 4] rfl (qL_act_p hl ls li hnb h (fun M1 D1 A P1 a b c => ⟨rfl, A, P1, a, b, c⟩) C hq hT)
