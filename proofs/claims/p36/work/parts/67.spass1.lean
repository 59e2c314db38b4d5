/-! Sim's beat: each shout goes a stone on. -/
abbrev rmX2_pass : Room := { frames := 1, cells := 2, slots := 42, locals := 60 }
set_option maxHeartbeats 1000000 in
set_option maxRecDepth 100000 in
theorem qs_pass_l1 {X : XT} {l : Launch} {g : GT} {R : Option Value → Mem → DM → Prop} {M : Mem} {D0 : DM} {ad : Nat → Nat} {P : Mem} {aG : Nat} (hp : PK P) (hG : ∀ i, su (mWs P) (mSh P) i → ad i ≠ aG) (hz : D0 aG = none) (next : ∀ (D : DM) (gf : Nat → Int32), SM g D ad (mB1 P) (fun e => P 34 (3 + e)) [] → IA g D aG 2 gf → GG P (mB1 P) gf (mSh P) → Fr ad (mWs P) (mSh P) D0 D → UX X g 1 2 202 [(1, .ref aG), (0, .ref (ad 0))] [] M D) (C : Cx X g l cX2_pass 7 RX2 (some .int) rmX2_pass) (hq : RU X g rmX2_pass R) : ∀ (n k : Nat) (D : DM) (gf : Nat → Int32), k ≤ mSh P → mSh P + 1 ≤ k + n → SM g D ad (mStepL (mGot0 P) k) (fun e => P 34 (3 + e)) [] → IA g D aG 2 gf → GG P (mStepL (mGot0 P) k) gf k → Fr ad (mWs P) (mSh P) D0 D → UX X g 1 2 23 [(4, .int (nI k)), (3, .int (nI (mSh P))), (2, .ref (ad 3)), (1, .ref aG), (0, .ref (ad 0))] [] M D := by
  intro n
  induction n with
  | zero =>
    intro k D gf h1 h2; omega
  | succ n ih =>
    intro k D gf h1 h2 h gt gg fr
    have hsh := hp.1.sh
    have e29 : mStepL (mGot0 P) k 29 = P 29 := (mStepL_fr (mGot0 P) k 29 (by decide) (by decide)).trans rfl
    have pq : PK (mStepL (mGot0 P) k) := hp.got0.stepL k (by omega)
    have eN : mStepL (mGot0 P) (k + 1) = if 0 < mStepL (mGot0 P) k 34 (27 + k) then mStep (mStepL (mGot0 P) k) k else mStepL (mGot0 P) k := rfl
    have eB : k = mSh P → mStepL (mGot0 P) k = mB1 P := fun z => by rw [z]; rfl
    generalize mStepL (mGot0 P) k = Q at h gg e29 pq eN eB
    have hQs : mSh Q = mSh P := by show tn (Q 29 2) = tn (P 29 2); rw [e29]
    have hQw : mWs Q = mWs P := by show tn (Q 29 1) = tn (P 29 1); rw [e29]
    have hn := h.n
    have hGq : ∀ i, su (mWs Q) (mSh Q) i → ad i ≠ aG := by rw [hQs, hQw]; exact hG
    refine u_iload C dX2_pass_23 rfl ?_
    refine u_iload_n C dX2_pass_25 rfl ?_
    refine u_icmp_ge C (tgt := 202) dX2_pass_26 (by decide) (fun c26 => ?_) (fun c26 => ?_)
    · have he : k = mSh P := Nat.le_antisymm h1 ((nI_leI (a := mSh P) (b := k) (by omega) (by omega)).mp c26)
      exact u_lsub [3, 4] rfl (next D gf (by rw [← eB he]; exact h) gt (by rw [← eB he, ← he]; exact gg) fr)
    · have hlt : k < mSh P := Nat.lt_of_not_le (fun z => c26 ((nI_leI (a := mSh P) (b := k) (by omega) (by omega)).mpr z))
      have hk40 : k < 40 := by omega
      have hks : k < mSh Q := by omega
      have hks2 : k < mSh P := hlt
      have hm := h.mask (mk' := [20 + k]) (fun i hi => absurd hi List.not_mem_nil)
      obtain ⟨f, r, s0, s3, s1⟩ := h.srow hks nm0
      have r := r.qq
      rw [s0, s3] at r
      have hv := pq.2.2.2 k hk40
      refine u_aload_n C dX2_pass_29 rfl ?_
      refine u_iload C dX2_pass_30 rfl ?_
      refine u_aald C (h.shouts nm0) rfl (by omega : k < mSh Q) (by omega) rfl dX2_pass_32 ?_
      refine u_astore C (lo' := [(5, _), (4, _), (3, _), (2, _), (1, _), (0, _)]) dX2_pass_33 (by decide) rfl ?_
      refine u_aload C dX2_pass_35 rfl ?_
      refine u_iconst C (v := 0) dX2_pass_37 (by decide) ?_
      refine u_ialv C (r) rfl (by decide) (by decide) (v := Q 34 (27 + k)) rfl dX2_pass_38 ?_
      refine u_if_ne C (tgt := 45) dX2_pass_39 (by decide) (fun c39 => ?_) (fun c39 => ?_)
      · have hl : 0 < Q 34 (27 + k) := Int32.lt_of_le_of_ne hv.1.1 (Ne.symm c39)
        obtain ⟨s1, s2⟩ := s1 hl
        rw [s1, s2] at r
        refine u_aload C dX2_pass_45 rfl ?_
        refine u_iconst C (v := 1) dX2_pass_47 (by decide) ?_
        refine u_dup2 C dX2_pass_48 rfl rfl ?_
        refine u_ialv C (r) rfl (by decide) (by decide) (v := Q 34 (67 + k)) rfl dX2_pass_49 ?_
        refine u_aload C dX2_pass_50 rfl ?_
        refine u_iconst C (v := 2) dX2_pass_52 (by decide) ?_
        refine u_ialv C (r) rfl (by decide) (by decide) (v := Q 34 (107 + k)) rfl dX2_pass_53 ?_
        refine u_iadd C dX2_pass_54 ?_
        refine u_iast C (r) rfl (by decide : 1 < 4) (by decide) dX2_pass_55 (fun D1 o1 r1 => ?_)
        have r := r1.u1
        have hm := hm.otm o1 (su_s hks) List.mem_cons_self
        have gt := gt.ot o1 (Ne.symm (hGq _ (su_s hks)))
        have fr := fr.ad o1 (su_s hks2) (by omega)
        have r : IA g D1 (ad (20 + k)) 4 (q4 (Q 34 (27 + k)) (mS1 Q k) (Q 34 (107 + k)) (Q 34 (147 + k))) := r
        refine u_aload C dX2_pass_56 rfl ?_
        refine u_iconst C (v := 1) dX2_pass_58 (by decide) ?_
        refine u_ialv C (r) rfl (by decide) (by decide) (v := mS1 Q k) rfl dX2_pass_59 ?_
        refine u_if_lt C (tgt := 72) dX2_pass_60 (by decide) (fun c60 => ?_) (fun c60 => ?_)
        · have hout : ¬ (0 ≤ mS1 Q k ∧ mS1 Q k ≤ 31) := fun z => absurd c60 (Int32.not_lt.mpr z.1)
          refine u_aload C dX2_pass_72 rfl ?_
          refine u_iconst C (v := 0) dX2_pass_74 (by decide) ?_
          refine u_iconst C (v := 0) dX2_pass_75 (by decide) ?_
          refine u_iast C (r) rfl (by decide : 0 < 4) (by decide) dX2_pass_76 (fun D2 o2 r2 => ?_)
          have r := r2.u0
          have hm := hm.otm o2 (su_s hks) List.mem_cons_self
          have gt := gt.ot o2 (Ne.symm (hGq _ (su_s hks)))
          have fr := fr.ad o2 (su_s hks2) (by omega)
          have eQ : mStepL (mGot0 P) (k + 1) = wr Q 34 (27 + k) 0 := by rw [eN]; exact (if_pos hl).trans (ms_out hout)
          have hS : SM g D2 ad (mStepL (mGot0 P) (k + 1)) (fun e => P 34 (3 + e)) [] := by
            rw [eQ]
            exact hm.shout hks (wr_cell (by decide)) (fun c j a b z => wr_ne (by omega)) r ⟨wr_eq.symm, by rw [wr_ne (by omega)]; rfl, fun z => absurd z (by rw [wr_eq]; decide)⟩
          have hgg : GG P (mStepL (mGot0 P) (k + 1)) (gf) (k + 1) := by
            rw [eQ]
            exact gg.same (fun e he => ⟨wr_ne (by omega), wr_ne (Or.inl (by decide))⟩)
          have hgt : IA g _ aG 2 (gf) := gt
          have hfr := fr
          refine u_goto C (tgt := 196) dX2_pass_77 (by decide) ?_
          refine u_iinc C (v := nI (k + 1)) (lo' := [(4, _), (5, _), (3, _), (2, _), (1, _), (0, _)]) dX2_pass_196 rfl (nI_inc _) (by decide) rfl ?_
          refine u_goto C (tgt := 23) dX2_pass_199 (by decide) ?_
          exact u_lsub [0, 2, 3, 4, 5] rfl (ih (k + 1) _ _ hlt (by omega) hS hgt hgg hfr)
        · refine u_aload C dX2_pass_63 rfl ?_
          refine u_iconst C (v := 1) dX2_pass_65 (by decide) ?_
          refine u_ialv C (r) rfl (by decide) (by decide) (v := mS1 Q k) rfl dX2_pass_66 ?_
          refine u_bipush C (v := 31) dX2_pass_67 (by decide) ?_
          refine u_icmp_le C (tgt := 80) dX2_pass_69 (by decide) (fun c69 => ?_) (fun c69 => ?_)
          · have hs : 0 ≤ mS1 Q k ∧ mS1 Q k ≤ 31 := ⟨Int32.not_lt.mp c60, c69⟩
            refine u_aload C dX2_pass_80 rfl ?_
            refine u_iconst C (v := 0) dX2_pass_82 (by decide) ?_
            refine u_iconst C (v := 0) dX2_pass_83 (by decide) ?_
            refine u_aload C dX2_pass_84 rfl ?_
            refine u_iconst C (v := 0) dX2_pass_86 (by decide) ?_
            refine u_ialv C (r) rfl (by decide) (by decide) (v := Q 34 (27 + k)) rfl dX2_pass_87 ?_
            refine u_iconst C (v := 1) dX2_pass_88 (by decide) ?_
            refine u_isub C dX2_pass_89 ?_
            refine u_aload_n C dX2_pass_90 rfl ?_
            refine u_getF C fl_X2_7 (hm.ob (nm1 (by omega))) rfl dX2_pass_91 ?_
            refine u_aload C dX2_pass_94 rfl ?_
            refine u_iconst C (v := 1) dX2_pass_96 (by decide) ?_
            refine u_ialv C (r) rfl (by decide) (by decide) (v := mS1 Q k) rfl dX2_pass_97 ?_
            refine u_iald C (hm.snow (nm1 (by omega))) (nI_tn hs.1) (tn31 hs) (by decide) dX2_pass_98 ?_
            refine u_isub C dX2_pass_99 ?_
            refine u_max C (i := 470) (by decide +kernel) ⟨by decide, Nat.le_of_ble_eq_true rfl, Nat.le_of_ble_eq_true rfl, Nat.le_of_ble_eq_true rfl⟩ dX2_pass_100 ?_
            refine u_iast C (r) rfl (by decide : 0 < 4) (by decide) dX2_pass_103 (fun D2 o2 r2 => ?_)
            have r := r2.u0
            have hm := hm.otm o2 (su_s hks) List.mem_cons_self
            have gt := gt.ot o2 (Ne.symm (hGq _ (su_s hks)))
            have fr := fr.ad o2 (su_s hks2) (by omega)
            have r : IA g D2 (ad (20 + k)) 4 (q4 (mLd Q k (mS1 Q k)) (mS1 Q k) (Q 34 (107 + k)) (Q 34 (147 + k))) := r
            refine u_aload_n C dX2_pass_104 rfl ?_
            refine u_aload C dX2_pass_105 rfl ?_
            refine u_iconst C (v := 1) dX2_pass_107 (by decide) ?_
            refine u_ialv C (r) rfl (by decide) (by decide) (v := mS1 Q k) rfl dX2_pass_108 ?_
            refine u_callV0 C (qs_wallOn l g M _ hm ⟨nm1 (by omega), nm1 (by omega), fun w hw => nm1 (by omega)⟩ (mS1 Q k)) cd_X2_wallOn kl_X2_48 ci2 (hm.ob (nm1 (by omega))) (as := [_]) rfl rfl ⟨⟨by decide, by decide⟩, by decide, by decide⟩ ⟨rfl, rfl⟩ (Nat.le_of_ble_eq_true rfl) dX2_pass_109 ?_
            rw [sWO_is pq.2.2.1 hs]
            refine u_istore C (lo' := [(6, _), (5, _), (4, _), (3, _), (2, _), (1, _), (0, _)]) dX2_pass_112 (by decide) rfl ?_
            refine u_aload C dX2_pass_114 rfl ?_
            refine u_iconst C (v := 0) dX2_pass_116 (by decide) ?_
            refine u_ialv C (r) rfl (by decide) (by decide) (v := mLd Q k (mS1 Q k)) rfl dX2_pass_117 ?_
            refine u_if_eq C (tgt := 196) dX2_pass_118 (by decide) (fun c118 => ?_) (fun c118 => ?_)
            · have hc : ¬ (0 < mLd Q k (mS1 Q k) ∧ Q 31 (tn (mS1 Q k)) ≠ -1) := fun z => absurd z.1 (by rw [c118]; decide)
              have eQ : mStepL (mGot0 P) (k + 1) = wr (wr Q 34 (67 + k) (mS1 Q k)) 34 (27 + k) (mLd Q k (mS1 Q k)) := by rw [eN]; exact (if_pos hl).trans (ms_go hs hc)
              have hS : SM g D2 ad (mStepL (mGot0 P) (k + 1)) (fun e => P 34 (3 + e)) [] := by
                rw [eQ]
                exact hm.shout hks (by rw [wr_cell (by decide), wr_cell (by decide)]) (fun c j a b z => by rw [wr_ne (by omega), wr_ne (by omega)]) r ⟨wr_eq.symm, by rw [wr_ne (by omega), wr_ne (by omega)]; rfl, fun _ => ⟨by rw [wr_ne (by omega), wr_eq]; rfl, by rw [wr_ne (by omega), wr_ne (by omega)]; rfl⟩⟩
              have hgg : GG P (mStepL (mGot0 P) (k + 1)) (gf) (k + 1) := by
                rw [eQ]
                exact gg.same (fun e he => ⟨by rw [wr_ne (by omega), wr_ne (by omega)], by rw [wr_ne (Or.inl (by decide)), wr_ne (Or.inl (by decide))]⟩)
              have hgt : IA g _ aG 2 (gf) := gt
              have hfr := fr
              refine u_iinc C (v := nI (k + 1)) (lo' := [(4, _), (6, _), (5, _), (3, _), (2, _), (1, _), (0, _)]) dX2_pass_196 rfl (nI_inc _) (by decide) rfl ?_
              refine u_goto C (tgt := 23) dX2_pass_199 (by decide) ?_
              exact u_lsub [0, 3, 4, 5, 6] rfl (ih (k + 1) _ _ hlt (by omega) hS hgt hgg hfr)
            · have hL : 0 < mLd Q k (mS1 Q k) := Int32.lt_of_le_of_ne (mLd_99 pq.2.1 hs hv.1).1 (Ne.symm c118)
              refine u_iload C dX2_pass_121 rfl ?_
              refine u_if_ge C (tgt := 129) dX2_pass_123 (by decide) (fun c123 => ?_) (fun c123 => ?_)
              · have hne : Q 31 (tn (mS1 Q k)) ≠ -1 := fun z => absurd c123 (by rw [z]; decide)
                obtain ⟨ha1, ha2⟩ := pq.2.2.1.at hs hne
                have hw10 : tn (Q 31 (tn (mS1 Q k))) < 10 := by omega
                have ho := pq.1.2.2.2 _ hw10
                have he2 := tn1 ho
                refine u_aload_n C dX2_pass_129 rfl ?_
                refine u_aload_n C dX2_pass_130 rfl ?_
                refine u_getF C fl_X2_14 (hm.ob (nm1 (by omega))) rfl dX2_pass_131 ?_
                refine u_iload C dX2_pass_134 rfl ?_
                refine u_aald C (hm.walls (nm1 (by omega))) (nI_tn ha1) ha2 (by omega) rfl dX2_pass_136 ?_
                refine u_iconst C (v := 1) dX2_pass_137 (by decide) ?_
                refine u_ialv C (hm.wrow ha2 (nm1 (by omega))) rfl (by decide) (by decide) (v := Q 34 (7 + (tn (Q 31 (tn (mS1 Q k)))))) rfl dX2_pass_138 ?_
                refine u_dup2 C dX2_pass_139 rfl rfl ?_
                refine u_iald C (gt) (nI_tn ho.1) he2 (by decide) dX2_pass_140 ?_
                refine u_iconst C (v := 1) dX2_pass_141 (by decide) ?_
                refine u_iadd C dX2_pass_142 ?_
                refine u_iast C (gt) (nI_tn ho.1) he2 (by decide) dX2_pass_143 (fun D3 o3 r3 => ?_)
                have gt := r3
                have hm := hm.ot o3 (fun i hi _ => hGq i hi)
                have r := r.ot o3 (hGq _ (su_s hks))
                have fr := fr.fresh o3 hz
                refine u_aload_n C dX2_pass_144 rfl ?_
                refine u_getF C fl_X2_14 (hm.ob (nm1 (by omega))) rfl dX2_pass_145 ?_
                refine u_iload C dX2_pass_148 rfl ?_
                refine u_aald C (hm.walls (nm1 (by omega))) (nI_tn ha1) ha2 (by omega) rfl dX2_pass_150 ?_
                refine u_iconst C (v := 3) dX2_pass_151 (by decide) ?_
                refine u_dup2 C dX2_pass_152 rfl rfl ?_
                refine u_ialv C (hm.wrow ha2 (nm1 (by omega))) rfl (by decide) (by decide) (v := Q 34 (17 + (tn (Q 31 (tn (mS1 Q k)))))) rfl dX2_pass_153 ?_
                refine u_iconst C (v := 1) dX2_pass_154 (by decide) ?_
                refine u_iadd C dX2_pass_155 ?_
                refine u_iast C (hm.wrow ha2 (nm1 (by omega))) rfl (by decide : 3 < 4) (by decide) dX2_pass_156 (fun D4 o4 r4 => ?_)
                have hne1 : ad (20 + k) ≠ ad (10 + (tn (Q 31 (tn (mS1 Q k))))) := hm.ne (su_s hks) (su_w ha2) (by omega)
                have hm := hm.w3 ha2 (fun i hi => by have := List.mem_singleton.mp hi; omega) o4 r4
                have r := r.ot o4 hne1
                have gt := gt.ot o4 (Ne.symm (hGq _ (su_w ha2)))
                have fr := fr.ad o4 (su_w (by omega)) (by omega)
                have hnw : mWs (wr Q 34 (17 + (tn (Q 31 (tn (mS1 Q k))))) (Q 34 (17 + (tn (Q 31 (tn (mS1 Q k))))) + 1)) ≤ 10 := hn.1
                refine u_aload C dX2_pass_157 rfl ?_
                refine u_iconst C (v := 3) dX2_pass_159 (by decide) ?_
                refine u_dup2 C dX2_pass_160 rfl rfl ?_
                refine u_ialv C (r) rfl (by decide) (by decide) (v := Q 34 (147 + k)) rfl dX2_pass_161 ?_
                refine u_iconst C (v := 1) dX2_pass_162 (by decide) ?_
                refine u_iadd C dX2_pass_163 ?_
                refine u_iast C (r) rfl (by decide : 3 < 4) (by decide) dX2_pass_164 (fun D5 o5 r5 => ?_)
                have r := r5.u3
                have hm := hm.otm o5 (su_s hks) List.mem_cons_self
                have gt := gt.ot o5 (Ne.symm (hGq _ (su_s hks)))
                have fr := fr.ad o5 (su_s hks2) (by omega)
                refine u_aload C dX2_pass_165 rfl ?_
                refine u_iconst C (v := 2) dX2_pass_167 (by decide) ?_
                refine u_aload C dX2_pass_168 rfl ?_
                refine u_iconst C (v := 2) dX2_pass_170 (by decide) ?_
                refine u_ialv C (r) rfl (by decide) (by decide) (v := Q 34 (107 + k)) rfl dX2_pass_171 ?_
                refine u_ineg C dX2_pass_172 ?_
                refine u_iast C (r) rfl (by decide : 2 < 4) (by decide) dX2_pass_173 (fun D6 o6 r6 => ?_)
                have r := r6.u2
                have hm := hm.otm o6 (su_s hks) List.mem_cons_self
                have gt := gt.ot o6 (Ne.symm (hGq _ (su_s hks)))
                have fr := fr.ad o6 (su_s hks2) (by omega)
                refine u_aload C dX2_pass_174 rfl ?_
                refine u_iconst C (v := 0) dX2_pass_176 (by decide) ?_
                refine u_iconst C (v := 0) dX2_pass_177 (by decide) ?_
                refine u_aload C dX2_pass_178 rfl ?_
                refine u_iconst C (v := 0) dX2_pass_180 (by decide) ?_
                refine u_ialv C (r) rfl (by decide) (by decide) (v := mLd Q k (mS1 Q k)) rfl dX2_pass_181 ?_
                refine u_aload_n C dX2_pass_182 rfl ?_
                refine u_getF C fl_X2_14 (hm.ob (nm1 (by omega))) rfl dX2_pass_183 ?_
                refine u_iload C dX2_pass_186 rfl ?_
                refine u_aald C (hm.walls (nm1 (by omega))) (nI_tn ha1) ha2 (by omega) rfl dX2_pass_188 ?_
                refine u_iconst C (v := 2) dX2_pass_189 (by decide) ?_
                refine u_ialv C (hm.wrow ha2 (nm1 (by omega))) rfl (by decide) (by decide) (v := Q 33 (tn (Q 31 (tn (mS1 Q k))))) rfl dX2_pass_190 ?_
                refine u_isub C dX2_pass_191 ?_
                refine u_max C (i := 470) (by decide +kernel) ⟨by decide, Nat.le_of_ble_eq_true rfl, Nat.le_of_ble_eq_true rfl, Nat.le_of_ble_eq_true rfl⟩ dX2_pass_192 ?_
                refine u_iast C (r) rfl (by decide : 0 < 4) (by decide) dX2_pass_195 (fun D7 o7 r7 => ?_)
                have r := r7.u0
                have hm := hm.otm o7 (su_s hks) List.mem_cons_self
                have gt := gt.ot o7 (Ne.symm (hGq _ (su_s hks)))
                have fr := fr.ad o7 (su_s hks2) (by omega)
                generalize hw0 : tn (Q 31 (tn (mS1 Q k))) = w0 at *
                generalize he0 : tn (Q 34 (7 + w0)) = e0 at *
                have eQ : mStepL (mGot0 P) (k + 1) = wr (wr (wr (wr (wr (wr (wr Q 34 (67 + k) (mS1 Q k)) 34 (3 + e0) (Q 34 (3 + e0) + 1)) 36 e0 1) 34 (17 + w0) (Q 34 (17 + w0) + 1)) 34 (147 + k) (Q 34 (147 + k) + 1)) 34 (107 + k) (-(Q 34 (107 + k)))) 34 (27 + k) (if 0 < mLd Q k (mS1 Q k) - Q 33 w0 then mLd Q k (mS1 Q k) - Q 33 w0 else 0) := by rw [eN]; exact (if_pos hl).trans (ms_hit hs hL hne hk40 hw0 hw10 he0 he2)
                have hS : SM g D7 ad (mStepL (mGot0 P) (k + 1)) (fun e => P 34 (3 + e)) [] := by
                  rw [eQ]
                  exact hm.shout hks (by rw [wr_cell (by decide), wr_cell (by decide), wr_cell (by decide), wr_cell (by decide), wr_cell (by decide), wr_cell (by decide), wr_cell (by decide), wr_cell (by decide)]) (fun c j a b z => by
                    rw [wr_ne (by omega), wr_ne (by omega), wr_ne (by omega), wr_ap, wr_ap (M := Q)]
                    split
                    · rfl
                    · rw [wr_ne (by omega), wr_ne (by omega), wr_ne (by omega)]) r ⟨wr_eq.symm, by rw [wr_ne (by omega), wr_ne (by omega), wr_eq]; rfl, fun _ => ⟨by rw [wr_ne (by omega), wr_ne (by omega), wr_ne (by omega), wr_ne (by omega), wr_ne (by omega), wr_ne (by omega), wr_eq]; rfl, by rw [wr_ne (by omega), wr_eq]; rfl⟩⟩
                have hgg : GG P (mStepL (mGot0 P) (k + 1)) (upd gf e0 (gf e0 + 1)) (k + 1) := by
                  rw [eQ]
                  exact gg.hit (by omega) (fun e he => ⟨by
                    rw [wr_ne (by omega), wr_ne (by omega), wr_ne (by omega), wr_ne (by omega), wr_ne (by omega), wr_ap, wr_ne (by omega)]
                    by_cases c : e = e0
                    · subst c; rw [if_pos ⟨rfl, rfl⟩, if_pos rfl]
                    · rw [if_neg (fun z => c (by omega)), if_neg c], by
                    rw [wr_ne (by omega), wr_ne (by omega), wr_ne (by omega), wr_ne (by omega), wr_ap, wr_ne (by omega), wr_ne (by omega)]
                    by_cases c : e = e0
                    · subst c; rw [if_pos ⟨rfl, rfl⟩, if_pos rfl]
                    · rw [if_neg (fun z => c z.2), if_neg c]⟩)
                have hgt : IA g _ aG 2 (upd gf e0 (gf e0 + 1)) := gt
                have hfr := fr
                refine u_iinc C (v := nI (k + 1)) (lo' := [(4, _), (6, _), (5, _), (3, _), (2, _), (1, _), (0, _)]) dX2_pass_196 rfl (nI_inc _) (by decide) rfl ?_
                refine u_goto C (tgt := 23) dX2_pass_199 (by decide) ?_
                exact u_lsub [0, 3, 4, 5, 6] rfl (ih (k + 1) _ _ hlt (by omega) hS hgt hgg hfr)
              · have hne : Q 31 (tn (mS1 Q k)) = -1 := by
                  rcases pq.2.2.1.2 _ (tn31 hs) with e | ⟨w', h1', h2', -⟩
                  · exact e
                  · exact absurd (by rw [h2']; exact nI_pos' (by omega)) c123
                have hc : ¬ (0 < mLd Q k (mS1 Q k) ∧ Q 31 (tn (mS1 Q k)) ≠ -1) := fun z => z.2 hne
                have eQ : mStepL (mGot0 P) (k + 1) = wr (wr Q 34 (67 + k) (mS1 Q k)) 34 (27 + k) (mLd Q k (mS1 Q k)) := by rw [eN]; exact (if_pos hl).trans (ms_go hs hc)
                have hS : SM g D2 ad (mStepL (mGot0 P) (k + 1)) (fun e => P 34 (3 + e)) [] := by
                  rw [eQ]
                  exact hm.shout hks (by rw [wr_cell (by decide), wr_cell (by decide)]) (fun c j a b z => by rw [wr_ne (by omega), wr_ne (by omega)]) r ⟨wr_eq.symm, by rw [wr_ne (by omega), wr_ne (by omega)]; rfl, fun _ => ⟨by rw [wr_ne (by omega), wr_eq]; rfl, by rw [wr_ne (by omega), wr_ne (by omega)]; rfl⟩⟩
                have hgg : GG P (mStepL (mGot0 P) (k + 1)) (gf) (k + 1) := by
                  rw [eQ]
                  exact gg.same (fun e he => ⟨by rw [wr_ne (by omega), wr_ne (by omega)], by rw [wr_ne (Or.inl (by decide)), wr_ne (Or.inl (by decide))]⟩)
                have hgt : IA g _ aG 2 (gf) := gt
                have hfr := fr
                refine u_goto C (tgt := 196) dX2_pass_126 (by decide) ?_
                refine u_iinc C (v := nI (k + 1)) (lo' := [(4, _), (6, _), (5, _), (3, _), (2, _), (1, _), (0, _)]) dX2_pass_196 rfl (nI_inc _) (by decide) rfl ?_
                refine u_goto C (tgt := 23) dX2_pass_199 (by decide) ?_
                exact u_lsub [0, 3, 4, 5, 6] rfl (ih (k + 1) _ _ hlt (by omega) hS hgt hgg hfr)
          · have hout : ¬ (0 ≤ mS1 Q k ∧ mS1 Q k ≤ 31) := fun z => c69 z.2
            refine u_aload C dX2_pass_72 rfl ?_
            refine u_iconst C (v := 0) dX2_pass_74 (by decide) ?_
            refine u_iconst C (v := 0) dX2_pass_75 (by decide) ?_
            refine u_iast C (r) rfl (by decide : 0 < 4) (by decide) dX2_pass_76 (fun D2 o2 r2 => ?_)
            have r := r2.u0
            have hm := hm.otm o2 (su_s hks) List.mem_cons_self
            have gt := gt.ot o2 (Ne.symm (hGq _ (su_s hks)))
            have fr := fr.ad o2 (su_s hks2) (by omega)
            have eQ : mStepL (mGot0 P) (k + 1) = wr Q 34 (27 + k) 0 := by rw [eN]; exact (if_pos hl).trans (ms_out hout)
            have hS : SM g D2 ad (mStepL (mGot0 P) (k + 1)) (fun e => P 34 (3 + e)) [] := by
              rw [eQ]
              exact hm.shout hks (wr_cell (by decide)) (fun c j a b z => wr_ne (by omega)) r ⟨wr_eq.symm, by rw [wr_ne (by omega)]; rfl, fun z => absurd z (by rw [wr_eq]; decide)⟩
            have hgg : GG P (mStepL (mGot0 P) (k + 1)) (gf) (k + 1) := by
              rw [eQ]
              exact gg.same (fun e he => ⟨wr_ne (by omega), wr_ne (Or.inl (by decide))⟩)
            have hgt : IA g _ aG 2 (gf) := gt
            have hfr := fr
            refine u_goto C (tgt := 196) dX2_pass_77 (by decide) ?_
            refine u_iinc C (v := nI (k + 1)) (lo' := [(4, _), (5, _), (3, _), (2, _), (1, _), (0, _)]) dX2_pass_196 rfl (nI_inc _) (by decide) rfl ?_
            refine u_goto C (tgt := 23) dX2_pass_199 (by decide) ?_
            exact u_lsub [0, 2, 3, 4, 5] rfl (ih (k + 1) _ _ hlt (by omega) hS hgt hgg hfr)
      · have hnl : ¬ 0 < Q 34 (27 + k) := by rw [c39]; decide
        have eQ : mStepL (mGot0 P) (k + 1) = Q := by rw [eN]; exact if_neg hnl
        have hS : SM g D ad (mStepL (mGot0 P) (k + 1)) (fun e => P 34 (3 + e)) [] := by
          rw [eQ]
          exact h
        have hgg : GG P (mStepL (mGot0 P) (k + 1)) (gf) (k + 1) := by
          rw [eQ]
          exact gg.same (fun e he => ⟨rfl, rfl⟩)
        have hgt : IA g _ aG 2 (gf) := gt
        have hfr := fr
        refine u_goto C (tgt := 196) dX2_pass_42 (by decide) ?_
        refine u_iinc C (v := nI (k + 1)) (lo' := [(4, _), (5, _), (3, _), (2, _), (1, _), (0, _)]) dX2_pass_196 rfl (nI_inc _) (by decide) rfl ?_
        refine u_goto C (tgt := 23) dX2_pass_199 (by decide) ?_
        exact u_lsub [0, 2, 3, 4, 5] rfl (ih (k + 1) _ _ hlt (by omega) hS hgt hgg hfr)
