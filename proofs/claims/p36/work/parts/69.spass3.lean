/-! Sim's beat, whole: its contract. -/
theorem SM.fresh {g : GT} {D0 D' : DM} {ad : Nat → Nat} {Q : Mem} {c : Nat → Int32} {nW nS a : Nat} (h : SM g D' ad Q c []) (fr : Fr ad nW nS D0 D') (hs : ∀ i, su nW nS i → su (mWs Q) (mSh Q) i) (z : D' a = none) : D0 a = none := by
  cases e : D0 a with
  | none => rfl
  | some x =>
    exfalso
    by_cases c : ∃ i, su nW nS i ∧ i ≠ 1 ∧ a = ad i
    · obtain ⟨i, hi, -, rfl⟩ := c
      exact h.told (hs i hi) nm0 z
    · have := fr a x e (fun i hi h1 e2 => c ⟨i, hi, h1, e2⟩)
      rw [z] at this
      cases this
set_option maxHeartbeats 1000000 in
set_option maxRecDepth 100000 in
theorem qs_pass_s3 {X : XT} {l : Launch} {g : GT} {R : Option Value → Mem → DM → Prop} {M : Mem} {D0 : DM} {ad : Nat → Nat} {P Q : Mem} {gf : Nat → Int32} {aG ks : Nat} {D : DM} (hks : ks ≤ 42) (hp : PK P) (hq2 : PK Q) (eQ : mB2 P = Q) (e29 : Q 29 = P 29) (h : SM g D ad Q (fun e => P 34 (3 + e)) []) (hGq : ∀ i, su (mWs Q) (mSh Q) i → ad i ≠ aG) (gt : IA g D aG 2 gf) (fr : Fr ad (mWs P) (mSh P) D0 D) (gg : GG P (mB1 P) gf (mSh P)) (e36 : ∀ e, e < 2 → Q 36 e = mB1 P 36 e) (hR : ∀ D2, SP g D2 ad (mBeat P) → Fr ad (mWs P) (mSh P) D0 D2 → R (some (.int (mGt P))) M D2) (C : Cx X g l cX2_pass 7 RX2 (some .int) rmX2_pass) (hq : RU X g rmX2_pass R) : UX X g 2 ks 296 [(1, .ref aG), (0, .ref (ad 0))] [] M D := by
  have hsu : ∀ i, su (mWs Q) (mSh Q) i → su (mWs P) (mSh P) i := by
    rw [show mWs Q = mWs P by show tn (Q 29 1) = tn (P 29 1); rw [e29], show mSh Q = mSh P by show tn (Q 29 2) = tn (P 29 2); rw [e29]]
    exact fun _ z => z
  have f1 : ∀ i, su (mWs (mHush Q 0)) (mSh (mHush Q 0)) i → su (mWs Q) (mSh Q) i := by
    rw [show mWs (mHush Q 0) = mWs Q by show tn (mHush Q 0 29 1) = tn (Q 29 1); rw [mHush_fr Q 0 29 (by decide) (by decide)], show mSh (mHush Q 0) = mSh Q by show tn (mHush Q 0 29 2) = tn (Q 29 2); rw [mHush_fr Q 0 29 (by decide) (by decide)]]
    exact fun _ z => z
  have f2 : ∀ i, su (mWs (mHush (mHush Q 0) 1)) (mSh (mHush (mHush Q 0) 1)) i → su (mWs (mHush Q 0)) (mSh (mHush Q 0)) i := by
    rw [show mWs (mHush (mHush Q 0) 1) = mWs (mHush Q 0) by show tn (mHush (mHush Q 0) 1 29 1) = tn (mHush Q 0 29 1); rw [mHush_fr (mHush Q 0) 1 29 (by decide) (by decide)], show mSh (mHush (mHush Q 0) 1) = mSh (mHush Q 0) by show tn (mHush (mHush Q 0) 1 29 2) = tn (mHush Q 0 29 2); rw [mHush_fr (mHush Q 0) 1 29 (by decide) (by decide)]]
    exact fun _ z => z
  refine u_iconst C (v := 0) dX2_pass_296 (by decide) ?_
  refine u_istore_n C (lo' := [(3, _), (1, _), (0, _)]) dX2_pass_297 (by decide) rfl ?_
  exact u_lsub [0, 1, 2] rfl (qs_pass_e (e := 0) (by decide) hsu hGq h gt fr ⟨(gg 0 (by decide)).2.1.1, by rw [e36 0 (by decide)]; exact (gg 0 (by decide)).2.2⟩ (fun D1 c1 h1 k1 gt1 fr1 =>
      qs_pass_e (e := 1) (by decide) (fun i hi => hsu i (f1 i hi)) (fun i hi => hGq i (f1 i hi)) h1 gt1 fr1 ⟨(gg 1 (by decide)).2.1.1, by rw [mHush_36, e36 1 (by decide)]; exact (gg 1 (by decide)).2.2⟩ (fun D2 c2 h2 k2 gt2 fr2 =>
        qs_pass_z hks (fun i hi => hGq i (f1 i (f2 i hi))) h2 gt2 fr2 (fun D3 h3 fr3 => by
          have a0 := (gg 0 (by decide)).1
          have a1 := (gg 1 (by decide)).1
          have b0 := mBeat_coin hp (e := 0) (by decide)
          have b1 := mBeat_coin hp (e := 1) (by decide)
          have eg : gf 0 + gf 1 = mGt P := by
            unfold mGt
            rw [a0, a1, ← b0, ← b1]
          rw [eg]
          refine hR D3 ?_ fr3
          have eb : mBeat P = wr (mHush (mHush Q 0) 1) 34 0 (mHush (mHush Q 0) 1 34 0 + 1) := by
            rw [← eQ]
            rfl
          have h4 : SM g D3 ad (mBeat P) c2 [] := by
            rw [eb]
            exact h3
          refine h4.cong ⟨rfl, rfl⟩ (fun _ _ _ => rfl) (fun _ _ _ => rfl) (fun _ e he => ?_) (fun _ _ _ => rfl) (fun _ _ _ _ _ => rfl) (fun _ _ _ => ⟨rfl, rfl, rfl, rfl⟩)
          rw [k2 e he]
          rcases (show e = 0 ∨ e = 1 by omega) with rfl | rfl
          · rw [if_neg (by decide), k1 0 (by decide), if_pos rfl, a0, b0]
            grind
          · rw [if_pos rfl, k1 1 (by decide), if_neg (by decide), a1, b1]
            grind) C hq) C hq) C hq)
set_option maxHeartbeats 1000000 in
set_option maxRecDepth 100000 in
theorem qs_pass_s2 {X : XT} {l : Launch} {g : GT} {R : Option Value → Mem → DM → Prop} {M : Mem} {D0 : DM} {ad : Nat → Nat} {Q : Mem} {c : Nat → Int32} {gf : Nat → Int32} {aG : Nat} {nW nS : Nat} {D : DM} (pq : PK Q) (h : SM g D ad Q c []) (gt : IA g D aG 2 gf) (hG0 : D0 aG = none) (hle : Fr ad nW nS D0 D) (hD0 : ∀ a, D a = none → D0 a = none) (hsu : ∀ i, su (mWs Q) (mSh Q) i → su nW nS i) (hGq : ∀ i, su (mWs Q) (mSh Q) i → ad i ≠ aG) (next : ∀ (D : DM), SM g D ad (mMeetL Q (mSh Q)) c [] → IA g D aG 2 gf → Fr ad nW nS D0 D → UX X g 2 (2 + mSh Q) 296 [(1, .ref aG), (0, .ref (ad 0))] [] M D) (C : Cx X g l cX2_pass 7 RX2 (some .int) rmX2_pass) (hq : RU X g rmX2_pass R) : UX X g 1 2 202 [(1, .ref aG), (0, .ref (ad 0))] [] M D := by
  have hn := h.n
  have h0 := h
  have gt0 := gt
  refine u_aload_n C dX2_pass_202 rfl ?_
  refine u_getF C fl_X2_18 (h.ob nm0) rfl dX2_pass_203 ?_
  refine u_ralen C (h.shouts nm0) dX2_pass_206 ?_
  refine u_newZ C (N := mSh Q) (rfl) (by omega) ⟨by decide, by show 2 + mSh Q ≤ 42; omega⟩ dX2_pass_207 (fun qgoes D1 z1 o1 r1 => ?_)
  have hZ : ∀ i, su (mWs Q) (mSh Q) i → ad i ≠ qgoes := fun i hi e => h0.told hi nm0 (by rw [e]; exact z1)
  have hGZ : aG ≠ qgoes := fun e => gt0.some (by rw [e]; exact z1)
  have h := h.le (Le.ot o1 z1)
  have gt := gt.le (Le.ot o1 z1)
  have fr := hle.fresh o1 (hD0 _ z1)
  refine u_astore_n C (lo' := [(2, _), (1, _), (0, _)]) dX2_pass_209 (by decide) rfl ?_
  refine u_iconst C (v := 0) dX2_pass_210 (by decide) ?_
  refine u_istore_n C (lo' := [(3, _), (2, _), (1, _), (0, _)]) dX2_pass_211 (by decide) rfl ?_
  refine u_lsub [0, 1, 2, 3] rfl (qs_pass_l2 (ks := 2 + mSh Q) pq (by omega) hZ hGZ (hD0 _ z1) (fun D2 gz h2 gt2 za2 hgz fr2 => ?_) C hq 33 0 _ _ (by decide) (by decide) h gt r1 (fun k hk => ⟨fun z => absurd rfl z, fun ⟨s, z, _⟩ => absurd z (Nat.not_lt_zero _)⟩) fr)
  refine u_iconst C (v := 0) dX2_pass_240 (by decide) ?_
  refine u_istore_n C (lo' := [(3, _), (2, _), (1, _), (0, _)]) dX2_pass_241 (by decide) rfl ?_
  exact qs_pass_l3 (ks := 2 + mSh Q) pq hgz hsu (fun i hi => ⟨hGq i hi, hZ i hi⟩) next C hq (mSh Q + 1) 0 _ (Nat.zero_le _) (by omega) h2 gt2 za2 fr2
set_option maxHeartbeats 1000000 in
set_option maxRecDepth 100000 in
theorem qs_pass (l : Launch) (g : GT) (M : Mem) (D : DM) {ad : Nat → Nat} {P : Mem} (hp : PK P) (h : SP g D ad P) : CU l yX2_pass cX2_pass 7 (some .int) rmX2_pass g M D [.ref (ad 0)] (fun r M1 D1 => r = some (.int (mGt P)) ∧ M1 = M ∧ SP g D1 ad (mBeat P) ∧ Fr ad (mWs P) (mSh P) D D1) := by
  refine CU.of (by decide) (Nat.le_of_ble_eq_true rfl) (fun X C hq => ?_)
  have C : Cx X g l cX2_pass 7 RX2 (some .int) rmX2_pass := C
  show UX X g 0 0 0 [(0, .ref (ad 0))] [] M D
  have hn := h.n
  have h0 := h
  refine u_iconst C (v := 2) dX2_pass_0 (by decide) ?_
  refine u_newI C (N := 2) (rfl) (by decide) ⟨by decide, by decide⟩ dX2_pass_1 (fun qgot D1 z1 o1 r1 => ?_)
  have hG : ∀ i, su (mWs P) (mSh P) i → ad i ≠ qgot := fun i hi e => h0.told hi nm0 (by rw [e]; exact z1)
  have hz := z1
  have fr := Fr.le (ad := ad) (nW := mWs P) (nS := mSh P) (Le.ot o1 z1)
  have h := h.le (Le.ot o1 z1)
  have gt := r1
  refine u_dup C dX2_pass_3 rfl ?_
  refine u_iconst C (v := 0) dX2_pass_4 (by decide) ?_
  refine u_iconst C (v := 0) dX2_pass_5 (by decide) ?_
  refine u_iast C (gt) rfl (by decide : 0 < 2) (by decide) dX2_pass_6 (fun D2 o2 r2 => ?_)
  have h := h.ot o2 (fun i hi _ => hG i hi)
  have gt := r2
  have fr := fr.fresh o2 hz
  refine u_dup C dX2_pass_7 rfl ?_
  refine u_iconst C (v := 1) dX2_pass_8 (by decide) ?_
  refine u_iconst C (v := 0) dX2_pass_9 (by decide) ?_
  refine u_iast C (gt) rfl (by decide : 1 < 2) (by decide) dX2_pass_10 (fun D3 o3 r3 => ?_)
  have h := h.ot o3 (fun i hi _ => hG i hi)
  have gt := r3
  have fr := fr.fresh o3 hz
  have gt : IA g D3 qgot 2 (fun _ => 0) := gt.ext (fun j _ => by unfold upd; split <;> first | rfl | (split <;> rfl))
  refine u_astore_n C (lo' := [(1, _), (0, _)]) dX2_pass_11 (by decide) rfl ?_
  refine u_aload_n C dX2_pass_12 rfl ?_
  refine u_getF C fl_X2_18 (h.ob nm0) rfl dX2_pass_13 ?_
  refine u_astore_n C (lo' := [(2, _), (1, _), (0, _)]) dX2_pass_16 (by decide) rfl ?_
  refine u_aload_n C dX2_pass_17 rfl ?_
  refine u_ralen C (h.shouts nm0) dX2_pass_18 ?_
  refine u_istore_n C (lo' := [(3, _), (2, _), (1, _), (0, _)]) dX2_pass_19 (by decide) rfl ?_
  refine u_iconst C (v := 0) dX2_pass_20 (by decide) ?_
  refine u_istore C (lo' := [(4, _), (3, _), (2, _), (1, _), (0, _)]) dX2_pass_21 (by decide) rfl ?_
  refine u_lsub [0, 1, 2, 3, 4] rfl (qs_pass_l1 hp hG hz (fun D4 gf h4 gt4 gg4 fr4 => ?_) C hq (mSh P + 1) 0 _ _ (Nat.zero_le _) (by omega) (h.swap rfl (fun k j a b c d => by
    show wr (wr P 36 0 0) 36 1 0 k j = P k j
    rw [wr_ne (by omega), wr_ne (by omega)])) gt (fun e he => ⟨by
      show (0 : Int32) = P 34 (3 + e) - P 34 (3 + e)
      rw [Int32.sub_self], ⟨by decide, by decide⟩, ⟨fun _ => rfl, fun _ => by
      show wr (wr P 36 0 0) 36 1 0 36 e = 0
      rcases (show e = 0 ∨ e = 1 by omega) with rfl | rfl <;> rfl⟩⟩) fr)
  have e29 : mB1 P 29 = P 29 := (mStepL_fr (mGot0 P) _ 29 (by decide) (by decide)).trans rfl
  have w1 : mWs (mB1 P) = mWs P := by show tn (mB1 P 29 1) = tn (P 29 1); rw [e29]
  have w2 : mSh (mB1 P) = mSh P := by show tn (mB1 P 29 2) = tn (P 29 2); rw [e29]
  have hsu : ∀ i, su (mWs (mB1 P)) (mSh (mB1 P)) i → su (mWs P) (mSh P) i := by rw [w1, w2]; exact fun _ z => z
  have pq : PK (mB1 P) := hp.got0.stepL _ hp.1.sh
  have eM : mMeetL (mB1 P) (mSh (mB1 P)) = mB2 P := by rw [w2]; rfl
  have f29 : mB2 P 29 = P 29 := (mMeetL_fr (mB1 P) _ 29 (by decide) (by decide)).trans e29
  have f36 : mB2 P 36 = mB1 P 36 := (mm_all pq.1 (mSh P) (by rw [w2]; exact Nat.le_refl _)).2.1 36 (by decide)
  have hks : 2 + mSh (mB1 P) ≤ 42 := by have := hp.1.sh; omega
  refine qs_pass_s2 (nW := mWs P) (nS := mSh P) (D0 := D) pq h4 gt4 hz fr4 (fun a z => h4.fresh fr4 (by rw [w1, w2]; exact fun _ z => z) z) hsu (fun i hi => hG i (hsu i hi)) (fun D5 h5 gt5 fr5 => ?_) C hq
  · rw [eM] at h5
    exact qs_pass_s3 (Q := mB2 P) hks hp (pq.meetL _ hp.1.sh) rfl f29 h5 (fun i hi => hG i (by
      rw [show mWs (mB2 P) = mWs P by show tn (mB2 P 29 1) = tn (P 29 1); rw [f29], show mSh (mB2 P) = mSh P by show tn (mB2 P 29 2) = tn (P 29 2); rw [f29]] at hi
      exact hi)) gt5 fr5 gg4 (fun e _ => by rw [f36]) (fun D6 h6 fr6 => ⟨rfl, rfl, h6, fr6⟩) C hq
