/-! Sim's beat: they meet, silence, the end. -/
set_option maxHeartbeats 1000000 in
set_option maxRecDepth 100000 in
theorem qs_pass_l2 {X : XT} {l : Launch} {g : GT} {R : Option Value → Mem → DM → Prop} {M : Mem} {D0 : DM} {ad : Nat → Nat} {Q : Mem} {c : Nat → Int32} {gf : Nat → Int32} {aG : Nat} {ks : Nat} {nW nS : Nat} {aZ : Nat} (pq : PK Q) (hks : ks ≤ 42) (hZ : ∀ i, su (mWs Q) (mSh Q) i → ad i ≠ aZ) (hGZ : aG ≠ aZ) (hz : D0 aZ = none) (next : ∀ (D : DM) (gz : Nat → Int32), SM g D ad Q c [] → IA g D aG 2 gf → ZA g D aZ (mSh Q) gz → GZ Q gz 32 → Fr ad nW nS D0 D → UX X g 2 ks 240 [(2, .ref aZ), (1, .ref aG), (0, .ref (ad 0))] [] M D) (C : Cx X g l cX2_pass 7 RX2 (some .int) rmX2_pass) (hq : RU X g rmX2_pass R) : ∀ (n s : Nat) (D : DM) (gz : Nat → Int32), s ≤ 32 → 33 ≤ s + n → SM g D ad Q c [] → IA g D aG 2 gf → ZA g D aZ (mSh Q) gz → GZ Q gz s → Fr ad nW nS D0 D → UX X g 2 ks 212 [(3, .int (nI s)), (2, .ref aZ), (1, .ref aG), (0, .ref (ad 0))] [] M D := by
  intro n
  induction n with
  | zero =>
    intro s D gz h1 h2; omega
  | succ n ih =>
    intro s D gz h1 h2 h gt za hgz fr
    have hn := h.n
    refine u_iload_n C dX2_pass_212 rfl ?_
    refine u_bipush C (v := 32) dX2_pass_213 (by decide) ?_
    refine u_icmp_ge C (tgt := 240) dX2_pass_215 (by decide) (fun c215 => ?_) (fun c215 => ?_)
    · have he : s = 32 := Nat.le_antisymm h1 ((nI_leI (a := 32) (b := s) (by omega) (by omega)).mp c215)
      subst he
      exact u_lsub [1, 2, 3] rfl (next D gz h gt za hgz fr)
    · have hlt : s < 32 := Nat.lt_of_not_le (fun z => c215 ((nI_leI (a := 32) (b := s) (by omega) (by omega)).mpr z))
      refine u_aload_n C dX2_pass_218 rfl ?_
      refine u_iload_n C dX2_pass_219 rfl ?_
      refine u_callV0 C (qs_loudestOn l g M _ h ⟨nm0, nm0, fun _ _ => nm0⟩ (nI s)) cd_X2_loudestOn kl_X2_52 ci2 (h.ob nm0) (as := [_]) rfl rfl ⟨⟨by decide, by decide⟩, Nat.le_refl 2, hks⟩ ⟨rfl, rfl⟩ (Nat.le_of_ble_eq_true rfl) dX2_pass_220 ?_
      refine u_if_lt C (tgt := 234) dX2_pass_223 (by decide) (fun c223 => ?_) (fun c223 => ?_)
      · have hgz2 := hgz.no c223 hn.2
        refine u_iinc C (v := nI (s + 1)) (lo' := [(3, _), (2, _), (1, _), (0, _)]) dX2_pass_234 rfl (nI_inc _) (by decide) rfl ?_
        refine u_goto C (tgt := 212) dX2_pass_237 (by decide) ?_
        exact u_lsub [0, 1, 2, 3] rfl (ih (s + 1) _ _ hlt (by omega) h gt za hgz2 fr)
      · have hw := mLoudest_in pq.1 _ c223
        have hgz2 := hgz.yes hw.1 hn.2
        refine u_aload_n C dX2_pass_226 rfl ?_
        refine u_aload_n C dX2_pass_227 rfl ?_
        refine u_iload_n C dX2_pass_228 rfl ?_
        refine u_callV0 C (qs_loudestOn l g M _ h ⟨nm0, nm0, fun _ _ => nm0⟩ (nI s)) cd_X2_loudestOn kl_X2_52 ci2 (h.ob nm0) (as := [_]) rfl rfl ⟨⟨by decide, by decide⟩, Nat.le_refl 2, hks⟩ ⟨rfl, rfl⟩ (Nat.le_of_ble_eq_true rfl) dX2_pass_229 ?_
        refine u_iconst C (v := 1) dX2_pass_232 (by decide) ?_
        refine u_zast C (za) (nI_tn hw.1) hw.2 (by omega)  (v' := 1) (by decide) dX2_pass_233 (fun D1 o1 r1 => ?_)
        have h := h.ot o1 (fun i hi _ => hZ i hi)
        have gt := gt.ot o1 hGZ
        have za := r1
        have fr := fr.fresh o1 hz
        refine u_iinc C (v := nI (s + 1)) (lo' := [(3, _), (2, _), (1, _), (0, _)]) dX2_pass_234 rfl (nI_inc _) (by decide) rfl ?_
        refine u_goto C (tgt := 212) dX2_pass_237 (by decide) ?_
        exact u_lsub [0, 1, 2, 3] rfl (ih (s + 1) _ _ hlt (by omega) h gt za hgz2 fr)
set_option maxHeartbeats 1000000 in
set_option maxRecDepth 100000 in
theorem qs_pass_l3 {X : XT} {l : Launch} {g : GT} {R : Option Value → Mem → DM → Prop} {M : Mem} {D0 : DM} {ad : Nat → Nat} {Q : Mem} {c : Nat → Int32} {gf : Nat → Int32} {aG : Nat} {ks : Nat} {nW nS : Nat} {aZ : Nat} {gz : Nat → Int32} (pq : PK Q) (hgz : GZ Q gz 32) (hsu : ∀ i, su (mWs Q) (mSh Q) i → su nW nS i) (hGZ2 : ∀ i, su (mWs Q) (mSh Q) i → ad i ≠ aG ∧ ad i ≠ aZ) (next : ∀ (D : DM), SM g D ad (mMeetL Q (mSh Q)) c [] → IA g D aG 2 gf → Fr ad nW nS D0 D → UX X g 2 ks 296 [(1, .ref aG), (0, .ref (ad 0))] [] M D) (C : Cx X g l cX2_pass 7 RX2 (some .int) rmX2_pass) (hq : RU X g rmX2_pass R) : ∀ (n k : Nat) (D : DM), k ≤ mSh Q → mSh Q + 1 ≤ k + n → SM g D ad (mMeetL Q k) c [] → IA g D aG 2 gf → ZA g D aZ (mSh Q) gz → Fr ad nW nS D0 D → UX X g 2 ks 242 [(3, .int (nI k)), (2, .ref aZ), (1, .ref aG), (0, .ref (ad 0))] [] M D := by
  intro n
  induction n with
  | zero =>
    intro k D h1 h2; omega
  | succ n ih =>
    intro k D h1 h2 h gt za fr
    have hsh := pq.1.sh
    have e29 : mMeetL Q k 29 = Q 29 := mMeetL_fr Q k 29 (by decide) (by decide)
    have eN := fun (hk : k < mSh Q) => mMeet_is pq hgz hk
    have eB : k = mSh Q → mMeetL Q k = mMeetL Q (mSh Q) := fun z => by rw [z]
    generalize mMeetL Q k = S at h e29 eN eB
    have hSs : mSh S = mSh Q := by show tn (S 29 2) = tn (Q 29 2); rw [e29]
    have hn := h.n
    have eW : mWs S = mWs Q := by show tn (S 29 1) = tn (Q 29 1); rw [e29]
    have hGs : ∀ i, su (mWs S) (mSh S) i → ad i ≠ aG ∧ ad i ≠ aZ := by rw [hSs, eW]; exact hGZ2
    refine u_iload_n C dX2_pass_242 rfl ?_
    refine u_aload_n C dX2_pass_243 rfl ?_
    refine u_getF C fl_X2_18 (h.ob nm0) rfl dX2_pass_244 ?_
    refine u_ralen C (h.shouts nm0) dX2_pass_247 ?_
    refine u_icmp_ge C (tgt := 296) dX2_pass_248 (by decide) (fun c248 => ?_) (fun c248 => ?_)
    · have he : k = mSh Q := by
        have z := (nI_leI (a := mSh S) (b := k) (by omega) (by omega)).mp c248
        omega
      exact u_lsub [2, 3] rfl (next D (by rw [← eB he]; exact h) gt fr)
    · have hlt : k < mSh Q := by
        have z : ¬ mSh S ≤ k := fun z => c248 ((nI_leI (a := mSh S) (b := k) (by omega) (by omega)).mpr z)
        omega
      have eN := eN hlt
      refine u_aload_n C dX2_pass_251 rfl ?_
      refine u_iload_n C dX2_pass_252 rfl ?_
      refine u_zald C (za) rfl (by omega : k < mSh Q) (by omega) dX2_pass_253 ?_
      refine u_if_ne C (tgt := 290) dX2_pass_254 (by decide) (fun c254 => ?_) (fun c254 => ?_)
      · have hS : SM g D ad (mMeetL Q (k + 1)) c [] := by rw [eN, if_pos (Or.inl c254)]; exact h
        refine u_iinc C (v := nI (k + 1)) (lo' := [(3, _), (2, _), (1, _), (0, _)]) dX2_pass_290 rfl (nI_inc _) (by decide) rfl ?_
        refine u_goto C (tgt := 242) dX2_pass_293 (by decide) ?_
        exact u_lsub [0, 1, 2, 3] rfl (ih (k + 1) _ hlt (by omega) hS gt za fr)
      · have hks2 : k < mSh S := by omega
        obtain ⟨f, r, s0, s3, s1⟩ := h.srow hks2 nm0
        have r := r.qq
        rw [s0] at r
        refine u_aload_n C dX2_pass_257 rfl ?_
        refine u_getF C fl_X2_18 (h.ob nm0) rfl dX2_pass_258 ?_
        refine u_iload_n C dX2_pass_261 rfl ?_
        refine u_aald C (h.shouts nm0) rfl (by omega : k < mSh S) (by omega) rfl dX2_pass_262 ?_
        refine u_iconst C (v := 0) dX2_pass_263 (by decide) ?_
        refine u_ialv C (r) rfl (by decide) (by decide) (v := S 34 (27 + k)) rfl dX2_pass_264 ?_
        refine u_if_ne C (tgt := 271) dX2_pass_265 (by decide) (fun c265 => ?_) (fun c265 => ?_)
        · refine u_aload_n C dX2_pass_271 rfl ?_
          refine u_getF C fl_X2_18 (h.ob nm0) rfl dX2_pass_272 ?_
          refine u_iload_n C dX2_pass_275 rfl ?_
          refine u_aald C (h.shouts nm0) rfl (by omega : k < mSh S) (by omega) rfl dX2_pass_276 ?_
          refine u_iconst C (v := 0) dX2_pass_277 (by decide) ?_
          refine u_iconst C (v := 0) dX2_pass_278 (by decide) ?_
          refine u_iast C (r) rfl (by decide : 0 < 4) (by decide) dX2_pass_279 (fun D1 o1 r1 => ?_)
          have hm := (h.mask (mk' := [20 + k]) (fun i hi => absurd hi List.not_mem_nil)).otm o1 (su_s hks2) List.mem_cons_self
          have r := r1.u0
          have h : SM g D1 ad (wr S 34 (27 + k) 0) c [] := hm.shout hks2 (wr_cell (by decide)) (fun c j a b z => wr_ne (by omega)) r ⟨wr_eq.symm, by rw [wr_ne (by omega)]; exact s3, fun z => absurd z (by rw [wr_eq]; decide)⟩
          have gt := gt.ot o1 (Ne.symm (hGs _ (su_s hks2)).1)
          have za := za.ot o1 (Ne.symm (hGs _ (su_s hks2)).2)
          have fr := fr.ad o1 (hsu _ (su_s hlt)) (by omega)
          refine u_aload_n C dX2_pass_280 rfl ?_
          refine u_dup C dX2_pass_281 rfl ?_
          refine u_getF C (fl_X2_36.fl) (h.ob nm0) rfl dX2_pass_282 ?_
          refine u_iconst C (v := 1) dX2_pass_285 (by decide) ?_
          refine u_iadd C dX2_pass_286 ?_
          refine u_putI C fl_X2_36 (h.ob nm0) (Nat.le_of_ble_eq_true rfl) dX2_pass_287 (fun D2 o2 r2 => ?_)
          have gt := gt.ot o2 (Ne.symm (hGs _ (su_c (by omega))).1)
          have za := za.ot o2 (Ne.symm (hGs _ (su_c (by omega))).2)
          have fr := fr.ad o2 (su_c (by omega)) (by omega)
          have hS : SM g D2 ad (mMeetL Q (k + 1)) c [] := by
            rw [eN, if_neg (fun z => Or.elim z (fun y => y c254) c265)]
            have h2 := h.o (j := 1) (by omega) o2 r2
            have e9 : wr S 34 (27 + k) 0 34 1 = S 34 1 := wr_ne (by omega)
            rw [e9] at h2
            exact h2
          refine u_iinc C (v := nI (k + 1)) (lo' := [(3, _), (2, _), (1, _), (0, _)]) dX2_pass_290 rfl (nI_inc _) (by decide) rfl ?_
          refine u_goto C (tgt := 242) dX2_pass_293 (by decide) ?_
          exact u_lsub [0, 1, 2, 3] rfl (ih (k + 1) _ hlt (by omega) hS gt za fr)
        · have hS : SM g D ad (mMeetL Q (k + 1)) c [] := by rw [eN, if_pos (Or.inr c265)]; exact h
          refine u_goto C (tgt := 290) dX2_pass_268 (by decide) ?_
          refine u_iinc C (v := nI (k + 1)) (lo' := [(3, _), (2, _), (1, _), (0, _)]) dX2_pass_290 rfl (nI_inc _) (by decide) rfl ?_
          refine u_goto C (tgt := 242) dX2_pass_293 (by decide) ?_
          exact u_lsub [0, 1, 2, 3] rfl (ih (k + 1) _ hlt (by omega) hS gt za fr)
theorem mFO_s (P : Mem) (e : Int32) {N w : Nat} (h : w < N) : mFO P e (N - w) w = if P 34 (7 + w) = e then nI w else mFO P e (N - (w + 1)) (w + 1) := by
  rw [show N - w = N - (w + 1) + 1 by omega]
  rfl
set_option maxHeartbeats 1000000 in
set_option maxRecDepth 100000 in
theorem qs_pass_l4 {X : XT} {l : Launch} {g : GT} {R : Option Value → Mem → DM → Prop} {M : Mem} {D : DM} {ad : Nat → Nat} {S : Mem} {c : Nat → Int32} {aG ks e : Nat} (h : SM g D ad S c []) (next : ∀ w, (w = mWs S ∧ mFirst S (nI e) = -1) ∨ (w < mWs S ∧ mFirst S (nI e) = nI w) → UX X g 2 ks 392 [(4, .int (nI w)), (3, .int (nI e)), (1, .ref aG), (0, .ref (ad 0))] [] M D) (C : Cx X g l cX2_pass 7 RX2 (some .int) rmX2_pass) (hq : RU X g rmX2_pass R) : ∀ (n w : Nat), w ≤ mWs S → mWs S + 1 ≤ w + n → mFO S (nI e) (mWs S - w) w = mFirst S (nI e) → UX X g 2 ks 363 [(4, .int (nI w)), (3, .int (nI e)), (1, .ref aG), (0, .ref (ad 0))] [] M D := by
  intro n
  induction n with
  | zero =>
    intro w h1 h2; omega
  | succ n ih =>
    intro w h1 h2 h3
    have hn := h.n
    refine u_iload C dX2_pass_363 rfl ?_
    refine u_aload_n C dX2_pass_365 rfl ?_
    refine u_getF C fl_X2_14 (h.ob nm0) rfl dX2_pass_366 ?_
    refine u_ralen C (h.walls nm0) dX2_pass_369 ?_
    refine u_icmp_ge C (tgt := 392) dX2_pass_370 (by decide) (fun c370 => ?_) (fun c370 => ?_)
    · have he : w = mWs S := Nat.le_antisymm h1 ((nI_leI (a := mWs S) (b := w) (by omega) (by omega)).mp c370)
      rw [he, Nat.sub_self] at h3
      have hw : (w = mWs S ∧ mFirst S (nI e) = -1) ∨ (w < mWs S ∧ mFirst S (nI e) = nI w) := Or.inl ⟨he, h3.symm⟩
      exact u_lsub [0, 1, 2, 3] rfl (next w hw)
    · have hlt : w < mWs S := Nat.lt_of_not_le (fun z => c370 ((nI_leI (a := mWs S) (b := w) (by omega) (by omega)).mpr z))
      rw [mFO_s S _ hlt] at h3
      refine u_aload_n C dX2_pass_373 rfl ?_
      refine u_getF C fl_X2_14 (h.ob nm0) rfl dX2_pass_374 ?_
      refine u_iload C dX2_pass_377 rfl ?_
      refine u_aald C (h.walls nm0) rfl (by omega : w < mWs S) (by omega) rfl dX2_pass_379 ?_
      refine u_iconst C (v := 1) dX2_pass_380 (by decide) ?_
      refine u_ialv C (h.wrow hlt nm0) rfl (by decide) (by decide) (v := S 34 (7 + w)) rfl dX2_pass_381 ?_
      refine u_iload_n C dX2_pass_382 rfl ?_
      refine u_icmp_eq C (tgt := 392) dX2_pass_383 (by decide) (fun c383 => ?_) (fun c383 => ?_)
      · rw [if_pos c383] at h3
        have hw : (w = mWs S ∧ mFirst S (nI e) = -1) ∨ (w < mWs S ∧ mFirst S (nI e) = nI w) := Or.inr ⟨hlt, h3.symm⟩
        exact u_lsub [0, 1, 2, 3] rfl (next w hw)
      · rw [if_neg c383] at h3
        refine u_iinc C (v := nI (w + 1)) (lo' := [(4, _), (3, _), (1, _), (0, _)]) dX2_pass_386 rfl (nI_inc _) (by decide) rfl ?_
        refine u_goto C (tgt := 363) dX2_pass_389 (by decide) ?_
        exact u_lsub [0, 1, 2, 3] rfl (ih (w + 1) hlt (by omega) h3)
set_option maxHeartbeats 1000000 in
set_option maxRecDepth 100000 in
theorem qs_pass_f {X : XT} {l : Launch} {g : GT} {R : Option Value → Mem → DM → Prop} {M : Mem} {D0 : DM} {ad : Nat → Nat} {Q : Mem} {c : Nat → Int32} {gf : Nat → Int32} {aG : Nat} {ks : Nat} {nW nS : Nat} {D : DM} {e w : Nat} (c2 : Nat → Int32) (he : e < 2) (hsu : ∀ i, su (mWs Q) (mSh Q) i → su nW nS i) (hGq : ∀ i, su (mWs Q) (mSh Q) i → ad i ≠ aG) (h : SM g D ad (wr (mSil Q e) 34 (5 + e) 0) c2 []) (hc : ∀ i, i < 2 → c2 i = if i = e then c i + gf i else c i) (gt : IA g D aG 2 gf) (fr : Fr ad nW nS D0 D) (h12 : 12 ≤ mSil Q e 34 (5 + e)) (hw : (w = mWs (wr (mSil Q e) 34 (5 + e) 0) ∧ mFirst (wr (mSil Q e) 34 (5 + e) 0) (nI e) = -1) ∨ (w < mWs (wr (mSil Q e) 34 (5 + e) 0) ∧ mFirst (wr (mSil Q e) 34 (5 + e) 0) (nI e) = nI w)) (next : ∀ (D : DM) (c2 : Nat → Int32), SM g D ad (mHush Q e) c2 [] → (∀ i, i < 2 → c2 i = if i = e then c i + gf i else c i) → IA g D aG 2 gf → Fr ad nW nS D0 D → UX X g 2 ks 298 [(3, .int (nI (e + 1))), (1, .ref aG), (0, .ref (ad 0))] [] M D) (C : Cx X g l cX2_pass 7 RX2 (some .int) rmX2_pass) (hq : RU X g rmX2_pass R) : UX X g 2 ks 392 [(4, .int (nI w)), (3, .int (nI e)), (1, .ref aG), (0, .ref (ad 0))] [] M D := by
  have eH : mHush Q e = if mFirst (wr (mSil Q e) 34 (5 + e) 0) (nI e) ≠ -1 then mLose (wr (mSil Q e) 34 (5 + e) 0) e (tn (mFirst (wr (mSil Q e) 34 (5 + e) 0) (nI e))) else (wr (mSil Q e) 34 (5 + e) 0) := by
    unfold mHush
    rw [if_pos h12]
  have e29 : mWs (wr (mSil Q e) 34 (5 + e) 0) = mWs Q ∧ mSh (wr (mSil Q e) 34 (5 + e) 0) = mSh Q := ⟨rfl, rfl⟩
  generalize (wr (mSil Q e) 34 (5 + e) 0) = S at h hw eH e29
  have hn := h.n
  have hwn : w < 1000 := by rcases hw with z | z <;> omega
  refine u_iload C dX2_pass_392 rfl ?_
  refine u_aload_n C dX2_pass_394 rfl ?_
  refine u_getF C fl_X2_14 (h.ob nm0) rfl dX2_pass_395 ?_
  refine u_ralen C (h.walls nm0) dX2_pass_398 ?_
  refine u_icmp_ne C (tgt := 405) dX2_pass_399 (by decide) (fun c399 => ?_) (fun c399 => ?_)
  · have hw := hw.resolve_left (fun z => c399 (by rw [z.1]))
    have hlt := hw.1
    have hwq : w < mWs Q := by omega
    refine u_aload_n C dX2_pass_405 rfl ?_
    refine u_getF C fl_X2_14 (h.ob nm0) rfl dX2_pass_406 ?_
    refine u_iload C dX2_pass_409 rfl ?_
    refine u_aald C (h.walls nm0) rfl (by omega : w < mWs S) (by omega) rfl dX2_pass_411 ?_
    refine u_iconst C (v := 1) dX2_pass_412 (by decide) ?_
    refine u_iconst C (v := 1) dX2_pass_413 (by decide) ?_
    refine u_iload_n C dX2_pass_414 rfl ?_
    refine u_isub C dX2_pass_415 ?_
    refine u_iast C (h.wrow hlt nm0) rfl (by decide : 1 < 4) (by decide) dX2_pass_416 (fun D1 o1 r1 => ?_)
    have h := h.w1 hlt (fun i hi => absurd hi List.not_mem_nil) o1 r1
    have gt := gt.ot o1 (Ne.symm (hGq _ (su_w hwq)))
    have fr := fr.ad o1 (hsu _ (su_w hwq)) (by omega)
    refine u_aload_n C dX2_pass_417 rfl ?_
    refine u_dup C dX2_pass_418 rfl ?_
    refine u_getF C (fl_X2_39.fl) (h.ob nm0) rfl dX2_pass_419 ?_
    refine u_iconst C (v := 1) dX2_pass_422 (by decide) ?_
    refine u_iadd C dX2_pass_423 ?_
    refine u_putI C fl_X2_39 (h.ob nm0) (Nat.le_of_ble_eq_true rfl) dX2_pass_424 (fun D2 o2 r2 => ?_)
    have gt := gt.ot o2 (Ne.symm (hGq _ (su_c (by omega))))
    have fr := fr.ad o2 (su_c (by omega)) (by omega)
    have hS : SM g D2 ad (mHush Q e) c2 [] := by
      rw [eH, if_pos (by rw [hw.2]; exact nI_m1 (by omega)), hw.2, tn_nI (by omega)]
      exact h.o (j := 2) (by omega) o2 r2
    refine u_iinc C (v := nI (e + 1)) (lo' := [(3, _), (4, _), (1, _), (0, _)]) dX2_pass_427 rfl (nI_inc _) (by decide) rfl ?_
    refine u_goto C (tgt := 298) dX2_pass_430 (by decide) ?_
    exact u_lsub [0, 2, 3] rfl (next _ _ hS hc gt fr)
  · have hw9 := hw.resolve_right (fun z => by
      have := nI_inj' (i := w) (j := mWs S) hwn (by omega) c399
      omega)
    have hS : SM g D ad (mHush Q e) c2 [] := by rw [eH, if_neg (fun z => z hw9.2)]; exact h
    refine u_goto C (tgt := 427) dX2_pass_402 (by decide) ?_
    refine u_iinc C (v := nI (e + 1)) (lo' := [(3, _), (4, _), (1, _), (0, _)]) dX2_pass_427 rfl (nI_inc _) (by decide) rfl ?_
    refine u_goto C (tgt := 298) dX2_pass_430 (by decide) ?_
    exact u_lsub [0, 2, 3] rfl (next _ _ hS hc gt fr)
set_option maxHeartbeats 1000000 in
set_option maxRecDepth 100000 in
theorem qs_pass_e {X : XT} {l : Launch} {g : GT} {R : Option Value → Mem → DM → Prop} {M : Mem} {D0 : DM} {ad : Nat → Nat} {Q : Mem} {c : Nat → Int32} {gf : Nat → Int32} {aG : Nat} {ks : Nat} {nW nS : Nat} {D : DM} {e : Nat} (he : e < 2) (hsu : ∀ i, su (mWs Q) (mSh Q) i → su nW nS i) (hGq : ∀ i, su (mWs Q) (mSh Q) i → ad i ≠ aG) (h : SM g D ad Q c []) (gt : IA g D aG 2 gf) (fr : Fr ad nW nS D0 D) (hg0 : 0 ≤ (gf e).toInt ∧ (Q 36 e = 0 ↔ gf e = 0)) (next : ∀ (D : DM) (c2 : Nat → Int32), SM g D ad (mHush Q e) c2 [] → (∀ i, i < 2 → c2 i = if i = e then c i + gf i else c i) → IA g D aG 2 gf → Fr ad nW nS D0 D → UX X g 2 ks 298 [(3, .int (nI (e + 1))), (1, .ref aG), (0, .ref (ad 0))] [] M D) (C : Cx X g l cX2_pass 7 RX2 (some .int) rmX2_pass) (hq : RU X g rmX2_pass R) : UX X g 2 ks 298 [(3, .int (nI e)), (1, .ref aG), (0, .ref (ad 0))] [] M D := by
  have hn := h.n
  refine u_iload_n C dX2_pass_298 rfl ?_
  refine u_iconst C (v := 2) dX2_pass_299 (by decide) ?_
  refine u_icmp_ge C (tgt := 433) dX2_pass_300 (by decide) (fun c300 => absurd ((nI_leI (a := 2) (b := e) (by omega) (by omega)).mp c300) (by omega)) (fun c300 => ?_)
  refine u_aload_n C dX2_pass_303 rfl ?_
  refine u_getF C fl_X2_21 (h.ob nm0) rfl dX2_pass_304 ?_
  refine u_iload_n C dX2_pass_307 rfl ?_
  refine u_dup2 C dX2_pass_308 rfl rfl ?_
  refine u_iald C (h.coins nm0) rfl (by omega : e < 2) (by decide) dX2_pass_309 ?_
  refine u_aload_n C dX2_pass_310 rfl ?_
  refine u_iload_n C dX2_pass_311 rfl ?_
  refine u_iald C (gt) rfl (by omega : e < 2) (by decide) dX2_pass_312 ?_
  refine u_iadd C dX2_pass_313 ?_
  refine u_iast C (h.coins nm0) rfl (by omega : e < 2) (by decide) dX2_pass_314 (fun D1 o1 r1 => ?_)
  have h := h.c4 o1 r1
  have gt := gt.ot o1 (Ne.symm (hGq _ (su_c (by omega))))
  have fr := fr.ad o1 (su_c (by omega)) (by omega)
  refine u_aload_n C dX2_pass_315 rfl ?_
  refine u_getF C fl_X2_24 (h.ob nm0) rfl dX2_pass_316 ?_
  refine u_iload_n C dX2_pass_319 rfl ?_
  refine u_aload_n C dX2_pass_320 rfl ?_
  refine u_iload_n C dX2_pass_321 rfl ?_
  refine u_iald C (gt) rfl (by omega : e < 2) (by decide) dX2_pass_322 ?_
  refine u_if_le C (tgt := 330) dX2_pass_323 (by decide) (fun c323 => ?_) (fun c323 => ?_)
  · have hq9 : Q 36 e = 0 := hg0.2.mpr (by
      have a := i_le.mp c323
      rw [i_c0] at a
      rw [i_eq, i_c0]
      omega)
    refine u_aload_n C dX2_pass_330 rfl ?_
    refine u_getF C fl_X2_24 (h.ob nm0) rfl dX2_pass_331 ?_
    refine u_iload_n C dX2_pass_334 rfl ?_
    refine u_iald C (h.silent nm0) rfl (by omega : e < 2) (by decide) dX2_pass_335 ?_
    refine u_iconst C (v := 1) dX2_pass_336 (by decide) ?_
    refine u_iadd C dX2_pass_337 ?_
    refine u_iast C (h.silent nm0) rfl (by omega : e < 2) (by decide) dX2_pass_338 (fun D2 o2 r2 => ?_)
    have hcm : ∀ i, i < 2 → upd c e (c e + gf e) i = if i = e then c i + gf i else c i := fun i _ => by
      unfold upd
      by_cases z : i = e
      · subst z; simp
      · rw [if_neg z, if_neg z]
    have h : SM g D2 ad (mSil Q e) (upd c e (c e + gf e)) [] := by
      unfold mSil
      first | (rw [if_pos hq9]; exact h.c5 he o2 r2) | (rw [if_neg hq9]; exact h.c5 he o2 r2)
    have gt := gt.ot o2 (Ne.symm (hGq _ (su_c (by omega))))
    have fr := fr.ad o2 (su_c (by omega)) (by omega)
    refine u_aload_n C dX2_pass_339 rfl ?_
    refine u_getF C fl_X2_24 (h.ob nm0) rfl dX2_pass_340 ?_
    refine u_iload_n C dX2_pass_343 rfl ?_
    refine u_iald C (h.silent nm0) rfl (by omega : e < 2) (by decide) dX2_pass_344 ?_
    refine u_bipush C (v := 12) dX2_pass_345 (by decide) ?_
    refine u_icmp_ge C (tgt := 353) dX2_pass_347 (by decide) (fun c347 => ?_) (fun c347 => ?_)
    · refine u_aload_n C dX2_pass_353 rfl ?_
      refine u_getF C fl_X2_24 (h.ob nm0) rfl dX2_pass_354 ?_
      refine u_iload_n C dX2_pass_357 rfl ?_
      refine u_iconst C (v := 0) dX2_pass_358 (by decide) ?_
      refine u_iast C (h.silent nm0) rfl (by omega : e < 2) (by decide) dX2_pass_359 (fun D3 o3 r3 => ?_)
      have h := h.c5 he o3 r3
      have gt := gt.ot o3 (Ne.symm (hGq _ (su_c (by omega))))
      have fr := fr.ad o3 (su_c (by omega)) (by omega)
      refine u_iconst C (v := 0) dX2_pass_360 (by decide) ?_
      refine u_istore C (lo' := [(4, _), (3, _), (1, _), (0, _)]) dX2_pass_361 (by decide) rfl ?_
      exact u_lsub [0, 1, 2, 3] rfl (qs_pass_l4 h (fun w hw => qs_pass_f _ he hsu hGq h hcm gt fr c347 hw next C hq) C hq (mWs Q + 1) 0 (Nat.zero_le _) (by show mWs Q + 1 ≤ _; omega) rfl)
    · have hS : SM g D2 ad (mHush Q e) (upd c e (c e + gf e)) [] := by unfold mHush; rw [if_neg (fun z => c347 z)]; exact h
      refine u_goto C (tgt := 427) dX2_pass_350 (by decide) ?_
      refine u_iinc C (v := nI (e + 1)) (lo' := [(3, _), (1, _), (0, _)]) dX2_pass_427 rfl (nI_inc _) (by decide) rfl ?_
      refine u_goto C (tgt := 298) dX2_pass_430 (by decide) ?_
      exact u_lsub [0, 1, 2] rfl (next _ _ hS hcm gt fr)
  · have hq9 : ¬ Q 36 e = 0 := fun z => c323 (by rw [hg0.2.mp z]; decide)
    refine u_iconst C (v := 0) dX2_pass_326 (by decide) ?_
    refine u_goto C (tgt := 338) dX2_pass_327 (by decide) ?_
    refine u_iast C (h.silent nm0) rfl (by omega : e < 2) (by decide) dX2_pass_338 (fun D2 o2 r2 => ?_)
    have hcm : ∀ i, i < 2 → upd c e (c e + gf e) i = if i = e then c i + gf i else c i := fun i _ => by
      unfold upd
      by_cases z : i = e
      · subst z; simp
      · rw [if_neg z, if_neg z]
    have h : SM g D2 ad (mSil Q e) (upd c e (c e + gf e)) [] := by
      unfold mSil
      first | (rw [if_pos hq9]; exact h.c5 he o2 r2) | (rw [if_neg hq9]; exact h.c5 he o2 r2)
    have gt := gt.ot o2 (Ne.symm (hGq _ (su_c (by omega))))
    have fr := fr.ad o2 (su_c (by omega)) (by omega)
    refine u_aload_n C dX2_pass_339 rfl ?_
    refine u_getF C fl_X2_24 (h.ob nm0) rfl dX2_pass_340 ?_
    refine u_iload_n C dX2_pass_343 rfl ?_
    refine u_iald C (h.silent nm0) rfl (by omega : e < 2) (by decide) dX2_pass_344 ?_
    refine u_bipush C (v := 12) dX2_pass_345 (by decide) ?_
    refine u_icmp_ge C (tgt := 353) dX2_pass_347 (by decide) (fun c347 => ?_) (fun c347 => ?_)
    · refine u_aload_n C dX2_pass_353 rfl ?_
      refine u_getF C fl_X2_24 (h.ob nm0) rfl dX2_pass_354 ?_
      refine u_iload_n C dX2_pass_357 rfl ?_
      refine u_iconst C (v := 0) dX2_pass_358 (by decide) ?_
      refine u_iast C (h.silent nm0) rfl (by omega : e < 2) (by decide) dX2_pass_359 (fun D3 o3 r3 => ?_)
      have h := h.c5 he o3 r3
      have gt := gt.ot o3 (Ne.symm (hGq _ (su_c (by omega))))
      have fr := fr.ad o3 (su_c (by omega)) (by omega)
      refine u_iconst C (v := 0) dX2_pass_360 (by decide) ?_
      refine u_istore C (lo' := [(4, _), (3, _), (1, _), (0, _)]) dX2_pass_361 (by decide) rfl ?_
      exact u_lsub [0, 1, 2, 3] rfl (qs_pass_l4 h (fun w hw => qs_pass_f _ he hsu hGq h hcm gt fr c347 hw next C hq) C hq (mWs Q + 1) 0 (Nat.zero_le _) (by show mWs Q + 1 ≤ _; omega) rfl)
    · have hS : SM g D2 ad (mHush Q e) (upd c e (c e + gf e)) [] := by unfold mHush; rw [if_neg (fun z => c347 z)]; exact h
      refine u_goto C (tgt := 427) dX2_pass_350 (by decide) ?_
      refine u_iinc C (v := nI (e + 1)) (lo' := [(3, _), (1, _), (0, _)]) dX2_pass_427 rfl (nI_inc _) (by decide) rfl ?_
      refine u_goto C (tgt := 298) dX2_pass_430 (by decide) ?_
      exact u_lsub [0, 1, 2] rfl (next _ _ hS hcm gt fr)
/-- what both echoes get in a beat -/
def mGt (P : Mem) : Int32 := (mBeat P 34 3 - P 34 3) + (mBeat P 34 4 - P 34 4)
theorem mHush_34 (P : Mem) (e j : Nat) (hp : PK P) (he : e < 2) (h : j ≠ 2 ∧ j ≠ 5 + e ∧ ¬ (7 ≤ j ∧ j < 17)) : mHush P e 34 j = P 34 j := by
  have s1 : mSil P e 34 j = P 34 j := by unfold mSil; rw [wr_ne (by omega)]
  unfold mHush
  split
  · split
    · rename_i c c2
      have hws := hp.1.ws
      have hf : tn (mFirst (wr (mSil P e) 34 (5 + e) 0) (nI e)) < 10 := by
        have hS : mWs (wr (mSil P e) 34 (5 + e) 0) = mWs P := rfl
        rcases mFO_or (wr (mSil P e) 34 (5 + e) 0) (nI e) (mWs (wr (mSil P e) 34 (5 + e) 0)) 0 (by rw [hS]; omega) with z | ⟨z1, z2⟩
        · exact absurd z c2
        · rw [hS] at z2
          exact Nat.lt_of_lt_of_le z2 (by omega)
      unfold mLose
      rw [wr_ne (by omega), wr_ne (by omega), wr_ne (by omega), s1]
    · rw [wr_ne (by omega), s1]
  · exact s1
theorem mHush_36 (P : Mem) (e : Nat) : mHush P e 36 = P 36 := by
  have s1 : mSil P e 36 = P 36 := rfl
  unfold mHush
  split
  · split
    · unfold mLose
      rw [wr_cell (by decide), wr_cell (by decide), wr_cell (by decide), s1]
    · rw [wr_cell (by decide), s1]
  · exact s1
theorem mBeat_coin {P : Mem} (hp : PK P) {e : Nat} (he : e < 2) : mBeat P 34 (3 + e) = mB1 P 34 (3 + e) := by
  have h1 : PK (mB1 P) := hp.got0.stepL _ hp.1.sh
  have hs1 : mSh (mB1 P) = mSh P := by
    show tn (mB1 P 29 2) = tn (P 29 2)
    rw [show mB1 P 29 = P 29 from (mStepL_fr (mGot0 P) _ 29 (by decide) (by decide)).trans rfl]
  have h2 : PK (mB2 P) := h1.meetL _ hp.1.sh
  have a1 : mB2 P 34 (3 + e) = mB1 P 34 (3 + e) := (mm_all h1.1 (mSh P) (by omega)).2.2.1 _ (by omega) (by omega)
  show wr (mB3 P) 34 0 _ 34 (3 + e) = _
  rw [wr_ne (by omega)]
  show mHush (mHush (mB2 P) 0) 1 34 (3 + e) = _
  rw [mHush_34 _ 1 _ (h2.hush (by decide)) (by decide) (by omega), mHush_34 _ 0 _ h2 (by decide) (by omega), a1]
set_option maxHeartbeats 1000000 in
set_option maxRecDepth 100000 in
theorem qs_pass_z {X : XT} {l : Launch} {g : GT} {R : Option Value → Mem → DM → Prop} {M : Mem} {D0 D : DM} {ad : Nat → Nat} {S : Mem} {c gf : Nat → Int32} {aG ks nW nS : Nat} (hks : ks ≤ 42) (hGq : ∀ i, su (mWs S) (mSh S) i → ad i ≠ aG) (h : SM g D ad S c []) (gt : IA g D aG 2 gf) (fr : Fr ad nW nS D0 D) (hR : ∀ D2, SM g D2 ad (wr S 34 0 (S 34 0 + 1)) c [] → Fr ad nW nS D0 D2 → R (some (.int (gf 0 + gf 1))) M D2) (C : Cx X g l cX2_pass 7 RX2 (some .int) rmX2_pass) (hq : RU X g rmX2_pass R) : UX X g 2 ks 298 [(3, .int (nI 2)), (1, .ref aG), (0, .ref (ad 0))] [] M D := by
  refine u_iload_n C dX2_pass_298 rfl ?_
  refine u_iconst C (v := 2) dX2_pass_299 (by decide) ?_
  refine u_icmp_ge C (tgt := 433) dX2_pass_300 (by decide) (fun c300 => ?_) (fun c300 => absurd (by decide) c300)
  refine u_aload_n C dX2_pass_433 rfl ?_
  refine u_dup C dX2_pass_434 rfl ?_
  refine u_getF C (fl_X2_32.fl) (h.ob nm0) rfl dX2_pass_435 ?_
  refine u_iconst C (v := 1) dX2_pass_438 (by decide) ?_
  refine u_iadd C dX2_pass_439 ?_
  refine u_putI C fl_X2_32 (h.ob nm0) (Nat.le_of_ble_eq_true rfl) dX2_pass_440 (fun D1 o1 r1 => ?_)
  have h := h.o (j := 0) (by omega) o1 r1
  have gt := gt.ot o1 (Ne.symm (hGq _ (su_c (by omega))))
  have fr := fr.ad o1 (su_c (by omega)) (by omega)
  refine u_aload_n C dX2_pass_443 rfl ?_
  refine u_iconst C (v := 0) dX2_pass_444 (by decide) ?_
  refine u_ialv C (gt) rfl (by decide) (by decide) (v := gf 0) rfl dX2_pass_445 ?_
  refine u_aload_n C dX2_pass_446 rfl ?_
  refine u_iconst C (v := 1) dX2_pass_447 (by decide) ?_
  refine u_ialv C (gt) rfl (by decide) (by decide) (v := gf 1) rfl dX2_pass_448 ?_
  refine u_iadd C dX2_pass_449 ?_
  exact u_iret C hq ⟨by decide, hks⟩ dX2_pass_450 (hR _ h fr)
