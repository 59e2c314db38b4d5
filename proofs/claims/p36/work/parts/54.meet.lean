/-! The shouts meet, both sides. -/
theorem mm_all {P : Mem} (ho : mOK P) : ∀ n, n ≤ mSh P →
    (∀ j, j < 40 → mMeetL P n 34 (27 + j) = if j < n ∧ 0 < P 34 (27 + j) ∧ mLoudest P (P 34 (67 + j)) ≠ nI j then 0 else P 34 (27 + j)) ∧
    (∀ c, c ≠ 34 → mMeetL P n c = P c) ∧ (∀ j, j ≠ 1 → (j < 27 ∨ 67 ≤ j) → mMeetL P n 34 j = P 34 j) ∧
    mMeetL P n 34 1 + nI (liveN (fun j => mMeetL P n 34 (27 + j)) 40) = P 34 1 + nI (liveN (fun j => P 34 (27 + j)) 40)
  | 0, _ => ⟨fun j _ => by rw [if_neg (fun z => absurd z.1 (by omega))]; rfl, fun _ _ => rfl, fun _ _ _ => rfl, rfl⟩
  | n + 1, hn => by
    obtain ⟨m1, m2, m3, m4⟩ := mm_all ho n (by omega)
    have hsh := ho.sh
    have hS : mSh (mMeetL P n) = mSh P := by
      show tn (mMeetL P n 29 2) = tn (P 29 2)
      rw [m2 29 (by decide)]
    have hW : ∀ s, mLoudest (mMeetL P n) s = mLoudest P s := fun s => by
      unfold mLoudest
      rw [hS]
      refine win_hush (by omega) (fun j hj => m3 _ (by omega) (by omega)) (fun j hj => ?_) s
      rw [m1 j (by omega)]
      split
      · rename_i c
        exact Or.inr ⟨rfl, c.2.2⟩
      · exact Or.inl rfl
    have hl : mMeetL P n 34 (27 + n) = P 34 (27 + n) := by
      rw [m1 n (by omega), if_neg (fun z => absurd z.1 (by omega))]
    have ha : mMeetL P n 34 (67 + n) = P 34 (67 + n) := m3 _ (by omega) (by omega)
    show (∀ j, j < 40 → mMeet (mMeetL P n) n 34 (27 + j) = _) ∧ (∀ c, c ≠ 34 → mMeet (mMeetL P n) n c = P c) ∧ (∀ j, j ≠ 1 → (j < 27 ∨ 67 ≤ j) → mMeet (mMeetL P n) n 34 j = P 34 j) ∧ mMeet (mMeetL P n) n 34 1 + nI (liveN (fun j => mMeet (mMeetL P n) n 34 (27 + j)) 40) = _
    unfold mMeet
    rw [hW, hl, ha]
    generalize mMeetL P n = Q at *
    by_cases c : 0 < P 34 (27 + n) ∧ mLoudest P (P 34 (67 + n)) ≠ nI n
    · rw [if_pos c]
      have q0 : ∀ j, wr (mLet Q n 0) 34 1 (mLet Q n 0 34 1 + 1) 34 (27 + j) = if j = n then 0 else Q 34 (27 + j) := fun j => by
        unfold mLet
        grind [wr_ap]
      have q1 : wr (mLet Q n 0) 34 1 (mLet Q n 0 34 1 + 1) 34 1 = Q 34 1 + 1 := by
        unfold mLet
        grind [wr_ap]
      refine ⟨fun j hj => ?_, fun c hc => ?_, fun j h1 h2 => ?_, ?_⟩
      · rw [q0, m1 j hj]
        grind
      · rw [wr_cell hc]
        unfold mLet
        rw [wr_cell hc]
        exact m2 c hc
      · rw [wr_ne (by omega)]
        unfold mLet
        rw [wr_ne (by omega)]
        exact m3 j h1 h2
      · have e := liveN_off (f := fun j => Q 34 (27 + j)) (h := fun j => wr (mLet Q n 0) 34 1 (mLet Q n 0 34 1 + 1) 34 (27 + j)) (j := n) (by show 0 < Q 34 (27 + n); rw [hl]; exact c.1) (by show ¬ 0 < wr _ _ _ _ _ _; rw [q0, if_pos rfl]; decide) 40 (by omega) (fun k hk hkn => by show wr _ _ _ _ _ _ = _; rw [q0, if_neg hkn])
        rw [q1, ← m4, ← e]
        generalize liveN (fun j => wr (mLet Q n 0) 34 1 (mLet Q n 0 34 1 + 1) 34 (27 + j)) 40 = x
        have := nI_1 x
        grind
    · rw [if_neg c]
      refine ⟨fun j hj => ?_, m2, m3, m4⟩
      rw [m1 j hj]
      grind
def Cm (b : Nat) (M N : Mem) : Prop :=
  (∀ j, j < 40 → 0 < N (b + 10) j → N (b + 11) j = M (b + 11) j ∧ N (b + 12) j = M (b + 12) j) ∧
  (∀ j, j < 40 → ¬ 0 < N (b + 10) j → (0 < M (b + 10) j ∧ N (b + 11) j = -1 ∧ N (b + 12) j = 0) ∨ (¬ 0 < M (b + 10) j ∧ N (b + 11) j = M (b + 11) j ∧ N (b + 12) j = M (b + 12) j)) ∧
  (∀ c, (c = b + 1 ∨ c = b + 2 ∨ (b + 4 ≤ c ∧ c ≤ b + 9) ∨ c = b + 13) → N c = M c) ∧
  (N b 0 = M b 0 ∧ N b 1 = M b 1 ∧ N b 2 = M b 2 ∧ N b 5 = M b 5) ∧
  N b 3 = nI (liveN (N (b + 10)) 40) ∧ N b 4 + N b 3 = M b 4 + M b 3
theorem Cm.wr3 {b : Nat} {M N : Mem} {t : Nat} {v : Int32} (h : Cm b M N) : Cm b M (wr N (b + 3) t v) := by
  have e : ∀ c, c ≠ b + 3 → wr N (b + 3) t v c = N c := fun c hc => wr_cell hc
  unfold Cm
  rw [e (b + 10) (by omega), e (b + 11) (by omega), e (b + 12) (by omega), e b (by omega)]
  obtain ⟨h1, h2, h3, h4, h5⟩ := h
  exact ⟨h1, h2, fun c hc => by rw [e c (by omega)]; exact h3 c hc, h4, h5⟩
theorem hush_ld (b : Nat) (N : Mem) (x j : Nat) : cHush b (cOv b N) x (b + 10) j = if j = x then 0 else N (b + 10) j := by
  unfold cHush cOv
  grind [wr_ap]
theorem Cm.hush {b : Nat} {M N : Mem} {x : Nat} (h : Cm b M N) (hx : x < 40) (hl : 0 < N (b + 10) x) (hl0 : 0 < M (b + 10) x) : Cm b M (cHush b (cOv b N) x) := by
  obtain ⟨h1, h2, h3, h4, h5, h6⟩ := h
  have e := liveN_off (f := N (b + 10)) (h := cHush b (cOv b N) x (b + 10)) (j := x) hl (by rw [hush_ld, if_pos rfl]; decide) 40 hx (fun k hk hkn => by rw [hush_ld, if_neg hkn])
  have e3 : cHush b (cOv b N) x b 3 = N b 3 - 1 := by
    unfold cHush cOv
    grind [wr_ap]
  have e4 : cHush b (cOv b N) x b 4 = N b 4 + 1 := by
    unfold cHush cOv
    grind [wr_ap]
  refine ⟨fun j hj h => ?_, fun j hj h => ?_, fun c hc => ?_, ?_, ?_, ?_⟩
  · rw [hush_ld] at h
    unfold cHush cOv
    grind [wr_ap]
  · rw [hush_ld] at h
    unfold cHush cOv
    grind [wr_ap]
  · rw [← h3 c hc]
    unfold cHush cOv
    rw [wr_cell (by omega), wr_cell (by omega), wr_cell (by omega), wr_cell (by omega), wr_cell (by omega)]
  · unfold cHush cOv
    grind [wr_ap]
  · rw [e3, h5, ← e]
    exact nI_prd
  · rw [e3, e4, ← h6]
    grind
theorem cm_all {b : Nat} {M P : Mem} (h : Rw b M P) (hc : cOK b M) (ho : mOK P) : ∀ n, n ≤ mSh P →
    (∀ s, s < 32 → cMeetL b M n (b + 3) s = mLdL P (nI s) n) ∧
    (∀ j, j < 40 → cMeetL b M n (b + 10) j = if j < n ∧ 0 < P 34 (27 + j) ∧ mLdL P (P 34 (67 + j)) n ≠ nI j then 0 else P 34 (27 + j)) ∧ Cm b M (cMeetL b M n)
  | 0, _ => by
    have e : ∀ c, c ≠ b + 3 → cFill b M c = M c := fun c hc => wrc_cell hc
    refine ⟨fun s hs => ?_, fun j hj => ?_, ?_⟩
    · show cFill b M (b + 3) s = -1
      unfold cFill
      rw [wrc_ap, if_pos rfl]
      unfold cpn
      rw [if_pos hs]
    · rw [if_neg (fun z => absurd z.1 (by omega))]
      show cFill b M (b + 10) j = _
      rw [e (b + 10) (by omega)]
      exact (h.2.2.2.2.1 j hj).1
    · show Cm b M (cFill b M)
      unfold Cm
      rw [e (b + 10) (by omega), e (b + 11) (by omega), e (b + 12) (by omega), e b (by omega)]
      exact ⟨fun _ _ _ => ⟨rfl, rfl⟩, fun j hj hl => Or.inr ⟨hl, rfl, rfl⟩, fun c hc => e c (by omega), ⟨rfl, rfl, rfl, rfl⟩, h.2.2.2.2.2.2.2.2, rfl⟩
  | n + 1, hn => by
    obtain ⟨m1, m2, m3⟩ := cm_all h hc ho n (by omega)
    have hsh := ho.sh
    have hL : ∀ s, mLdL P s (n + 1) = if 0 < P 34 (27 + n) ∧ P 34 (67 + n) = s ∧ (mLdL P s n = -1 ∨ P 34 (27 + tn (mLdL P s n)) < P 34 (27 + n)) then nI n else mLdL P s n := fun s => rfl
    have hln : cMeetL b M n (b + 10) n = P 34 (27 + n) := by
      rw [m2 n (by omega), if_neg (fun z => absurd z.1 (by omega))]
    have hlM : M (b + 10) n = P 34 (27 + n) := (h.2.2.2.2.1 n (by omega)).1
    show (∀ s, s < 32 → (if 0 < cMeetL b M n (b + 10) n then cSettle b (cMeetL b M n) n else cMeetL b M n) (b + 3) s = _) ∧ (∀ j, j < 40 → (if 0 < cMeetL b M n (b + 10) n then cSettle b (cMeetL b M n) n else cMeetL b M n) (b + 10) j = _) ∧ Cm b M (if 0 < cMeetL b M n (b + 10) n then cSettle b (cMeetL b M n) n else cMeetL b M n)
    rw [hln]
    by_cases hl : 0 < P 34 (27 + n)
    · rw [if_pos hl]
      have hpl : cMeetL b M n (b + 11) n = P 34 (67 + n) := by
        rw [(m3.1 n (by omega) (by rw [hln]; exact hl)).1]
        exact (h.2.2.2.2.2.1 n (by omega) (by rw [hlM]; exact hl)).1
      have hr : 0 ≤ P 34 (67 + n) ∧ P 34 (67 + n) ≤ 31 := by
        rw [← (h.2.2.2.2.2.1 n (by omega) (by rw [hlM]; exact hl)).1]
        exact hc.2.2.2.2.2 n (by omega) (by rw [hlM]; exact hl)
      have ht := tn31 hr
      have hat : nI (tn (P 34 (67 + n))) = P 34 (67 + n) := (nI_tn hr.1).symm
      have hA3 : cMeetL b M n (b + 3) (tn (P 34 (67 + n))) = mLdL P (P 34 (67 + n)) n := by
        rw [m1 _ ht, hat]
      have hos : ∀ s, s < 32 → s ≠ tn (P 34 (67 + n)) → nI s ≠ P 34 (67 + n) := fun s hs hne e => hne (by rw [← e, tn_nI (by omega)])
      have hin : ∀ i j, i < 40 → j < 40 → i ≠ j → nI i ≠ nI j := fun i j hi hj hij e => hij (nI_inj' (by omega) (by omega) e)
      unfold cSettle
      rw [hpl, hA3]
      generalize hA : cMeetL b M n = A at *
      generalize haa : P 34 (67 + n) = a at *
      rcases mLdL_win P a n (by omega) with ⟨e, w⟩ | ⟨i, hi, e, w1, w2, -, -⟩
      · rw [if_pos e]
        have hLa : mLdL P a (n + 1) = nI n := by rw [hL, if_pos ⟨hl, rfl, Or.inl e⟩]
        have hLo : ∀ s, s ≠ a → mLdL P s (n + 1) = mLdL P s n := fun s hs => by rw [hL, if_neg (fun z => hs z.2.1.symm)]
        refine ⟨fun s hs => ?_, fun j hj => ?_, m3.wr3⟩
        · by_cases hst : s = tn a
          · rw [hst, wr_eq, hat, hLa]
          · rw [wr_ne (by omega), m1 s hs, hLo _ (hos s hs hst)]
        · rw [wr_ne (by omega), m2 j hj]
          by_cases hjn : j = n
          · subst hjn
            rw [if_neg (fun z => absurd z.1 (by omega)), haa, if_neg (fun z => z.2.2 hLa)]
          · by_cases hja : P 34 (67 + j) = a
            · have hd : ¬ (j < n ∧ 0 < P 34 (27 + j)) := fun z => w j z.1 z.2 hja
              rw [if_neg (fun z => hd ⟨z.1, z.2.1⟩), if_neg (fun z => hd ⟨by omega, z.2.1⟩)]
            · rw [hLo _ hja]
              have : j < n ↔ j < n + 1 := by omega
              simp only [this]
      · have w1' : 0 < P 34 (27 + i) := w1
        have w2' : P 34 (67 + i) = a := w2
        rw [if_neg (by rw [e]; exact nI_m1 (by omega)), e, tn_nI (by omega)]
        have hli : A (b + 10) i = P 34 (27 + i) := by
          rw [m2 i (by omega), if_neg (fun z => z.2.2 (by rw [w2', e]))]
        rw [hli, hln]
        have hlMi : 0 < M (b + 10) i := by rw [(h.2.2.2.2.1 i (by omega)).1]; exact w1'
        by_cases hf : P 34 (27 + i) < P 34 (27 + n)
        · rw [if_pos hf]
          have hLa : mLdL P a (n + 1) = nI n := by rw [hL, if_pos ⟨hl, rfl, Or.inr (by rw [e, tn_nI (by omega)]; exact hf)⟩]
          have hLo : ∀ s, s ≠ a → mLdL P s (n + 1) = mLdL P s n := fun s hs => by rw [hL, if_neg (fun z => hs z.2.1.symm)]
          refine ⟨fun s hs => ?_, fun j hj => ?_, (m3.hush (by omega) (by rw [hli]; exact w1') hlMi).wr3⟩
          · by_cases hst : s = tn a
            · rw [hst, wr_eq, hat, hLa]
            · have e3 : cHush b (cOv b A) i (b + 3) s = A (b + 3) s := by
                unfold cHush cOv
                rw [wr_ne (by omega), wr_ne (by omega), wr_ne (by omega), wr_ne (by omega), wr_ne (by omega)]
              rw [wr_ne (by omega), e3, m1 s hs, hLo _ (hos s hs hst)]
          · rw [wr_ne (by omega), hush_ld]
            by_cases hji : j = i
            · subst hji
              rw [if_pos rfl, if_pos ⟨by omega, w1', by rw [w2', hLa]; exact hin n j (by omega) hj (by omega)⟩]
            · rw [if_neg hji, m2 j hj]
              by_cases hjn : j = n
              · subst hjn
                rw [if_neg (fun z => absurd z.1 (by omega)), haa, if_neg (fun z => z.2.2 hLa)]
              · by_cases hja : P 34 (67 + j) = a
                · have e1 : (mLdL P a n ≠ nI j) = True := eq_true (by rw [e]; exact hin i j (by omega) hj (Ne.symm hji))
                  have e2 : (mLdL P a (n + 1) ≠ nI j) = True := eq_true (by rw [hLa]; exact hin n j (by omega) hj (Ne.symm hjn))
                  have : j < n ↔ j < n + 1 := by omega
                  simp only [hja, e1, e2, this]
                · rw [hLo _ hja]
                  have : j < n ↔ j < n + 1 := by omega
                  simp only [this]
        · rw [if_neg hf]
          have hLa : mLdL P a (n + 1) = nI i := by
            rw [hL, if_neg (fun z => ?_), e]
            rcases z.2.2 with z | z
            · rw [e] at z; exact nI_m1 (by omega) z
            · rw [e, tn_nI (by omega)] at z; exact hf z
          have hLo : ∀ s, s ≠ a → mLdL P s (n + 1) = mLdL P s n := fun s hs => by rw [hL, if_neg (fun z => hs z.2.1.symm)]
          refine ⟨fun s hs => ?_, fun j hj => ?_, m3.hush (by omega) (by rw [hln]; exact hl) (by rw [hlM]; exact hl)⟩
          · have e3 : cHush b (cOv b A) n (b + 3) s = A (b + 3) s := by
              unfold cHush cOv
              rw [wr_ne (by omega), wr_ne (by omega), wr_ne (by omega), wr_ne (by omega), wr_ne (by omega)]
            rw [e3, m1 s hs]
            by_cases hst : s = tn a
            · rw [hst, hat, hLa, e]
            · rw [hLo _ (hos s hs hst)]
          · rw [hush_ld]
            by_cases hjn : j = n
            · subst hjn
              rw [if_pos rfl, if_pos ⟨by omega, hl, by rw [haa, hLa]; exact hin i j (by omega) hj (by omega)⟩]
            · rw [if_neg hjn, m2 j hj]
              by_cases hja : P 34 (67 + j) = a
              · have : j < n ↔ j < n + 1 := by omega
                rw [hja, hLa, e]
                simp only [this]
              · rw [hLo _ hja]
                have : j < n ↔ j < n + 1 := by omega
                simp only [this]
    · rw [if_neg hl]
      have hLn : ∀ s, mLdL P s (n + 1) = mLdL P s n := fun s => by rw [hL, if_neg (fun z => hl z.1)]
      refine ⟨fun s hs => by rw [m1 s hs, hLn], fun j hj => ?_, m3⟩
      rw [m2 j hj, hLn]
      grind
