/-! Sim's reads, walked. -/
def sWO (P : Mem) (s : Int32) : Nat → Nat → Int32
  | 0, _ => -1
  | n + 1, w => if P 32 w = s then nI w else sWO P s n (w + 1)
/-- the loudest one on a stone, from above -/
def sLD (P : Mem) (s : Int32) : Nat → Int32 → Int32
  | 0, b => b
  | n + 1, b => sLD P s n (if 0 < P 34 (27 + n) ∧ P 34 (67 + n) = s ∧ (b < 0 ∨ P 34 (27 + tn b) ≤ P 34 (27 + n)) then nI n else b)
def WD (f at_ : Nat → Int32) (s : Int32) (m n : Nat) (b : Int32) : Prop :=
  (b = -1 ∧ ∀ j, m ≤ j → j < n → 0 < f j → at_ j ≠ s) ∨ ∃ j, m ≤ j ∧ j < n ∧ b = nI j ∧ 0 < f j ∧ at_ j = s ∧ (∀ i, m ≤ i → i < n → 0 < f i → at_ i = s → f i ≤ f j) ∧ (∀ i, m ≤ i → i < j → 0 < f i → at_ i = s → f i < f j)
theorem sLD_win (P : Mem) (s : Int32) {n : Nat} (hn : n < 1000) : ∀ (m : Nat) (b : Int32), m ≤ n → WD (fun k => P 34 (27 + k)) (fun k => P 34 (67 + k)) s m n b → Win (fun k => P 34 (27 + k)) (fun k => P 34 (67 + k)) s n (sLD P s m b)
  | 0, b, _, h => by
    rcases h with ⟨e, a⟩ | ⟨j, -, hj, e, a1, a2, a3, a4⟩
    · exact Or.inl ⟨e, fun j hj => a j (Nat.zero_le _) hj⟩
    · exact Or.inr ⟨j, hj, e, a1, a2, fun i hi => a3 i (Nat.zero_le _) hi, fun i hi => a4 i (Nat.zero_le _) hi⟩
  | k + 1, b, hm, h => by
    unfold sLD
    refine sLD_win P s hn k _ (by omega) ?_
    rcases h with ⟨e, a⟩ | ⟨j, hj0, hj, e, a1, a2, a3, a4⟩
    · subst e
      by_cases c : 0 < P 34 (27 + k) ∧ P 34 (67 + k) = s
      · rw [if_pos ⟨c.1, c.2, Or.inl (by decide)⟩]
        refine Or.inr ⟨k, Nat.le_refl _, by omega, rfl, c.1, c.2, fun i h1 h2 h3 h4 => ?_, fun i h1 h2 => by omega⟩
        by_cases hik : i = k
        · subst hik; exact Int32.le_refl _
        · exact absurd h4 (a i (by omega) h2 h3)
      · rw [if_neg (fun z => c ⟨z.1, z.2.1⟩)]
        refine Or.inl ⟨rfl, fun i h1 h2 h3 h4 => ?_⟩
        by_cases hik : i = k
        · subst hik; exact c ⟨h3, h4⟩
        · exact a i (by omega) h2 h3 h4
    · subst e
      have hp : ¬ nI j < 0 := nI_pos (by omega)
      rw [tn_nI (by omega)]
      by_cases c : 0 < P 34 (27 + k) ∧ P 34 (67 + k) = s ∧ P 34 (27 + j) ≤ P 34 (27 + k)
      · rw [if_pos ⟨c.1, c.2.1, Or.inr c.2.2⟩]
        refine Or.inr ⟨k, Nat.le_refl _, by omega, rfl, c.1, c.2.1, fun i h1 h2 h3 h4 => ?_, fun i h1 h2 => by omega⟩
        by_cases hik : i = k
        · subst hik; exact Int32.le_refl _
        · exact Int32.le_trans (a3 i (by omega) h2 h3 h4) c.2.2
      · rw [if_neg (fun z => c ⟨z.1, z.2.1, z.2.2.resolve_left hp⟩)]
        refine Or.inr ⟨j, by omega, hj, rfl, a1, a2, fun i h1 h2 h3 h4 => ?_, fun i h1 h2 h3 h4 => ?_⟩
        · by_cases hik : i = k
          · subst hik; exact Int32.le_of_lt (Int32.not_le.mp (fun z => c ⟨h3, h4, z⟩))
          · exact a3 i (by omega) h2 h3 h4
        · by_cases hik : i = k
          · subst hik; exact Int32.not_le.mp (fun z => c ⟨h3, h4, z⟩)
          · exact a4 i (by omega) h2 h3 h4
theorem sLD_is (P : Mem) (s : Int32) (hn : mSh P < 1000) : sLD P s (mSh P) (-1) = mLoudest P s :=
  (sLD_win P s hn (mSh P) (-1) (Nat.le_refl _) (Or.inl ⟨rfl, fun j h1 h2 => by omega⟩)).uniq hn (mLdL_win P s (mSh P) hn)
/-- told: the object, the walls' rows; .. the shouts' rows -/
def okW (P : Mem) (mk : List Nat) : Prop := 0 ∉ mk ∧ 2 ∉ mk ∧ ∀ w, w < mWs P → 10 + w ∉ mk
def okS (P : Mem) (mk : List Nat) : Prop := 0 ∉ mk ∧ 3 ∉ mk ∧ ∀ k, k < mSh P → 20 + k ∉ mk
theorem sWO_s (P : Mem) (s : Int32) {N i : Nat} (h : i < N) : sWO P s (N - i) i = if P 32 i = s then nI i else sWO P s (N - (i + 1)) (i + 1) := by
  rw [show N - i = N - (i + 1) + 1 by omega]
  rfl
abbrev rmX2_wallOn : Room := { frames := 0, cells := 0, slots := 0, locals := 0 }
set_option maxHeartbeats 1000000 in
set_option maxRecDepth 100000 in
theorem qs_wallOn_lp {X : XT} {l : Launch} {g : GT} {R : Option Value → Mem → DM → Prop} {M : Mem} {D : DM} {ad : Nat → Nat} {P : Mem} {c : Nat → Int32} {mk : List Nat} {s : Int32} (h : SM g D ad P c mk) (m : okW P mk) (hR : R (some (.int (sWO P s (mWs P) 0))) M D) (C : Cx X g l cX2_wallOn 3 RX2 (some .int) rmX2_wallOn) (hq : RU X g rmX2_wallOn R) : ∀ (n i : Nat), i ≤ mWs P → mWs P + 1 ≤ i + n → sWO P s (mWs P - i) i = sWO P s (mWs P) 0 → UX X g 0 0 2 [(2, .int (nI i)), (0, .ref (ad 0)), (1, .int s)] [] M D := by
  intro n
  induction n with
  | zero =>
    intro i h1 h2; omega
  | succ n ih =>
    intro i h1 h2 h3
    have hn := h.n
    refine u_iload_n C dX2_wallOn_2 rfl ?_
    refine u_aload_n C dX2_wallOn_3 rfl ?_
    refine u_getF C fl_X2_14 (h.ob m.1) rfl dX2_wallOn_4 ?_
    refine u_ralen C (h.walls m.2.1) dX2_wallOn_7 ?_
    refine u_icmp_ge C (tgt := 31) dX2_wallOn_8 (by decide) (fun c8 => ?_) (fun c8 => ?_)
    · have he : i = mWs P := Nat.le_antisymm h1 ((nI_leI (a := mWs P) (b := i) (by omega) (by omega)).mp c8)
      rw [he, Nat.sub_self] at h3
      refine u_iconst C (v := (-1)) dX2_wallOn_31 (by decide) ?_
      exact u_iret C hq ⟨by decide, by decide⟩ dX2_wallOn_32 (by have h3 : (-1 : Int32) = sWO P s (mWs P) 0 := h3; rw [h3]; exact hR)
    · have hlt : i < mWs P := Nat.lt_of_not_le (fun z => c8 ((nI_leI (a := mWs P) (b := i) (by omega) (by omega)).mpr z))
      rw [sWO_s P s hlt] at h3
      refine u_aload_n C dX2_wallOn_11 rfl ?_
      refine u_getF C fl_X2_14 (h.ob m.1) rfl dX2_wallOn_12 ?_
      refine u_iload_n C dX2_wallOn_15 rfl ?_
      refine u_aald C (h.walls m.2.1) rfl (by omega : i < mWs P) (by omega) rfl dX2_wallOn_16 ?_
      refine u_iconst C (v := 0) dX2_wallOn_17 (by decide) ?_
      refine u_iald C (h.wrow hlt (m.2.2 _ hlt)) rfl (by decide : 0 < 4) (by decide) dX2_wallOn_18 ?_
      refine u_iload_n C dX2_wallOn_19 rfl ?_
      refine u_icmp_ne C (tgt := 25) dX2_wallOn_20 (by decide) (fun c20 => ?_) (fun c20 => ?_)
      · have c20 : ¬ P 32 i = s := c20
        rw [if_neg c20] at h3
        refine u_iinc C (v := nI (i + 1)) (lo' := [(2, _), (0, _), (1, _)]) dX2_wallOn_25 rfl (nI_inc _) (by decide) rfl ?_
        refine u_goto C (tgt := 2) dX2_wallOn_28 (by decide) ?_
        exact ih (i + 1) (by omega) (by omega) h3
      · have c20 : P 32 i = s := c20
        rw [if_pos c20] at h3
        refine u_iload_n C dX2_wallOn_23 rfl ?_
        exact u_iret C hq ⟨by decide, by decide⟩ dX2_wallOn_24 (by rw [h3]; exact hR)
set_option maxHeartbeats 1000000 in
set_option maxRecDepth 100000 in
theorem qs_wallOn (l : Launch) (g : GT) (M : Mem) (D : DM) {ad : Nat → Nat} {P : Mem} {c : Nat → Int32} {mk : List Nat} (h : SM g D ad P c mk) (m : okW P mk) (s : Int32) : CU l yX2_wallOn cX2_wallOn 3 (some .int) rmX2_wallOn g M D [.ref (ad 0), .int s] (fun r M1 D1 => r = some (.int (sWO P s (mWs P) 0)) ∧ M1 = M ∧ D1 = D) := by
  refine CU.of (by decide) (Nat.le_of_ble_eq_true rfl) (fun X C hq => ?_)
  have C : Cx X g l cX2_wallOn 3 RX2 (some .int) rmX2_wallOn := C
  show UX X g 0 0 0 [(0, .ref (ad 0)), (1, .int s)] [] M D
  refine u_iconst C (v := 0) dX2_wallOn_0 (by decide) ?_
  refine u_istore_n C (lo' := [(2, _), (0, _), (1, _)]) dX2_wallOn_1 (by decide) rfl ?_
  exact u_lsub [0, 1, 2] rfl (qs_wallOn_lp h m ⟨rfl, rfl, rfl⟩ C hq (mWs P + 1) 0 (Nat.zero_le _) (by omega) rfl)
abbrev rmX2_loudestOn : Room := { frames := 0, cells := 0, slots := 0, locals := 0 }
theorem sLD_s (P : Mem) (s : Int32) (n : Nat) (b : Int32) : sLD P s (n + 1) b = sLD P s n (if 0 < P 34 (27 + n) ∧ P 34 (67 + n) = s ∧ (b < 0 ∨ P 34 (27 + tn b) ≤ P 34 (27 + n)) then nI n else b) := rfl
theorem nI_dm (x : Int32) : x + Int32.ofInt (-1) = x - 1 := by
  show x + (-1) = _
  grind
theorem nI_d1 (n : Nat) : nI (n + 1) - 1 = nI n := nI_prd
set_option maxHeartbeats 1000000 in
set_option maxRecDepth 100000 in
theorem qs_loudestOn_lp {X : XT} {l : Launch} {g : GT} {R : Option Value → Mem → DM → Prop} {M : Mem} {D : DM} {ad : Nat → Nat} {P : Mem} {c : Nat → Int32} {mk : List Nat} {s : Int32} (h : SM g D ad P c mk) (m : okS P mk) (hR : R (some (.int (sLD P s (mSh P) (-1)))) M D) (C : Cx X g l cX2_loudestOn 4 RX2 (some .int) rmX2_loudestOn) (hq : RU X g rmX2_loudestOn R) : ∀ (n : Nat) (b : Int32), n ≤ mSh P → (b = -1 ∨ (0 ≤ b ∧ tn b < mSh P)) → sLD P s n b = sLD P s (mSh P) (-1) → UX X g 0 0 10 [(3, .int (nI n - 1)), (2, .int b), (0, .ref (ad 0)), (1, .int s)] [] M D := by
  intro n
  induction n with
  | zero =>
    intro b hn hb h3
    refine u_iload_n C dX2_loudestOn_10 rfl ?_
    refine u_if_lt C (tgt := 68) dX2_loudestOn_11 (by decide) (fun c11 => ?_) (fun c11 => absurd (by decide) c11)
    refine u_iload_n C dX2_loudestOn_68 rfl ?_
    exact u_iret C hq ⟨by decide, by decide⟩ dX2_loudestOn_69 (by have h3 : b = sLD P s (mSh P) (-1) := h3; rw [h3]; exact hR)
  | succ n ih =>
    intro b hn hb h3
    have hN := h.n
    have hlt : n < mSh P := by omega
    obtain ⟨f, rf, rs⟩ := h.srow hlt (m.2.2 _ hlt)
    obtain ⟨s0, s3, s1⟩ := rs
    rw [nI_d1]
    refine u_iload_n C dX2_loudestOn_10 rfl ?_
    refine u_if_lt C (tgt := 68) dX2_loudestOn_11 (by decide) (fun c11 => absurd c11 (nI_pos (by omega))) (fun c11 => ?_)
    refine u_aload_n C dX2_loudestOn_14 rfl ?_
    refine u_getF C fl_X2_18 (h.ob m.1) rfl dX2_loudestOn_15 ?_
    refine u_iload_n C dX2_loudestOn_18 rfl ?_
    refine u_aald C (h.shouts m.2.1) rfl (by omega : n < mSh P) (by omega) rfl dX2_loudestOn_19 ?_
    refine u_iconst C (v := 0) dX2_loudestOn_20 (by decide) ?_
    refine u_iald C (rf) rfl (by decide : 0 < 4) (by decide) dX2_loudestOn_21 ?_
    refine u_if_le C (tgt := 62) dX2_loudestOn_22 (by decide) (fun c22 => ?_) (fun c22 => ?_)
    · rw [s0] at c22
      rw [sLD_s, if_neg (fun z => absurd z.1 (Int32.not_lt.mpr c22))] at h3
      refine u_iinc C (v := nI n - 1) (lo' := [(3, _), (2, _), (0, _), (1, _)]) dX2_loudestOn_62 rfl (nI_dm _) (by decide) rfl ?_
      refine u_goto C (tgt := 10) dX2_loudestOn_65 (by decide) ?_
      exact ih _ (by omega) hb h3
    · rw [s0] at c22
      have hl : 0 < P 34 (27 + n) := Int32.not_le.mp c22
      obtain ⟨s1, s2⟩ := s1 hl
      refine u_aload_n C dX2_loudestOn_25 rfl ?_
      refine u_getF C fl_X2_18 (h.ob m.1) rfl dX2_loudestOn_26 ?_
      refine u_iload_n C dX2_loudestOn_29 rfl ?_
      refine u_aald C (h.shouts m.2.1) rfl (by omega : n < mSh P) (by omega) rfl dX2_loudestOn_30 ?_
      refine u_iconst C (v := 1) dX2_loudestOn_31 (by decide) ?_
      refine u_iald C (rf) rfl (by decide : 1 < 4) (by decide) dX2_loudestOn_32 ?_
      refine u_iload_n C dX2_loudestOn_33 rfl ?_
      refine u_icmp_ne C (tgt := 62) dX2_loudestOn_34 (by decide) (fun c34 => ?_) (fun c34 => ?_)
      · rw [s1] at c34
        rw [sLD_s, if_neg (fun z => c34 z.2.1)] at h3
        refine u_iinc C (v := nI n - 1) (lo' := [(3, _), (2, _), (0, _), (1, _)]) dX2_loudestOn_62 rfl (nI_dm _) (by decide) rfl ?_
        refine u_goto C (tgt := 10) dX2_loudestOn_65 (by decide) ?_
        exact ih _ (by omega) hb h3
      · rw [s1] at c34
        refine u_iload_n C dX2_loudestOn_37 rfl ?_
        refine u_if_lt C (tgt := 60) dX2_loudestOn_38 (by decide) (fun c38 => ?_) (fun c38 => ?_)
        · rw [sLD_s, if_pos ⟨hl, c34, Or.inl c38⟩] at h3
          refine u_iload_n C dX2_loudestOn_60 rfl ?_
          refine u_istore_n C (lo' := [(2, _), (3, _), (0, _), (1, _)]) dX2_loudestOn_61 (by decide) rfl ?_
          refine u_iinc C (v := nI n - 1) (lo' := [(3, _), (2, _), (0, _), (1, _)]) dX2_loudestOn_62 rfl (nI_dm _) (by decide) rfl ?_
          refine u_goto C (tgt := 10) dX2_loudestOn_65 (by decide) ?_
          exact ih _ (by omega) (Or.inr ⟨nI_pos' (by omega), by rw [tn_nI (by omega)]; exact hlt⟩) h3
        · obtain ⟨hb0, hb1⟩ := hb.resolve_left (fun z => c38 (by rw [z]; decide))
          obtain ⟨fb, rb, t0, -⟩ := h.srow hb1 (m.2.2 _ hb1)
          refine u_aload_n C dX2_loudestOn_41 rfl ?_
          refine u_getF C fl_X2_18 (h.ob m.1) rfl dX2_loudestOn_42 ?_
          refine u_iload_n C dX2_loudestOn_45 rfl ?_
          refine u_aald C (h.shouts m.2.1) rfl (by omega : n < mSh P) (by omega) rfl dX2_loudestOn_46 ?_
          refine u_iconst C (v := 0) dX2_loudestOn_47 (by decide) ?_
          refine u_iald C (rf) rfl (by decide : 0 < 4) (by decide) dX2_loudestOn_48 ?_
          refine u_aload_n C dX2_loudestOn_49 rfl ?_
          refine u_getF C fl_X2_18 (h.ob m.1) rfl dX2_loudestOn_50 ?_
          refine u_iload_n C dX2_loudestOn_53 rfl ?_
          refine u_aald C (h.shouts m.2.1) (nI_tn hb0) hb1 (by omega) rfl dX2_loudestOn_54 ?_
          refine u_iconst C (v := 0) dX2_loudestOn_55 (by decide) ?_
          refine u_iald C (rb) rfl (by decide : 0 < 4) (by decide) dX2_loudestOn_56 ?_
          refine u_icmp_lt C (tgt := 62) dX2_loudestOn_57 (by decide) (fun c57 => ?_) (fun c57 => ?_)
          · rw [s0, t0] at c57
            rw [sLD_s, if_neg (fun z => z.2.2.elim c38 (fun y => absurd y (Int32.not_le.mpr c57)))] at h3
            refine u_iinc C (v := nI n - 1) (lo' := [(3, _), (2, _), (0, _), (1, _)]) dX2_loudestOn_62 rfl (nI_dm _) (by decide) rfl ?_
            refine u_goto C (tgt := 10) dX2_loudestOn_65 (by decide) ?_
            exact ih _ (by omega) hb h3
          · rw [s0, t0] at c57
            rw [sLD_s, if_pos ⟨hl, c34, Or.inr (Int32.not_lt.mp c57)⟩] at h3
            refine u_iload_n C dX2_loudestOn_60 rfl ?_
            refine u_istore_n C (lo' := [(2, _), (3, _), (0, _), (1, _)]) dX2_loudestOn_61 (by decide) rfl ?_
            refine u_iinc C (v := nI n - 1) (lo' := [(3, _), (2, _), (0, _), (1, _)]) dX2_loudestOn_62 rfl (nI_dm _) (by decide) rfl ?_
            refine u_goto C (tgt := 10) dX2_loudestOn_65 (by decide) ?_
            exact ih _ (by omega) (Or.inr ⟨nI_pos' (by omega), by rw [tn_nI (by omega)]; exact hlt⟩) h3
set_option maxHeartbeats 1000000 in
set_option maxRecDepth 100000 in
theorem qs_loudestOn (l : Launch) (g : GT) (M : Mem) (D : DM) {ad : Nat → Nat} {P : Mem} {c : Nat → Int32} {mk : List Nat} (h : SM g D ad P c mk) (m : okS P mk) (s : Int32) : CU l yX2_loudestOn cX2_loudestOn 4 (some .int) rmX2_loudestOn g M D [.ref (ad 0), .int s] (fun r M1 D1 => r = some (.int (mLoudest P s)) ∧ M1 = M ∧ D1 = D) := by
  refine CU.of (by decide) (Nat.le_of_ble_eq_true rfl) (fun X C hq => ?_)
  have C : Cx X g l cX2_loudestOn 4 RX2 (some .int) rmX2_loudestOn := C
  show UX X g 0 0 0 [(0, .ref (ad 0)), (1, .int s)] [] M D
  refine u_iconst C (v := (-1)) dX2_loudestOn_0 (by decide) ?_
  refine u_istore_n C (lo' := [(2, _), (0, _), (1, _)]) dX2_loudestOn_1 (by decide) rfl ?_
  refine u_aload_n C dX2_loudestOn_2 rfl ?_
  refine u_getF C fl_X2_18 (h.ob m.1) rfl dX2_loudestOn_3 ?_
  refine u_ralen C (h.shouts m.2.1) dX2_loudestOn_6 ?_
  refine u_iconst C (v := 1) dX2_loudestOn_7 (by decide) ?_
  refine u_isub C dX2_loudestOn_8 ?_
  refine u_istore_n C (lo' := [(3, _), (2, _), (0, _), (1, _)]) dX2_loudestOn_9 (by decide) rfl ?_
  exact u_lsub [0, 1, 2, 3] rfl (qs_loudestOn_lp h m ⟨by rw [sLD_is P s (by have := h.n; omega)], rfl, rfl⟩ C hq (mSh P) (-1) (Nat.le_refl _) (Or.inl rfl) rfl)
abbrev rmX2_underWay : Room := { frames := 0, cells := 0, slots := 0, locals := 0 }
set_option maxHeartbeats 1000000 in
set_option maxRecDepth 100000 in
theorem qs_underWay_lp {X : XT} {l : Launch} {g : GT} {R : Option Value → Mem → DM → Prop} {M : Mem} {D : DM} {ad : Nat → Nat} {P : Mem} {c : Nat → Int32} {mk : List Nat} (h : SM g D ad P c mk) (m : okS P mk) (hR : R (some (.int (mMany P))) M D) (C : Cx X g l cX2_underWay 6 RX2 (some .int) rmX2_underWay) (hq : RU X g rmX2_underWay R) : ∀ (n i : Nat), i ≤ mSh P → mSh P + 1 ≤ i + n → UX X g 0 0 13 [(4, .int (nI i)), (1, .int (mManyL P i)), (2, .ref (ad 3)), (3, .int (nI (mSh P)))] [] M D := by
  intro n
  induction n with
  | zero =>
    intro i h1 h2; omega
  | succ n ih =>
    intro i h1 h2
    have hn := h.n
    refine u_iload C dX2_underWay_13 rfl ?_
    refine u_iload_n C dX2_underWay_15 rfl ?_
    refine u_icmp_ge C (tgt := 46) dX2_underWay_16 (by decide) (fun c16 => ?_) (fun c16 => ?_)
    · have he : i = mSh P := Nat.le_antisymm h1 ((nI_leI (a := mSh P) (b := i) (by omega) (by omega)).mp c16)
      subst he
      refine u_iload_n C dX2_underWay_46 rfl ?_
      exact u_iret C hq ⟨by decide, by decide⟩ dX2_underWay_47 (hR)
    · have hlt : i < mSh P := Nat.lt_of_not_le (fun z => c16 ((nI_leI (a := mSh P) (b := i) (by omega) (by omega)).mpr z))
      obtain ⟨f, rf, s0, -⟩ := h.srow hlt (m.2.2 _ hlt)
      refine u_aload_n C dX2_underWay_19 rfl ?_
      refine u_iload C dX2_underWay_20 rfl ?_
      refine u_aald C (h.shouts m.2.1) rfl (by omega : i < mSh P) (by omega) rfl dX2_underWay_22 ?_
      refine u_astore C (lo' := [(5, _), (4, _), (1, _), (2, _), (3, _)]) dX2_underWay_23 (by decide) rfl ?_
      refine u_iload_n C dX2_underWay_25 rfl ?_
      refine u_aload C dX2_underWay_26 rfl ?_
      refine u_iconst C (v := 0) dX2_underWay_28 (by decide) ?_
      refine u_iald C (rf) rfl (by decide : 0 < 4) (by decide) dX2_underWay_29 ?_
      refine u_if_le C (tgt := 37) dX2_underWay_30 (by decide) (fun c30 => ?_) (fun c30 => ?_)
      · rw [s0] at c30
        have e : mManyL P i + 0 = mManyL P (i + 1) := by unfold mManyL; rw [if_neg (Int32.not_lt.mpr c30)]; cases i <;> rfl
        refine u_iconst C (v := 0) dX2_underWay_37 (by decide) ?_
        refine u_iadd C dX2_underWay_38 ?_
        rw [e]
        refine u_istore_n C (lo' := [(1, _), (5, _), (4, _), (2, _), (3, _)]) dX2_underWay_39 (by decide) rfl ?_
        refine u_iinc C (v := nI (i + 1)) (lo' := [(4, _), (1, _), (5, _), (2, _), (3, _)]) dX2_underWay_40 rfl (nI_inc _) (by decide) rfl ?_
        refine u_goto C (tgt := 13) dX2_underWay_43 (by decide) ?_
        exact u_lsub [0, 1, 3, 4] rfl (ih (i + 1) hlt (by omega))
      · rw [s0] at c30
        have e : mManyL P i + 1 = mManyL P (i + 1) := by conv => rhs; unfold mManyL; rw [if_pos (Int32.not_le.mp c30)]
        refine u_iconst C (v := 1) dX2_underWay_33 (by decide) ?_
        refine u_goto C (tgt := 38) dX2_underWay_34 (by decide) ?_
        refine u_iadd C dX2_underWay_38 ?_
        rw [e]
        refine u_istore_n C (lo' := [(1, _), (5, _), (4, _), (2, _), (3, _)]) dX2_underWay_39 (by decide) rfl ?_
        refine u_iinc C (v := nI (i + 1)) (lo' := [(4, _), (1, _), (5, _), (2, _), (3, _)]) dX2_underWay_40 rfl (nI_inc _) (by decide) rfl ?_
        refine u_goto C (tgt := 13) dX2_underWay_43 (by decide) ?_
        exact u_lsub [0, 1, 3, 4] rfl (ih (i + 1) hlt (by omega))
set_option maxHeartbeats 1000000 in
set_option maxRecDepth 100000 in
theorem qs_underWay (l : Launch) (g : GT) (M : Mem) (D : DM) {ad : Nat → Nat} {P : Mem} {c : Nat → Int32} {mk : List Nat} (h : SM g D ad P c mk) (m : okS P mk) : CU l yX2_underWay cX2_underWay 6 (some .int) rmX2_underWay g M D [.ref (ad 0)] (fun r M1 D1 => r = some (.int (mMany P)) ∧ M1 = M ∧ D1 = D) := by
  refine CU.of (by decide) (Nat.le_of_ble_eq_true rfl) (fun X C hq => ?_)
  have C : Cx X g l cX2_underWay 6 RX2 (some .int) rmX2_underWay := C
  show UX X g 0 0 0 [(0, .ref (ad 0))] [] M D
  refine u_iconst C (v := 0) dX2_underWay_0 (by decide) ?_
  refine u_istore_n C (lo' := [(1, _), (0, _)]) dX2_underWay_1 (by decide) rfl ?_
  refine u_aload_n C dX2_underWay_2 rfl ?_
  refine u_getF C fl_X2_18 (h.ob m.1) rfl dX2_underWay_3 ?_
  refine u_astore_n C (lo' := [(2, _), (1, _), (0, _)]) dX2_underWay_6 (by decide) rfl ?_
  refine u_aload_n C dX2_underWay_7 rfl ?_
  refine u_ralen C (h.shouts m.2.1) dX2_underWay_8 ?_
  refine u_istore_n C (lo' := [(3, _), (2, _), (1, _), (0, _)]) dX2_underWay_9 (by decide) rfl ?_
  refine u_iconst C (v := 0) dX2_underWay_10 (by decide) ?_
  refine u_istore C (lo' := [(4, _), (3, _), (2, _), (1, _), (0, _)]) dX2_underWay_11 (by decide) rfl ?_
  exact u_lsub [0, 3, 2, 1] rfl (qs_underWay_lp h m ⟨rfl, rfl, rfl⟩ C hq (mSh P + 1) 0 (Nat.zero_le _) (by omega))
abbrev rmX2_with : Room := { frames := 0, cells := 1, slots := 41, locals := 0 }
def fW (n0 : Nat) (f : Nat → Nat) (b i : Nat) : Nat → Option Nat := fun j => if j < i then some (f j) else if j = n0 ∧ i = n0 + 1 then some b else none
set_option maxHeartbeats 1000000 in
set_option maxRecDepth 100000 in
theorem qs_with_lp {X : XT} {l : Launch} {g : GT} {R : Option Value → Mem → DM → Prop} {M : Mem} {D : DM} {n0 a b q : Nat} {f : Nat → Nat} (hn : n0 ≤ 40) (haq : a ≠ q) (hbq : b ≠ q) (hlast : ∃ fl, IA g D b 4 fl) (hrows : ∀ i, i < n0 → ∃ fi, IA g D (f i) 4 fi) (hfq : ∀ i, i < n0 → f i ≠ q) (hR : ∀ D2, Ot D D2 q → RA g D2 q (n0 + 1) (fun j => if j = n0 then some b else some (f j)) → R (some (.ref q)) M D2) (C : Cx X g l cX2_with 4 RX2 (some (.array (.array .int))) rmX2_with) (hq : RU X g rmX2_with R) : ∀ (n i : Nat) (D1 : DM), i ≤ n0 → n0 + 1 ≤ i + n → RA g D1 a n0 (fun j => some (f j)) → RA g D1 q (n0 + 1) (fW n0 f b i) → Ot D D1 q → UX X g 1 (n0 + 1) 10 [(3, .int (nI i)), (2, .ref q), (0, .ref a), (1, .ref b)] [] M D1 := by
  intro n
  induction n with
  | zero =>
    intro i D1 h1 h2; omega
  | succ n ih =>
    intro i D1 h1 h2 ra rm1 o9
    refine u_iload_n C dX2_with_10 rfl ?_
    refine u_aload_n C dX2_with_11 rfl ?_
    refine u_ralen C (ra) dX2_with_12 ?_
    refine u_icmp_ge C (tgt := 28) dX2_with_13 (by decide) (fun c13 => ?_) (fun c13 => ?_)
    · have he : i = n0 := Nat.le_antisymm h1 ((nI_leI (a := n0) (b := i) (by omega) (by omega)).mp c13)
      subst he
      obtain ⟨fl, hl⟩ := hlast
      have hl := hl.ot o9 hbq
      refine u_aload_n C dX2_with_28 rfl ?_
      refine u_aload_n C dX2_with_29 rfl ?_
      refine u_ralen C (ra) dX2_with_30 ?_
      refine u_aload_n C dX2_with_31 rfl ?_
      refine u_aast C (rm1) (hl) rfl (by omega) (by omega) dX2_with_32 (fun D1 o1 r1 => ?_)
      have o8 : Ot D D1 q := fun z hz => (o1 z hz).trans (o9 z hz)
      have rm2 : RA g D1 q (i + 1) (fun j => if j = i then some b else some (f j)) := r1.ext (fun j hj => by unfold fW; grind)
      refine u_aload_n C dX2_with_33 rfl ?_
      exact u_aret C (Or.inr ⟨_, rfl⟩) hq ⟨by decide, by show _ + 1 ≤ 41; omega⟩ dX2_with_34 (hR _ o8 rm2)
    · have hlt : i < n0 := Nat.lt_of_not_le (fun z => c13 ((nI_leI (a := n0) (b := i) (by omega) (by omega)).mpr z))
      obtain ⟨fi, hi⟩ := hrows i hlt
      have hi := hi.ot o9 (hfq i hlt)
      refine u_aload_n C dX2_with_16 rfl ?_
      refine u_iload_n C dX2_with_17 rfl ?_
      refine u_aload_n C dX2_with_18 rfl ?_
      refine u_iload_n C dX2_with_19 rfl ?_
      refine u_aald C (ra) rfl (by omega : i < n0) (by omega) rfl dX2_with_20 ?_
      refine u_aast C (rm1) (hi) rfl (by omega) (by omega) dX2_with_21 (fun D1 o1 r1 => ?_)
      have ra2 := ra.ot o1 haq
      have o8 : Ot D D1 q := fun z hz => (o1 z hz).trans (o9 z hz)
      have rm2 : RA g D1 q (n0 + 1) (fW n0 f b (i + 1)) := r1.ext (fun j hj => by unfold fW; split <;> grind)
      refine u_iinc C (v := nI (i + 1)) (lo' := [(3, _), (2, _), (0, _), (1, _)]) dX2_with_22 rfl (nI_inc _) (by decide) rfl ?_
      refine u_goto C (tgt := 10) dX2_with_25 (by decide) ?_
      exact ih (i + 1) _ (by omega) (by omega) ra2 rm2 o8
set_option maxHeartbeats 1000000 in
set_option maxRecDepth 100000 in
theorem qs_with (l : Launch) (g : GT) (M : Mem) (D : DM) {n0 a b : Nat} {f : Nat → Nat} (hn : n0 ≤ 40) (ra : RA g D a n0 (fun j => some (f j))) (hlast : ∃ fl, IA g D b 4 fl) (hrows : ∀ i, i < n0 → ∃ fi, IA g D (f i) 4 fi) : CU l yX2_with cX2_with 4 (some (.array (.array .int))) rmX2_with g M D [.ref a, .ref b] (fun r M1 D1 => M1 = M ∧ ∃ q, r = some (.ref q) ∧ D q = none ∧ Ot D D1 q ∧ RA g D1 q (n0 + 1) (fun j => if j = n0 then some b else some (f j))) := by
  refine CU.of (by decide) (Nat.le_of_ble_eq_true rfl) (fun X C hq => ?_)
  have C : Cx X g l cX2_with 4 RX2 (some (.array (.array .int))) rmX2_with := C
  show UX X g 0 0 0 [(0, .ref a), (1, .ref b)] [] M D
  refine u_aload_n C dX2_with_0 rfl ?_
  refine u_ralen C (ra) dX2_with_1 ?_
  refine u_iconst C (v := 1) dX2_with_2 (by decide) ?_
  refine u_iadd C dX2_with_3 ?_
  refine u_newR C (by decide +kernel) (N := (n0 + 1)) (nI_1 n0) (by omega) ⟨by decide, by show 0 + (n0 + 1) ≤ 41; omega⟩ dX2_with_4 (fun qmade D1 z1 o1 r1 => ?_)
  have hle := Le.ot o1 z1
  refine u_astore_n C (lo' := [(2, _), (0, _), (1, _)]) dX2_with_7 (by decide) rfl ?_
  refine u_iconst C (v := 0) dX2_with_8 (by decide) ?_
  refine u_istore_n C (lo' := [(3, _), (2, _), (0, _), (1, _)]) dX2_with_9 (by decide) rfl ?_
  have haq : a ≠ qmade := fun e => ra.some (by rw [e]; exact z1)
  have hbq : b ≠ qmade := fun e => by
    obtain ⟨fl, hl⟩ := hlast
    exact hl.some (by rw [e]; exact z1)
  refine u_widen (kc' := 1) (ks' := n0 + 1) (by omega) (by omega) ?_
  exact u_lsub [0, 1, 2, 3] rfl (qs_with_lp hn haq hbq (hlast.imp (fun _ z => z.le hle)) (fun i hi => (hrows i hi).imp (fun _ z => z.le hle)) (fun i hi e => by
    obtain ⟨fi, z⟩ := hrows i hi
    exact z.some (by rw [e]; exact z1)) (fun D2 o9 r9 => ⟨rfl, qmade, rfl, z1, fun z hz => (o9 z hz).trans (o1 z hz), r9⟩) C hq (n0 + 1) 0 _ (Nat.zero_le _) (by omega) (ra.le hle) (r1.ext (fun j hj => by unfold fW; rw [if_neg (by omega), if_neg (by omega)])) (fun _ _ => rfl))
