/-! The class's checksum, walked. -/
abbrev rmX1_mix : Room := { frames := 0, cells := 0, slots := 0, locals := 0 }
set_option maxHeartbeats 1000000 in
set_option maxRecDepth 100000 in
theorem q1_mix (l : Launch) (g : GT) (M : Mem) (d : Int64) (v : Int32) : CM l yX1_mix cX1_mix 3 (some .long) rmX1_mix g M [.long d, .int v] (some (.long (mx d v))) (M) := by
  refine CM.of (by decide) (Nat.le_of_ble_eq_true rfl) (fun X C hq => ?_)
  have C : Cx X g l cX1_mix 3 RX1 (some .long) rmX1_mix := C
  show V X g 0 0 0 [(0, .long d), (2, .int v)] [] M
  refine x_lload_n C dX1_mix_0 rfl ?_
  refine x_ldc2 C dX1_mix_1 ll_X1_241 ?_
  refine x_lmul C dX1_mix_4 ?_
  refine x_iload_n C dX1_mix_5 rfl ?_
  refine x_i2l C dX1_mix_6 ?_
  refine x_ladd C dX1_mix_7 ?_
  exact x_lret C hq ⟨by decide, by decide⟩ dX1_mix_8 (rfl) (rfl)
def cQm (M : Mem) : Mem := cRun 15 3 99 (cCopy M)
def cQn (M : Mem) : Int32 := nI (cCnt 15 3 99 (cCopy M))
def cCm (M : Mem) : Mem := cBM (cCopy (cQm M)) 30 32
def cDA (d : Int64) (M : Mem) : Int64 := mx (mx (mx (mx (mx (mx (mx (mx d (M 1 0)) (M 1 1)) (M 1 2)) (M 1 3)) (M 1 4)) (M 1 5)) (cQn M)) (cBest (cCopy (cQm M)) 30 32)
theorem cQm_fr (M : Mem) : cFr 15 M (cQm M) := (cCopy_fr M).tr (cRun_fr _ _ _ _)
theorem cCm_fr (M : Mem) : cFr 15 M (cCm M) := ((cQm_fr M).tr (cCopy_fr _)).tr (cBM_fr _ _ _)
abbrev rmX1_digestCounts : Room := { frames := 5, cells := 0, slots := 0, locals := 109 }
set_option maxHeartbeats 1000000 in
set_option maxRecDepth 100000 in
theorem q1_digestCounts (l : Launch) (g : GT) (M : Mem) (h : cOK 1 M) (d : Int64) : CM l yX1_digestCounts cX1_digestCounts 5 (some .long) rmX1_digestCounts g M [.ref (ga g 0), .long d] (some (.long (cDA d M))) (cCm M) := by
  refine CM.of (by decide) (Nat.le_of_ble_eq_true rfl) (fun X C hq => ?_)
  have C : Cx X g l cX1_digestCounts 5 RX1 (some .long) rmX1_digestCounts := C
  show V X g 0 0 0 [(0, .ref (ga g 0)), (1, .long d)] [] M
  refine x_lload_n C dX1_digestCounts_0 rfl ?_
  refine x_aload_n C dX1_digestCounts_1 rfl ?_
  refine x_callV0r C (q1_beat l g _) cd_X1_beat kl_X1_168 ci1 rfl (by decide) (as := []) rfl rfl ⟨⟨by decide, by decide⟩, by decide, by decide⟩ ⟨rfl, rfl⟩ (Nat.le_of_ble_eq_true rfl) dX1_digestCounts_2 ?_
  refine x_callS0r C (q1_mix l g _ _ _) cd_X1_mix kl_X1_172 (as := [_, _]) rfl rfl ⟨⟨by decide, by decide⟩, by decide, by decide⟩ ⟨rfl, rfl⟩ (Nat.le_of_ble_eq_true rfl) dX1_digestCounts_5 ?_
  refine x_lstore_n C (lo' := [(3, _), (0, _), (1, _)]) dX1_digestCounts_8 (by decide) rfl ?_
  refine x_lload_n C dX1_digestCounts_9 rfl ?_
  refine x_aload_n C dX1_digestCounts_10 rfl ?_
  refine x_callV0r C (q1_walls l g _) cd_X1_walls kl_X1_176 ci1 rfl (by decide) (as := []) rfl rfl ⟨⟨by decide, by decide⟩, by decide, by decide⟩ ⟨rfl, rfl⟩ (Nat.le_of_ble_eq_true rfl) dX1_digestCounts_11 ?_
  refine x_callS0r C (q1_mix l g _ _ _) cd_X1_mix kl_X1_172 (as := [_, _]) rfl rfl ⟨⟨by decide, by decide⟩, by decide, by decide⟩ ⟨rfl, rfl⟩ (Nat.le_of_ble_eq_true rfl) dX1_digestCounts_14 ?_
  refine x_lstore_n C (lo' := [(3, _), (0, _), (1, _)]) dX1_digestCounts_17 (by decide) rfl ?_
  refine x_lload_n C dX1_digestCounts_18 rfl ?_
  refine x_aload_n C dX1_digestCounts_19 rfl ?_
  refine x_callV0r C (q1_shouts l g _) cd_X1_shouts kl_X1_179 ci1 rfl (by decide) (as := []) rfl rfl ⟨⟨by decide, by decide⟩, by decide, by decide⟩ ⟨rfl, rfl⟩ (Nat.le_of_ble_eq_true rfl) dX1_digestCounts_20 ?_
  refine x_callS0r C (q1_mix l g _ _ _) cd_X1_mix kl_X1_172 (as := [_, _]) rfl rfl ⟨⟨by decide, by decide⟩, by decide, by decide⟩ ⟨rfl, rfl⟩ (Nat.le_of_ble_eq_true rfl) dX1_digestCounts_23 ?_
  refine x_lstore_n C (lo' := [(3, _), (0, _), (1, _)]) dX1_digestCounts_26 (by decide) rfl ?_
  refine x_lload_n C dX1_digestCounts_27 rfl ?_
  refine x_aload_n C dX1_digestCounts_28 rfl ?_
  refine x_callV0r C (q1_underWay l g _) cd_X1_underWay kl_X1_182 ci1 rfl (by decide) (as := []) rfl rfl ⟨⟨by decide, by decide⟩, by decide, by decide⟩ ⟨rfl, rfl⟩ (Nat.le_of_ble_eq_true rfl) dX1_digestCounts_29 ?_
  refine x_callS0r C (q1_mix l g _ _ _) cd_X1_mix kl_X1_172 (as := [_, _]) rfl rfl ⟨⟨by decide, by decide⟩, by decide, by decide⟩ ⟨rfl, rfl⟩ (Nat.le_of_ble_eq_true rfl) dX1_digestCounts_32 ?_
  refine x_lstore_n C (lo' := [(3, _), (0, _), (1, _)]) dX1_digestCounts_35 (by decide) rfl ?_
  refine x_lload_n C dX1_digestCounts_36 rfl ?_
  refine x_aload_n C dX1_digestCounts_37 rfl ?_
  refine x_callV0r C (q1_overlaps l g _) cd_X1_overlaps kl_X1_185 ci1 rfl (by decide) (as := []) rfl rfl ⟨⟨by decide, by decide⟩, by decide, by decide⟩ ⟨rfl, rfl⟩ (Nat.le_of_ble_eq_true rfl) dX1_digestCounts_38 ?_
  refine x_callS0r C (q1_mix l g _ _ _) cd_X1_mix kl_X1_172 (as := [_, _]) rfl rfl ⟨⟨by decide, by decide⟩, by decide, by decide⟩ ⟨rfl, rfl⟩ (Nat.le_of_ble_eq_true rfl) dX1_digestCounts_41 ?_
  refine x_lstore_n C (lo' := [(3, _), (0, _), (1, _)]) dX1_digestCounts_44 (by decide) rfl ?_
  refine x_lload_n C dX1_digestCounts_45 rfl ?_
  refine x_aload_n C dX1_digestCounts_46 rfl ?_
  refine x_callV0r C (q1_inherited l g _) cd_X1_inherited kl_X1_188 ci1 rfl (by decide) (as := []) rfl rfl ⟨⟨by decide, by decide⟩, by decide, by decide⟩ ⟨rfl, rfl⟩ (Nat.le_of_ble_eq_true rfl) dX1_digestCounts_47 ?_
  refine x_callS0r C (q1_mix l g _ _ _) cd_X1_mix kl_X1_172 (as := [_, _]) rfl rfl ⟨⟨by decide, by decide⟩, by decide, by decide⟩ ⟨rfl, rfl⟩ (Nat.le_of_ble_eq_true rfl) dX1_digestCounts_50 ?_
  refine x_lstore_n C (lo' := [(3, _), (0, _), (1, _)]) dX1_digestCounts_53 (by decide) rfl ?_
  refine x_lload_n C dX1_digestCounts_54 rfl ?_
  refine x_aload_n C dX1_digestCounts_55 rfl ?_
  refine x_callV0r C (q1_beatsUntilQuiet l g _ h) cd_X1_beatsUntilQuiet kl_X1_191 ci1 rfl (by decide) (as := []) rfl rfl ⟨⟨by decide, by decide⟩, by decide, by decide⟩ ⟨rfl, rfl⟩ (Nat.le_of_ble_eq_true rfl) dX1_digestCounts_56 ?_
  refine x_mem (M' := cQm M) rfl ?_
  refine x_callS0r C (q1_mix l g _ _ _) cd_X1_mix kl_X1_172 (as := [_, _]) rfl rfl ⟨⟨by decide, by decide⟩, by decide, by decide⟩ ⟨rfl, rfl⟩ (Nat.le_of_ble_eq_true rfl) dX1_digestCounts_59 ?_
  refine x_lstore_n C (lo' := [(3, _), (0, _), (1, _)]) dX1_digestCounts_62 (by decide) rfl ?_
  refine x_lload_n C dX1_digestCounts_63 rfl ?_
  refine x_aload_n C dX1_digestCounts_64 rfl ?_
  refine x_bipush C (v := 30) dX1_digestCounts_65 (by decide) ?_
  refine x_callV0r C (q1_bestStone l g _ (h.fr15 (cQm_fr M)) 30 (by decide)) cd_X1_bestStone kl_X1_194 ci1 rfl (by decide) (as := [_]) rfl rfl ⟨⟨by decide, by decide⟩, by decide, by decide⟩ ⟨rfl, rfl⟩ (Nat.le_of_ble_eq_true rfl) dX1_digestCounts_67 ?_
  refine x_callS0r C (q1_mix l g _ _ _) cd_X1_mix kl_X1_172 (as := [_, _]) rfl rfl ⟨⟨by decide, by decide⟩, by decide, by decide⟩ ⟨rfl, rfl⟩ (Nat.le_of_ble_eq_true rfl) dX1_digestCounts_70 ?_
  exact x_lret C hq ⟨by decide, by decide⟩ dX1_digestCounts_73 (rfl) (rfl)
def cEM (M : Mem) : Nat → Mem
  | 0 => M
  | e + 1 => cRun 15 3 (tn 20) (cCopy (cEM M e))
def cErn (M : Mem) (e : Nat) : Int32 := cRun 15 3 (tn 20) (cCopy M) 23 (tn (nI e)) - cRun 15 3 (tn 20) (cCopy M) 9 (tn (nI e))
def cDB (d : Int64) (M : Mem) : Nat → Int64
  | 0 => d
  | e + 1 => mx (mx (mx (mx (cDB d M e) (cEM M e 9 (tn (nI e)))) (cWO (cEM M e) (nI e))) (cEM M e 10 (tn (nI e)))) (cErn (cEM M e) e)
theorem cEM_fr (M : Mem) : ∀ e, cFr 15 M (cEM M e)
  | 0 => cFr.rf
  | e + 1 => ((cEM_fr M e).tr (cCopy_fr _)).tr (cRun_fr _ _ _ _)
def cDC (d : Int64) (M : Mem) : Nat → Int64
  | 0 => d
  | w + 1 => mx (mx (mx (cDC d M w) (M 5 (tn (nI w)))) (M 6 (tn (nI w)))) (M 8 (tn (nI w)))
def cDD (d : Int64) (M : Mem) : Nat → Int64
  | 0 => d
  | k + 1 => mx (mx (mx (mx (cDD d M k) (M 11 (tn (nI k)))) (M 12 (tn (nI k)))) (b2i (0 < M 13 (tn (nI k))))) (M 14 (tn (nI k)))
def cNW (M : Mem) (s r : Int32) : Int32 := cNx M (if r = 0 then -1 else 1) 34 (s + (if r = 0 then -1 else 1))
def cDE (d : Int64) (M : Mem) : Nat → Int64
  | 0 => d
  | s + 1 => mx (mx (mx (cDE d M s) (M 2 (tn (nI s)))) (cLA 1 M (nI s))) (cNW M (nI s) 1)
theorem c_in {b : Nat} {M : Mem} {x : Int32} (h0 : 0 ≤ x) (h : x ≤ 40) {k : Nat} (hk : k < tn x) : 0 ≤ nI k ∧ nI k < x := by
  have h2 : tn x ≤ 40 := tn_le (n := 40) h0 (by decide) h
  exact ⟨nI_pos' (by omega), by rw [nI_tn h0]; exact nI_lt hk (by omega)⟩
abbrev rmX1_digestEchoes : Room := { frames := 5, cells := 0, slots := 0, locals := 111 }
abbrev rmX1_digestWalls : Room := { frames := 2, cells := 0, slots := 0, locals := 42 }
abbrev rmX1_digestShouts : Room := { frames := 2, cells := 0, slots := 0, locals := 42 }
abbrev rmX1_digestStones : Room := { frames := 3, cells := 0, slots := 0, locals := 64 }
set_option maxHeartbeats 1000000 in
set_option maxRecDepth 100000 in
theorem q1_dig_B {X : XT} {l : Launch} {g : GT} {M : Mem} {d : Int64} (h : cOK 1 M) (C : Cx X g l cX1_digestEchoes 6 RX1 (some .long) rmX1_digestEchoes) (hq : Rt X g rmX1_digestEchoes (some (.long (cDB d M 2))) (cEM M 2)) : ∀ (n i : Nat), i ≤ 2 → 2 + 1 ≤ i + n → V X g 0 0 5 [(5, .int (nI i)), (3, .long (cDB d M i)), (0, .ref (ga g 0)), (1, .long d)] [] (cEM M i) := by
  intro n
  induction n with
  | zero =>
    intro i h1 h2; omega
  | succ n ih =>
    intro i h1 h2
    refine x_iload C dX1_digestEchoes_5 rfl ?_
    refine x_iconst C (v := 2) dX1_digestEchoes_7 (by decide) ?_
    refine x_icmp_ge C (tgt := 63) dX1_digestEchoes_8 (by decide) (fun c8 => ?_) (fun c8 => ?_)
    · have he : i = 2 := by
        have z := (nI_leI (a := 2) (b := i) (by decide) (by omega)).mp c8
        omega
      subst he
      refine x_lload_n C dX1_digestEchoes_63 rfl ?_
      exact x_lret C hq ⟨by decide, by decide⟩ dX1_digestEchoes_64 (rfl) (rfl)
    · have hlt : i < 2 := Nat.lt_of_not_le (fun z => c8 (nI_le (a := 2) z (by omega)))
      have hk := h.fr15 (cEM_fr M i)
      have hi : 0 ≤ nI i ∧ nI i ≤ 1 := ⟨nI_pos' (by omega), nI_le (b := 1) (by omega) (by decide)⟩
      refine x_lload_n C dX1_digestEchoes_11 rfl ?_
      refine x_aload_n C dX1_digestEchoes_12 rfl ?_
      refine x_iload C dX1_digestEchoes_13 rfl ?_
      refine x_callV0r C (q1_coinsOf l g _ (nI i) hi) cd_X1_coinsOf kl_X1_197 ci1 rfl (by decide) (as := [_]) rfl rfl ⟨⟨by decide, by decide⟩, by decide, by decide⟩ ⟨rfl, rfl⟩ (Nat.le_of_ble_eq_true rfl) dX1_digestEchoes_15 ?_
      refine x_callS0r C (q1_mix l g _ _ _) cd_X1_mix kl_X1_172 (as := [_, _]) rfl rfl ⟨⟨by decide, by decide⟩, by decide, by decide⟩ ⟨rfl, rfl⟩ (Nat.le_of_ble_eq_true rfl) dX1_digestEchoes_18 ?_
      refine x_lstore_n C (lo' := [(3, _), (5, _), (0, _), (1, _)]) dX1_digestEchoes_21 (by decide) rfl ?_
      refine x_lload_n C dX1_digestEchoes_22 rfl ?_
      refine x_aload_n C dX1_digestEchoes_23 rfl ?_
      refine x_iload C dX1_digestEchoes_24 rfl ?_
      refine x_callV0r C (q1_wallsOf l g _ hk (nI i) hi) cd_X1_wallsOf kl_X1_200 ci1 rfl (by decide) (as := [_]) rfl rfl ⟨⟨by decide, by decide⟩, by decide, by decide⟩ ⟨rfl, rfl⟩ (Nat.le_of_ble_eq_true rfl) dX1_digestEchoes_26 ?_
      refine x_callS0r C (q1_mix l g _ _ _) cd_X1_mix kl_X1_172 (as := [_, _]) rfl rfl ⟨⟨by decide, by decide⟩, by decide, by decide⟩ ⟨rfl, rfl⟩ (Nat.le_of_ble_eq_true rfl) dX1_digestEchoes_29 ?_
      refine x_lstore_n C (lo' := [(3, _), (5, _), (0, _), (1, _)]) dX1_digestEchoes_32 (by decide) rfl ?_
      refine x_lload_n C dX1_digestEchoes_33 rfl ?_
      refine x_aload_n C dX1_digestEchoes_34 rfl ?_
      refine x_iload C dX1_digestEchoes_35 rfl ?_
      refine x_callV0r C (q1_silentFor l g _ (nI i) hi) cd_X1_silentFor kl_X1_203 ci1 rfl (by decide) (as := [_]) rfl rfl ⟨⟨by decide, by decide⟩, by decide, by decide⟩ ⟨rfl, rfl⟩ (Nat.le_of_ble_eq_true rfl) dX1_digestEchoes_37 ?_
      refine x_callS0r C (q1_mix l g _ _ _) cd_X1_mix kl_X1_172 (as := [_, _]) rfl rfl ⟨⟨by decide, by decide⟩, by decide, by decide⟩ ⟨rfl, rfl⟩ (Nat.le_of_ble_eq_true rfl) dX1_digestEchoes_40 ?_
      refine x_lstore_n C (lo' := [(3, _), (5, _), (0, _), (1, _)]) dX1_digestEchoes_43 (by decide) rfl ?_
      refine x_lload_n C dX1_digestEchoes_44 rfl ?_
      refine x_aload_n C dX1_digestEchoes_45 rfl ?_
      refine x_iload C dX1_digestEchoes_46 rfl ?_
      refine x_bipush C (v := 20) dX1_digestEchoes_48 (by decide) ?_
      refine x_callV0r C (q1_coinsIn l g _ hk (nI i) 20 hi (by decide)) cd_X1_coinsIn kl_X1_206 ci1 rfl (by decide) (as := [_, _]) rfl rfl ⟨⟨by decide, by decide⟩, by decide, by decide⟩ ⟨rfl, rfl⟩ (Nat.le_of_ble_eq_true rfl) dX1_digestEchoes_50 ?_
      refine x_callS0r C (q1_mix l g _ _ _) cd_X1_mix kl_X1_172 (as := [_, _]) rfl rfl ⟨⟨by decide, by decide⟩, by decide, by decide⟩ ⟨rfl, rfl⟩ (Nat.le_of_ble_eq_true rfl) dX1_digestEchoes_53 ?_
      refine x_lstore_n C (lo' := [(3, _), (5, _), (0, _), (1, _)]) dX1_digestEchoes_56 (by decide) rfl ?_
      refine x_iinc C (v := nI (i + 1)) (lo' := [(5, _), (3, _), (0, _), (1, _)]) dX1_digestEchoes_57 rfl (nI_inc _) (by decide) rfl ?_
      refine x_goto C (tgt := 5) dX1_digestEchoes_60 (by decide) ?_
      exact x_lsub [0, 1, 2, 3] rfl (ih (i + 1) hlt (by omega))
set_option maxHeartbeats 1000000 in
set_option maxRecDepth 100000 in
theorem q1_digestEchoes (l : Launch) (g : GT) (M : Mem) (h : cOK 1 M) (d : Int64) : CM l yX1_digestEchoes cX1_digestEchoes 6 (some .long) rmX1_digestEchoes g M [.ref (ga g 0), .long d] (some (.long (cDB d M 2))) (cEM M 2) := by
  refine CM.of (by decide) (Nat.le_of_ble_eq_true rfl) (fun X C hq => ?_)
  have C : Cx X g l cX1_digestEchoes 6 RX1 (some .long) rmX1_digestEchoes := C
  show V X g 0 0 0 [(0, .ref (ga g 0)), (1, .long d)] [] M
  refine x_lload_n C dX1_digestEchoes_0 rfl ?_
  refine x_lstore_n C (lo' := [(3, _), (0, _), (1, _)]) dX1_digestEchoes_1 (by decide) rfl ?_
  refine x_iconst C (v := 0) dX1_digestEchoes_2 (by decide) ?_
  refine x_istore C (lo' := [(5, _), (3, _), (0, _), (1, _)]) dX1_digestEchoes_3 (by decide) rfl ?_
  exact x_lsub [0, 1, 2, 3] rfl (q1_dig_B h C hq 3 0 (by decide) (by decide))
set_option maxHeartbeats 1000000 in
set_option maxRecDepth 100000 in
theorem q1_dig_C {X : XT} {l : Launch} {g : GT} {M : Mem} {d : Int64} (h : cOK 1 M) (C : Cx X g l cX1_digestWalls 6 RX1 (some .long) rmX1_digestWalls) (hq : Rt X g rmX1_digestWalls (some (.long (cDC d M (cWs 1 M)))) M) : ∀ (n i : Nat), i ≤ cWs 1 M → cWs 1 M + 1 ≤ i + n → V X g 0 0 5 [(5, .int (nI i)), (3, .long (cDC d M i)), (0, .ref (ga g 0)), (1, .long d)] [] M := by
  intro n
  induction n with
  | zero =>
    intro i h1 h2; omega
  | succ n ih =>
    intro i h1 h2
    have hws := h.ws
    refine x_iload C dX1_digestWalls_5 rfl ?_
    refine x_aload_n C dX1_digestWalls_7 rfl ?_
    refine x_getR C fl_X1_10 rfl (by decide) rfl dX1_digestWalls_8 ?_
    refine x_getI C fl_X1_33 rfl (by decide) rfl dX1_digestWalls_11 ?_
    refine x_icmp_ge C (tgt := 56) dX1_digestWalls_14 (by decide) (fun c14 => ?_) (fun c14 => ?_)
    · have he : i = cWs 1 M := Nat.le_antisymm h1 ((ge_tn h.1.1 (by omega)).mp c14)
      subst he
      refine x_lload_n C dX1_digestWalls_56 rfl ?_
      exact x_lret C hq ⟨by decide, by decide⟩ dX1_digestWalls_57 (rfl) (rfl)
    · have hlt : i < cWs 1 M := lt_of_nge h.1.1 (by omega) c14
      have hi := c_in (b := 1) (M := M) h.1.1 (Int32.le_trans h.1.2 (by decide)) hlt
      refine x_lload_n C dX1_digestWalls_17 rfl ?_
      refine x_aload_n C dX1_digestWalls_18 rfl ?_
      refine x_iload C dX1_digestWalls_19 rfl ?_
      refine x_callV0r C (q1_stoneOf l g _ h (nI i) hi) cd_X1_stoneOf kl_X1_209 ci1 rfl (by decide) (as := [_]) rfl rfl ⟨⟨by decide, by decide⟩, by decide, by decide⟩ ⟨rfl, rfl⟩ (Nat.le_of_ble_eq_true rfl) dX1_digestWalls_21 ?_
      refine x_callS0r C (q1_mix l g _ _ _) cd_X1_mix kl_X1_172 (as := [_, _]) rfl rfl ⟨⟨by decide, by decide⟩, by decide, by decide⟩ ⟨rfl, rfl⟩ (Nat.le_of_ble_eq_true rfl) dX1_digestWalls_24 ?_
      refine x_lstore_n C (lo' := [(3, _), (5, _), (0, _), (1, _)]) dX1_digestWalls_27 (by decide) rfl ?_
      refine x_lload_n C dX1_digestWalls_28 rfl ?_
      refine x_aload_n C dX1_digestWalls_29 rfl ?_
      refine x_iload C dX1_digestWalls_30 rfl ?_
      refine x_callV0r C (q1_ownerOf l g _ h (nI i) hi) cd_X1_ownerOf kl_X1_212 ci1 rfl (by decide) (as := [_]) rfl rfl ⟨⟨by decide, by decide⟩, by decide, by decide⟩ ⟨rfl, rfl⟩ (Nat.le_of_ble_eq_true rfl) dX1_digestWalls_32 ?_
      refine x_callS0r C (q1_mix l g _ _ _) cd_X1_mix kl_X1_172 (as := [_, _]) rfl rfl ⟨⟨by decide, by decide⟩, by decide, by decide⟩ ⟨rfl, rfl⟩ (Nat.le_of_ble_eq_true rfl) dX1_digestWalls_35 ?_
      refine x_lstore_n C (lo' := [(3, _), (5, _), (0, _), (1, _)]) dX1_digestWalls_38 (by decide) rfl ?_
      refine x_lload_n C dX1_digestWalls_39 rfl ?_
      refine x_aload_n C dX1_digestWalls_40 rfl ?_
      refine x_iload C dX1_digestWalls_41 rfl ?_
      refine x_callV0r C (q1_thrownBack l g _ h (nI i) hi) cd_X1_thrownBack kl_X1_215 ci1 rfl (by decide) (as := [_]) rfl rfl ⟨⟨by decide, by decide⟩, by decide, by decide⟩ ⟨rfl, rfl⟩ (Nat.le_of_ble_eq_true rfl) dX1_digestWalls_43 ?_
      refine x_callS0r C (q1_mix l g _ _ _) cd_X1_mix kl_X1_172 (as := [_, _]) rfl rfl ⟨⟨by decide, by decide⟩, by decide, by decide⟩ ⟨rfl, rfl⟩ (Nat.le_of_ble_eq_true rfl) dX1_digestWalls_46 ?_
      refine x_lstore_n C (lo' := [(3, _), (5, _), (0, _), (1, _)]) dX1_digestWalls_49 (by decide) rfl ?_
      refine x_iinc C (v := nI (i + 1)) (lo' := [(5, _), (3, _), (0, _), (1, _)]) dX1_digestWalls_50 rfl (nI_inc _) (by decide) rfl ?_
      refine x_goto C (tgt := 5) dX1_digestWalls_53 (by decide) ?_
      exact x_lsub [0, 1, 2, 3] rfl (ih (i + 1) hlt (by omega))
set_option maxHeartbeats 1000000 in
set_option maxRecDepth 100000 in
theorem q1_digestWalls (l : Launch) (g : GT) (M : Mem) (h : cOK 1 M) (d : Int64) : CM l yX1_digestWalls cX1_digestWalls 6 (some .long) rmX1_digestWalls g M [.ref (ga g 0), .long d] (some (.long (cDC d M (cWs 1 M)))) (M) := by
  refine CM.of (by decide) (Nat.le_of_ble_eq_true rfl) (fun X C hq => ?_)
  have C : Cx X g l cX1_digestWalls 6 RX1 (some .long) rmX1_digestWalls := C
  show V X g 0 0 0 [(0, .ref (ga g 0)), (1, .long d)] [] M
  refine x_lload_n C dX1_digestWalls_0 rfl ?_
  refine x_lstore_n C (lo' := [(3, _), (0, _), (1, _)]) dX1_digestWalls_1 (by decide) rfl ?_
  refine x_iconst C (v := 0) dX1_digestWalls_2 (by decide) ?_
  refine x_istore C (lo' := [(5, _), (3, _), (0, _), (1, _)]) dX1_digestWalls_3 (by decide) rfl ?_
  exact x_lsub [0, 1, 2, 3] rfl (q1_dig_C h C hq (cWs 1 M + 1) 0 (Nat.zero_le _) (by omega))
set_option maxHeartbeats 1000000 in
set_option maxRecDepth 100000 in
theorem q1_dig_D {X : XT} {l : Launch} {g : GT} {M : Mem} {d : Int64} (h : cOK 1 M) (C : Cx X g l cX1_digestShouts 6 RX1 (some .long) rmX1_digestShouts) (hq : Rt X g rmX1_digestShouts (some (.long (cDD d M (cSh 1 M)))) M) : ∀ (n i : Nat), i ≤ cSh 1 M → cSh 1 M + 1 ≤ i + n → V X g 0 0 5 [(5, .int (nI i)), (3, .long (cDD d M i)), (0, .ref (ga g 0)), (1, .long d)] [] M := by
  intro n
  induction n with
  | zero =>
    intro i h1 h2; omega
  | succ n ih =>
    intro i h1 h2
    have hsh := h.sh
    refine x_iload C dX1_digestShouts_5 rfl ?_
    refine x_aload_n C dX1_digestShouts_7 rfl ?_
    refine x_getR C fl_X1_10 rfl (by decide) rfl dX1_digestShouts_8 ?_
    refine x_getI C fl_X1_68 rfl (by decide) rfl dX1_digestShouts_11 ?_
    refine x_icmp_ge C (tgt := 75) dX1_digestShouts_14 (by decide) (fun c14 => ?_) (fun c14 => ?_)
    · have he : i = cSh 1 M := Nat.le_antisymm h1 ((ge_tn h.2.1.1 (by omega)).mp c14)
      subst he
      refine x_lload_n C dX1_digestShouts_75 rfl ?_
      exact x_lret C hq ⟨by decide, by decide⟩ dX1_digestShouts_76 (rfl) (rfl)
    · have hlt : i < cSh 1 M := lt_of_nge h.2.1.1 (by omega) c14
      have hi := c_in (b := 1) (M := M) h.2.1.1 h.2.1.2 hlt
      refine x_lload_n C dX1_digestShouts_17 rfl ?_
      refine x_aload_n C dX1_digestShouts_18 rfl ?_
      refine x_iload C dX1_digestShouts_19 rfl ?_
      refine x_callV0r C (q1_loudnessOf l g _ h (nI i) hi) cd_X1_loudnessOf kl_X1_218 ci1 rfl (by decide) (as := [_]) rfl rfl ⟨⟨by decide, by decide⟩, by decide, by decide⟩ ⟨rfl, rfl⟩ (Nat.le_of_ble_eq_true rfl) dX1_digestShouts_21 ?_
      refine x_callS0r C (q1_mix l g _ _ _) cd_X1_mix kl_X1_172 (as := [_, _]) rfl rfl ⟨⟨by decide, by decide⟩, by decide, by decide⟩ ⟨rfl, rfl⟩ (Nat.le_of_ble_eq_true rfl) dX1_digestShouts_24 ?_
      refine x_lstore_n C (lo' := [(3, _), (5, _), (0, _), (1, _)]) dX1_digestShouts_27 (by decide) rfl ?_
      refine x_lload_n C dX1_digestShouts_28 rfl ?_
      refine x_aload_n C dX1_digestShouts_29 rfl ?_
      refine x_iload C dX1_digestShouts_30 rfl ?_
      refine x_callV0r C (q1_placeOf l g _ h (nI i) hi) cd_X1_placeOf kl_X1_221 ci1 rfl (by decide) (as := [_]) rfl rfl ⟨⟨by decide, by decide⟩, by decide, by decide⟩ ⟨rfl, rfl⟩ (Nat.le_of_ble_eq_true rfl) dX1_digestShouts_32 ?_
      refine x_callS0r C (q1_mix l g _ _ _) cd_X1_mix kl_X1_172 (as := [_, _]) rfl rfl ⟨⟨by decide, by decide⟩, by decide, by decide⟩ ⟨rfl, rfl⟩ (Nat.le_of_ble_eq_true rfl) dX1_digestShouts_35 ?_
      refine x_lstore_n C (lo' := [(3, _), (5, _), (0, _), (1, _)]) dX1_digestShouts_38 (by decide) rfl ?_
      refine x_lload_n C dX1_digestShouts_39 rfl ?_
      refine x_aload_n C dX1_digestShouts_40 rfl ?_
      refine x_iload C dX1_digestShouts_41 rfl ?_
      refine x_callV0r C (q1_goesRight l g _ h (nI i) hi) cd_X1_goesRight kl_X1_224 ci1 rfl (by decide) (as := [_]) rfl rfl ⟨⟨by decide, by decide⟩, by decide, by decide⟩ ⟨rfl, rfl⟩ (Nat.le_of_ble_eq_true rfl) dX1_digestShouts_43 ?_
      refine x_bif_eq C (tgt := 53) dX1_digestShouts_46 (by decide) (fun c46 => ?_) (fun c46 => ?_)
      · refine x_iconst C (v := 0) dX1_digestShouts_53 (by decide) ?_
        refine x_callS0r C (q1_mix l g _ _ _) cd_X1_mix kl_X1_172 (as := [_, _]) rfl rfl ⟨⟨by decide, by decide⟩, by decide, by decide⟩ ⟨rfl, rfl⟩ (Nat.le_of_ble_eq_true rfl) dX1_digestShouts_54 ?_
        refine x_lstore_n C (lo' := [(3, _), (5, _), (0, _), (1, _)]) dX1_digestShouts_57 (by decide) rfl ?_
        refine x_lload_n C dX1_digestShouts_58 rfl ?_
        refine x_aload_n C dX1_digestShouts_59 rfl ?_
        refine x_iload C dX1_digestShouts_60 rfl ?_
        refine x_callV0r C (q1_turnsOf l g _ h (nI i) hi) cd_X1_turnsOf kl_X1_228 ci1 rfl (by decide) (as := [_]) rfl rfl ⟨⟨by decide, by decide⟩, by decide, by decide⟩ ⟨rfl, rfl⟩ (Nat.le_of_ble_eq_true rfl) dX1_digestShouts_62 ?_
        refine x_callS0r C (q1_mix l g _ _ _) cd_X1_mix kl_X1_172 (as := [_, _]) rfl rfl ⟨⟨by decide, by decide⟩, by decide, by decide⟩ ⟨rfl, rfl⟩ (Nat.le_of_ble_eq_true rfl) dX1_digestShouts_65 ?_
        refine x_lstore_n C (lo' := [(3, _), (5, _), (0, _), (1, _)]) dX1_digestShouts_68 (by decide) rfl ?_
        refine x_iinc C (v := nI (i + 1)) (lo' := [(5, _), (3, _), (0, _), (1, _)]) dX1_digestShouts_69 rfl (nI_inc _) (by decide) rfl ?_
        refine x_goto C (tgt := 5) dX1_digestShouts_72 (by decide) ?_
        first
          | (have e : cDD d M (i + 1) = mx (mx (mx (mx (cDD d M i) (M 11 (tn (nI i)))) (M 12 (tn (nI i)))) 1) (M 14 (tn (nI i))) := congrArg (fun z => mx (mx (mx (mx (cDD d M i) (M 11 (tn (nI i)))) (M 12 (tn (nI i)))) z) (M 14 (tn (nI i)))) (b2i_t c46)
             have z := ih (i + 1) hlt (by omega)
             rw [e] at z
             exact x_lsub [0, 1, 2, 3] rfl z)
          | (have e : cDD d M (i + 1) = mx (mx (mx (mx (cDD d M i) (M 11 (tn (nI i)))) (M 12 (tn (nI i)))) 0) (M 14 (tn (nI i))) := congrArg (fun z => mx (mx (mx (mx (cDD d M i) (M 11 (tn (nI i)))) (M 12 (tn (nI i)))) z) (M 14 (tn (nI i)))) (b2i_f c46)
             have z := ih (i + 1) hlt (by omega)
             rw [e] at z
             exact x_lsub [0, 1, 2, 3] rfl z)
      · refine x_iconst C (v := 1) dX1_digestShouts_49 (by decide) ?_
        refine x_goto C (tgt := 54) dX1_digestShouts_50 (by decide) ?_
        refine x_callS0r C (q1_mix l g _ _ _) cd_X1_mix kl_X1_172 (as := [_, _]) rfl rfl ⟨⟨by decide, by decide⟩, by decide, by decide⟩ ⟨rfl, rfl⟩ (Nat.le_of_ble_eq_true rfl) dX1_digestShouts_54 ?_
        refine x_lstore_n C (lo' := [(3, _), (5, _), (0, _), (1, _)]) dX1_digestShouts_57 (by decide) rfl ?_
        refine x_lload_n C dX1_digestShouts_58 rfl ?_
        refine x_aload_n C dX1_digestShouts_59 rfl ?_
        refine x_iload C dX1_digestShouts_60 rfl ?_
        refine x_callV0r C (q1_turnsOf l g _ h (nI i) hi) cd_X1_turnsOf kl_X1_228 ci1 rfl (by decide) (as := [_]) rfl rfl ⟨⟨by decide, by decide⟩, by decide, by decide⟩ ⟨rfl, rfl⟩ (Nat.le_of_ble_eq_true rfl) dX1_digestShouts_62 ?_
        refine x_callS0r C (q1_mix l g _ _ _) cd_X1_mix kl_X1_172 (as := [_, _]) rfl rfl ⟨⟨by decide, by decide⟩, by decide, by decide⟩ ⟨rfl, rfl⟩ (Nat.le_of_ble_eq_true rfl) dX1_digestShouts_65 ?_
        refine x_lstore_n C (lo' := [(3, _), (5, _), (0, _), (1, _)]) dX1_digestShouts_68 (by decide) rfl ?_
        refine x_iinc C (v := nI (i + 1)) (lo' := [(5, _), (3, _), (0, _), (1, _)]) dX1_digestShouts_69 rfl (nI_inc _) (by decide) rfl ?_
        refine x_goto C (tgt := 5) dX1_digestShouts_72 (by decide) ?_
        first
          | (have e : cDD d M (i + 1) = mx (mx (mx (mx (cDD d M i) (M 11 (tn (nI i)))) (M 12 (tn (nI i)))) 1) (M 14 (tn (nI i))) := congrArg (fun z => mx (mx (mx (mx (cDD d M i) (M 11 (tn (nI i)))) (M 12 (tn (nI i)))) z) (M 14 (tn (nI i)))) (b2i_t c46)
             have z := ih (i + 1) hlt (by omega)
             rw [e] at z
             exact x_lsub [0, 1, 2, 3] rfl z)
          | (have e : cDD d M (i + 1) = mx (mx (mx (mx (cDD d M i) (M 11 (tn (nI i)))) (M 12 (tn (nI i)))) 0) (M 14 (tn (nI i))) := congrArg (fun z => mx (mx (mx (mx (cDD d M i) (M 11 (tn (nI i)))) (M 12 (tn (nI i)))) z) (M 14 (tn (nI i)))) (b2i_f c46)
             have z := ih (i + 1) hlt (by omega)
             rw [e] at z
             exact x_lsub [0, 1, 2, 3] rfl z)
set_option maxHeartbeats 1000000 in
set_option maxRecDepth 100000 in
theorem q1_digestShouts (l : Launch) (g : GT) (M : Mem) (h : cOK 1 M) (d : Int64) : CM l yX1_digestShouts cX1_digestShouts 6 (some .long) rmX1_digestShouts g M [.ref (ga g 0), .long d] (some (.long (cDD d M (cSh 1 M)))) (M) := by
  refine CM.of (by decide) (Nat.le_of_ble_eq_true rfl) (fun X C hq => ?_)
  have C : Cx X g l cX1_digestShouts 6 RX1 (some .long) rmX1_digestShouts := C
  show V X g 0 0 0 [(0, .ref (ga g 0)), (1, .long d)] [] M
  refine x_lload_n C dX1_digestShouts_0 rfl ?_
  refine x_lstore_n C (lo' := [(3, _), (0, _), (1, _)]) dX1_digestShouts_1 (by decide) rfl ?_
  refine x_iconst C (v := 0) dX1_digestShouts_2 (by decide) ?_
  refine x_istore C (lo' := [(5, _), (3, _), (0, _), (1, _)]) dX1_digestShouts_3 (by decide) rfl ?_
  exact x_lsub [0, 1, 2, 3] rfl (q1_dig_D h C hq (cSh 1 M + 1) 0 (Nat.zero_le _) (by omega))
set_option maxHeartbeats 1000000 in
set_option maxRecDepth 100000 in
theorem q1_dig_E {X : XT} {l : Launch} {g : GT} {M : Mem} {d : Int64} (h : cOK 1 M) (C : Cx X g l cX1_digestStones 6 RX1 (some .long) rmX1_digestStones) (hq : Rt X g rmX1_digestStones (some (.long (cDE d M 32))) M) : ∀ (n i : Nat), i ≤ 32 → 32 + 1 ≤ i + n → V X g 0 0 5 [(5, .int (nI i)), (3, .long (cDE d M i)), (0, .ref (ga g 0)), (1, .long d)] [] M := by
  intro n
  induction n with
  | zero =>
    intro i h1 h2; omega
  | succ n ih =>
    intro i h1 h2
    refine x_iload C dX1_digestStones_5 rfl ?_
    refine x_bipush C (v := 32) dX1_digestStones_7 (by decide) ?_
    refine x_icmp_ge C (tgt := 52) dX1_digestStones_9 (by decide) (fun c9 => ?_) (fun c9 => ?_)
    · have he : i = 32 := by
        have z := (nI_leI (a := 32) (b := i) (by decide) (by omega)).mp c9
        omega
      subst he
      refine x_lload_n C dX1_digestStones_52 rfl ?_
      exact x_lret C hq ⟨by decide, by decide⟩ dX1_digestStones_53 (rfl) (rfl)
    · have hlt : i < 32 := Nat.lt_of_not_le (fun z => c9 (nI_le (a := 32) z (by omega)))
      have hi : 0 ≤ nI i ∧ nI i ≤ 31 := ⟨nI_pos' (by omega), nI_le (b := 31) (by omega) (by decide)⟩
      refine x_lload_n C dX1_digestStones_12 rfl ?_
      refine x_aload_n C dX1_digestStones_13 rfl ?_
      refine x_iload C dX1_digestStones_14 rfl ?_
      refine x_callV0r C (q1_snowOn l g _ (nI i) hi) cd_X1_snowOn kl_X1_231 ci1 rfl (by decide) (as := [_]) rfl rfl ⟨⟨by decide, by decide⟩, by decide, by decide⟩ ⟨rfl, rfl⟩ (Nat.le_of_ble_eq_true rfl) dX1_digestStones_16 ?_
      refine x_callS0r C (q1_mix l g _ _ _) cd_X1_mix kl_X1_172 (as := [_, _]) rfl rfl ⟨⟨by decide, by decide⟩, by decide, by decide⟩ ⟨rfl, rfl⟩ (Nat.le_of_ble_eq_true rfl) dX1_digestStones_19 ?_
      refine x_lstore_n C (lo' := [(3, _), (5, _), (0, _), (1, _)]) dX1_digestStones_22 (by decide) rfl ?_
      refine x_lload_n C dX1_digestStones_23 rfl ?_
      refine x_aload_n C dX1_digestStones_24 rfl ?_
      refine x_iload C dX1_digestStones_25 rfl ?_
      refine x_callV0r C (q1_loudOn l g _ h (nI i) hi) cd_X1_loudOn kl_X1_234 ci1 rfl (by decide) (as := [_]) rfl rfl ⟨⟨by decide, by decide⟩, by decide, by decide⟩ ⟨rfl, rfl⟩ (Nat.le_of_ble_eq_true rfl) dX1_digestStones_27 ?_
      refine x_callS0r C (q1_mix l g _ _ _) cd_X1_mix kl_X1_172 (as := [_, _]) rfl rfl ⟨⟨by decide, by decide⟩, by decide, by decide⟩ ⟨rfl, rfl⟩ (Nat.le_of_ble_eq_true rfl) dX1_digestStones_30 ?_
      refine x_lstore_n C (lo' := [(3, _), (5, _), (0, _), (1, _)]) dX1_digestStones_33 (by decide) rfl ?_
      refine x_lload_n C dX1_digestStones_34 rfl ?_
      refine x_aload_n C dX1_digestStones_35 rfl ?_
      refine x_iload C dX1_digestStones_36 rfl ?_
      refine x_iconst C (v := 1) dX1_digestStones_38 (by decide) ?_
      refine x_callV0r C (q1_nextWall l g _ (nI i) 1 hi) cd_X1_nextWall kl_X1_237 ci1 rfl (by decide) (as := [_, _]) rfl rfl ⟨⟨by decide, by decide⟩, by decide, by decide⟩ ⟨rfl, rfl⟩ (Nat.le_of_ble_eq_true rfl) dX1_digestStones_39 ?_
      refine x_callS0r C (q1_mix l g _ _ _) cd_X1_mix kl_X1_172 (as := [_, _]) rfl rfl ⟨⟨by decide, by decide⟩, by decide, by decide⟩ ⟨rfl, rfl⟩ (Nat.le_of_ble_eq_true rfl) dX1_digestStones_42 ?_
      refine x_lstore_n C (lo' := [(3, _), (5, _), (0, _), (1, _)]) dX1_digestStones_45 (by decide) rfl ?_
      refine x_iinc C (v := nI (i + 1)) (lo' := [(5, _), (3, _), (0, _), (1, _)]) dX1_digestStones_46 rfl (nI_inc _) (by decide) rfl ?_
      refine x_goto C (tgt := 5) dX1_digestStones_49 (by decide) ?_
      exact x_lsub [0, 1, 2, 3] rfl (ih (i + 1) hlt (by omega))
set_option maxHeartbeats 1000000 in
set_option maxRecDepth 100000 in
theorem q1_digestStones (l : Launch) (g : GT) (M : Mem) (h : cOK 1 M) (d : Int64) : CM l yX1_digestStones cX1_digestStones 6 (some .long) rmX1_digestStones g M [.ref (ga g 0), .long d] (some (.long (cDE d M 32))) (M) := by
  refine CM.of (by decide) (Nat.le_of_ble_eq_true rfl) (fun X C hq => ?_)
  have C : Cx X g l cX1_digestStones 6 RX1 (some .long) rmX1_digestStones := C
  show V X g 0 0 0 [(0, .ref (ga g 0)), (1, .long d)] [] M
  refine x_lload_n C dX1_digestStones_0 rfl ?_
  refine x_lstore_n C (lo' := [(3, _), (0, _), (1, _)]) dX1_digestStones_1 (by decide) rfl ?_
  refine x_iconst C (v := 0) dX1_digestStones_2 (by decide) ?_
  refine x_istore C (lo' := [(5, _), (3, _), (0, _), (1, _)]) dX1_digestStones_3 (by decide) rfl ?_
  exact x_lsub [0, 1, 2, 3] rfl (q1_dig_E h C hq 33 0 (by decide) (by decide))
/-- the class's memory behind its checksum -/
def cDm (M : Mem) : Mem := cEM (cCm M) 2
def cDig (M : Mem) : Int64 := cDE (cDD (cDC (cDB (cDA 2309 M) (cCm M) 2) (cDm M) (cWs 1 (cDm M))) (cDm M) (cSh 1 (cDm M))) (cDm M) 32
theorem cDm_fr (M : Mem) : cFr 15 M (cDm M) := (cCm_fr M).tr (cEM_fr _ _)
abbrev rmX1_digest : Room := { frames := 6, cells := 0, slots := 0, locals := 136 }
set_option maxHeartbeats 1000000 in
set_option maxRecDepth 100000 in
theorem q1_digest (l : Launch) (g : GT) (M : Mem) (h : cOK 1 M) : CM l yX1_digest cX1_digest 3 (some .long) rmX1_digest g M [.ref (ga g 0)] (some (.long (cDig M))) (cDm M) := by
  refine CM.of (by decide) (Nat.le_of_ble_eq_true rfl) (fun X C hq => ?_)
  have C : Cx X g l cX1_digest 3 RX1 (some .long) rmX1_digest := C
  show V X g 0 0 0 [(0, .ref (ga g 0))] [] M
  refine x_aload_n C dX1_digest_0 rfl ?_
  refine x_ldc2 C dX1_digest_1 ll_X1_150 ?_
  refine x_callV0r C (q1_digestCounts l g _ h _) cd_X1_digestCounts kl_X1_152 ci1 rfl (by decide) (as := [_]) rfl rfl ⟨⟨by decide, by decide⟩, by decide, by decide⟩ ⟨rfl, rfl⟩ (Nat.le_of_ble_eq_true rfl) dX1_digest_4 ?_
  refine x_lstore_n C (lo' := [(1, _), (0, _)]) dX1_digest_7 (by decide) rfl ?_
  refine x_aload_n C dX1_digest_8 rfl ?_
  refine x_lload_n C dX1_digest_9 rfl ?_
  refine x_callV0r C (q1_digestEchoes l g _ (h.fr15 (cCm_fr M)) _) cd_X1_digestEchoes kl_X1_156 ci1 rfl (by decide) (as := [_]) rfl rfl ⟨⟨by decide, by decide⟩, by decide, by decide⟩ ⟨rfl, rfl⟩ (Nat.le_of_ble_eq_true rfl) dX1_digest_10 ?_
  refine x_mem (M' := cDm M) rfl ?_
  refine x_lstore_n C (lo' := [(1, _), (0, _)]) dX1_digest_13 (by decide) rfl ?_
  refine x_aload_n C dX1_digest_14 rfl ?_
  refine x_lload_n C dX1_digest_15 rfl ?_
  refine x_callV0r C (q1_digestWalls l g _ (h.fr15 (cDm_fr M)) _) cd_X1_digestWalls kl_X1_159 ci1 rfl (by decide) (as := [_]) rfl rfl ⟨⟨by decide, by decide⟩, by decide, by decide⟩ ⟨rfl, rfl⟩ (Nat.le_of_ble_eq_true rfl) dX1_digest_16 ?_
  refine x_lstore_n C (lo' := [(1, _), (0, _)]) dX1_digest_19 (by decide) rfl ?_
  refine x_aload_n C dX1_digest_20 rfl ?_
  refine x_lload_n C dX1_digest_21 rfl ?_
  refine x_callV0r C (q1_digestShouts l g _ (h.fr15 (cDm_fr M)) _) cd_X1_digestShouts kl_X1_162 ci1 rfl (by decide) (as := [_]) rfl rfl ⟨⟨by decide, by decide⟩, by decide, by decide⟩ ⟨rfl, rfl⟩ (Nat.le_of_ble_eq_true rfl) dX1_digest_22 ?_
  refine x_lstore_n C (lo' := [(1, _), (0, _)]) dX1_digest_25 (by decide) rfl ?_
  refine x_aload_n C dX1_digest_26 rfl ?_
  refine x_lload_n C dX1_digest_27 rfl ?_
  refine x_callV0r C (q1_digestStones l g _ (h.fr15 (cDm_fr M)) _) cd_X1_digestStones kl_X1_165 ci1 rfl (by decide) (as := [_]) rfl rfl ⟨⟨by decide, by decide⟩, by decide, by decide⟩ ⟨rfl, rfl⟩ (Nat.le_of_ble_eq_true rfl) dX1_digest_28 ?_
  exact x_lret C hq ⟨by decide, by decide⟩ dX1_digest_31 (rfl) (rfl)
