/-! The law's loop: a round, all rounds. -/
set_option maxHeartbeats 1000000 in
set_option maxRecDepth 100000 in
theorem lo_goesRight {X : XT} {g : GT} {l : Launch} {b L i nb kc ks : Nat} {xs : Nat → Int32} {M : Mem} (hl : l.stackTraces = false) (C : Cx X g l cL_law 9 RL (some .boolean) room_1) (S : Sc X g b L xs) (hi : i + 4 ≤ L) (h : Inv nb M) (hnb : nb + 200 ≤ 100000) (hk : kc ≤ 590 ∧ ks ≤ 9000) (K : ∀ M', Inv (nb + 100) M' → V X g (kc + 1) (ks + 8) 1849 (loL g b i) [] M') : V X g kc ks 1234 (loL g b i) [] M := by
  have hL := S.2.2.2
  obtain ⟨rm, k, v, M1, M2, c1, c2, e1, e2, e3, hr, hv⟩ := ob_goesRight (g := g) hl h (xs (i + 1))
  refine x_aload_n C dL_law_1234 rfl ?_
  refine x_aload_n C dL_law_1235 rfl ?_
  refine x_iload C dL_law_1236 rfl ?_
  refine x_iconst C (v := 1) dL_law_1238 (by decide) ?_
  refine x_iadd C dL_law_1239 ?_
  refine x_sc C S (nI_add i 1) (by omega) dL_law_1240 ?_
  refine x_aload_n C dL_law_1241 rfl ?_
  refine x_callSW C c1 cwL_goesRight kl_L_179 (as := [_, _, _]) rfl rfl (rm_1 hr (by omega)) (Nat.le_of_ble_eq_true rfl) dL_law_1242 ?_
  refine x_widen (kc' := kc + 1) (ks' := ks + 8) (by have := hr.2.1; omega) (by have := hr.2.2; omega) ?_
  refine x_istore C (lo' := [(5, _), (4, _), (3, _), (2, _), (1, _), (0, _)]) dL_law_1245 (by decide) rfl ?_
  refine x_aload_n C dL_law_1247 rfl ?_
  refine x_aload_n C dL_law_1248 rfl ?_
  refine x_iload C dL_law_1249 rfl ?_
  refine x_iconst C (v := 1) dL_law_1251 (by decide) ?_
  refine x_iadd C dL_law_1252 ?_
  refine x_sc C S (nI_add i 1) (by omega) dL_law_1253 ?_
  refine x_callV0r C c2 cd_X2_goesRight kl_L_181 ci2 rfl (by decide) (as := [_]) rfl rfl (rm_0 ⟨by decide, by decide⟩ ⟨by decide, by decide⟩ (by omega)) ⟨rfl, rfl⟩ (Nat.le_of_ble_eq_true rfl) dL_law_1254 ?_
  refine x_istore C (lo' := [(6, _), (5, _), (4, _), (3, _), (2, _), (1, _), (0, _)]) dL_law_1257 (by decide) rfl ?_
  refine x_aload_n C dL_law_1259 rfl ?_
  refine x_callV0r C (q2_thrown l g _) cd_X2_thrown kl_L_103 ci2 rfl (by decide) (as := []) rfl rfl (rm_0 ⟨by decide, by decide⟩ ⟨by decide, by decide⟩ (by omega)) ⟨rfl, rfl⟩ (Nat.le_of_ble_eq_true rfl) dL_law_1260 ?_
  refine x_iload C dL_law_1263 rfl ?_
  refine x_icmp_eq C (tgt := 1270) dL_law_1265 (by decide) (fun _ => ?_) (fun c => absurd e1 c)
  refine x_iload C dL_law_1270 rfl ?_
  refine x_if_ne C (tgt := 1294) dL_law_1272 (by decide) (fun _ => ?_) (fun c0 => ?_)
  · refine x_goto C (tgt := 1849) dL_law_1294 (by decide) ?_
    exact x_lsub [2, 3, 4, 5, 6] rfl (K _ e3)
  have e37 := e2 c0
  refine x_aload_n C dL_law_1275 rfl ?_
  refine x_iconst C (v := 0) dL_law_1276 (by decide) ?_
  refine x_lald C (n := 1) rfl (by decide) rfl rfl (by decide : 0 < 1) dL_law_1277 ?_
  refine x_iload C dL_law_1278 rfl ?_
  refine x_if_eq C (tgt := 1287) dL_law_1280 (by decide) (fun c => ?_) (fun c => ?_)
  · refine x_lconst C (v := 0) dL_law_1287 (by decide) ?_
    refine x_lcmp C dL_law_1288 ?_
    refine x_if_eq C (tgt := 1294) dL_law_1289 (by decide) (fun _ => ?_) (fun c9 => absurd (by rw [e37, c]; exact lgc _) c9)
    refine x_goto C (tgt := 1849) dL_law_1294 (by decide) ?_
    exact x_lsub [2, 3, 4, 5, 6] rfl (K _ e3)
  · refine x_lconst C (v := 1) dL_law_1283 (by decide) ?_
    refine x_goto C (tgt := 1288) dL_law_1284 (by decide) ?_
    refine x_lcmp C dL_law_1288 ?_
    refine x_if_eq C (tgt := 1294) dL_law_1289 (by decide) (fun _ => ?_) (fun c9 => absurd (by rw [e37, hv.resolve_left c]; exact lgc _) c9)
    refine x_goto C (tgt := 1849) dL_law_1294 (by decide) ?_
    exact x_lsub [2, 3, 4, 5, 6] rfl (K _ e3)
section TS
variable {X : XT} {g : GT} {l : Launch} {cc : ByteArray} {mL : Nat} {own : String} {ret : Option FieldType} {rm : Room} {kc ks pc : Nat} {lo : List (Nat × Value)} {st : List Value} {M : Mem}
theorem x_tsIn (C : Cx X g l cc mL own ret rm) {dflt lo' hi : Int} {offs : Array Int} {len : Nat} {x : Int32} {off : Int} {tgt : Nat} (d : decode cc pc = .ok (.tableswitch dflt lo' hi offs, len)) (h1 : ¬ x.toInt < lo') (h2 : ¬ hi < x.toInt) (ho : offs[(x.toInt - lo').toNat]? = some off) (ht : (pc : Int) + off = (tgt : Int)) (k : V X g kc ks tgt lo st M) : V X g kc ks pc lo (.int x :: st) M := fun H locs ls a b c => lv_tableIn C.1 C.2.1 d h1 h2 ho ht (k H locs ls a b c)
theorem x_tsOut (C : Cx X g l cc mL own ret rm) {dflt lo' hi : Int} {offs : Array Int} {len : Nat} {x : Int32} {tgt : Nat} (d : decode cc pc = .ok (.tableswitch dflt lo' hi offs, len)) (h : x.toInt < lo' ∨ hi < x.toInt) (ht : (pc : Int) + dflt = (tgt : Int)) (k : V X g kc ks tgt lo st M) : V X g kc ks pc lo (.int x :: st) M := fun H locs ls a b c => lv_tableOut C.1 C.2.1 d h ht (k H locs ls a b c)
end TS
set_option maxHeartbeats 1000000 in
set_option maxRecDepth 100000 in
theorem lo_round {X : XT} {g : GT} {l : Launch} {b L i nb kc ks : Nat} {xs : Nat → Int32} {M : Mem} (hl : l.stackTraces = false) (C : Cx X g l cL_law 9 RL (some .boolean) room_1) (S : Sc X g b L xs) (hg : gn g = 38) (hi : i + 4 ≤ L) (h : Inv nb M) (hnb : nb + 200 ≤ 100000) (hk : kc ≤ 590 ∧ ks ≤ 9000) (K : ∀ M', Inv (nb + 100) M' → V X g (kc + 1) (ks + 8) 1849 (loL g b i) [] M') : V X g kc ks 32 (loL g b i) [] M := by
  have hL := S.2.2.2
  refine x_aload_n C dL_law_32 rfl ?_
  refine x_iload C dL_law_33 rfl ?_
  refine x_sc C S rfl (by omega) dL_law_35 ?_
  refine x_bipush C (v := 63) dL_law_36 (by decide) ?_
  refine x_iand C dL_law_38 ?_
  obtain ⟨n, hn, hx⟩ := and63 (xs i)
  rw [hx]
  by_cases h32 : n ≤ 32
  · rcases (show n = 0 ∨ n = 1 ∨ n = 2 ∨ n = 3 ∨ n = 4 ∨ n = 5 ∨ n = 6 ∨ n = 7 ∨ n = 8 ∨ n = 9 ∨ n = 10 ∨ n = 11 ∨ n = 12 ∨ n = 13 ∨ n = 14 ∨ n = 15 ∨ n = 16 ∨ n = 17 ∨ n = 18 ∨ n = 19 ∨ n = 20 ∨ n = 21 ∨ n = 22 ∨ n = 23 ∨ n = 24 ∨ n = 25 ∨ n = 26 ∨ n = 27 ∨ n = 28 ∨ n = 29 ∨ n = 30 ∨ n = 31 ∨ n = 32 by omega) with rfl | rfl | rfl | rfl | rfl | rfl | rfl | rfl | rfl | rfl | rfl | rfl | rfl | rfl | rfl | rfl | rfl | rfl | rfl | rfl | rfl | rfl | rfl | rfl | rfl | rfl | rfl | rfl | rfl | rfl | rfl | rfl | rfl
    · refine x_tsIn C (off := 145) (tgt := 184) dL_law_39 (by decide) (by decide) (by decide) (by decide) ?_
      exact lo_addWall hl C S hi h hnb hk K
    · refine x_tsIn C (off := 225) (tgt := 264) dL_law_39 (by decide) (by decide) (by decide) (by decide) ?_
      exact lo_hand hl C S hi h hnb hk K
    · refine x_tsIn C (off := 281) (tgt := 320) dL_law_39 (by decide) (by decide) (by decide) (by decide) ?_
      exact lo_setSnow hl C S hi h hnb hk K
    · refine x_tsIn C (off := 349) (tgt := 388) dL_law_39 (by decide) (by decide) (by decide) (by decide) ?_
      by_cases hz : xs (i + 2) = 0
      · exact lo_shout_0 hl C S hi hz h hnb hk K
      · exact lo_shout_1 hl C S hi hz h hnb hk K
    · refine x_tsIn C (off := 445) (tgt := 484) dL_law_39 (by decide) (by decide) (by decide) (by decide) ?_
      exact lo_pass hl C S hi h hnb hk K
    · refine x_tsIn C (off := 501) (tgt := 540) dL_law_39 (by decide) (by decide) (by decide) (by decide) ?_
      exact lo_beat hl C S hi h hnb hk K
    · refine x_tsIn C (off := 514) (tgt := 553) dL_law_39 (by decide) (by decide) (by decide) (by decide) ?_
      exact lo_walls hl C S hi h hnb hk K
    · refine x_tsIn C (off := 527) (tgt := 566) dL_law_39 (by decide) (by decide) (by decide) (by decide) ?_
      exact lo_shouts hl C S hi h hnb hk K
    · refine x_tsIn C (off := 540) (tgt := 579) dL_law_39 (by decide) (by decide) (by decide) (by decide) ?_
      exact lo_underWay hl C S hi h hnb hk K
    · refine x_tsIn C (off := 553) (tgt := 592) dL_law_39 (by decide) (by decide) (by decide) (by decide) ?_
      exact lo_overlaps hl C S hi h hnb hk K
    · refine x_tsIn C (off := 566) (tgt := 605) dL_law_39 (by decide) (by decide) (by decide) (by decide) ?_
      exact lo_snowOn hl C S hi h hnb hk K
    · refine x_tsIn C (off := 622) (tgt := 661) dL_law_39 (by decide) (by decide) (by decide) (by decide) ?_
      exact lo_wallOn hl C S hi h hnb hk K
    · refine x_tsIn C (off := 678) (tgt := 717) dL_law_39 (by decide) (by decide) (by decide) (by decide) ?_
      exact lo_loudOn hl C S hi h hnb hk K
    · refine x_tsIn C (off := 734) (tgt := 773) dL_law_39 (by decide) (by decide) (by decide) (by decide) ?_
      exact lo_stoneOf hl C S hi h hnb hk K
    · refine x_tsIn C (off := 790) (tgt := 829) dL_law_39 (by decide) (by decide) (by decide) (by decide) ?_
      exact lo_ownerOf hl C S hi h hnb hk K
    · refine x_tsIn C (off := 846) (tgt := 885) dL_law_39 (by decide) (by decide) (by decide) (by decide) ?_
      exact lo_thrownBack hl C S hi h hnb hk K
    · refine x_tsIn C (off := 902) (tgt := 941) dL_law_39 (by decide) (by decide) (by decide) (by decide) ?_
      exact lo_coinsOf hl C S hi h hnb hk K
    · refine x_tsIn C (off := 958) (tgt := 997) dL_law_39 (by decide) (by decide) (by decide) (by decide) ?_
      exact lo_wallsOf hl C S hi h hnb hk K
    · refine x_tsIn C (off := 1014) (tgt := 1053) dL_law_39 (by decide) (by decide) (by decide) (by decide) ?_
      exact lo_silentFor hl C S hi h hnb hk K
    · refine x_tsIn C (off := 1070) (tgt := 1109) dL_law_39 (by decide) (by decide) (by decide) (by decide) ?_
      exact lo_inherited hl C S hi h hnb hk K
    · refine x_tsIn C (off := 1083) (tgt := 1122) dL_law_39 (by decide) (by decide) (by decide) (by decide) ?_
      exact lo_loudnessOf hl C S hi h hnb hk K
    · refine x_tsIn C (off := 1139) (tgt := 1178) dL_law_39 (by decide) (by decide) (by decide) (by decide) ?_
      exact lo_placeOf hl C S hi h hnb hk K
    · refine x_tsIn C (off := 1195) (tgt := 1234) dL_law_39 (by decide) (by decide) (by decide) (by decide) ?_
      exact lo_goesRight hl C S hi h hnb hk K
    · refine x_tsIn C (off := 1258) (tgt := 1297) dL_law_39 (by decide) (by decide) (by decide) (by decide) ?_
      exact lo_turnsOf hl C S hi h hnb hk K
    · refine x_tsIn C (off := 1314) (tgt := 1353) dL_law_39 (by decide) (by decide) (by decide) (by decide) ?_
      by_cases hz : xs (i + 2) = 0
      · exact lo_nextWall_0 hl C S hi hz h hnb hk K
      · exact lo_nextWall_1 hl C S hi hz h hnb hk K
    · refine x_tsIn C (off := 1398) (tgt := 1437) dL_law_39 (by decide) (by decide) (by decide) (by decide) ?_
      exact lo_beatsUntilGone hl C S hi h hnb hk K
    · refine x_tsIn C (off := 1454) (tgt := 1493) dL_law_39 (by decide) (by decide) (by decide) (by decide) ?_
      exact lo_beatsUntilQuiet hl C S hi h hnb hk K
    · refine x_tsIn C (off := 1467) (tgt := 1506) dL_law_39 (by decide) (by decide) (by decide) (by decide) ?_
      exact lo_coinsIn hl C S hi h hnb hk K
    · refine x_tsIn C (off := 1535) (tgt := 1574) dL_law_39 (by decide) (by decide) (by decide) (by decide) ?_
      exact lo_loudestOn hl C S hi h hnb hk K
    · refine x_tsIn C (off := 1603) (tgt := 1642) dL_law_39 (by decide) (by decide) (by decide) (by decide) ?_
      by_cases hz : xs (i + 2) = 0
      · exact lo_loudnessWanted_0 hl C S hi hz h hnb hk K
      · exact lo_loudnessWanted_1 hl C S hi hz h hnb hk K
    · refine x_tsIn C (off := 1699) (tgt := 1738) dL_law_39 (by decide) (by decide) (by decide) (by decide) ?_
      exact lo_bestStone hl C S hi h hnb hk K
    · refine x_tsIn C (off := 1755) (tgt := 1794) dL_law_39 (by decide) (by decide) (by decide) (by decide) ?_
      exact lo_meanLoudness hl C S hi h hnb hk K
    · refine x_tsIn C (off := 1796) (tgt := 1835) dL_law_39 (by decide) (by decide) (by decide) (by decide) ?_
      exact lo_digest hl C S hi hg h hnb hk K
  · refine x_tsOut C (tgt := 1849) dL_law_39 (Or.inr ?_) (by decide) ?_
    · rw [i_nI (by omega)]; omega
    · exact x_widen (by omega) (by omega) (K _ (h.same (fun _ _ _ => rfl) ⟨⟨rfl, rfl⟩, fun _ _ _ => rfl, fun _ _ => rfl⟩ (by omega)))
theorem lo_loop {X : XT} {g : GT} {l : Launch} {b L kc0 ks0 : Nat} {xs : Nat → Int32} (hl : l.stackTraces = false) (C : Cx X g l cL_law 9 RL (some .boolean) room_1) (S : Sc X g b L xs) (hg : gn g = 38) (hk : kc0 ≤ 60 ∧ ks0 ≤ 2000)
    (E : ∀ (M : Mem) (j kc ks : Nat), kc ≤ 600 → ks ≤ 9000 → V X g kc ks 1855 (loL g b (4 * j)) [] M) : ∀ (n j : Nat) (M : Mem), 512 ≤ j + n → j ≤ 512 → Inv (100 * j) M → V X g (kc0 + j) (ks0 + 8 * j) 23 (loL g b (4 * j)) [] M := by
  intro n
  induction n with
  | zero =>
    intro j M h1 h2 h
    have hL := S.2.2.2
    refine x_iload C dL_law_23 rfl ?_
    refine x_aload_n C dL_law_25 rfl ?_
    refine x_sl C S dL_law_26 ?_
    refine x_iconst C (v := 4) dL_law_27 (by decide) ?_
    refine x_isub C dL_law_28 ?_
    refine x_icmp_gt C (tgt := 1855) dL_law_29 (by decide) (fun _ => E M j _ _ (by omega) (by omega)) (fun c => absurd ?_ c)
    have e : (nI L - 4).toInt = (L : Int) - 4 := by
      rw [i_sub (b := 4) (by rw [i_nI (by omega), show (4 : Int32).toInt = 4 from rfl]; omega) (by rw [i_nI (by omega), show (4 : Int32).toInt = 4 from rfl]; omega), i_nI (by omega)]
      rfl
    show nI L - 4 < nI (4 * j)
    rw [i_lt, e, i_nI (by omega)]
    omega
  | succ n ih =>
    intro j M h1 h2 h
    have hL := S.2.2.2
    have e : (nI L - 4).toInt = (L : Int) - 4 := by
      rw [i_sub (b := 4) (by rw [i_nI (by omega), show (4 : Int32).toInt = 4 from rfl]; omega) (by rw [i_nI (by omega), show (4 : Int32).toInt = 4 from rfl]; omega), i_nI (by omega)]
      rfl
    refine x_iload C dL_law_23 rfl ?_
    refine x_aload_n C dL_law_25 rfl ?_
    refine x_sl C S dL_law_26 ?_
    refine x_iconst C (v := 4) dL_law_27 (by decide) ?_
    refine x_isub C dL_law_28 ?_
    refine x_icmp_gt C (tgt := 1855) dL_law_29 (by decide) (fun _ => E M j _ _ (by omega) (by omega)) (fun c => ?_)
    have hi : 4 * j + 4 ≤ L := by
      have c2 : ¬ (nI L - 4 < nI (4 * j)) := c
      rw [i_lt, e, i_nI (by omega)] at c2
      omega
    refine lo_round hl C S hg hi h (by omega) ⟨by omega, by omega⟩ (fun M' h9 => ?_)
    refine x_iinc C (v := nI (4 * j + 4)) (lo' := [(4, _), (3, _), (2, _), (1, _), (0, _)]) dL_law_1849 rfl (nI_inc4 _) (by decide) rfl ?_
    refine x_goto C (tgt := 23) dL_law_1852 (by decide) ?_
    exact ih (j + 1) M' (by omega) (by omega) h9
