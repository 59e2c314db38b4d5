/-! The law's body: a beat, what is after it. -/
set_option maxHeartbeats 1000000 in
set_option maxRecDepth 100000 in
theorem q_b_end {X : XT} {l : Launch} {g : GT} {b t : Nat} {x : Int32}  {ad : Nat → Nat} {Q : Mem} {nb th qq jj q20 q24 : Nat} {v19 v21 hv : Int32} {L0 : List AE} {kc ks : Nat} (hk : kc ≤ 55000 ∧ ks ≤ 850000) {qa ql qt qr qo qs qc : Nat} {M : Mem} {D : DM} (hp : PK Q) (li : LI nb M (mBeat Q)) (h : SP g D ad (mBeat Q)) (A : AR g D (mWs Q) (mSh Q) ad ((qc, 2, .inl (fun e => Q 34 (3 + e))) :: (qs, 2, .inl (fun e => Q 34 (5 + e))) :: (qo, mWs Q, .inl (owF Q)) :: (qr, mSh Q, .inr (fun k => b2i (mRt Q k))) :: (qt, mSh Q, .inl (fun k => Q 34 (147 + k))) :: (ql, mSh Q, .inl (lvF Q)) :: (qa, mSh Q, .inl (mPl Q)) :: L0)) (lth : th < 32) (hjq : jj ≤ 1000 ∧ qq ≤ 1000) (hqt : mMany (mBeat Q) = 0 ↔ qq ≤ jj) (hsil : ∀ e, e < 2 → 0 ≤ Q 34 (5 + e) ∧ Q 34 (5 + e) ≤ 11) (hK : AR g D (mWs Q) (mSh Q) ad L0 → UX X g (kc) (ks) 775 [(0, .ref b), (1, .ref (ga g 0)), (2, .ref (ad 0)), (3, .int (nI t)), (4, .int x), (7, .int (nI (mSh Q))), (8, .int (nI (mWs Q))), (14, .int (nI th)), (19, .int v19), (20, .ref q20), (21, .int v21), (22, .int (nI qq)), (23, .int (if hv < mLA (mBeat Q) (nI th) then mLA (mBeat Q) (nI th) else hv)), (24, .ref q24), (25, .int (nI (jj + 1)))] [] M D)  (C : Cx X g l cL_law 39 RL (some .boolean) room_1) : UX X g (kc) (ks) 1306 [(0, .ref b), (1, .ref (ga g 0)), (2, .ref (ad 0)), (3, .int (nI t)), (4, .int x), (7, .int (nI (mSh Q))), (8, .int (nI (mWs Q))), (14, .int (nI th)), (19, .int v19), (20, .ref q20), (21, .int v21), (22, .int (nI qq)), (23, .int hv), (24, .ref q24), (25, .int (nI jj)), (26, .ref qa), (27, .ref ql), (28, .ref qt), (29, .ref qr), (30, .ref qo), (31, .ref qs), (32, .int (Q 34 1)), (33, .int (Q 34 2)), (34, .ref qc), (36, .int (nI (chN (owF Q) (owF (mBeat Q)) (mWs Q))))] [] M D := by
  have hn := hp.1.ws
  have hn2 := hp.1.sh
  obtain ⟨nw9, ns9⟩ := mBeat_n Q hp
  obtain ⟨hs1, d, d2, d3, d4, d5⟩ := beat_hush hp hsil
  obtain ⟨gf, hgf⟩ := beat_coins hp
  have hco : ∀ e, e < 2 → (mBeat Q 34 (3 + e) = Q 34 (3 + e) ↔ mB1 Q 36 e = 0) := fun e he => by
    obtain ⟨a1, a2, a3⟩ := hgf e he
    rw [a3, a1]
    constructor
    · intro z
      have : gf e = Q 34 (3 + e) + gf e - Q 34 (3 + e) := by grind
      rw [this, z, Int32.sub_self]
    · intro z
      rw [z, Int32.add_zero]
  have hz : ¬ (mB1 Q 36 0 = 0 ∧ Q 34 (5 + 0) = 11) → ¬ (mB1 Q 36 1 = 0 ∧ Q 34 (5 + 1) = 11) → d = 0 := fun n0 n1 => d4.resolve_right (by
    rintro ⟨e, he, z⟩
    rcases (show e = 0 ∨ e = 1 by omega) with rfl | rfl
    · exact n0 z
    · exact n1 z)
  have dd : mBeat Q 34 2 - Q 34 2 = nI d := by rw [d3]; grind
  have d6 := d5 (mWs Q) hn
  refine u_aload C dL_law_1306 rfl ?_
  refine u_iconst C (v := 0) dL_law_1308 (by decide) ?_
  refine u_iald C (A.i (k := 1) rfl) rfl (by decide : 0 < 2) (by decide) dL_law_1309 ?_
  refine u_bipush C (v := 11) dL_law_1310 (by decide) ?_
  refine u_icmp_ne C (tgt := 1327) dL_law_1312 (by decide) (fun c1312 => ?_) (fun c1312 => ?_)
  · have n0 : ¬ (mB1 Q 36 0 = 0 ∧ Q 34 (5 + 0) = 11) := fun z => c1312 z.2
    refine u_aload C dL_law_1327 rfl ?_
    refine u_iconst C (v := 1) dL_law_1329 (by decide) ?_
    refine u_iald C (A.i (k := 1) rfl) rfl (by decide : 1 < 2) (by decide) dL_law_1330 ?_
    refine u_bipush C (v := 11) dL_law_1331 (by decide) ?_
    refine u_icmp_ne C (tgt := 1352) dL_law_1333 (by decide) (fun c1333 => ?_) (fun c1333 => ?_)
    · have hd0 := hz n0 (fun z => c1333 z.2)
      refine u_iconst C (v := 0) dL_law_1352 (by decide) ?_
      refine u_istore C (lo' := [(37, _), (0, _), (1, _), (2, _), (3, _), (4, _), (7, _), (8, _), (14, _), (19, _), (20, _), (21, _), (22, _), (23, _), (24, _), (25, _), (26, _), (27, _), (28, _), (29, _), (30, _), (31, _), (32, _), (33, _), (34, _), (36, _)]) dL_law_1353 (by decide) rfl ?_
      refine u_aload_n C dL_law_1355 rfl ?_
      refine u_callC0 C (fun B => k_inherited li  B) cd_X1_inherited kl_L_155 ci1 rfl (by decide) (as := []) rfl rfl (rm_l ⟨by decide, by decide⟩ ⟨by decide, by decide⟩ (by omega)) ⟨rfl, rfl⟩ (Nat.le_of_ble_eq_true rfl) dL_law_1356 ?_
      refine u_iload C dL_law_1359 rfl ?_
      refine u_isub C dL_law_1361 ?_
      refine u_ttop (v' := .int (nI d)) (congrArg Value.int dd) ?_
      refine u_iconst C (v := 2) dL_law_1362 (by decide) ?_
      refine u_icmp_gt C (tgt := 1419) dL_law_1363 (by decide) (fun c1363 => absurd c1363 (Int32.not_lt.mpr (nI_le (b := 2) d2 (by decide)))) (fun c1363 => ?_)
      refine u_iload C dL_law_1366 rfl ?_
      refine u_aload_n C dL_law_1368 rfl ?_
      refine u_callC0 C (fun B => k_inherited li  B) cd_X1_inherited kl_L_155 ci1 rfl (by decide) (as := []) rfl rfl (rm_l ⟨by decide, by decide⟩ ⟨by decide, by decide⟩ (by omega)) ⟨rfl, rfl⟩ (Nat.le_of_ble_eq_true rfl) dL_law_1369 ?_
      refine u_iload C dL_law_1372 rfl ?_
      refine u_isub C dL_law_1374 ?_
      refine u_ttop (v' := .int (nI d)) (congrArg Value.int dd) ?_
      refine u_icmp_gt C (tgt := 1419) dL_law_1375 (by decide) (fun c1375 => absurd c1375 (Int32.not_lt.mpr ((nI_leI (by have := chN_le (owF Q) (owF (mBeat Q)) (mWs Q); omega) (by omega)).mpr d6))) (fun c1375 => ?_)
      refine u_iload C dL_law_1378 rfl ?_
      refine u_if_ne C (tgt := 1392) dL_law_1380 (by decide) (fun c => absurd c (by decide)) (fun _ => ?_)
      refine u_aload_n C dL_law_1383 rfl ?_
      refine u_callC0 C (fun B => k_inherited li  B) cd_X1_inherited kl_L_155 ci1 rfl (by decide) (as := []) rfl rfl (rm_l ⟨by decide, by decide⟩ ⟨by decide, by decide⟩ (by omega)) ⟨rfl, rfl⟩ (Nat.le_of_ble_eq_true rfl) dL_law_1384 ?_
      refine u_iload C dL_law_1387 rfl ?_
      refine u_icmp_gt C (tgt := 1419) dL_law_1389 (by decide) (fun c1389 => absurd c1389 (by rw [d3, hd0]; show ¬ (Q 34 2 < Q 34 2 + 0); rw [Int32.add_zero]; exact fun z => Int32.lt_irrefl z)) (fun c1389 => ?_)
      refine u_aload_n C dL_law_1392 rfl ?_
      refine u_callC0 C (fun B => k_underWay li  B) cd_X1_underWay kl_L_121 ci1 rfl (by decide) (as := []) rfl rfl (rm_l ⟨by decide, by decide⟩ ⟨by decide, by decide⟩ (by omega)) ⟨rfl, rfl⟩ (Nat.le_of_ble_eq_true rfl) dL_law_1393 ?_
      refine u_if_ne C (tgt := 1403) dL_law_1396 (by decide) (fun c1396 => ?_) (fun c1396 => ?_)
      · refine u_iconst C (v := 0) dL_law_1403 (by decide) ?_
        refine u_iload C dL_law_1404 rfl ?_
        refine u_iload C dL_law_1406 rfl ?_
        refine u_icmp_lt C (tgt := 1415) dL_law_1408 (by decide) (fun c1408 => ?_) (fun c1408 => absurd (hqt.mpr (Nat.le_of_not_lt (fun z => c1408 ((nI_ltI (by omega) (by omega)).mpr z)))) c1396)
        refine u_iconst C (v := 0) dL_law_1415 (by decide) ?_
        refine u_icmp_eq C (tgt := 1421) dL_law_1416 (by decide) (fun c1416 => ?_) (fun c1416 => absurd rfl c1416)
        refine u_iload C dL_law_1421 rfl ?_
        refine u_aload_n C dL_law_1423 rfl ?_
        refine u_iload C dL_law_1424 rfl ?_
        refine u_callC0 C (fun B => k_loudOn li lth B) cd_X1_loudOn kl_L_111 ci1 rfl (by decide) (as := [_]) rfl rfl (rm_l ⟨by decide, by decide⟩ ⟨by decide, by decide⟩ (by omega)) ⟨rfl, rfl⟩ (Nat.le_of_ble_eq_true rfl) dL_law_1426 ?_
        refine u_max C (i := 642) (by decide +kernel) ⟨by decide, Nat.le_of_ble_eq_true rfl, Nat.le_trans (Nat.le_succ _) (rm_n (kc := kc) (ks := ks) (N := 0) (by omega) (by omega)).1, (rm_n (kc := kc) (ks := ks) (N := 0) (by omega) (by omega)).2⟩ dL_law_1429 ?_
        refine u_istore C (lo' := [(23, _), (37, _), (0, _), (1, _), (2, _), (3, _), (4, _), (7, _), (8, _), (14, _), (19, _), (20, _), (21, _), (22, _), (24, _), (25, _), (26, _), (27, _), (28, _), (29, _), (30, _), (31, _), (32, _), (33, _), (34, _), (36, _)]) dL_law_1432 (by decide) rfl ?_
        refine u_iinc C (v := nI (jj + 1)) (lo' := [(25, _), (23, _), (37, _), (0, _), (1, _), (2, _), (3, _), (4, _), (7, _), (8, _), (14, _), (19, _), (20, _), (21, _), (22, _), (24, _), (26, _), (27, _), (28, _), (29, _), (30, _), (31, _), (32, _), (33, _), (34, _), (36, _)]) dL_law_1434 rfl (nI_inc _) (by decide) rfl ?_
        refine u_goto C (tgt := 775) dL_law_1437 (by decide) ?_
        exact u_lsub [3, 4, 5, 6, 7, 8, 9, 10, 11, 12, 13, 14, 1, 15, 0] rfl (hK A.tl.tl.tl.tl.tl.tl.tl)
      · refine u_iconst C (v := 1) dL_law_1399 (by decide) ?_
        refine u_goto C (tgt := 1404) dL_law_1400 (by decide) ?_
        refine u_iload C dL_law_1404 rfl ?_
        refine u_iload C dL_law_1406 rfl ?_
        refine u_icmp_lt C (tgt := 1415) dL_law_1408 (by decide) (fun c1408 => absurd ((nI_ltI (by omega) (by omega)).mp c1408) (Nat.not_lt.mpr (hqt.mp c1396))) (fun c1408 => ?_)
        refine u_iconst C (v := 1) dL_law_1411 (by decide) ?_
        refine u_goto C (tgt := 1416) dL_law_1412 (by decide) ?_
        refine u_icmp_eq C (tgt := 1421) dL_law_1416 (by decide) (fun c1416 => ?_) (fun c1416 => absurd rfl c1416)
        refine u_iload C dL_law_1421 rfl ?_
        refine u_aload_n C dL_law_1423 rfl ?_
        refine u_iload C dL_law_1424 rfl ?_
        refine u_callC0 C (fun B => k_loudOn li lth B) cd_X1_loudOn kl_L_111 ci1 rfl (by decide) (as := [_]) rfl rfl (rm_l ⟨by decide, by decide⟩ ⟨by decide, by decide⟩ (by omega)) ⟨rfl, rfl⟩ (Nat.le_of_ble_eq_true rfl) dL_law_1426 ?_
        refine u_max C (i := 642) (by decide +kernel) ⟨by decide, Nat.le_of_ble_eq_true rfl, Nat.le_trans (Nat.le_succ _) (rm_n (kc := kc) (ks := ks) (N := 0) (by omega) (by omega)).1, (rm_n (kc := kc) (ks := ks) (N := 0) (by omega) (by omega)).2⟩ dL_law_1429 ?_
        refine u_istore C (lo' := [(23, _), (37, _), (0, _), (1, _), (2, _), (3, _), (4, _), (7, _), (8, _), (14, _), (19, _), (20, _), (21, _), (22, _), (24, _), (25, _), (26, _), (27, _), (28, _), (29, _), (30, _), (31, _), (32, _), (33, _), (34, _), (36, _)]) dL_law_1432 (by decide) rfl ?_
        refine u_iinc C (v := nI (jj + 1)) (lo' := [(25, _), (23, _), (37, _), (0, _), (1, _), (2, _), (3, _), (4, _), (7, _), (8, _), (14, _), (19, _), (20, _), (21, _), (22, _), (24, _), (26, _), (27, _), (28, _), (29, _), (30, _), (31, _), (32, _), (33, _), (34, _), (36, _)]) dL_law_1434 rfl (nI_inc _) (by decide) rfl ?_
        refine u_goto C (tgt := 775) dL_law_1437 (by decide) ?_
        exact u_lsub [3, 4, 5, 6, 7, 8, 9, 10, 11, 12, 13, 14, 1, 15, 0] rfl (hK A.tl.tl.tl.tl.tl.tl.tl)
    · refine u_aload_n C dL_law_1336 rfl ?_
      refine u_iconst C (v := 1) dL_law_1337 (by decide) ?_
      refine u_callC0 C (fun B => k_coinsOf li (e := 1) (by decide) B) cd_X1_coinsOf kl_L_122 ci1 rfl (by decide) (as := [_]) rfl rfl (rm_l ⟨by decide, by decide⟩ ⟨by decide, by decide⟩ (by omega)) ⟨rfl, rfl⟩ (Nat.le_of_ble_eq_true rfl) dL_law_1338 ?_
      refine u_aload C dL_law_1341 rfl ?_
      refine u_iconst C (v := 1) dL_law_1343 (by decide) ?_
      refine u_iald C (A.i (k := 0) rfl) rfl (by decide : 1 < 2) (by decide) dL_law_1344 ?_
      refine u_icmp_ne C (tgt := 1352) dL_law_1345 (by decide) (fun c1345 => ?_) (fun c1345 => ?_)
      · have hd0 := hz n0 (fun z => c1345 ((hco 1 (by decide)).mpr z.1))
        refine u_iconst C (v := 0) dL_law_1352 (by decide) ?_
        refine u_istore C (lo' := [(37, _), (0, _), (1, _), (2, _), (3, _), (4, _), (7, _), (8, _), (14, _), (19, _), (20, _), (21, _), (22, _), (23, _), (24, _), (25, _), (26, _), (27, _), (28, _), (29, _), (30, _), (31, _), (32, _), (33, _), (34, _), (36, _)]) dL_law_1353 (by decide) rfl ?_
        refine u_aload_n C dL_law_1355 rfl ?_
        refine u_callC0 C (fun B => k_inherited li  B) cd_X1_inherited kl_L_155 ci1 rfl (by decide) (as := []) rfl rfl (rm_l ⟨by decide, by decide⟩ ⟨by decide, by decide⟩ (by omega)) ⟨rfl, rfl⟩ (Nat.le_of_ble_eq_true rfl) dL_law_1356 ?_
        refine u_iload C dL_law_1359 rfl ?_
        refine u_isub C dL_law_1361 ?_
        refine u_ttop (v' := .int (nI d)) (congrArg Value.int dd) ?_
        refine u_iconst C (v := 2) dL_law_1362 (by decide) ?_
        refine u_icmp_gt C (tgt := 1419) dL_law_1363 (by decide) (fun c1363 => absurd c1363 (Int32.not_lt.mpr (nI_le (b := 2) d2 (by decide)))) (fun c1363 => ?_)
        refine u_iload C dL_law_1366 rfl ?_
        refine u_aload_n C dL_law_1368 rfl ?_
        refine u_callC0 C (fun B => k_inherited li  B) cd_X1_inherited kl_L_155 ci1 rfl (by decide) (as := []) rfl rfl (rm_l ⟨by decide, by decide⟩ ⟨by decide, by decide⟩ (by omega)) ⟨rfl, rfl⟩ (Nat.le_of_ble_eq_true rfl) dL_law_1369 ?_
        refine u_iload C dL_law_1372 rfl ?_
        refine u_isub C dL_law_1374 ?_
        refine u_ttop (v' := .int (nI d)) (congrArg Value.int dd) ?_
        refine u_icmp_gt C (tgt := 1419) dL_law_1375 (by decide) (fun c1375 => absurd c1375 (Int32.not_lt.mpr ((nI_leI (by have := chN_le (owF Q) (owF (mBeat Q)) (mWs Q); omega) (by omega)).mpr d6))) (fun c1375 => ?_)
        refine u_iload C dL_law_1378 rfl ?_
        refine u_if_ne C (tgt := 1392) dL_law_1380 (by decide) (fun c => absurd c (by decide)) (fun _ => ?_)
        refine u_aload_n C dL_law_1383 rfl ?_
        refine u_callC0 C (fun B => k_inherited li  B) cd_X1_inherited kl_L_155 ci1 rfl (by decide) (as := []) rfl rfl (rm_l ⟨by decide, by decide⟩ ⟨by decide, by decide⟩ (by omega)) ⟨rfl, rfl⟩ (Nat.le_of_ble_eq_true rfl) dL_law_1384 ?_
        refine u_iload C dL_law_1387 rfl ?_
        refine u_icmp_gt C (tgt := 1419) dL_law_1389 (by decide) (fun c1389 => absurd c1389 (by rw [d3, hd0]; show ¬ (Q 34 2 < Q 34 2 + 0); rw [Int32.add_zero]; exact fun z => Int32.lt_irrefl z)) (fun c1389 => ?_)
        refine u_aload_n C dL_law_1392 rfl ?_
        refine u_callC0 C (fun B => k_underWay li  B) cd_X1_underWay kl_L_121 ci1 rfl (by decide) (as := []) rfl rfl (rm_l ⟨by decide, by decide⟩ ⟨by decide, by decide⟩ (by omega)) ⟨rfl, rfl⟩ (Nat.le_of_ble_eq_true rfl) dL_law_1393 ?_
        refine u_if_ne C (tgt := 1403) dL_law_1396 (by decide) (fun c1396 => ?_) (fun c1396 => ?_)
        · refine u_iconst C (v := 0) dL_law_1403 (by decide) ?_
          refine u_iload C dL_law_1404 rfl ?_
          refine u_iload C dL_law_1406 rfl ?_
          refine u_icmp_lt C (tgt := 1415) dL_law_1408 (by decide) (fun c1408 => ?_) (fun c1408 => absurd (hqt.mpr (Nat.le_of_not_lt (fun z => c1408 ((nI_ltI (by omega) (by omega)).mpr z)))) c1396)
          refine u_iconst C (v := 0) dL_law_1415 (by decide) ?_
          refine u_icmp_eq C (tgt := 1421) dL_law_1416 (by decide) (fun c1416 => ?_) (fun c1416 => absurd rfl c1416)
          refine u_iload C dL_law_1421 rfl ?_
          refine u_aload_n C dL_law_1423 rfl ?_
          refine u_iload C dL_law_1424 rfl ?_
          refine u_callC0 C (fun B => k_loudOn li lth B) cd_X1_loudOn kl_L_111 ci1 rfl (by decide) (as := [_]) rfl rfl (rm_l ⟨by decide, by decide⟩ ⟨by decide, by decide⟩ (by omega)) ⟨rfl, rfl⟩ (Nat.le_of_ble_eq_true rfl) dL_law_1426 ?_
          refine u_max C (i := 642) (by decide +kernel) ⟨by decide, Nat.le_of_ble_eq_true rfl, Nat.le_trans (Nat.le_succ _) (rm_n (kc := kc) (ks := ks) (N := 0) (by omega) (by omega)).1, (rm_n (kc := kc) (ks := ks) (N := 0) (by omega) (by omega)).2⟩ dL_law_1429 ?_
          refine u_istore C (lo' := [(23, _), (37, _), (0, _), (1, _), (2, _), (3, _), (4, _), (7, _), (8, _), (14, _), (19, _), (20, _), (21, _), (22, _), (24, _), (25, _), (26, _), (27, _), (28, _), (29, _), (30, _), (31, _), (32, _), (33, _), (34, _), (36, _)]) dL_law_1432 (by decide) rfl ?_
          refine u_iinc C (v := nI (jj + 1)) (lo' := [(25, _), (23, _), (37, _), (0, _), (1, _), (2, _), (3, _), (4, _), (7, _), (8, _), (14, _), (19, _), (20, _), (21, _), (22, _), (24, _), (26, _), (27, _), (28, _), (29, _), (30, _), (31, _), (32, _), (33, _), (34, _), (36, _)]) dL_law_1434 rfl (nI_inc _) (by decide) rfl ?_
          refine u_goto C (tgt := 775) dL_law_1437 (by decide) ?_
          exact u_lsub [3, 4, 5, 6, 7, 8, 9, 10, 11, 12, 13, 14, 1, 15, 0] rfl (hK A.tl.tl.tl.tl.tl.tl.tl)
        · refine u_iconst C (v := 1) dL_law_1399 (by decide) ?_
          refine u_goto C (tgt := 1404) dL_law_1400 (by decide) ?_
          refine u_iload C dL_law_1404 rfl ?_
          refine u_iload C dL_law_1406 rfl ?_
          refine u_icmp_lt C (tgt := 1415) dL_law_1408 (by decide) (fun c1408 => absurd ((nI_ltI (by omega) (by omega)).mp c1408) (Nat.not_lt.mpr (hqt.mp c1396))) (fun c1408 => ?_)
          refine u_iconst C (v := 1) dL_law_1411 (by decide) ?_
          refine u_goto C (tgt := 1416) dL_law_1412 (by decide) ?_
          refine u_icmp_eq C (tgt := 1421) dL_law_1416 (by decide) (fun c1416 => ?_) (fun c1416 => absurd rfl c1416)
          refine u_iload C dL_law_1421 rfl ?_
          refine u_aload_n C dL_law_1423 rfl ?_
          refine u_iload C dL_law_1424 rfl ?_
          refine u_callC0 C (fun B => k_loudOn li lth B) cd_X1_loudOn kl_L_111 ci1 rfl (by decide) (as := [_]) rfl rfl (rm_l ⟨by decide, by decide⟩ ⟨by decide, by decide⟩ (by omega)) ⟨rfl, rfl⟩ (Nat.le_of_ble_eq_true rfl) dL_law_1426 ?_
          refine u_max C (i := 642) (by decide +kernel) ⟨by decide, Nat.le_of_ble_eq_true rfl, Nat.le_trans (Nat.le_succ _) (rm_n (kc := kc) (ks := ks) (N := 0) (by omega) (by omega)).1, (rm_n (kc := kc) (ks := ks) (N := 0) (by omega) (by omega)).2⟩ dL_law_1429 ?_
          refine u_istore C (lo' := [(23, _), (37, _), (0, _), (1, _), (2, _), (3, _), (4, _), (7, _), (8, _), (14, _), (19, _), (20, _), (21, _), (22, _), (24, _), (25, _), (26, _), (27, _), (28, _), (29, _), (30, _), (31, _), (32, _), (33, _), (34, _), (36, _)]) dL_law_1432 (by decide) rfl ?_
          refine u_iinc C (v := nI (jj + 1)) (lo' := [(25, _), (23, _), (37, _), (0, _), (1, _), (2, _), (3, _), (4, _), (7, _), (8, _), (14, _), (19, _), (20, _), (21, _), (22, _), (24, _), (26, _), (27, _), (28, _), (29, _), (30, _), (31, _), (32, _), (33, _), (34, _), (36, _)]) dL_law_1434 rfl (nI_inc _) (by decide) rfl ?_
          refine u_goto C (tgt := 775) dL_law_1437 (by decide) ?_
          exact u_lsub [3, 4, 5, 6, 7, 8, 9, 10, 11, 12, 13, 14, 1, 15, 0] rfl (hK A.tl.tl.tl.tl.tl.tl.tl)
      · refine u_iconst C (v := 1) dL_law_1348 (by decide) ?_
        refine u_goto C (tgt := 1353) dL_law_1349 (by decide) ?_
        refine u_istore C (lo' := [(37, _), (0, _), (1, _), (2, _), (3, _), (4, _), (7, _), (8, _), (14, _), (19, _), (20, _), (21, _), (22, _), (23, _), (24, _), (25, _), (26, _), (27, _), (28, _), (29, _), (30, _), (31, _), (32, _), (33, _), (34, _), (36, _)]) dL_law_1353 (by decide) rfl ?_
        refine u_aload_n C dL_law_1355 rfl ?_
        refine u_callC0 C (fun B => k_inherited li  B) cd_X1_inherited kl_L_155 ci1 rfl (by decide) (as := []) rfl rfl (rm_l ⟨by decide, by decide⟩ ⟨by decide, by decide⟩ (by omega)) ⟨rfl, rfl⟩ (Nat.le_of_ble_eq_true rfl) dL_law_1356 ?_
        refine u_iload C dL_law_1359 rfl ?_
        refine u_isub C dL_law_1361 ?_
        refine u_ttop (v' := .int (nI d)) (congrArg Value.int dd) ?_
        refine u_iconst C (v := 2) dL_law_1362 (by decide) ?_
        refine u_icmp_gt C (tgt := 1419) dL_law_1363 (by decide) (fun c1363 => absurd c1363 (Int32.not_lt.mpr (nI_le (b := 2) d2 (by decide)))) (fun c1363 => ?_)
        refine u_iload C dL_law_1366 rfl ?_
        refine u_aload_n C dL_law_1368 rfl ?_
        refine u_callC0 C (fun B => k_inherited li  B) cd_X1_inherited kl_L_155 ci1 rfl (by decide) (as := []) rfl rfl (rm_l ⟨by decide, by decide⟩ ⟨by decide, by decide⟩ (by omega)) ⟨rfl, rfl⟩ (Nat.le_of_ble_eq_true rfl) dL_law_1369 ?_
        refine u_iload C dL_law_1372 rfl ?_
        refine u_isub C dL_law_1374 ?_
        refine u_ttop (v' := .int (nI d)) (congrArg Value.int dd) ?_
        refine u_icmp_gt C (tgt := 1419) dL_law_1375 (by decide) (fun c1375 => absurd c1375 (Int32.not_lt.mpr ((nI_leI (by have := chN_le (owF Q) (owF (mBeat Q)) (mWs Q); omega) (by omega)).mpr d6))) (fun c1375 => ?_)
        refine u_iload C dL_law_1378 rfl ?_
        refine u_if_ne C (tgt := 1392) dL_law_1380 (by decide) (fun _ => ?_) (fun c => absurd c (by decide))
        refine u_aload_n C dL_law_1392 rfl ?_
        refine u_callC0 C (fun B => k_underWay li  B) cd_X1_underWay kl_L_121 ci1 rfl (by decide) (as := []) rfl rfl (rm_l ⟨by decide, by decide⟩ ⟨by decide, by decide⟩ (by omega)) ⟨rfl, rfl⟩ (Nat.le_of_ble_eq_true rfl) dL_law_1393 ?_
        refine u_if_ne C (tgt := 1403) dL_law_1396 (by decide) (fun c1396 => ?_) (fun c1396 => ?_)
        · refine u_iconst C (v := 0) dL_law_1403 (by decide) ?_
          refine u_iload C dL_law_1404 rfl ?_
          refine u_iload C dL_law_1406 rfl ?_
          refine u_icmp_lt C (tgt := 1415) dL_law_1408 (by decide) (fun c1408 => ?_) (fun c1408 => absurd (hqt.mpr (Nat.le_of_not_lt (fun z => c1408 ((nI_ltI (by omega) (by omega)).mpr z)))) c1396)
          refine u_iconst C (v := 0) dL_law_1415 (by decide) ?_
          refine u_icmp_eq C (tgt := 1421) dL_law_1416 (by decide) (fun c1416 => ?_) (fun c1416 => absurd rfl c1416)
          refine u_iload C dL_law_1421 rfl ?_
          refine u_aload_n C dL_law_1423 rfl ?_
          refine u_iload C dL_law_1424 rfl ?_
          refine u_callC0 C (fun B => k_loudOn li lth B) cd_X1_loudOn kl_L_111 ci1 rfl (by decide) (as := [_]) rfl rfl (rm_l ⟨by decide, by decide⟩ ⟨by decide, by decide⟩ (by omega)) ⟨rfl, rfl⟩ (Nat.le_of_ble_eq_true rfl) dL_law_1426 ?_
          refine u_max C (i := 642) (by decide +kernel) ⟨by decide, Nat.le_of_ble_eq_true rfl, Nat.le_trans (Nat.le_succ _) (rm_n (kc := kc) (ks := ks) (N := 0) (by omega) (by omega)).1, (rm_n (kc := kc) (ks := ks) (N := 0) (by omega) (by omega)).2⟩ dL_law_1429 ?_
          refine u_istore C (lo' := [(23, _), (37, _), (0, _), (1, _), (2, _), (3, _), (4, _), (7, _), (8, _), (14, _), (19, _), (20, _), (21, _), (22, _), (24, _), (25, _), (26, _), (27, _), (28, _), (29, _), (30, _), (31, _), (32, _), (33, _), (34, _), (36, _)]) dL_law_1432 (by decide) rfl ?_
          refine u_iinc C (v := nI (jj + 1)) (lo' := [(25, _), (23, _), (37, _), (0, _), (1, _), (2, _), (3, _), (4, _), (7, _), (8, _), (14, _), (19, _), (20, _), (21, _), (22, _), (24, _), (26, _), (27, _), (28, _), (29, _), (30, _), (31, _), (32, _), (33, _), (34, _), (36, _)]) dL_law_1434 rfl (nI_inc _) (by decide) rfl ?_
          refine u_goto C (tgt := 775) dL_law_1437 (by decide) ?_
          exact u_lsub [3, 4, 5, 6, 7, 8, 9, 10, 11, 12, 13, 14, 1, 15, 0] rfl (hK A.tl.tl.tl.tl.tl.tl.tl)
        · refine u_iconst C (v := 1) dL_law_1399 (by decide) ?_
          refine u_goto C (tgt := 1404) dL_law_1400 (by decide) ?_
          refine u_iload C dL_law_1404 rfl ?_
          refine u_iload C dL_law_1406 rfl ?_
          refine u_icmp_lt C (tgt := 1415) dL_law_1408 (by decide) (fun c1408 => absurd ((nI_ltI (by omega) (by omega)).mp c1408) (Nat.not_lt.mpr (hqt.mp c1396))) (fun c1408 => ?_)
          refine u_iconst C (v := 1) dL_law_1411 (by decide) ?_
          refine u_goto C (tgt := 1416) dL_law_1412 (by decide) ?_
          refine u_icmp_eq C (tgt := 1421) dL_law_1416 (by decide) (fun c1416 => ?_) (fun c1416 => absurd rfl c1416)
          refine u_iload C dL_law_1421 rfl ?_
          refine u_aload_n C dL_law_1423 rfl ?_
          refine u_iload C dL_law_1424 rfl ?_
          refine u_callC0 C (fun B => k_loudOn li lth B) cd_X1_loudOn kl_L_111 ci1 rfl (by decide) (as := [_]) rfl rfl (rm_l ⟨by decide, by decide⟩ ⟨by decide, by decide⟩ (by omega)) ⟨rfl, rfl⟩ (Nat.le_of_ble_eq_true rfl) dL_law_1426 ?_
          refine u_max C (i := 642) (by decide +kernel) ⟨by decide, Nat.le_of_ble_eq_true rfl, Nat.le_trans (Nat.le_succ _) (rm_n (kc := kc) (ks := ks) (N := 0) (by omega) (by omega)).1, (rm_n (kc := kc) (ks := ks) (N := 0) (by omega) (by omega)).2⟩ dL_law_1429 ?_
          refine u_istore C (lo' := [(23, _), (37, _), (0, _), (1, _), (2, _), (3, _), (4, _), (7, _), (8, _), (14, _), (19, _), (20, _), (21, _), (22, _), (24, _), (25, _), (26, _), (27, _), (28, _), (29, _), (30, _), (31, _), (32, _), (33, _), (34, _), (36, _)]) dL_law_1432 (by decide) rfl ?_
          refine u_iinc C (v := nI (jj + 1)) (lo' := [(25, _), (23, _), (37, _), (0, _), (1, _), (2, _), (3, _), (4, _), (7, _), (8, _), (14, _), (19, _), (20, _), (21, _), (22, _), (24, _), (26, _), (27, _), (28, _), (29, _), (30, _), (31, _), (32, _), (33, _), (34, _), (36, _)]) dL_law_1434 rfl (nI_inc _) (by decide) rfl ?_
          refine u_goto C (tgt := 775) dL_law_1437 (by decide) ?_
          exact u_lsub [3, 4, 5, 6, 7, 8, 9, 10, 11, 12, 13, 14, 1, 15, 0] rfl (hK A.tl.tl.tl.tl.tl.tl.tl)
  · refine u_aload_n C dL_law_1315 rfl ?_
    refine u_iconst C (v := 0) dL_law_1316 (by decide) ?_
    refine u_callC0 C (fun B => k_coinsOf li (e := 0) (by decide) B) cd_X1_coinsOf kl_L_122 ci1 rfl (by decide) (as := [_]) rfl rfl (rm_l ⟨by decide, by decide⟩ ⟨by decide, by decide⟩ (by omega)) ⟨rfl, rfl⟩ (Nat.le_of_ble_eq_true rfl) dL_law_1317 ?_
    refine u_aload C dL_law_1320 rfl ?_
    refine u_iconst C (v := 0) dL_law_1322 (by decide) ?_
    refine u_iald C (A.i (k := 0) rfl) rfl (by decide : 0 < 2) (by decide) dL_law_1323 ?_
    refine u_icmp_eq C (tgt := 1348) dL_law_1324 (by decide) (fun c1324 => ?_) (fun c1324 => ?_)
    · refine u_iconst C (v := 1) dL_law_1348 (by decide) ?_
      refine u_goto C (tgt := 1353) dL_law_1349 (by decide) ?_
      refine u_istore C (lo' := [(37, _), (0, _), (1, _), (2, _), (3, _), (4, _), (7, _), (8, _), (14, _), (19, _), (20, _), (21, _), (22, _), (23, _), (24, _), (25, _), (26, _), (27, _), (28, _), (29, _), (30, _), (31, _), (32, _), (33, _), (34, _), (36, _)]) dL_law_1353 (by decide) rfl ?_
      refine u_aload_n C dL_law_1355 rfl ?_
      refine u_callC0 C (fun B => k_inherited li  B) cd_X1_inherited kl_L_155 ci1 rfl (by decide) (as := []) rfl rfl (rm_l ⟨by decide, by decide⟩ ⟨by decide, by decide⟩ (by omega)) ⟨rfl, rfl⟩ (Nat.le_of_ble_eq_true rfl) dL_law_1356 ?_
      refine u_iload C dL_law_1359 rfl ?_
      refine u_isub C dL_law_1361 ?_
      refine u_ttop (v' := .int (nI d)) (congrArg Value.int dd) ?_
      refine u_iconst C (v := 2) dL_law_1362 (by decide) ?_
      refine u_icmp_gt C (tgt := 1419) dL_law_1363 (by decide) (fun c1363 => absurd c1363 (Int32.not_lt.mpr (nI_le (b := 2) d2 (by decide)))) (fun c1363 => ?_)
      refine u_iload C dL_law_1366 rfl ?_
      refine u_aload_n C dL_law_1368 rfl ?_
      refine u_callC0 C (fun B => k_inherited li  B) cd_X1_inherited kl_L_155 ci1 rfl (by decide) (as := []) rfl rfl (rm_l ⟨by decide, by decide⟩ ⟨by decide, by decide⟩ (by omega)) ⟨rfl, rfl⟩ (Nat.le_of_ble_eq_true rfl) dL_law_1369 ?_
      refine u_iload C dL_law_1372 rfl ?_
      refine u_isub C dL_law_1374 ?_
      refine u_ttop (v' := .int (nI d)) (congrArg Value.int dd) ?_
      refine u_icmp_gt C (tgt := 1419) dL_law_1375 (by decide) (fun c1375 => absurd c1375 (Int32.not_lt.mpr ((nI_leI (by have := chN_le (owF Q) (owF (mBeat Q)) (mWs Q); omega) (by omega)).mpr d6))) (fun c1375 => ?_)
      refine u_iload C dL_law_1378 rfl ?_
      refine u_if_ne C (tgt := 1392) dL_law_1380 (by decide) (fun _ => ?_) (fun c => absurd c (by decide))
      refine u_aload_n C dL_law_1392 rfl ?_
      refine u_callC0 C (fun B => k_underWay li  B) cd_X1_underWay kl_L_121 ci1 rfl (by decide) (as := []) rfl rfl (rm_l ⟨by decide, by decide⟩ ⟨by decide, by decide⟩ (by omega)) ⟨rfl, rfl⟩ (Nat.le_of_ble_eq_true rfl) dL_law_1393 ?_
      refine u_if_ne C (tgt := 1403) dL_law_1396 (by decide) (fun c1396 => ?_) (fun c1396 => ?_)
      · refine u_iconst C (v := 0) dL_law_1403 (by decide) ?_
        refine u_iload C dL_law_1404 rfl ?_
        refine u_iload C dL_law_1406 rfl ?_
        refine u_icmp_lt C (tgt := 1415) dL_law_1408 (by decide) (fun c1408 => ?_) (fun c1408 => absurd (hqt.mpr (Nat.le_of_not_lt (fun z => c1408 ((nI_ltI (by omega) (by omega)).mpr z)))) c1396)
        refine u_iconst C (v := 0) dL_law_1415 (by decide) ?_
        refine u_icmp_eq C (tgt := 1421) dL_law_1416 (by decide) (fun c1416 => ?_) (fun c1416 => absurd rfl c1416)
        refine u_iload C dL_law_1421 rfl ?_
        refine u_aload_n C dL_law_1423 rfl ?_
        refine u_iload C dL_law_1424 rfl ?_
        refine u_callC0 C (fun B => k_loudOn li lth B) cd_X1_loudOn kl_L_111 ci1 rfl (by decide) (as := [_]) rfl rfl (rm_l ⟨by decide, by decide⟩ ⟨by decide, by decide⟩ (by omega)) ⟨rfl, rfl⟩ (Nat.le_of_ble_eq_true rfl) dL_law_1426 ?_
        refine u_max C (i := 642) (by decide +kernel) ⟨by decide, Nat.le_of_ble_eq_true rfl, Nat.le_trans (Nat.le_succ _) (rm_n (kc := kc) (ks := ks) (N := 0) (by omega) (by omega)).1, (rm_n (kc := kc) (ks := ks) (N := 0) (by omega) (by omega)).2⟩ dL_law_1429 ?_
        refine u_istore C (lo' := [(23, _), (37, _), (0, _), (1, _), (2, _), (3, _), (4, _), (7, _), (8, _), (14, _), (19, _), (20, _), (21, _), (22, _), (24, _), (25, _), (26, _), (27, _), (28, _), (29, _), (30, _), (31, _), (32, _), (33, _), (34, _), (36, _)]) dL_law_1432 (by decide) rfl ?_
        refine u_iinc C (v := nI (jj + 1)) (lo' := [(25, _), (23, _), (37, _), (0, _), (1, _), (2, _), (3, _), (4, _), (7, _), (8, _), (14, _), (19, _), (20, _), (21, _), (22, _), (24, _), (26, _), (27, _), (28, _), (29, _), (30, _), (31, _), (32, _), (33, _), (34, _), (36, _)]) dL_law_1434 rfl (nI_inc _) (by decide) rfl ?_
        refine u_goto C (tgt := 775) dL_law_1437 (by decide) ?_
        exact u_lsub [3, 4, 5, 6, 7, 8, 9, 10, 11, 12, 13, 14, 1, 15, 0] rfl (hK A.tl.tl.tl.tl.tl.tl.tl)
      · refine u_iconst C (v := 1) dL_law_1399 (by decide) ?_
        refine u_goto C (tgt := 1404) dL_law_1400 (by decide) ?_
        refine u_iload C dL_law_1404 rfl ?_
        refine u_iload C dL_law_1406 rfl ?_
        refine u_icmp_lt C (tgt := 1415) dL_law_1408 (by decide) (fun c1408 => absurd ((nI_ltI (by omega) (by omega)).mp c1408) (Nat.not_lt.mpr (hqt.mp c1396))) (fun c1408 => ?_)
        refine u_iconst C (v := 1) dL_law_1411 (by decide) ?_
        refine u_goto C (tgt := 1416) dL_law_1412 (by decide) ?_
        refine u_icmp_eq C (tgt := 1421) dL_law_1416 (by decide) (fun c1416 => ?_) (fun c1416 => absurd rfl c1416)
        refine u_iload C dL_law_1421 rfl ?_
        refine u_aload_n C dL_law_1423 rfl ?_
        refine u_iload C dL_law_1424 rfl ?_
        refine u_callC0 C (fun B => k_loudOn li lth B) cd_X1_loudOn kl_L_111 ci1 rfl (by decide) (as := [_]) rfl rfl (rm_l ⟨by decide, by decide⟩ ⟨by decide, by decide⟩ (by omega)) ⟨rfl, rfl⟩ (Nat.le_of_ble_eq_true rfl) dL_law_1426 ?_
        refine u_max C (i := 642) (by decide +kernel) ⟨by decide, Nat.le_of_ble_eq_true rfl, Nat.le_trans (Nat.le_succ _) (rm_n (kc := kc) (ks := ks) (N := 0) (by omega) (by omega)).1, (rm_n (kc := kc) (ks := ks) (N := 0) (by omega) (by omega)).2⟩ dL_law_1429 ?_
        refine u_istore C (lo' := [(23, _), (37, _), (0, _), (1, _), (2, _), (3, _), (4, _), (7, _), (8, _), (14, _), (19, _), (20, _), (21, _), (22, _), (24, _), (25, _), (26, _), (27, _), (28, _), (29, _), (30, _), (31, _), (32, _), (33, _), (34, _), (36, _)]) dL_law_1432 (by decide) rfl ?_
        refine u_iinc C (v := nI (jj + 1)) (lo' := [(25, _), (23, _), (37, _), (0, _), (1, _), (2, _), (3, _), (4, _), (7, _), (8, _), (14, _), (19, _), (20, _), (21, _), (22, _), (24, _), (26, _), (27, _), (28, _), (29, _), (30, _), (31, _), (32, _), (33, _), (34, _), (36, _)]) dL_law_1434 rfl (nI_inc _) (by decide) rfl ?_
        refine u_goto C (tgt := 775) dL_law_1437 (by decide) ?_
        exact u_lsub [3, 4, 5, 6, 7, 8, 9, 10, 11, 12, 13, 14, 1, 15, 0] rfl (hK A.tl.tl.tl.tl.tl.tl.tl)
    · have n0 : ¬ (mB1 Q 36 0 = 0 ∧ Q 34 (5 + 0) = 11) := fun z => c1324 ((hco 0 (by decide)).mpr z.1)
      refine u_aload C dL_law_1327 rfl ?_
      refine u_iconst C (v := 1) dL_law_1329 (by decide) ?_
      refine u_iald C (A.i (k := 1) rfl) rfl (by decide : 1 < 2) (by decide) dL_law_1330 ?_
      refine u_bipush C (v := 11) dL_law_1331 (by decide) ?_
      refine u_icmp_ne C (tgt := 1352) dL_law_1333 (by decide) (fun c1333 => ?_) (fun c1333 => ?_)
      · have hd0 := hz n0 (fun z => c1333 z.2)
        refine u_iconst C (v := 0) dL_law_1352 (by decide) ?_
        refine u_istore C (lo' := [(37, _), (0, _), (1, _), (2, _), (3, _), (4, _), (7, _), (8, _), (14, _), (19, _), (20, _), (21, _), (22, _), (23, _), (24, _), (25, _), (26, _), (27, _), (28, _), (29, _), (30, _), (31, _), (32, _), (33, _), (34, _), (36, _)]) dL_law_1353 (by decide) rfl ?_
        refine u_aload_n C dL_law_1355 rfl ?_
        refine u_callC0 C (fun B => k_inherited li  B) cd_X1_inherited kl_L_155 ci1 rfl (by decide) (as := []) rfl rfl (rm_l ⟨by decide, by decide⟩ ⟨by decide, by decide⟩ (by omega)) ⟨rfl, rfl⟩ (Nat.le_of_ble_eq_true rfl) dL_law_1356 ?_
        refine u_iload C dL_law_1359 rfl ?_
        refine u_isub C dL_law_1361 ?_
        refine u_ttop (v' := .int (nI d)) (congrArg Value.int dd) ?_
        refine u_iconst C (v := 2) dL_law_1362 (by decide) ?_
        refine u_icmp_gt C (tgt := 1419) dL_law_1363 (by decide) (fun c1363 => absurd c1363 (Int32.not_lt.mpr (nI_le (b := 2) d2 (by decide)))) (fun c1363 => ?_)
        refine u_iload C dL_law_1366 rfl ?_
        refine u_aload_n C dL_law_1368 rfl ?_
        refine u_callC0 C (fun B => k_inherited li  B) cd_X1_inherited kl_L_155 ci1 rfl (by decide) (as := []) rfl rfl (rm_l ⟨by decide, by decide⟩ ⟨by decide, by decide⟩ (by omega)) ⟨rfl, rfl⟩ (Nat.le_of_ble_eq_true rfl) dL_law_1369 ?_
        refine u_iload C dL_law_1372 rfl ?_
        refine u_isub C dL_law_1374 ?_
        refine u_ttop (v' := .int (nI d)) (congrArg Value.int dd) ?_
        refine u_icmp_gt C (tgt := 1419) dL_law_1375 (by decide) (fun c1375 => absurd c1375 (Int32.not_lt.mpr ((nI_leI (by have := chN_le (owF Q) (owF (mBeat Q)) (mWs Q); omega) (by omega)).mpr d6))) (fun c1375 => ?_)
        refine u_iload C dL_law_1378 rfl ?_
        refine u_if_ne C (tgt := 1392) dL_law_1380 (by decide) (fun c => absurd c (by decide)) (fun _ => ?_)
        refine u_aload_n C dL_law_1383 rfl ?_
        refine u_callC0 C (fun B => k_inherited li  B) cd_X1_inherited kl_L_155 ci1 rfl (by decide) (as := []) rfl rfl (rm_l ⟨by decide, by decide⟩ ⟨by decide, by decide⟩ (by omega)) ⟨rfl, rfl⟩ (Nat.le_of_ble_eq_true rfl) dL_law_1384 ?_
        refine u_iload C dL_law_1387 rfl ?_
        refine u_icmp_gt C (tgt := 1419) dL_law_1389 (by decide) (fun c1389 => absurd c1389 (by rw [d3, hd0]; show ¬ (Q 34 2 < Q 34 2 + 0); rw [Int32.add_zero]; exact fun z => Int32.lt_irrefl z)) (fun c1389 => ?_)
        refine u_aload_n C dL_law_1392 rfl ?_
        refine u_callC0 C (fun B => k_underWay li  B) cd_X1_underWay kl_L_121 ci1 rfl (by decide) (as := []) rfl rfl (rm_l ⟨by decide, by decide⟩ ⟨by decide, by decide⟩ (by omega)) ⟨rfl, rfl⟩ (Nat.le_of_ble_eq_true rfl) dL_law_1393 ?_
        refine u_if_ne C (tgt := 1403) dL_law_1396 (by decide) (fun c1396 => ?_) (fun c1396 => ?_)
        · refine u_iconst C (v := 0) dL_law_1403 (by decide) ?_
          refine u_iload C dL_law_1404 rfl ?_
          refine u_iload C dL_law_1406 rfl ?_
          refine u_icmp_lt C (tgt := 1415) dL_law_1408 (by decide) (fun c1408 => ?_) (fun c1408 => absurd (hqt.mpr (Nat.le_of_not_lt (fun z => c1408 ((nI_ltI (by omega) (by omega)).mpr z)))) c1396)
          refine u_iconst C (v := 0) dL_law_1415 (by decide) ?_
          refine u_icmp_eq C (tgt := 1421) dL_law_1416 (by decide) (fun c1416 => ?_) (fun c1416 => absurd rfl c1416)
          refine u_iload C dL_law_1421 rfl ?_
          refine u_aload_n C dL_law_1423 rfl ?_
          refine u_iload C dL_law_1424 rfl ?_
          refine u_callC0 C (fun B => k_loudOn li lth B) cd_X1_loudOn kl_L_111 ci1 rfl (by decide) (as := [_]) rfl rfl (rm_l ⟨by decide, by decide⟩ ⟨by decide, by decide⟩ (by omega)) ⟨rfl, rfl⟩ (Nat.le_of_ble_eq_true rfl) dL_law_1426 ?_
          refine u_max C (i := 642) (by decide +kernel) ⟨by decide, Nat.le_of_ble_eq_true rfl, Nat.le_trans (Nat.le_succ _) (rm_n (kc := kc) (ks := ks) (N := 0) (by omega) (by omega)).1, (rm_n (kc := kc) (ks := ks) (N := 0) (by omega) (by omega)).2⟩ dL_law_1429 ?_
          refine u_istore C (lo' := [(23, _), (37, _), (0, _), (1, _), (2, _), (3, _), (4, _), (7, _), (8, _), (14, _), (19, _), (20, _), (21, _), (22, _), (24, _), (25, _), (26, _), (27, _), (28, _), (29, _), (30, _), (31, _), (32, _), (33, _), (34, _), (36, _)]) dL_law_1432 (by decide) rfl ?_
          refine u_iinc C (v := nI (jj + 1)) (lo' := [(25, _), (23, _), (37, _), (0, _), (1, _), (2, _), (3, _), (4, _), (7, _), (8, _), (14, _), (19, _), (20, _), (21, _), (22, _), (24, _), (26, _), (27, _), (28, _), (29, _), (30, _), (31, _), (32, _), (33, _), (34, _), (36, _)]) dL_law_1434 rfl (nI_inc _) (by decide) rfl ?_
          refine u_goto C (tgt := 775) dL_law_1437 (by decide) ?_
          exact u_lsub [3, 4, 5, 6, 7, 8, 9, 10, 11, 12, 13, 14, 1, 15, 0] rfl (hK A.tl.tl.tl.tl.tl.tl.tl)
        · refine u_iconst C (v := 1) dL_law_1399 (by decide) ?_
          refine u_goto C (tgt := 1404) dL_law_1400 (by decide) ?_
          refine u_iload C dL_law_1404 rfl ?_
          refine u_iload C dL_law_1406 rfl ?_
          refine u_icmp_lt C (tgt := 1415) dL_law_1408 (by decide) (fun c1408 => absurd ((nI_ltI (by omega) (by omega)).mp c1408) (Nat.not_lt.mpr (hqt.mp c1396))) (fun c1408 => ?_)
          refine u_iconst C (v := 1) dL_law_1411 (by decide) ?_
          refine u_goto C (tgt := 1416) dL_law_1412 (by decide) ?_
          refine u_icmp_eq C (tgt := 1421) dL_law_1416 (by decide) (fun c1416 => ?_) (fun c1416 => absurd rfl c1416)
          refine u_iload C dL_law_1421 rfl ?_
          refine u_aload_n C dL_law_1423 rfl ?_
          refine u_iload C dL_law_1424 rfl ?_
          refine u_callC0 C (fun B => k_loudOn li lth B) cd_X1_loudOn kl_L_111 ci1 rfl (by decide) (as := [_]) rfl rfl (rm_l ⟨by decide, by decide⟩ ⟨by decide, by decide⟩ (by omega)) ⟨rfl, rfl⟩ (Nat.le_of_ble_eq_true rfl) dL_law_1426 ?_
          refine u_max C (i := 642) (by decide +kernel) ⟨by decide, Nat.le_of_ble_eq_true rfl, Nat.le_trans (Nat.le_succ _) (rm_n (kc := kc) (ks := ks) (N := 0) (by omega) (by omega)).1, (rm_n (kc := kc) (ks := ks) (N := 0) (by omega) (by omega)).2⟩ dL_law_1429 ?_
          refine u_istore C (lo' := [(23, _), (37, _), (0, _), (1, _), (2, _), (3, _), (4, _), (7, _), (8, _), (14, _), (19, _), (20, _), (21, _), (22, _), (24, _), (25, _), (26, _), (27, _), (28, _), (29, _), (30, _), (31, _), (32, _), (33, _), (34, _), (36, _)]) dL_law_1432 (by decide) rfl ?_
          refine u_iinc C (v := nI (jj + 1)) (lo' := [(25, _), (23, _), (37, _), (0, _), (1, _), (2, _), (3, _), (4, _), (7, _), (8, _), (14, _), (19, _), (20, _), (21, _), (22, _), (24, _), (26, _), (27, _), (28, _), (29, _), (30, _), (31, _), (32, _), (33, _), (34, _), (36, _)]) dL_law_1434 rfl (nI_inc _) (by decide) rfl ?_
          refine u_goto C (tgt := 775) dL_law_1437 (by decide) ?_
          exact u_lsub [3, 4, 5, 6, 7, 8, 9, 10, 11, 12, 13, 14, 1, 15, 0] rfl (hK A.tl.tl.tl.tl.tl.tl.tl)
      · refine u_aload_n C dL_law_1336 rfl ?_
        refine u_iconst C (v := 1) dL_law_1337 (by decide) ?_
        refine u_callC0 C (fun B => k_coinsOf li (e := 1) (by decide) B) cd_X1_coinsOf kl_L_122 ci1 rfl (by decide) (as := [_]) rfl rfl (rm_l ⟨by decide, by decide⟩ ⟨by decide, by decide⟩ (by omega)) ⟨rfl, rfl⟩ (Nat.le_of_ble_eq_true rfl) dL_law_1338 ?_
        refine u_aload C dL_law_1341 rfl ?_
        refine u_iconst C (v := 1) dL_law_1343 (by decide) ?_
        refine u_iald C (A.i (k := 0) rfl) rfl (by decide : 1 < 2) (by decide) dL_law_1344 ?_
        refine u_icmp_ne C (tgt := 1352) dL_law_1345 (by decide) (fun c1345 => ?_) (fun c1345 => ?_)
        · have hd0 := hz n0 (fun z => c1345 ((hco 1 (by decide)).mpr z.1))
          refine u_iconst C (v := 0) dL_law_1352 (by decide) ?_
          refine u_istore C (lo' := [(37, _), (0, _), (1, _), (2, _), (3, _), (4, _), (7, _), (8, _), (14, _), (19, _), (20, _), (21, _), (22, _), (23, _), (24, _), (25, _), (26, _), (27, _), (28, _), (29, _), (30, _), (31, _), (32, _), (33, _), (34, _), (36, _)]) dL_law_1353 (by decide) rfl ?_
          refine u_aload_n C dL_law_1355 rfl ?_
          refine u_callC0 C (fun B => k_inherited li  B) cd_X1_inherited kl_L_155 ci1 rfl (by decide) (as := []) rfl rfl (rm_l ⟨by decide, by decide⟩ ⟨by decide, by decide⟩ (by omega)) ⟨rfl, rfl⟩ (Nat.le_of_ble_eq_true rfl) dL_law_1356 ?_
          refine u_iload C dL_law_1359 rfl ?_
          refine u_isub C dL_law_1361 ?_
          refine u_ttop (v' := .int (nI d)) (congrArg Value.int dd) ?_
          refine u_iconst C (v := 2) dL_law_1362 (by decide) ?_
          refine u_icmp_gt C (tgt := 1419) dL_law_1363 (by decide) (fun c1363 => absurd c1363 (Int32.not_lt.mpr (nI_le (b := 2) d2 (by decide)))) (fun c1363 => ?_)
          refine u_iload C dL_law_1366 rfl ?_
          refine u_aload_n C dL_law_1368 rfl ?_
          refine u_callC0 C (fun B => k_inherited li  B) cd_X1_inherited kl_L_155 ci1 rfl (by decide) (as := []) rfl rfl (rm_l ⟨by decide, by decide⟩ ⟨by decide, by decide⟩ (by omega)) ⟨rfl, rfl⟩ (Nat.le_of_ble_eq_true rfl) dL_law_1369 ?_
          refine u_iload C dL_law_1372 rfl ?_
          refine u_isub C dL_law_1374 ?_
          refine u_ttop (v' := .int (nI d)) (congrArg Value.int dd) ?_
          refine u_icmp_gt C (tgt := 1419) dL_law_1375 (by decide) (fun c1375 => absurd c1375 (Int32.not_lt.mpr ((nI_leI (by have := chN_le (owF Q) (owF (mBeat Q)) (mWs Q); omega) (by omega)).mpr d6))) (fun c1375 => ?_)
          refine u_iload C dL_law_1378 rfl ?_
          refine u_if_ne C (tgt := 1392) dL_law_1380 (by decide) (fun c => absurd c (by decide)) (fun _ => ?_)
          refine u_aload_n C dL_law_1383 rfl ?_
          refine u_callC0 C (fun B => k_inherited li  B) cd_X1_inherited kl_L_155 ci1 rfl (by decide) (as := []) rfl rfl (rm_l ⟨by decide, by decide⟩ ⟨by decide, by decide⟩ (by omega)) ⟨rfl, rfl⟩ (Nat.le_of_ble_eq_true rfl) dL_law_1384 ?_
          refine u_iload C dL_law_1387 rfl ?_
          refine u_icmp_gt C (tgt := 1419) dL_law_1389 (by decide) (fun c1389 => absurd c1389 (by rw [d3, hd0]; show ¬ (Q 34 2 < Q 34 2 + 0); rw [Int32.add_zero]; exact fun z => Int32.lt_irrefl z)) (fun c1389 => ?_)
          refine u_aload_n C dL_law_1392 rfl ?_
          refine u_callC0 C (fun B => k_underWay li  B) cd_X1_underWay kl_L_121 ci1 rfl (by decide) (as := []) rfl rfl (rm_l ⟨by decide, by decide⟩ ⟨by decide, by decide⟩ (by omega)) ⟨rfl, rfl⟩ (Nat.le_of_ble_eq_true rfl) dL_law_1393 ?_
          refine u_if_ne C (tgt := 1403) dL_law_1396 (by decide) (fun c1396 => ?_) (fun c1396 => ?_)
          · refine u_iconst C (v := 0) dL_law_1403 (by decide) ?_
            refine u_iload C dL_law_1404 rfl ?_
            refine u_iload C dL_law_1406 rfl ?_
            refine u_icmp_lt C (tgt := 1415) dL_law_1408 (by decide) (fun c1408 => ?_) (fun c1408 => absurd (hqt.mpr (Nat.le_of_not_lt (fun z => c1408 ((nI_ltI (by omega) (by omega)).mpr z)))) c1396)
            refine u_iconst C (v := 0) dL_law_1415 (by decide) ?_
            refine u_icmp_eq C (tgt := 1421) dL_law_1416 (by decide) (fun c1416 => ?_) (fun c1416 => absurd rfl c1416)
            refine u_iload C dL_law_1421 rfl ?_
            refine u_aload_n C dL_law_1423 rfl ?_
            refine u_iload C dL_law_1424 rfl ?_
            refine u_callC0 C (fun B => k_loudOn li lth B) cd_X1_loudOn kl_L_111 ci1 rfl (by decide) (as := [_]) rfl rfl (rm_l ⟨by decide, by decide⟩ ⟨by decide, by decide⟩ (by omega)) ⟨rfl, rfl⟩ (Nat.le_of_ble_eq_true rfl) dL_law_1426 ?_
            refine u_max C (i := 642) (by decide +kernel) ⟨by decide, Nat.le_of_ble_eq_true rfl, Nat.le_trans (Nat.le_succ _) (rm_n (kc := kc) (ks := ks) (N := 0) (by omega) (by omega)).1, (rm_n (kc := kc) (ks := ks) (N := 0) (by omega) (by omega)).2⟩ dL_law_1429 ?_
            refine u_istore C (lo' := [(23, _), (37, _), (0, _), (1, _), (2, _), (3, _), (4, _), (7, _), (8, _), (14, _), (19, _), (20, _), (21, _), (22, _), (24, _), (25, _), (26, _), (27, _), (28, _), (29, _), (30, _), (31, _), (32, _), (33, _), (34, _), (36, _)]) dL_law_1432 (by decide) rfl ?_
            refine u_iinc C (v := nI (jj + 1)) (lo' := [(25, _), (23, _), (37, _), (0, _), (1, _), (2, _), (3, _), (4, _), (7, _), (8, _), (14, _), (19, _), (20, _), (21, _), (22, _), (24, _), (26, _), (27, _), (28, _), (29, _), (30, _), (31, _), (32, _), (33, _), (34, _), (36, _)]) dL_law_1434 rfl (nI_inc _) (by decide) rfl ?_
            refine u_goto C (tgt := 775) dL_law_1437 (by decide) ?_
            exact u_lsub [3, 4, 5, 6, 7, 8, 9, 10, 11, 12, 13, 14, 1, 15, 0] rfl (hK A.tl.tl.tl.tl.tl.tl.tl)
          · refine u_iconst C (v := 1) dL_law_1399 (by decide) ?_
            refine u_goto C (tgt := 1404) dL_law_1400 (by decide) ?_
            refine u_iload C dL_law_1404 rfl ?_
            refine u_iload C dL_law_1406 rfl ?_
            refine u_icmp_lt C (tgt := 1415) dL_law_1408 (by decide) (fun c1408 => absurd ((nI_ltI (by omega) (by omega)).mp c1408) (Nat.not_lt.mpr (hqt.mp c1396))) (fun c1408 => ?_)
            refine u_iconst C (v := 1) dL_law_1411 (by decide) ?_
            refine u_goto C (tgt := 1416) dL_law_1412 (by decide) ?_
            refine u_icmp_eq C (tgt := 1421) dL_law_1416 (by decide) (fun c1416 => ?_) (fun c1416 => absurd rfl c1416)
            refine u_iload C dL_law_1421 rfl ?_
            refine u_aload_n C dL_law_1423 rfl ?_
            refine u_iload C dL_law_1424 rfl ?_
            refine u_callC0 C (fun B => k_loudOn li lth B) cd_X1_loudOn kl_L_111 ci1 rfl (by decide) (as := [_]) rfl rfl (rm_l ⟨by decide, by decide⟩ ⟨by decide, by decide⟩ (by omega)) ⟨rfl, rfl⟩ (Nat.le_of_ble_eq_true rfl) dL_law_1426 ?_
            refine u_max C (i := 642) (by decide +kernel) ⟨by decide, Nat.le_of_ble_eq_true rfl, Nat.le_trans (Nat.le_succ _) (rm_n (kc := kc) (ks := ks) (N := 0) (by omega) (by omega)).1, (rm_n (kc := kc) (ks := ks) (N := 0) (by omega) (by omega)).2⟩ dL_law_1429 ?_
            refine u_istore C (lo' := [(23, _), (37, _), (0, _), (1, _), (2, _), (3, _), (4, _), (7, _), (8, _), (14, _), (19, _), (20, _), (21, _), (22, _), (24, _), (25, _), (26, _), (27, _), (28, _), (29, _), (30, _), (31, _), (32, _), (33, _), (34, _), (36, _)]) dL_law_1432 (by decide) rfl ?_
            refine u_iinc C (v := nI (jj + 1)) (lo' := [(25, _), (23, _), (37, _), (0, _), (1, _), (2, _), (3, _), (4, _), (7, _), (8, _), (14, _), (19, _), (20, _), (21, _), (22, _), (24, _), (26, _), (27, _), (28, _), (29, _), (30, _), (31, _), (32, _), (33, _), (34, _), (36, _)]) dL_law_1434 rfl (nI_inc _) (by decide) rfl ?_
            refine u_goto C (tgt := 775) dL_law_1437 (by decide) ?_
            exact u_lsub [3, 4, 5, 6, 7, 8, 9, 10, 11, 12, 13, 14, 1, 15, 0] rfl (hK A.tl.tl.tl.tl.tl.tl.tl)
        · refine u_iconst C (v := 1) dL_law_1348 (by decide) ?_
          refine u_goto C (tgt := 1353) dL_law_1349 (by decide) ?_
          refine u_istore C (lo' := [(37, _), (0, _), (1, _), (2, _), (3, _), (4, _), (7, _), (8, _), (14, _), (19, _), (20, _), (21, _), (22, _), (23, _), (24, _), (25, _), (26, _), (27, _), (28, _), (29, _), (30, _), (31, _), (32, _), (33, _), (34, _), (36, _)]) dL_law_1353 (by decide) rfl ?_
          refine u_aload_n C dL_law_1355 rfl ?_
          refine u_callC0 C (fun B => k_inherited li  B) cd_X1_inherited kl_L_155 ci1 rfl (by decide) (as := []) rfl rfl (rm_l ⟨by decide, by decide⟩ ⟨by decide, by decide⟩ (by omega)) ⟨rfl, rfl⟩ (Nat.le_of_ble_eq_true rfl) dL_law_1356 ?_
          refine u_iload C dL_law_1359 rfl ?_
          refine u_isub C dL_law_1361 ?_
          refine u_ttop (v' := .int (nI d)) (congrArg Value.int dd) ?_
          refine u_iconst C (v := 2) dL_law_1362 (by decide) ?_
          refine u_icmp_gt C (tgt := 1419) dL_law_1363 (by decide) (fun c1363 => absurd c1363 (Int32.not_lt.mpr (nI_le (b := 2) d2 (by decide)))) (fun c1363 => ?_)
          refine u_iload C dL_law_1366 rfl ?_
          refine u_aload_n C dL_law_1368 rfl ?_
          refine u_callC0 C (fun B => k_inherited li  B) cd_X1_inherited kl_L_155 ci1 rfl (by decide) (as := []) rfl rfl (rm_l ⟨by decide, by decide⟩ ⟨by decide, by decide⟩ (by omega)) ⟨rfl, rfl⟩ (Nat.le_of_ble_eq_true rfl) dL_law_1369 ?_
          refine u_iload C dL_law_1372 rfl ?_
          refine u_isub C dL_law_1374 ?_
          refine u_ttop (v' := .int (nI d)) (congrArg Value.int dd) ?_
          refine u_icmp_gt C (tgt := 1419) dL_law_1375 (by decide) (fun c1375 => absurd c1375 (Int32.not_lt.mpr ((nI_leI (by have := chN_le (owF Q) (owF (mBeat Q)) (mWs Q); omega) (by omega)).mpr d6))) (fun c1375 => ?_)
          refine u_iload C dL_law_1378 rfl ?_
          refine u_if_ne C (tgt := 1392) dL_law_1380 (by decide) (fun _ => ?_) (fun c => absurd c (by decide))
          refine u_aload_n C dL_law_1392 rfl ?_
          refine u_callC0 C (fun B => k_underWay li  B) cd_X1_underWay kl_L_121 ci1 rfl (by decide) (as := []) rfl rfl (rm_l ⟨by decide, by decide⟩ ⟨by decide, by decide⟩ (by omega)) ⟨rfl, rfl⟩ (Nat.le_of_ble_eq_true rfl) dL_law_1393 ?_
          refine u_if_ne C (tgt := 1403) dL_law_1396 (by decide) (fun c1396 => ?_) (fun c1396 => ?_)
          · refine u_iconst C (v := 0) dL_law_1403 (by decide) ?_
            refine u_iload C dL_law_1404 rfl ?_
            refine u_iload C dL_law_1406 rfl ?_
            refine u_icmp_lt C (tgt := 1415) dL_law_1408 (by decide) (fun c1408 => ?_) (fun c1408 => absurd (hqt.mpr (Nat.le_of_not_lt (fun z => c1408 ((nI_ltI (by omega) (by omega)).mpr z)))) c1396)
            refine u_iconst C (v := 0) dL_law_1415 (by decide) ?_
            refine u_icmp_eq C (tgt := 1421) dL_law_1416 (by decide) (fun c1416 => ?_) (fun c1416 => absurd rfl c1416)
            refine u_iload C dL_law_1421 rfl ?_
            refine u_aload_n C dL_law_1423 rfl ?_
            refine u_iload C dL_law_1424 rfl ?_
            refine u_callC0 C (fun B => k_loudOn li lth B) cd_X1_loudOn kl_L_111 ci1 rfl (by decide) (as := [_]) rfl rfl (rm_l ⟨by decide, by decide⟩ ⟨by decide, by decide⟩ (by omega)) ⟨rfl, rfl⟩ (Nat.le_of_ble_eq_true rfl) dL_law_1426 ?_
            refine u_max C (i := 642) (by decide +kernel) ⟨by decide, Nat.le_of_ble_eq_true rfl, Nat.le_trans (Nat.le_succ _) (rm_n (kc := kc) (ks := ks) (N := 0) (by omega) (by omega)).1, (rm_n (kc := kc) (ks := ks) (N := 0) (by omega) (by omega)).2⟩ dL_law_1429 ?_
            refine u_istore C (lo' := [(23, _), (37, _), (0, _), (1, _), (2, _), (3, _), (4, _), (7, _), (8, _), (14, _), (19, _), (20, _), (21, _), (22, _), (24, _), (25, _), (26, _), (27, _), (28, _), (29, _), (30, _), (31, _), (32, _), (33, _), (34, _), (36, _)]) dL_law_1432 (by decide) rfl ?_
            refine u_iinc C (v := nI (jj + 1)) (lo' := [(25, _), (23, _), (37, _), (0, _), (1, _), (2, _), (3, _), (4, _), (7, _), (8, _), (14, _), (19, _), (20, _), (21, _), (22, _), (24, _), (26, _), (27, _), (28, _), (29, _), (30, _), (31, _), (32, _), (33, _), (34, _), (36, _)]) dL_law_1434 rfl (nI_inc _) (by decide) rfl ?_
            refine u_goto C (tgt := 775) dL_law_1437 (by decide) ?_
            exact u_lsub [3, 4, 5, 6, 7, 8, 9, 10, 11, 12, 13, 14, 1, 15, 0] rfl (hK A.tl.tl.tl.tl.tl.tl.tl)
          · refine u_iconst C (v := 1) dL_law_1399 (by decide) ?_
            refine u_goto C (tgt := 1404) dL_law_1400 (by decide) ?_
            refine u_iload C dL_law_1404 rfl ?_
            refine u_iload C dL_law_1406 rfl ?_
            refine u_icmp_lt C (tgt := 1415) dL_law_1408 (by decide) (fun c1408 => absurd ((nI_ltI (by omega) (by omega)).mp c1408) (Nat.not_lt.mpr (hqt.mp c1396))) (fun c1408 => ?_)
            refine u_iconst C (v := 1) dL_law_1411 (by decide) ?_
            refine u_goto C (tgt := 1416) dL_law_1412 (by decide) ?_
            refine u_icmp_eq C (tgt := 1421) dL_law_1416 (by decide) (fun c1416 => ?_) (fun c1416 => absurd rfl c1416)
            refine u_iload C dL_law_1421 rfl ?_
            refine u_aload_n C dL_law_1423 rfl ?_
            refine u_iload C dL_law_1424 rfl ?_
            refine u_callC0 C (fun B => k_loudOn li lth B) cd_X1_loudOn kl_L_111 ci1 rfl (by decide) (as := [_]) rfl rfl (rm_l ⟨by decide, by decide⟩ ⟨by decide, by decide⟩ (by omega)) ⟨rfl, rfl⟩ (Nat.le_of_ble_eq_true rfl) dL_law_1426 ?_
            refine u_max C (i := 642) (by decide +kernel) ⟨by decide, Nat.le_of_ble_eq_true rfl, Nat.le_trans (Nat.le_succ _) (rm_n (kc := kc) (ks := ks) (N := 0) (by omega) (by omega)).1, (rm_n (kc := kc) (ks := ks) (N := 0) (by omega) (by omega)).2⟩ dL_law_1429 ?_
            refine u_istore C (lo' := [(23, _), (37, _), (0, _), (1, _), (2, _), (3, _), (4, _), (7, _), (8, _), (14, _), (19, _), (20, _), (21, _), (22, _), (24, _), (25, _), (26, _), (27, _), (28, _), (29, _), (30, _), (31, _), (32, _), (33, _), (34, _), (36, _)]) dL_law_1432 (by decide) rfl ?_
            refine u_iinc C (v := nI (jj + 1)) (lo' := [(25, _), (23, _), (37, _), (0, _), (1, _), (2, _), (3, _), (4, _), (7, _), (8, _), (14, _), (19, _), (20, _), (21, _), (22, _), (24, _), (26, _), (27, _), (28, _), (29, _), (30, _), (31, _), (32, _), (33, _), (34, _), (36, _)]) dL_law_1434 rfl (nI_inc _) (by decide) rfl ?_
            refine u_goto C (tgt := 775) dL_law_1437 (by decide) ?_
            exact u_lsub [3, 4, 5, 6, 7, 8, 9, 10, 11, 12, 13, 14, 1, 15, 0] rfl (hK A.tl.tl.tl.tl.tl.tl.tl)
set_option maxHeartbeats 1000000 in
set_option maxRecDepth 100000 in
theorem q_b_l5 {X : XT} {l : Launch} {g : GT} {b t : Nat} {x : Int32}  {ad : Nat → Nat} {Q : Mem} {nb th qq jj q20 q24 : Nat} {v19 v21 hv : Int32} {L0 : List AE} {kc ks : Nat} (hk : kc ≤ 55000 ∧ ks ≤ 850000) {qa ql qt qr qo qs qc : Nat} {M : Mem} {D : DM} (hp : PK Q) (li : LI nb M (mBeat Q)) (h : SP g D ad (mBeat Q)) (A : AR g D (mWs Q) (mSh Q) ad ((qc, 2, .inl (fun e => Q 34 (3 + e))) :: (qs, 2, .inl (fun e => Q 34 (5 + e))) :: (qo, mWs Q, .inl (owF Q)) :: (qr, mSh Q, .inr (fun k => b2i (mRt Q k))) :: (qt, mSh Q, .inl (fun k => Q 34 (147 + k))) :: (ql, mSh Q, .inl (lvF Q)) :: (qa, mSh Q, .inl (mPl Q)) :: L0)) (lth : th < 32) (hjq : jj ≤ 1000 ∧ qq ≤ 1000) (hqt : mMany (mBeat Q) = 0 ↔ qq ≤ jj) (hsil : ∀ e, e < 2 → 0 ≤ Q 34 (5 + e) ∧ Q 34 (5 + e) ≤ 11) (hK : AR g D (mWs Q) (mSh Q) ad L0 → UX X g (kc) (ks) 775 [(0, .ref b), (1, .ref (ga g 0)), (2, .ref (ad 0)), (3, .int (nI t)), (4, .int x), (7, .int (nI (mSh Q))), (8, .int (nI (mWs Q))), (14, .int (nI th)), (19, .int v19), (20, .ref q20), (21, .int v21), (22, .int (nI qq)), (23, .int (if hv < mLA (mBeat Q) (nI th) then mLA (mBeat Q) (nI th) else hv)), (24, .ref q24), (25, .int (nI (jj + 1)))] [] M D) (hcn : ∀ e, e < 2 → 0 ≤ (Q 34 (3 + e)).toInt ∧ (Q 34 (3 + e)).toInt ≤ 900000)  (C : Cx X g l cL_law 39 RL (some .boolean) room_1) : ∀ (n e : Nat), e ≤ 2 → 3 ≤ e + n → UX X g (kc) (ks) 1236 [(0, .ref b), (1, .ref (ga g 0)), (2, .ref (ad 0)), (3, .int (nI t)), (4, .int x), (7, .int (nI (mSh Q))), (8, .int (nI (mWs Q))), (14, .int (nI th)), (19, .int v19), (20, .ref q20), (21, .int v21), (22, .int (nI qq)), (23, .int hv), (24, .ref q24), (25, .int (nI jj)), (26, .ref qa), (27, .ref ql), (28, .ref qt), (29, .ref qr), (30, .ref qo), (31, .ref qs), (32, .int (Q 34 1)), (33, .int (Q 34 2)), (34, .ref qc), (36, .int (nI (chN (owF Q) (owF (mBeat Q)) (mWs Q)))), (37, .int (nI e))] [] M D := by
  intro n
  induction n with
  | zero =>
    intro e h1 h2; omega
  | succ n ih =>
    intro e h1 h2
    have hn := hp.1.ws
    have hn2 := hp.1.sh
    obtain ⟨nw9, ns9⟩ := mBeat_n Q hp
    obtain ⟨hs1, -⟩ := beat_hush hp hsil
    obtain ⟨gf, hgf⟩ := beat_coins hp
    refine u_iload C dL_law_1236 rfl ?_
    refine u_iconst C (v := 2) dL_law_1238 (by decide) ?_
    refine u_icmp_ge C (tgt := 1306) dL_law_1239 (by decide) (fun c1239 => ?_) (fun c1239 => ?_)
    · have he : e = 2 := Nat.le_antisymm h1 ((nI_leI (a := 2) (b := e) (by omega) (by omega)).mp c1239)
      exact u_lsub [0, 1, 2, 3, 4, 5, 6, 7, 8, 9, 10, 11, 12, 13, 14, 15, 16, 17, 18, 19, 20, 21, 22, 23, 24] rfl (q_b_end hk hp li h A lth hjq hqt hsil hK C)
    · have hlt : e < 2 := Nat.lt_of_not_le (fun z => c1239 ((nI_leI (a := 2) (b := e) (by omega) (by omega)).mpr z))
      refine u_aload_n C dL_law_1242 rfl ?_
      refine u_iload C dL_law_1243 rfl ?_
      refine u_callC0 C (fun B => k_coinsOf li hlt B) cd_X1_coinsOf kl_L_122 ci1 rfl (by decide) (as := [_]) rfl rfl (rm_l ⟨by decide, by decide⟩ ⟨by decide, by decide⟩ (by omega)) ⟨rfl, rfl⟩ (Nat.le_of_ble_eq_true rfl) dL_law_1245 ?_
      refine u_aload C dL_law_1248 rfl ?_
      refine u_iload C dL_law_1250 rfl ?_
      refine u_iald C (A.i (k := 0) rfl) rfl hlt (by decide) dL_law_1252 ?_
      refine u_icmp_le C (tgt := 1260) dL_law_1253 (by decide) (fun c1253 => ?_) (fun c1253 => ?_)
      · have fl : mB1 Q 36 e = 0 := by
          obtain ⟨a1, a2, a3⟩ := hgf e hlt
          have lc := hcn e hlt
          have z := i_le.mp c1253
          rw [a1, i_add (by omega) (by omega)] at z
          exact a3.mpr (i_eq.mpr (by rw [i_c0]; omega))
        refine u_iconst C (v := 0) dL_law_1260 (by decide) ?_
        refine u_istore C (lo' := [(38, _), (0, _), (1, _), (2, _), (3, _), (4, _), (7, _), (8, _), (14, _), (19, _), (20, _), (21, _), (22, _), (23, _), (24, _), (25, _), (26, _), (27, _), (28, _), (29, _), (30, _), (31, _), (32, _), (33, _), (34, _), (36, _), (37, _)]) dL_law_1261 (by decide) rfl ?_
        refine u_aload_n C dL_law_1263 rfl ?_
        refine u_iload C dL_law_1264 rfl ?_
        refine u_callC0 C (fun B => k_silentFor li hlt B) cd_X1_silentFor kl_L_128 ci1 rfl (by decide) (as := [_]) rfl rfl (rm_l ⟨by decide, by decide⟩ ⟨by decide, by decide⟩ (by omega)) ⟨rfl, rfl⟩ (Nat.le_of_ble_eq_true rfl) dL_law_1266 ?_
        refine u_iload C dL_law_1269 rfl ?_
        refine u_if_ne C (tgt := 1284) dL_law_1271 (by decide) (fun c => absurd c (by decide)) (fun _ => ?_)
        refine u_aload C dL_law_1274 rfl ?_
        refine u_iload C dL_law_1276 rfl ?_
        refine u_iald C (A.i (k := 1) rfl) rfl hlt (by decide) dL_law_1278 ?_
        refine u_bipush C (v := 11) dL_law_1279 (by decide) ?_
        refine u_icmp_ne C (tgt := 1288) dL_law_1281 (by decide) (fun c1281 => ?_) (fun c1281 => ?_)
        · have es : mBeat Q 34 (5 + e) = Q 34 (5 + e) + 1 := by rw [hs1 e hlt, if_neg (fun z => z.elim (fun y => y fl) c1281)]
          refine u_aload C dL_law_1288 rfl ?_
          refine u_iload C dL_law_1290 rfl ?_
          refine u_iald C (A.i (k := 1) rfl) rfl hlt (by decide) dL_law_1292 ?_
          refine u_iconst C (v := 1) dL_law_1293 (by decide) ?_
          refine u_iadd C dL_law_1294 ?_
          refine u_icmp_eq C (tgt := 1300) dL_law_1295 (by decide) (fun c1295 => ?_) (fun c1295 => absurd es c1295)
          refine u_iinc C (v := nI (e + 1)) (lo' := [(37, _), (38, _), (0, _), (1, _), (2, _), (3, _), (4, _), (7, _), (8, _), (14, _), (19, _), (20, _), (21, _), (22, _), (23, _), (24, _), (25, _), (26, _), (27, _), (28, _), (29, _), (30, _), (31, _), (32, _), (33, _), (34, _), (36, _)]) dL_law_1300 rfl (nI_inc _) (by decide) rfl ?_
          refine u_goto C (tgt := 1236) dL_law_1303 (by decide) ?_
          exact u_lsub [2, 3, 4, 5, 6, 7, 8, 9, 10, 11, 12, 13, 14, 15, 16, 17, 18, 19, 20, 21, 22, 23, 24, 25, 26, 0] rfl (ih (e + 1) hlt (by omega))
        · have es : mBeat Q 34 (5 + e) = 0 := by rw [hs1 e hlt, if_pos (Or.inr c1281)]
          refine u_iconst C (v := 0) dL_law_1284 (by decide) ?_
          refine u_goto C (tgt := 1295) dL_law_1285 (by decide) ?_
          refine u_icmp_eq C (tgt := 1300) dL_law_1295 (by decide) (fun c1295 => ?_) (fun c1295 => absurd es c1295)
          refine u_iinc C (v := nI (e + 1)) (lo' := [(37, _), (38, _), (0, _), (1, _), (2, _), (3, _), (4, _), (7, _), (8, _), (14, _), (19, _), (20, _), (21, _), (22, _), (23, _), (24, _), (25, _), (26, _), (27, _), (28, _), (29, _), (30, _), (31, _), (32, _), (33, _), (34, _), (36, _)]) dL_law_1300 rfl (nI_inc _) (by decide) rfl ?_
          refine u_goto C (tgt := 1236) dL_law_1303 (by decide) ?_
          exact u_lsub [2, 3, 4, 5, 6, 7, 8, 9, 10, 11, 12, 13, 14, 15, 16, 17, 18, 19, 20, 21, 22, 23, 24, 25, 26, 0] rfl (ih (e + 1) hlt (by omega))
      · have fl : mB1 Q 36 e ≠ 0 := fun y => c1253 (by
          obtain ⟨a1, a2, a3⟩ := hgf e hlt
          rw [a1, a3.mp y, Int32.add_zero]
          exact Int32.le_refl _)
        have es : mBeat Q 34 (5 + e) = 0 := by rw [hs1 e hlt, if_pos (Or.inl fl)]
        refine u_iconst C (v := 1) dL_law_1256 (by decide) ?_
        refine u_goto C (tgt := 1261) dL_law_1257 (by decide) ?_
        refine u_istore C (lo' := [(38, _), (0, _), (1, _), (2, _), (3, _), (4, _), (7, _), (8, _), (14, _), (19, _), (20, _), (21, _), (22, _), (23, _), (24, _), (25, _), (26, _), (27, _), (28, _), (29, _), (30, _), (31, _), (32, _), (33, _), (34, _), (36, _), (37, _)]) dL_law_1261 (by decide) rfl ?_
        refine u_aload_n C dL_law_1263 rfl ?_
        refine u_iload C dL_law_1264 rfl ?_
        refine u_callC0 C (fun B => k_silentFor li hlt B) cd_X1_silentFor kl_L_128 ci1 rfl (by decide) (as := [_]) rfl rfl (rm_l ⟨by decide, by decide⟩ ⟨by decide, by decide⟩ (by omega)) ⟨rfl, rfl⟩ (Nat.le_of_ble_eq_true rfl) dL_law_1266 ?_
        refine u_iload C dL_law_1269 rfl ?_
        refine u_if_ne C (tgt := 1284) dL_law_1271 (by decide) (fun _ => ?_) (fun c => absurd c (by decide))
        refine u_iconst C (v := 0) dL_law_1284 (by decide) ?_
        refine u_goto C (tgt := 1295) dL_law_1285 (by decide) ?_
        refine u_icmp_eq C (tgt := 1300) dL_law_1295 (by decide) (fun c1295 => ?_) (fun c1295 => absurd es c1295)
        refine u_iinc C (v := nI (e + 1)) (lo' := [(37, _), (38, _), (0, _), (1, _), (2, _), (3, _), (4, _), (7, _), (8, _), (14, _), (19, _), (20, _), (21, _), (22, _), (23, _), (24, _), (25, _), (26, _), (27, _), (28, _), (29, _), (30, _), (31, _), (32, _), (33, _), (34, _), (36, _)]) dL_law_1300 rfl (nI_inc _) (by decide) rfl ?_
        refine u_goto C (tgt := 1236) dL_law_1303 (by decide) ?_
        exact u_lsub [2, 3, 4, 5, 6, 7, 8, 9, 10, 11, 12, 13, 14, 15, 16, 17, 18, 19, 20, 21, 22, 23, 24, 25, 26, 0] rfl (ih (e + 1) hlt (by omega))
set_option maxHeartbeats 1000000 in
set_option maxRecDepth 100000 in
theorem q_b_l4 {X : XT} {l : Launch} {g : GT} {b t : Nat} {x : Int32}  {ad : Nat → Nat} {Q : Mem} {nb th qq jj q20 q24 : Nat} {v19 v21 hv : Int32} {L0 : List AE} {kc ks : Nat} (hk : kc ≤ 55000 ∧ ks ≤ 850000) {qa ql qt qr qo qs qc : Nat} {M : Mem} {D : DM} (hp : PK Q) (li : LI nb M (mBeat Q)) (h : SP g D ad (mBeat Q)) (A : AR g D (mWs Q) (mSh Q) ad ((qc, 2, .inl (fun e => Q 34 (3 + e))) :: (qs, 2, .inl (fun e => Q 34 (5 + e))) :: (qo, mWs Q, .inl (owF Q)) :: (qr, mSh Q, .inr (fun k => b2i (mRt Q k))) :: (qt, mSh Q, .inl (fun k => Q 34 (147 + k))) :: (ql, mSh Q, .inl (lvF Q)) :: (qa, mSh Q, .inl (mPl Q)) :: L0)) (lth : th < 32) (hjq : jj ≤ 1000 ∧ qq ≤ 1000) (hqt : mMany (mBeat Q) = 0 ↔ qq ≤ jj) (hsil : ∀ e, e < 2 → 0 ≤ Q 34 (5 + e) ∧ Q 34 (5 + e) ≤ 11) (hK : AR g D (mWs Q) (mSh Q) ad L0 → UX X g (kc) (ks) 775 [(0, .ref b), (1, .ref (ga g 0)), (2, .ref (ad 0)), (3, .int (nI t)), (4, .int x), (7, .int (nI (mSh Q))), (8, .int (nI (mWs Q))), (14, .int (nI th)), (19, .int v19), (20, .ref q20), (21, .int v21), (22, .int (nI qq)), (23, .int (if hv < mLA (mBeat Q) (nI th) then mLA (mBeat Q) (nI th) else hv)), (24, .ref q24), (25, .int (nI (jj + 1)))] [] M D) (hcn : ∀ e, e < 2 → 0 ≤ (Q 34 (3 + e)).toInt ∧ (Q 34 (3 + e)).toInt ≤ 900000)  (C : Cx X g l cL_law 39 RL (some .boolean) room_1) : ∀ (n w : Nat), w ≤ mWs Q → mWs Q + 1 ≤ w + n → UX X g (kc) (ks) 1196 [(0, .ref b), (1, .ref (ga g 0)), (2, .ref (ad 0)), (3, .int (nI t)), (4, .int x), (7, .int (nI (mSh Q))), (8, .int (nI (mWs Q))), (14, .int (nI th)), (19, .int v19), (20, .ref q20), (21, .int v21), (22, .int (nI qq)), (23, .int hv), (24, .ref q24), (25, .int (nI jj)), (26, .ref qa), (27, .ref ql), (28, .ref qt), (29, .ref qr), (30, .ref qo), (31, .ref qs), (32, .int (Q 34 1)), (33, .int (Q 34 2)), (34, .ref qc), (36, .int (nI (chN (owF Q) (owF (mBeat Q)) w))), (37, .int (nI w))] [] M D := by
  intro n
  induction n with
  | zero =>
    intro w h1 h2; omega
  | succ n ih =>
    intro w h1 h2
    have hn := hp.1.ws
    have hn2 := hp.1.sh
    obtain ⟨nw9, ns9⟩ := mBeat_n Q hp
    refine u_iload C dL_law_1196 rfl ?_
    refine u_iload C dL_law_1198 rfl ?_
    refine u_icmp_ge C (tgt := 1233) dL_law_1200 (by decide) (fun c1200 => ?_) (fun c1200 => ?_)
    · have he : w = mWs Q := Nat.le_antisymm h1 ((nI_leI (a := mWs Q) (b := w) (by omega) (by omega)).mp c1200)
      rw [he]
      refine u_iconst C (v := 0) dL_law_1233 (by decide) ?_
      refine u_istore C (lo' := [(37, _), (0, _), (1, _), (2, _), (3, _), (4, _), (7, _), (8, _), (14, _), (19, _), (20, _), (21, _), (22, _), (23, _), (24, _), (25, _), (26, _), (27, _), (28, _), (29, _), (30, _), (31, _), (32, _), (33, _), (34, _), (36, _)]) dL_law_1234 (by decide) rfl ?_
      exact u_lsub [1, 2, 3, 4, 5, 6, 7, 8, 9, 10, 11, 12, 13, 14, 15, 16, 17, 18, 19, 20, 21, 22, 23, 24, 25, 0] rfl (q_b_l5 hk hp li h A lth hjq hqt hsil hK hcn C 3 0 (by omega) (by omega))
    · have hlt : w < mWs Q := Nat.lt_of_not_le (fun z => c1200 ((nI_leI (a := mWs Q) (b := w) (by omega) (by omega)).mpr z))
      refine u_iload C dL_law_1203 rfl ?_
      refine u_aload_n C dL_law_1205 rfl ?_
      refine u_iload C dL_law_1206 rfl ?_
      refine u_callC0 C (fun B => k_ownerOf li (by rw [nw9]; exact hlt) B) cd_X1_ownerOf kl_L_149 ci1 rfl (by decide) (as := [_]) rfl rfl (rm_l ⟨by decide, by decide⟩ ⟨by decide, by decide⟩ (by omega)) ⟨rfl, rfl⟩ (Nat.le_of_ble_eq_true rfl) dL_law_1208 ?_
      refine u_aload C dL_law_1211 rfl ?_
      refine u_iload C dL_law_1213 rfl ?_
      refine u_iald C (A.i (k := 2) rfl) rfl hlt (by omega) dL_law_1215 ?_
      refine u_icmp_eq C (tgt := 1223) dL_law_1216 (by decide) (fun c1216 => ?_) (fun c1216 => ?_)
      · have ec : nI (chN (owF Q) (owF (mBeat Q)) w) + 0 = nI (chN (owF Q) (owF (mBeat Q)) (w + 1)) := by
          rw [show chN (owF Q) (owF (mBeat Q)) (w + 1) = chN (owF Q) (owF (mBeat Q)) w + (if owF (mBeat Q) w ≠ owF Q w then 1 else 0) from rfl, if_neg (fun z => z c1216)]
          exact Int32.add_zero _
        refine u_iconst C (v := 0) dL_law_1223 (by decide) ?_
        refine u_iadd C dL_law_1224 ?_
        rw [ec]
        refine u_istore C (lo' := [(36, _), (0, _), (1, _), (2, _), (3, _), (4, _), (7, _), (8, _), (14, _), (19, _), (20, _), (21, _), (22, _), (23, _), (24, _), (25, _), (26, _), (27, _), (28, _), (29, _), (30, _), (31, _), (32, _), (33, _), (34, _), (37, _)]) dL_law_1225 (by decide) rfl ?_
        refine u_iinc C (v := nI (w + 1)) (lo' := [(37, _), (36, _), (0, _), (1, _), (2, _), (3, _), (4, _), (7, _), (8, _), (14, _), (19, _), (20, _), (21, _), (22, _), (23, _), (24, _), (25, _), (26, _), (27, _), (28, _), (29, _), (30, _), (31, _), (32, _), (33, _), (34, _)]) dL_law_1227 rfl (nI_inc _) (by decide) rfl ?_
        refine u_goto C (tgt := 1196) dL_law_1230 (by decide) ?_
        exact u_lsub [2, 3, 4, 5, 6, 7, 8, 9, 10, 11, 12, 13, 14, 15, 16, 17, 18, 19, 20, 21, 22, 23, 24, 25, 1, 0] rfl (ih (w + 1) hlt (by omega))
      · have ec : nI (chN (owF Q) (owF (mBeat Q)) w) + 1 = nI (chN (owF Q) (owF (mBeat Q)) (w + 1)) := by
          rw [show chN (owF Q) (owF (mBeat Q)) (w + 1) = chN (owF Q) (owF (mBeat Q)) w + (if owF (mBeat Q) w ≠ owF Q w then 1 else 0) from rfl, if_pos c1216]
          exact nI_1 _
        refine u_iconst C (v := 1) dL_law_1219 (by decide) ?_
        refine u_goto C (tgt := 1224) dL_law_1220 (by decide) ?_
        refine u_iadd C dL_law_1224 ?_
        rw [ec]
        refine u_istore C (lo' := [(36, _), (0, _), (1, _), (2, _), (3, _), (4, _), (7, _), (8, _), (14, _), (19, _), (20, _), (21, _), (22, _), (23, _), (24, _), (25, _), (26, _), (27, _), (28, _), (29, _), (30, _), (31, _), (32, _), (33, _), (34, _), (37, _)]) dL_law_1225 (by decide) rfl ?_
        refine u_iinc C (v := nI (w + 1)) (lo' := [(37, _), (36, _), (0, _), (1, _), (2, _), (3, _), (4, _), (7, _), (8, _), (14, _), (19, _), (20, _), (21, _), (22, _), (23, _), (24, _), (25, _), (26, _), (27, _), (28, _), (29, _), (30, _), (31, _), (32, _), (33, _), (34, _)]) dL_law_1227 rfl (nI_inc _) (by decide) rfl ?_
        refine u_goto C (tgt := 1196) dL_law_1230 (by decide) ?_
        exact u_lsub [2, 3, 4, 5, 6, 7, 8, 9, 10, 11, 12, 13, 14, 15, 16, 17, 18, 19, 20, 21, 22, 23, 24, 25, 1, 0] rfl (ih (w + 1) hlt (by omega))
set_option maxHeartbeats 1000000 in
set_option maxRecDepth 100000 in
theorem q_b_over {X : XT} {l : Launch} {g : GT} {b t : Nat} {x : Int32}  {ad : Nat → Nat} {Q : Mem} {nb th qq jj q20 q24 : Nat} {v19 v21 hv : Int32} {L0 : List AE} {kc ks : Nat} (hk : kc ≤ 55000 ∧ ks ≤ 850000) {qa ql qt qr qo qs qc : Nat} {M : Mem} {D : DM} (hp : PK Q) (li : LI nb M (mBeat Q)) (h : SP g D ad (mBeat Q)) (A : AR g D (mWs Q) (mSh Q) ad ((qc, 2, .inl (fun e => Q 34 (3 + e))) :: (qs, 2, .inl (fun e => Q 34 (5 + e))) :: (qo, mWs Q, .inl (owF Q)) :: (qr, mSh Q, .inr (fun k => b2i (mRt Q k))) :: (qt, mSh Q, .inl (fun k => Q 34 (147 + k))) :: (ql, mSh Q, .inl (lvF Q)) :: (qa, mSh Q, .inl (mPl Q)) :: L0)) (lth : th < 32) (hjq : jj ≤ 1000 ∧ qq ≤ 1000) (hqt : mMany (mBeat Q) = 0 ↔ qq ≤ jj) (hsil : ∀ e, e < 2 → 0 ≤ Q 34 (5 + e) ∧ Q 34 (5 + e) ≤ 11) (hK : AR g D (mWs Q) (mSh Q) ad L0 → UX X g (kc) (ks) 775 [(0, .ref b), (1, .ref (ga g 0)), (2, .ref (ad 0)), (3, .int (nI t)), (4, .int x), (7, .int (nI (mSh Q))), (8, .int (nI (mWs Q))), (14, .int (nI th)), (19, .int v19), (20, .ref q20), (21, .int v21), (22, .int (nI qq)), (23, .int (if hv < mLA (mBeat Q) (nI th) then mLA (mBeat Q) (nI th) else hv)), (24, .ref q24), (25, .int (nI (jj + 1)))] [] M D) (hcn : ∀ e, e < 2 → 0 ≤ (Q 34 (3 + e)).toInt ∧ (Q 34 (3 + e)).toInt ≤ 900000)  (C : Cx X g l cL_law 39 RL (some .boolean) room_1) : UX X g (kc) (ks) 1176 [(0, .ref b), (1, .ref (ga g 0)), (2, .ref (ad 0)), (3, .int (nI t)), (4, .int x), (7, .int (nI (mSh Q))), (8, .int (nI (mWs Q))), (14, .int (nI th)), (19, .int v19), (20, .ref q20), (21, .int v21), (22, .int (nI qq)), (23, .int hv), (24, .ref q24), (25, .int (nI jj)), (26, .ref qa), (27, .ref ql), (28, .ref qt), (29, .ref qr), (30, .ref qo), (31, .ref qs), (32, .int (Q 34 1)), (33, .int (Q 34 2)), (34, .ref qc), (35, .int (nI (goneN (lvF Q) (lvF (mBeat Q)) (mSh Q))))] [] M D := by
  have hn := hp.1.ws
  have hn2 := hp.1.sh
  obtain ⟨nw9, ns9⟩ := mBeat_n Q hp
  obtain ⟨d, d1, d2⟩ := beat_over hp
  have d9 := goneN_le (lvF Q) (lvF (mBeat Q)) (mSh Q)
  refine u_aload_n C dL_law_1176 rfl ?_
  refine u_callC0 C (fun B => k_overlaps li  B) cd_X1_overlaps kl_L_152 ci1 rfl (by decide) (as := []) rfl rfl (rm_l ⟨by decide, by decide⟩ ⟨by decide, by decide⟩ (by omega)) ⟨rfl, rfl⟩ (Nat.le_of_ble_eq_true rfl) dL_law_1177 ?_
  refine u_iload C dL_law_1180 rfl ?_
  refine u_isub C dL_law_1182 ?_
  refine u_ttop (v' := .int (nI d)) (congrArg Value.int (by rw [d2]; grind : mBeat Q 34 1 - Q 34 1 = nI d)) ?_
  refine u_iload C dL_law_1183 rfl ?_
  refine u_icmp_le C (tgt := 1190) dL_law_1185 (by decide) (fun c1185 => ?_) (fun c1185 => absurd ((nI_leI (by omega) (by omega)).mpr d1) c1185)
  refine u_iconst C (v := 0) dL_law_1190 (by decide) ?_
  refine u_istore C (lo' := [(36, _), (0, _), (1, _), (2, _), (3, _), (4, _), (7, _), (8, _), (14, _), (19, _), (20, _), (21, _), (22, _), (23, _), (24, _), (25, _), (26, _), (27, _), (28, _), (29, _), (30, _), (31, _), (32, _), (33, _), (34, _), (35, _)]) dL_law_1191 (by decide) rfl ?_
  refine u_iconst C (v := 0) dL_law_1193 (by decide) ?_
  refine u_istore C (lo' := [(37, _), (36, _), (0, _), (1, _), (2, _), (3, _), (4, _), (7, _), (8, _), (14, _), (19, _), (20, _), (21, _), (22, _), (23, _), (24, _), (25, _), (26, _), (27, _), (28, _), (29, _), (30, _), (31, _), (32, _), (33, _), (34, _), (35, _)]) dL_law_1194 (by decide) rfl ?_
  exact u_lsub [2, 3, 4, 5, 6, 7, 8, 9, 10, 11, 12, 13, 14, 15, 16, 17, 18, 19, 20, 21, 22, 23, 24, 25, 1, 0] rfl (q_b_l4 hk hp li h A lth hjq hqt hsil hK hcn C (mWs Q + 1) 0 (by omega) (by omega))
set_option maxHeartbeats 1000000 in
set_option maxRecDepth 100000 in
theorem q_b_l3 {X : XT} {l : Launch} {g : GT} {b t : Nat} {x : Int32}  {ad : Nat → Nat} {Q : Mem} {nb th qq jj q20 q24 : Nat} {v19 v21 hv : Int32} {L0 : List AE} {kc ks : Nat} (hk : kc ≤ 55000 ∧ ks ≤ 850000) {qa ql qt qr qo qs qc : Nat} {M : Mem} {D : DM} (hp : PK Q) (li : LI nb M (mBeat Q)) (h : SP g D ad (mBeat Q)) (A : AR g D (mWs Q) (mSh Q) ad ((qc, 2, .inl (fun e => Q 34 (3 + e))) :: (qs, 2, .inl (fun e => Q 34 (5 + e))) :: (qo, mWs Q, .inl (owF Q)) :: (qr, mSh Q, .inr (fun k => b2i (mRt Q k))) :: (qt, mSh Q, .inl (fun k => Q 34 (147 + k))) :: (ql, mSh Q, .inl (lvF Q)) :: (qa, mSh Q, .inl (mPl Q)) :: L0)) (lth : th < 32) (hjq : jj ≤ 1000 ∧ qq ≤ 1000) (hqt : mMany (mBeat Q) = 0 ↔ qq ≤ jj) (hsil : ∀ e, e < 2 → 0 ≤ Q 34 (5 + e) ∧ Q 34 (5 + e) ≤ 11) (hK : AR g D (mWs Q) (mSh Q) ad L0 → UX X g (kc) (ks) 775 [(0, .ref b), (1, .ref (ga g 0)), (2, .ref (ad 0)), (3, .int (nI t)), (4, .int x), (7, .int (nI (mSh Q))), (8, .int (nI (mWs Q))), (14, .int (nI th)), (19, .int v19), (20, .ref q20), (21, .int v21), (22, .int (nI qq)), (23, .int (if hv < mLA (mBeat Q) (nI th) then mLA (mBeat Q) (nI th) else hv)), (24, .ref q24), (25, .int (nI (jj + 1)))] [] M D) (hcn : ∀ e, e < 2 → 0 ≤ (Q 34 (3 + e)).toInt ∧ (Q 34 (3 + e)).toInt ≤ 900000)  (C : Cx X g l cL_law 39 RL (some .boolean) room_1) : ∀ (n k : Nat), k ≤ mSh Q → mSh Q + 1 ≤ k + n → UX X g (kc) (ks) 973 [(0, .ref b), (1, .ref (ga g 0)), (2, .ref (ad 0)), (3, .int (nI t)), (4, .int x), (7, .int (nI (mSh Q))), (8, .int (nI (mWs Q))), (14, .int (nI th)), (19, .int v19), (20, .ref q20), (21, .int v21), (22, .int (nI qq)), (23, .int hv), (24, .ref q24), (25, .int (nI jj)), (26, .ref qa), (27, .ref ql), (28, .ref qt), (29, .ref qr), (30, .ref qo), (31, .ref qs), (32, .int (Q 34 1)), (33, .int (Q 34 2)), (34, .ref qc), (35, .int (nI (goneN (lvF Q) (lvF (mBeat Q)) k))), (36, .int (nI k))] [] M D := by
  intro n
  induction n with
  | zero =>
    intro k h1 h2; omega
  | succ n ih =>
    intro k h1 h2
    have hn := hp.1.ws
    have hn2 := hp.1.sh
    obtain ⟨nw9, ns9⟩ := mBeat_n Q hp
    refine u_iload C dL_law_973 rfl ?_
    refine u_iload C dL_law_975 rfl ?_
    refine u_icmp_ge C (tgt := 1176) dL_law_977 (by decide) (fun c977 => ?_) (fun c977 => ?_)
    · have he : k = mSh Q := Nat.le_antisymm h1 ((nI_leI (a := mSh Q) (b := k) (by omega) (by omega)).mp c977)
      rw [he]
      exact u_lsub [0, 1, 2, 3, 4, 5, 6, 7, 8, 9, 10, 11, 12, 13, 14, 15, 16, 17, 18, 19, 20, 21, 22, 23, 24] rfl (q_b_over hk hp li h A lth hjq hqt hsil hK hcn C)
    · have hlt : k < mSh Q := Nat.lt_of_not_le (fun z => c977 ((nI_leI (a := mSh Q) (b := k) (by omega) (by omega)).mpr z))
      have hlt9 : k < mSh (mBeat Q) := by rw [ns9]; exact hlt
      have hv := hp.lv hlt
      obtain ⟨mr, hmr⟩ : ∃ mr, mr = mBeat Q 34 (147 + k) - Q 34 (147 + k) := ⟨_, rfl⟩
      have mr01 : mr = 0 ∨ mr = 1 := by
        rcases beat_turn hp hlt with z | z
        · exact Or.inl (by rw [hmr, z, Int32.sub_self])
        · exact Or.inr (by rw [hmr, z]; grind)
      refine u_aload_n C dL_law_980 rfl ?_
      refine u_iload C dL_law_981 rfl ?_
      refine u_callC0 C (fun B => k_placeOf li hlt9 B) cd_X1_placeOf kl_L_95 ci1 rfl (by decide) (as := [_]) rfl rfl (rm_l ⟨by decide, by decide⟩ ⟨by decide, by decide⟩ (by omega)) ⟨rfl, rfl⟩ (Nat.le_of_ble_eq_true rfl) dL_law_983 ?_
      refine u_istore C (lo' := [(37, _), (0, _), (1, _), (2, _), (3, _), (4, _), (7, _), (8, _), (14, _), (19, _), (20, _), (21, _), (22, _), (23, _), (24, _), (25, _), (26, _), (27, _), (28, _), (29, _), (30, _), (31, _), (32, _), (33, _), (34, _), (35, _), (36, _)]) dL_law_986 (by decide) rfl ?_
      refine u_aload_n C dL_law_988 rfl ?_
      refine u_iload C dL_law_989 rfl ?_
      refine u_callC0 C (fun B => k_turnsOf li hlt9 B) cd_X1_turnsOf kl_L_98 ci1 rfl (by decide) (as := [_]) rfl rfl (rm_l ⟨by decide, by decide⟩ ⟨by decide, by decide⟩ (by omega)) ⟨rfl, rfl⟩ (Nat.le_of_ble_eq_true rfl) dL_law_991 ?_
      refine u_aload C dL_law_994 rfl ?_
      refine u_iload C dL_law_996 rfl ?_
      refine u_iald C (A.i (k := 4) rfl) rfl hlt (by omega) dL_law_998 ?_
      refine u_isub C dL_law_999 ?_
      refine u_ttop (v' := .int (mr)) (congrArg Value.int hmr.symm) ?_
      refine u_istore C (lo' := [(38, _), (37, _), (0, _), (1, _), (2, _), (3, _), (4, _), (7, _), (8, _), (14, _), (19, _), (20, _), (21, _), (22, _), (23, _), (24, _), (25, _), (26, _), (27, _), (28, _), (29, _), (30, _), (31, _), (32, _), (33, _), (34, _), (35, _), (36, _)]) dL_law_1000 (by decide) rfl ?_
      refine u_aload C dL_law_1002 rfl ?_
      refine u_iload C dL_law_1004 rfl ?_
      refine u_iald C (A.i (k := 5) rfl) rfl hlt (by omega) dL_law_1006 ?_
      refine u_if_ne C (tgt := 1024) dL_law_1007 (by decide) (fun c1007 => ?_) (fun c1007 => ?_)
      · have hl0 : 0 < Q 34 (27 + k) := Int32.lt_of_le_of_ne hv.1.1 (fun z => c1007 z.symm)
        have q9 := (beat_quieter hp hlt).2 hl0
        have el : (Q 34 (27 + k) - 1).toInt = (Q 34 (27 + k)).toInt - 1 := by rw [i_sub] <;> rw [i_c1] <;> (have := i_pos1 hl0; have := i_le.mp hv.1.2; rw [i_c99] at this; omega)
        refine u_aload C dL_law_1024 rfl ?_
        refine u_iload C dL_law_1026 rfl ?_
        refine u_iald C (A.i (k := 5) rfl) rfl hlt (by omega) dL_law_1028 ?_
        refine u_if_le C (tgt := 1048) dL_law_1029 (by decide) (fun c1029 => absurd c1029 (Int32.not_le.mpr hl0)) (fun c1029 => ?_)
        refine u_aload_n C dL_law_1032 rfl ?_
        refine u_iload C dL_law_1033 rfl ?_
        refine u_callC0 C (fun B => k_loudnessOf li hlt9 B) cd_X1_loudnessOf kl_L_92 ci1 rfl (by decide) (as := [_]) rfl rfl (rm_l ⟨by decide, by decide⟩ ⟨by decide, by decide⟩ (by omega)) ⟨rfl, rfl⟩ (Nat.le_of_ble_eq_true rfl) dL_law_1035 ?_
        refine u_aload C dL_law_1038 rfl ?_
        refine u_iload C dL_law_1040 rfl ?_
        refine u_iald C (A.i (k := 5) rfl) rfl hlt (by omega) dL_law_1042 ?_
        refine u_iconst C (v := 1) dL_law_1043 (by decide) ?_
        refine u_isub C dL_law_1044 ?_
        refine u_icmp_gt C (tgt := 1059) dL_law_1045 (by decide) (fun c1045 => absurd (i_lt.mp c1045) (by show ¬ ((Q 34 (27 + k) - 1).toInt < _); rw [el]; omega)) (fun c1045 => ?_)
        refine u_iload C dL_law_1048 rfl ?_
        refine u_if_lt C (tgt := 1059) dL_law_1050 (by decide) (fun c1050 => absurd c1050 (by rcases mr01 with z | z <;> rw [z] <;> decide)) (fun c1050 => ?_)
        refine u_iload C dL_law_1053 rfl ?_
        refine u_iconst C (v := 1) dL_law_1055 (by decide) ?_
        refine u_icmp_le C (tgt := 1061) dL_law_1056 (by decide) (fun c1056 => ?_) (fun c1056 => absurd (by rcases mr01 with z | z <;> rw [z] <;> decide) c1056)
        refine u_iload C dL_law_1061 rfl ?_
        refine u_aload C dL_law_1063 rfl ?_
        refine u_iload C dL_law_1065 rfl ?_
        refine u_iald C (A.i (k := 5) rfl) rfl hlt (by omega) dL_law_1067 ?_
        refine u_if_le C (tgt := 1080) dL_law_1068 (by decide) (fun c1068 => absurd c1068 (Int32.not_le.mpr hl0)) (fun c1068 => ?_)
        refine u_iload C dL_law_1071 rfl ?_
        refine u_if_ge C (tgt := 1080) dL_law_1073 (by decide) (fun c1073 => ?_) (fun c1073 => ?_)
        · have hl1 : 0 < mBeat Q 34 (27 + k) := Classical.byContradiction (fun z => by
            rw [show mPl (mBeat Q) k = -1 from if_neg z] at c1073
            exact absurd c1073 (by decide))
          have eg : nI (goneN (lvF Q) (lvF (mBeat Q)) k) + 0 = nI (goneN (lvF Q) (lvF (mBeat Q)) (k + 1)) := by
            rw [show goneN (lvF Q) (lvF (mBeat Q)) (k + 1) = goneN (lvF Q) (lvF (mBeat Q)) k + (if 0 < lvF Q k ∧ ¬ 0 < lvF (mBeat Q) k then 1 else 0) from rfl, if_neg (fun z => z.2 hl1)]
            exact Int32.add_zero _
          obtain ⟨hg1, hg2, hg3⟩ := beat_go hp hlt hl1
          obtain ⟨p, lp9, ep⟩ : ∃ p, p < 32 ∧ mBeat Q 34 (67 + k) = nI p := ⟨_, tn31 hg1, nI_tn hg1.1⟩
          have epl : mPl (mBeat Q) k = nI p := (if_pos hl1).trans ep
          have epq : mPl Q k = Q 34 (67 + k) := if_pos hl0
          have hway := (hv.2 hl0).2
          have e31 : mBeat Q 31 p = Q 31 p := congrFun (mBeat_fr Q 31 (by decide) (by decide)) p
          rw [ep, tn_nI (by omega)] at hg3
          have hiff : b2i (mRt (mBeat Q) k) = b2i (mRt Q k) ↔ mBeat Q 31 p < 0 := by
            rw [e31]
            have r0 : mRt Q k ↔ 0 < Q 34 (107 + k) := ⟨fun z => z.2, fun z => ⟨hl0, z⟩⟩
            have r1 : mRt (mBeat Q) k ↔ 0 < mBeat Q 34 (107 + k) := ⟨fun z => z.2, fun z => ⟨hl1, z⟩⟩
            rcases hg3 with ⟨a1, a2, a3⟩ | ⟨a1, a2, a3⟩
            · rw [a1]
              refine ⟨fun _ => by decide, fun _ => ?_⟩
              by_cases z : 0 < Q 34 (107 + k)
              · rw [b2i_t (r0.mpr z), b2i_t (r1.mpr (by rw [a2]; exact z))]
              · rw [b2i_f (fun y => z (r0.mp y)), b2i_f (fun y => z (by rw [← a2]; exact r1.mp y))]
            · have nw : ¬ Q 31 p < 0 := by
                rcases hp.2.2.1.2 p lp9 with y | ⟨w9, b1, b2, b3⟩
                · exact absurd y a1
                · rw [b2]; exact nI_pos (by omega)
              refine ⟨fun y => ?_, fun y => absurd y nw⟩
              exfalso
              by_cases z : 0 < Q 34 (107 + k)
              · rw [b2i_t (r0.mpr z), b2i_f (fun v => (beat_way hway).mp (by rw [← a2]; exact r1.mp v) z)] at y
                exact absurd y (by decide)
              · rw [b2i_f (fun v => z (r0.mp v)), b2i_t (r1.mpr (by rw [a2]; exact (beat_way hway).mpr z))] at y
                exact absurd y (by decide)
          have hm0 : mBeat Q 31 p < 0 → mr = 0 := fun y => by
            rcases hg3 with ⟨a1, a2, a3⟩ | ⟨a1, a2, a3⟩
            · rw [hmr, a3, Int32.sub_self]
            · rcases hp.2.2.1.2 p lp9 with z | ⟨w9, b1, b2, b3⟩
              · exact absurd z a1
              · rw [e31, b2] at y; exact absurd y (nI_pos (by omega))
          have hm1 : ¬ mBeat Q 31 p < 0 → mr = 1 := fun y => by
            rcases hg3 with ⟨a1, a2, a3⟩ | ⟨a1, a2, a3⟩
            · exact absurd (by rw [e31, a1]; decide) y
            · rw [hmr, a3]; grind
          rw [epl]
          refine u_iconst C (v := 0) dL_law_1080 (by decide) ?_
          refine u_iadd C dL_law_1081 ?_
          rw [eg]
          refine u_istore C (lo' := [(35, _), (38, _), (37, _), (0, _), (1, _), (2, _), (3, _), (4, _), (7, _), (8, _), (14, _), (19, _), (20, _), (21, _), (22, _), (23, _), (24, _), (25, _), (26, _), (27, _), (28, _), (29, _), (30, _), (31, _), (32, _), (33, _), (34, _), (36, _)]) dL_law_1082 (by decide) rfl ?_
          refine u_iload C dL_law_1084 rfl ?_
          refine u_if_lt C (tgt := 1170) dL_law_1086 (by decide) (fun c1086 => absurd c1086 (nI_pos (by omega))) (fun c1086 => ?_)
          refine u_iload C dL_law_1089 rfl ?_
          refine u_aload C dL_law_1091 rfl ?_
          refine u_iload C dL_law_1093 rfl ?_
          refine u_iald C (A.i (k := 6) rfl) rfl hlt (by omega) dL_law_1095 ?_
          refine u_aload C dL_law_1096 rfl ?_
          refine u_iload C dL_law_1098 rfl ?_
          refine u_zald C (A.z (k := 3) rfl) rfl hlt (by omega) dL_law_1100 ?_
          refine u_ttop (v' := .int (b2i (mRt Q k))) (rfl) ?_
          refine u_bif_eq C (tgt := 1108) dL_law_1101 (by decide) (fun c1101 => ?_) (fun c1101 => ?_)
          · have ew : Q 34 (107 + k) = -1 := hway.resolve_left (fun z => c1101 ⟨hl0, by rw [z]; decide⟩)
            have ep2 : nI p = mPl Q k + -1 := by rw [epq, ← ep, hg2, ew]
            refine u_iconst C (v := (-1)) dL_law_1108 (by decide) ?_
            refine u_iadd C dL_law_1109 ?_
            refine u_icmp_ne C (tgt := 1168) dL_law_1110 (by decide) (fun c1110 => absurd ep2 c1110) (fun c1110 => ?_)
            refine u_aload_n C dL_law_1113 rfl ?_
            refine u_iload C dL_law_1114 rfl ?_
            refine u_callC0 C (fun B => k_goesRight li hlt9 B) cd_X1_goesRight kl_L_101 ci1 rfl (by decide) (as := [_]) rfl rfl (rm_l ⟨by decide, by decide⟩ ⟨by decide, by decide⟩ (by omega)) ⟨rfl, rfl⟩ (Nat.le_of_ble_eq_true rfl) dL_law_1116 ?_
            refine u_aload C dL_law_1119 rfl ?_
            refine u_iload C dL_law_1121 rfl ?_
            refine u_zald C (A.z (k := 3) rfl) rfl hlt (by omega) dL_law_1123 ?_
            refine u_icmp_eq C (tgt := 1131) dL_law_1124 (by decide) (fun c1124 => ?_) (fun c1124 => ?_)
            · refine u_iconst C (v := 0) dL_law_1131 (by decide) ?_
              refine u_aload_n C dL_law_1132 rfl ?_
              refine u_iload C dL_law_1133 rfl ?_
              refine u_callC0 C (fun B => k_wallOn li lp9 B) cd_X1_wallOn kl_L_120 ci1 rfl (by decide) (as := [_]) rfl rfl (rm_l ⟨by decide, by decide⟩ ⟨by decide, by decide⟩ (by omega)) ⟨rfl, rfl⟩ (Nat.le_of_ble_eq_true rfl) dL_law_1135 ?_
              refine u_if_lt C (tgt := 1145) dL_law_1138 (by decide) (fun c1138 => ?_) (fun c1138 => absurd (hiff.mp c1124) c1138)
              refine u_iconst C (v := 0) dL_law_1145 (by decide) ?_
              refine u_icmp_ne C (tgt := 1168) dL_law_1146 (by decide) (fun c1146 => absurd rfl c1146) (fun c1146 => ?_)
              refine u_iload C dL_law_1149 rfl ?_
              refine u_aload_n C dL_law_1151 rfl ?_
              refine u_iload C dL_law_1152 rfl ?_
              refine u_callC0 C (fun B => k_wallOn li lp9 B) cd_X1_wallOn kl_L_120 ci1 rfl (by decide) (as := [_]) rfl rfl (rm_l ⟨by decide, by decide⟩ ⟨by decide, by decide⟩ (by omega)) ⟨rfl, rfl⟩ (Nat.le_of_ble_eq_true rfl) dL_law_1154 ?_
              refine u_if_lt C (tgt := 1164) dL_law_1157 (by decide) (fun c1157 => ?_) (fun c1157 => absurd (hiff.mp c1124) c1157)
              refine u_iconst C (v := 0) dL_law_1164 (by decide) ?_
              refine u_icmp_eq C (tgt := 1170) dL_law_1165 (by decide) (fun c1165 => ?_) (fun c1165 => absurd (hm0 c1157) c1165)
              refine u_iinc C (v := nI (k + 1)) (lo' := [(36, _), (35, _), (38, _), (37, _), (0, _), (1, _), (2, _), (3, _), (4, _), (7, _), (8, _), (14, _), (19, _), (20, _), (21, _), (22, _), (23, _), (24, _), (25, _), (26, _), (27, _), (28, _), (29, _), (30, _), (31, _), (32, _), (33, _), (34, _)]) dL_law_1170 rfl (nI_inc _) (by decide) rfl ?_
              refine u_goto C (tgt := 973) dL_law_1173 (by decide) ?_
              exact u_lsub [4, 5, 6, 7, 8, 9, 10, 11, 12, 13, 14, 15, 16, 17, 18, 19, 20, 21, 22, 23, 24, 25, 26, 27, 1, 0] rfl (ih (k + 1) hlt (by omega))
            · refine u_iconst C (v := 1) dL_law_1127 (by decide) ?_
              refine u_goto C (tgt := 1132) dL_law_1128 (by decide) ?_
              refine u_aload_n C dL_law_1132 rfl ?_
              refine u_iload C dL_law_1133 rfl ?_
              refine u_callC0 C (fun B => k_wallOn li lp9 B) cd_X1_wallOn kl_L_120 ci1 rfl (by decide) (as := [_]) rfl rfl (rm_l ⟨by decide, by decide⟩ ⟨by decide, by decide⟩ (by omega)) ⟨rfl, rfl⟩ (Nat.le_of_ble_eq_true rfl) dL_law_1135 ?_
              refine u_if_lt C (tgt := 1145) dL_law_1138 (by decide) (fun c1138 => absurd (hiff.mpr c1138) c1124) (fun c1138 => ?_)
              refine u_iconst C (v := 1) dL_law_1141 (by decide) ?_
              refine u_goto C (tgt := 1146) dL_law_1142 (by decide) ?_
              refine u_icmp_ne C (tgt := 1168) dL_law_1146 (by decide) (fun c1146 => absurd rfl c1146) (fun c1146 => ?_)
              refine u_iload C dL_law_1149 rfl ?_
              refine u_aload_n C dL_law_1151 rfl ?_
              refine u_iload C dL_law_1152 rfl ?_
              refine u_callC0 C (fun B => k_wallOn li lp9 B) cd_X1_wallOn kl_L_120 ci1 rfl (by decide) (as := [_]) rfl rfl (rm_l ⟨by decide, by decide⟩ ⟨by decide, by decide⟩ (by omega)) ⟨rfl, rfl⟩ (Nat.le_of_ble_eq_true rfl) dL_law_1154 ?_
              refine u_if_lt C (tgt := 1164) dL_law_1157 (by decide) (fun c1157 => absurd (hiff.mpr c1157) c1124) (fun c1157 => ?_)
              refine u_iconst C (v := 1) dL_law_1160 (by decide) ?_
              refine u_goto C (tgt := 1165) dL_law_1161 (by decide) ?_
              refine u_icmp_eq C (tgt := 1170) dL_law_1165 (by decide) (fun c1165 => ?_) (fun c1165 => absurd (hm1 c1157) c1165)
              refine u_iinc C (v := nI (k + 1)) (lo' := [(36, _), (35, _), (38, _), (37, _), (0, _), (1, _), (2, _), (3, _), (4, _), (7, _), (8, _), (14, _), (19, _), (20, _), (21, _), (22, _), (23, _), (24, _), (25, _), (26, _), (27, _), (28, _), (29, _), (30, _), (31, _), (32, _), (33, _), (34, _)]) dL_law_1170 rfl (nI_inc _) (by decide) rfl ?_
              refine u_goto C (tgt := 973) dL_law_1173 (by decide) ?_
              exact u_lsub [4, 5, 6, 7, 8, 9, 10, 11, 12, 13, 14, 15, 16, 17, 18, 19, 20, 21, 22, 23, 24, 25, 26, 27, 1, 0] rfl (ih (k + 1) hlt (by omega))
          · have ew : Q 34 (107 + k) = 1 := hway.resolve_right (fun z => absurd c1101.2 (by rw [z]; decide))
            have ep2 : nI p = mPl Q k + 1 := by rw [epq, ← ep, hg2, ew]
            refine u_iconst C (v := 1) dL_law_1104 (by decide) ?_
            refine u_goto C (tgt := 1109) dL_law_1105 (by decide) ?_
            refine u_iadd C dL_law_1109 ?_
            refine u_icmp_ne C (tgt := 1168) dL_law_1110 (by decide) (fun c1110 => absurd ep2 c1110) (fun c1110 => ?_)
            refine u_aload_n C dL_law_1113 rfl ?_
            refine u_iload C dL_law_1114 rfl ?_
            refine u_callC0 C (fun B => k_goesRight li hlt9 B) cd_X1_goesRight kl_L_101 ci1 rfl (by decide) (as := [_]) rfl rfl (rm_l ⟨by decide, by decide⟩ ⟨by decide, by decide⟩ (by omega)) ⟨rfl, rfl⟩ (Nat.le_of_ble_eq_true rfl) dL_law_1116 ?_
            refine u_aload C dL_law_1119 rfl ?_
            refine u_iload C dL_law_1121 rfl ?_
            refine u_zald C (A.z (k := 3) rfl) rfl hlt (by omega) dL_law_1123 ?_
            refine u_icmp_eq C (tgt := 1131) dL_law_1124 (by decide) (fun c1124 => ?_) (fun c1124 => ?_)
            · refine u_iconst C (v := 0) dL_law_1131 (by decide) ?_
              refine u_aload_n C dL_law_1132 rfl ?_
              refine u_iload C dL_law_1133 rfl ?_
              refine u_callC0 C (fun B => k_wallOn li lp9 B) cd_X1_wallOn kl_L_120 ci1 rfl (by decide) (as := [_]) rfl rfl (rm_l ⟨by decide, by decide⟩ ⟨by decide, by decide⟩ (by omega)) ⟨rfl, rfl⟩ (Nat.le_of_ble_eq_true rfl) dL_law_1135 ?_
              refine u_if_lt C (tgt := 1145) dL_law_1138 (by decide) (fun c1138 => ?_) (fun c1138 => absurd (hiff.mp c1124) c1138)
              refine u_iconst C (v := 0) dL_law_1145 (by decide) ?_
              refine u_icmp_ne C (tgt := 1168) dL_law_1146 (by decide) (fun c1146 => absurd rfl c1146) (fun c1146 => ?_)
              refine u_iload C dL_law_1149 rfl ?_
              refine u_aload_n C dL_law_1151 rfl ?_
              refine u_iload C dL_law_1152 rfl ?_
              refine u_callC0 C (fun B => k_wallOn li lp9 B) cd_X1_wallOn kl_L_120 ci1 rfl (by decide) (as := [_]) rfl rfl (rm_l ⟨by decide, by decide⟩ ⟨by decide, by decide⟩ (by omega)) ⟨rfl, rfl⟩ (Nat.le_of_ble_eq_true rfl) dL_law_1154 ?_
              refine u_if_lt C (tgt := 1164) dL_law_1157 (by decide) (fun c1157 => ?_) (fun c1157 => absurd (hiff.mp c1124) c1157)
              refine u_iconst C (v := 0) dL_law_1164 (by decide) ?_
              refine u_icmp_eq C (tgt := 1170) dL_law_1165 (by decide) (fun c1165 => ?_) (fun c1165 => absurd (hm0 c1157) c1165)
              refine u_iinc C (v := nI (k + 1)) (lo' := [(36, _), (35, _), (38, _), (37, _), (0, _), (1, _), (2, _), (3, _), (4, _), (7, _), (8, _), (14, _), (19, _), (20, _), (21, _), (22, _), (23, _), (24, _), (25, _), (26, _), (27, _), (28, _), (29, _), (30, _), (31, _), (32, _), (33, _), (34, _)]) dL_law_1170 rfl (nI_inc _) (by decide) rfl ?_
              refine u_goto C (tgt := 973) dL_law_1173 (by decide) ?_
              exact u_lsub [4, 5, 6, 7, 8, 9, 10, 11, 12, 13, 14, 15, 16, 17, 18, 19, 20, 21, 22, 23, 24, 25, 26, 27, 1, 0] rfl (ih (k + 1) hlt (by omega))
            · refine u_iconst C (v := 1) dL_law_1127 (by decide) ?_
              refine u_goto C (tgt := 1132) dL_law_1128 (by decide) ?_
              refine u_aload_n C dL_law_1132 rfl ?_
              refine u_iload C dL_law_1133 rfl ?_
              refine u_callC0 C (fun B => k_wallOn li lp9 B) cd_X1_wallOn kl_L_120 ci1 rfl (by decide) (as := [_]) rfl rfl (rm_l ⟨by decide, by decide⟩ ⟨by decide, by decide⟩ (by omega)) ⟨rfl, rfl⟩ (Nat.le_of_ble_eq_true rfl) dL_law_1135 ?_
              refine u_if_lt C (tgt := 1145) dL_law_1138 (by decide) (fun c1138 => absurd (hiff.mpr c1138) c1124) (fun c1138 => ?_)
              refine u_iconst C (v := 1) dL_law_1141 (by decide) ?_
              refine u_goto C (tgt := 1146) dL_law_1142 (by decide) ?_
              refine u_icmp_ne C (tgt := 1168) dL_law_1146 (by decide) (fun c1146 => absurd rfl c1146) (fun c1146 => ?_)
              refine u_iload C dL_law_1149 rfl ?_
              refine u_aload_n C dL_law_1151 rfl ?_
              refine u_iload C dL_law_1152 rfl ?_
              refine u_callC0 C (fun B => k_wallOn li lp9 B) cd_X1_wallOn kl_L_120 ci1 rfl (by decide) (as := [_]) rfl rfl (rm_l ⟨by decide, by decide⟩ ⟨by decide, by decide⟩ (by omega)) ⟨rfl, rfl⟩ (Nat.le_of_ble_eq_true rfl) dL_law_1154 ?_
              refine u_if_lt C (tgt := 1164) dL_law_1157 (by decide) (fun c1157 => absurd (hiff.mpr c1157) c1124) (fun c1157 => ?_)
              refine u_iconst C (v := 1) dL_law_1160 (by decide) ?_
              refine u_goto C (tgt := 1165) dL_law_1161 (by decide) ?_
              refine u_icmp_eq C (tgt := 1170) dL_law_1165 (by decide) (fun c1165 => ?_) (fun c1165 => absurd (hm1 c1157) c1165)
              refine u_iinc C (v := nI (k + 1)) (lo' := [(36, _), (35, _), (38, _), (37, _), (0, _), (1, _), (2, _), (3, _), (4, _), (7, _), (8, _), (14, _), (19, _), (20, _), (21, _), (22, _), (23, _), (24, _), (25, _), (26, _), (27, _), (28, _), (29, _), (30, _), (31, _), (32, _), (33, _), (34, _)]) dL_law_1170 rfl (nI_inc _) (by decide) rfl ?_
              refine u_goto C (tgt := 973) dL_law_1173 (by decide) ?_
              exact u_lsub [4, 5, 6, 7, 8, 9, 10, 11, 12, 13, 14, 15, 16, 17, 18, 19, 20, 21, 22, 23, 24, 25, 26, 27, 1, 0] rfl (ih (k + 1) hlt (by omega))
        · have hn1 : ¬ 0 < mBeat Q 34 (27 + k) := fun z => c1073 (by
            rw [show mPl (mBeat Q) k = mBeat Q 34 (67 + k) from if_pos z]
            exact ((beat_go hp hlt z).1).1)
          have epl : mPl (mBeat Q) k < 0 := by rw [show mPl (mBeat Q) k = -1 from if_neg hn1]; decide
          have eg : nI (goneN (lvF Q) (lvF (mBeat Q)) k) + 1 = nI (goneN (lvF Q) (lvF (mBeat Q)) (k + 1)) := by
            rw [show goneN (lvF Q) (lvF (mBeat Q)) (k + 1) = goneN (lvF Q) (lvF (mBeat Q)) k + (if 0 < lvF Q k ∧ ¬ 0 < lvF (mBeat Q) k then 1 else 0) from rfl, if_pos ⟨hl0, hn1⟩]
            exact nI_1 _
          refine u_iconst C (v := 1) dL_law_1076 (by decide) ?_
          refine u_goto C (tgt := 1081) dL_law_1077 (by decide) ?_
          refine u_iadd C dL_law_1081 ?_
          rw [eg]
          refine u_istore C (lo' := [(35, _), (38, _), (37, _), (0, _), (1, _), (2, _), (3, _), (4, _), (7, _), (8, _), (14, _), (19, _), (20, _), (21, _), (22, _), (23, _), (24, _), (25, _), (26, _), (27, _), (28, _), (29, _), (30, _), (31, _), (32, _), (33, _), (34, _), (36, _)]) dL_law_1082 (by decide) rfl ?_
          refine u_iload C dL_law_1084 rfl ?_
          refine u_if_lt C (tgt := 1170) dL_law_1086 (by decide) (fun c1086 => ?_) (fun c1086 => absurd epl c1086)
          refine u_iinc C (v := nI (k + 1)) (lo' := [(36, _), (35, _), (38, _), (37, _), (0, _), (1, _), (2, _), (3, _), (4, _), (7, _), (8, _), (14, _), (19, _), (20, _), (21, _), (22, _), (23, _), (24, _), (25, _), (26, _), (27, _), (28, _), (29, _), (30, _), (31, _), (32, _), (33, _), (34, _)]) dL_law_1170 rfl (nI_inc _) (by decide) rfl ?_
          refine u_goto C (tgt := 973) dL_law_1173 (by decide) ?_
          exact u_lsub [4, 5, 6, 7, 8, 9, 10, 11, 12, 13, 14, 15, 16, 17, 18, 19, 20, 21, 22, 23, 24, 25, 26, 27, 1, 0] rfl (ih (k + 1) hlt (by omega))
      · have c0 : Q 34 (27 + k) = 0 := c1007
        have hd0 : ¬ 0 < Q 34 (27 + k) := by rw [c0]; decide
        have er := beat_dead hp hlt hd0
        have e27 : mBeat Q 34 (27 + k) = 0 := (show mBeat Q 34 (27 + k) = Q 34 (27 + k) from congrArg Prod.fst er).trans c0
        have e147 : mBeat Q 34 (147 + k) = Q 34 (147 + k) := congrArg (fun r : Rw4 => r.2.2.2) er
        have m0 : mr = 0 := by rw [hmr, e147, Int32.sub_self]
        have epl : mPl (mBeat Q) k < 0 := by rw [show mPl (mBeat Q) k = -1 from if_neg (by rw [e27]; decide)]; decide
        have eg : nI (goneN (lvF Q) (lvF (mBeat Q)) k) + 0 = nI (goneN (lvF Q) (lvF (mBeat Q)) (k + 1)) := by
          rw [show goneN (lvF Q) (lvF (mBeat Q)) (k + 1) = goneN (lvF Q) (lvF (mBeat Q)) k + (if 0 < lvF Q k ∧ ¬ 0 < lvF (mBeat Q) k then 1 else 0) from rfl, if_neg (fun z => hd0 z.1)]
          exact Int32.add_zero _
        refine u_aload_n C dL_law_1010 rfl ?_
        refine u_iload C dL_law_1011 rfl ?_
        refine u_callC0 C (fun B => k_loudnessOf li hlt9 B) cd_X1_loudnessOf kl_L_92 ci1 rfl (by decide) (as := [_]) rfl rfl (rm_l ⟨by decide, by decide⟩ ⟨by decide, by decide⟩ (by omega)) ⟨rfl, rfl⟩ (Nat.le_of_ble_eq_true rfl) dL_law_1013 ?_
        refine u_if_ne C (tgt := 1059) dL_law_1016 (by decide) (fun c1016 => absurd e27 c1016) (fun c1016 => ?_)
        refine u_iload C dL_law_1019 rfl ?_
        refine u_if_ne C (tgt := 1059) dL_law_1021 (by decide) (fun c1021 => absurd m0 c1021) (fun c1021 => ?_)
        refine u_aload C dL_law_1024 rfl ?_
        refine u_iload C dL_law_1026 rfl ?_
        refine u_iald C (A.i (k := 5) rfl) rfl hlt (by omega) dL_law_1028 ?_
        refine u_if_le C (tgt := 1048) dL_law_1029 (by decide) (fun c1029 => ?_) (fun c1029 => absurd (show Q 34 (27 + k) ≤ 0 by rw [c0]; decide) c1029)
        refine u_iload C dL_law_1048 rfl ?_
        refine u_if_lt C (tgt := 1059) dL_law_1050 (by decide) (fun c1050 => absurd c1050 (by rcases mr01 with z | z <;> rw [z] <;> decide)) (fun c1050 => ?_)
        refine u_iload C dL_law_1053 rfl ?_
        refine u_iconst C (v := 1) dL_law_1055 (by decide) ?_
        refine u_icmp_le C (tgt := 1061) dL_law_1056 (by decide) (fun c1056 => ?_) (fun c1056 => absurd (by rcases mr01 with z | z <;> rw [z] <;> decide) c1056)
        refine u_iload C dL_law_1061 rfl ?_
        refine u_aload C dL_law_1063 rfl ?_
        refine u_iload C dL_law_1065 rfl ?_
        refine u_iald C (A.i (k := 5) rfl) rfl hlt (by omega) dL_law_1067 ?_
        refine u_if_le C (tgt := 1080) dL_law_1068 (by decide) (fun c1068 => ?_) (fun c1068 => absurd (show Q 34 (27 + k) ≤ 0 by rw [c0]; decide) c1068)
        refine u_iconst C (v := 0) dL_law_1080 (by decide) ?_
        refine u_iadd C dL_law_1081 ?_
        rw [eg]
        refine u_istore C (lo' := [(35, _), (38, _), (37, _), (0, _), (1, _), (2, _), (3, _), (4, _), (7, _), (8, _), (14, _), (19, _), (20, _), (21, _), (22, _), (23, _), (24, _), (25, _), (26, _), (27, _), (28, _), (29, _), (30, _), (31, _), (32, _), (33, _), (34, _), (36, _)]) dL_law_1082 (by decide) rfl ?_
        refine u_iload C dL_law_1084 rfl ?_
        refine u_if_lt C (tgt := 1170) dL_law_1086 (by decide) (fun c1086 => ?_) (fun c1086 => absurd epl c1086)
        refine u_iinc C (v := nI (k + 1)) (lo' := [(36, _), (35, _), (38, _), (37, _), (0, _), (1, _), (2, _), (3, _), (4, _), (7, _), (8, _), (14, _), (19, _), (20, _), (21, _), (22, _), (23, _), (24, _), (25, _), (26, _), (27, _), (28, _), (29, _), (30, _), (31, _), (32, _), (33, _), (34, _)]) dL_law_1170 rfl (nI_inc _) (by decide) rfl ?_
        refine u_goto C (tgt := 973) dL_law_1173 (by decide) ?_
        exact u_lsub [4, 5, 6, 7, 8, 9, 10, 11, 12, 13, 14, 15, 16, 17, 18, 19, 20, 21, 22, 23, 24, 25, 26, 27, 1, 0] rfl (ih (k + 1) hlt (by omega))
