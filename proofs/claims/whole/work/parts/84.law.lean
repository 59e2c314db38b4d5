/-! The law from its entry. -/
theorem fm_of {α β : Type} {f : α → Option β} : ∀ {l : List α} {r : List β}, l.map f = r.map some → l.filterMap f = r
  | [], [], _ => rfl
  | [], _ :: _, h => by simp at h
  | _ :: _, [], h => by simp at h
  | a :: l, b :: r, h => by
    simp only [List.map_cons, List.cons.injEq] at h
    rw [List.filterMap_cons_some h.1, fm_of h.2]
theorem gk_of {s : State} {t : YT} {args : Array Value} {as : List Nat} {A : Nat → Prop} (hA : A = fun q => s.heap.size ≤ q) (hts : ∀ w ∈ lw_tbl, w.before args s = true) (hs : ∀ c ∈ flatC (Cond.and given_1 narrow_1), c.before args s = true) (hK : Ky t s) (hD : va_D A (wl (gS s.heap.size t as) M0)) : GK (gS s.heap.size t as) s ∧ GH (gS s.heap.size t as) s s.heap := by
  subst hA
  have z := z_start hts hs
  refine ⟨⟨hK.1, hK.2, str_start hts hs, nc_start hs, fun j k hj hk e => hD.1 j k _ _ (wl_at _ M0 hj) (wl_at _ M0 hk) e, fun k hk => hD.2 k _ (wl_at _ M0 hk), Nat.le_refl 38, (by decide : 38 ≤ 39)⟩, Nat.le_refl _, z.1, z.2⟩
set_option maxHeartbeats 4000000 in
set_option maxRecDepth 100000 in
theorem whole_start {p : Program} {e : Env} {s : State} {m : MethodId} {below : List Frame} {meth : Method} {c : Code} (l : Launch) (hflags : l.flags = flags0) {b L : Nat} {xs : Nat → Int32} (hL : L ≤ 2048) (C0 : lw_At p s m meth c b L xs) : W p l e room_1 s m #[Value.ref b] below meth c s.heap [] 0 0 (lw_Z below #[Value.ref b] s) (entryFrame m ([Value.ref b] : List Value).toArray 9) := by
  obtain ⟨hx, hb, hr, hml, hown, hts, hX, hbl, hlocks, hgv⟩ := C0
  have hs := flat_of_before _ hgv
  have hst : l.stackTraces = false := by
    unfold Launch.stackTraces
    rw [hflags]
    rfl
  obtain ⟨t, hK⟩ := ky_start hts
  refine W.base ?_
  have hd0 := Drawn.sameBut.refl s.drawn lw_cs
  have C : Cy (p, l, e, room_1, s.setDrawn s.drawn, m, #[Value.ref b], below, meth, c, lw_Z below #[Value.ref b] s) t (fun q => s.heap.size ≤ q) l cL_law 9 RL (some .boolean) room_1 := ⟨hx, hb, hml, hown, hK, fun _ h => h, hlocks, hr, rfl, rfl⟩
  have hl := lv_entry ([.ref b]) (n := 9) (Nat.le_of_ble_eq_true rfl)
  rw [lg_entry_eq]
  suffices k : VE (p, l, e, room_1, s.setDrawn s.drawn, m, #[Value.ref b], below, meth, c, lw_Z below #[Value.ref b] s) t (fun q => s.heap.size ≤ q) [] 0 0 0 [(0, .ref b)] [] from
    k s.heap [] _ (fun k q h => by simp at h) ⟨fun i j p q h => by simp at h, fun k q h => by simp at h⟩ va_S.rf (by rw [show (xC (p, l, e, room_1, s.setDrawn s.drawn, m, #[Value.ref b], below, meth, c, lw_Z below #[Value.ref b] s)).maxLocals = 9 from hml]; exact hl)
  generalize hXX : ((p, l, e, room_1, s.setDrawn s.drawn, m, #[Value.ref b], below, meth, c, lw_Z below #[Value.ref b] s) : XT) = X at C ⊢
  refine e_new C (fs := [.null, .null]) ci1 (by decide +kernel) (by decide +kernel) (by decide +kernel) tyX1 tyX1_ok (fun j hj => by rcases (show j = 0 ∨ j = 1 by omega) with rfl | rfl <;> rfl) ⟨by decide, by decide⟩ dL_law_0 (fun x => ?_)
  refine e_dup C dL_law_3 ?_
  refine e_callI C (as := []) (wr := []) [0] [] (fun sz => qy_X1 l t x sz) cd_X1_init rfl ⟨⟨66, by decide +kernel⟩, ⟨67, by decide +kernel⟩⟩ rfl rfl ⟨⟨by decide, by decide⟩, by decide, by decide⟩ (Nat.le_of_ble_eq_true rfl) dL_law_4 rfl rfl rfl rfl rfl (by decide) (fun w1 hw1 => ?_)
  obtain ⟨c1, q0, q1, q2, q3, q4, q5, q6, q7, q8, q9, q10, q11, q12, c2, p0, p1, p2, p3, p4, p5, p6, p7, p8, p9, p10, p11, p12, hw1⟩ := hw1
  subst hw1
  refine e_astore_n C (lo' := [(1, _), (0, _)]) dL_law_7 (by decide) rfl ?_
  refine e_new C (fs := [.int 0, .int 0, .int 0, .null, .null, .null, .null, .null, .null, .null]) ci2 (by decide +kernel) (by decide +kernel) (by decide +kernel) tyX2 tyX2_ok (fun j hj => by rcases (show j = 0 ∨ j = 1 ∨ j = 2 ∨ j = 3 ∨ j = 4 ∨ j = 5 ∨ j = 6 ∨ j = 7 ∨ j = 8 ∨ j = 9 by omega) with rfl | rfl | rfl | rfl | rfl | rfl | rfl | rfl | rfl | rfl <;> rfl) ⟨by decide, by decide⟩ dL_law_8 (fun m1 => ?_)
  refine e_dup C dL_law_11 ?_
  refine e_callI C (as := []) (wr := [(x, .inr (1, [.ref c1, .ref c2])), (c1, .inr (0, [.int 0, .int 0, .int 0, .int 0, .int 0, .int 0, .ref q0, .ref q1, .ref q2, .ref q3, .ref q4, .ref q5, .ref q6, .ref q7, .ref q8, .ref q9, .ref q10, .ref q11, .ref q12])), (q0, .inl (t.2.1, 32, .inl (fun _ => 0))), (q3, .inl (t.2.1, 10, .inl (fun _ => 0))), (q4, .inl (t.2.1, 10, .inl (fun _ => 0))), (q5, .inl (t.2.1, 10, .inl (fun _ => 0))), (q6, .inl (t.2.1, 10, .inl (fun _ => 0))), (q7, .inl (t.2.1, 2, .inl (fun _ => 0))), (q8, .inl (t.2.1, 2, .inl (fun _ => 0))), (q9, .inl (t.2.1, 40, .inl (fun _ => 0))), (q10, .inl (t.2.1, 40, .inl (fun _ => 0))), (q11, .inl (t.2.1, 40, .inl (fun _ => 0))), (q12, .inl (t.2.1, 40, .inl (fun _ => 0))), (q1, .inl (t.2.1, 32, .inl (cpn (fun _ => -1) (fun _ => 0) 32))), (q2, .inl (t.2.1, 32, .inl (cpn (fun _ => -1) (fun _ => 0) 32))), (c2, .inr (0, [.int 0, .int 0, .int 0, .int 0, .int 0, .int 0, .ref p0, .ref p1, .ref p2, .ref p3, .ref p4, .ref p5, .ref p6, .ref p7, .ref p8, .ref p9, .ref p10, .ref p11, .ref p12])), (p0, .inl (t.2.1, 32, .inl (fun _ => 0))), (p3, .inl (t.2.1, 10, .inl (fun _ => 0))), (p4, .inl (t.2.1, 10, .inl (fun _ => 0))), (p5, .inl (t.2.1, 10, .inl (fun _ => 0))), (p6, .inl (t.2.1, 10, .inl (fun _ => 0))), (p7, .inl (t.2.1, 2, .inl (fun _ => 0))), (p8, .inl (t.2.1, 2, .inl (fun _ => 0))), (p9, .inl (t.2.1, 40, .inl (fun _ => 0))), (p10, .inl (t.2.1, 40, .inl (fun _ => 0))), (p11, .inl (t.2.1, 40, .inl (fun _ => 0))), (p12, .inl (t.2.1, 40, .inl (fun _ => 0))), (p1, .inl (t.2.1, 32, .inl (cpn (fun _ => -1) (fun _ => 0) 32))), (p2, .inl (t.2.1, 32, .inl (cpn (fun _ => -1) (fun _ => 0) 32)))]) [29] [0, 1, 2, 3, 4, 5, 6, 7, 8, 9, 10, 11, 12, 13, 14, 15, 16, 17, 18, 19, 20, 21, 22, 23, 24, 25, 26, 27, 28] (fun sz => qy_X2 l t m1 sz) cd_X2_init rfl ⟨⟨621, by decide +kernel⟩, ⟨622, by decide +kernel⟩⟩ rfl rfl ⟨⟨by decide, by decide⟩, by decide, by decide⟩ (Nat.le_of_ble_eq_true rfl) dL_law_12 rfl rfl rfl rfl rfl (by decide) (fun w1 hw1 => ?_)
  obtain ⟨r0, r1, r2, r3, r4, r5, r6, hw1⟩ := hw1
  subst hw1
  refine e_astore_n C (lo' := [(2, _), (1, _), (0, _)]) dL_law_15 (by decide) rfl ?_
  refine e_iconst C (v := 1) dL_law_16 (by decide) ?_
  refine e_newJ C (N := 1) (by decide) (by decide) (by decide) ⟨by decide, by decide⟩ dL_law_17 (fun o => ?_)
  refine e_astore_n C (lo' := [(3, _), (2, _), (1, _), (0, _)]) dL_law_19 (by decide) rfl ?_
  refine e_iconst C (v := 0) dL_law_20 (by decide) ?_
  refine e_istore C (lo' := [(4, _), (3, _), (2, _), (1, _), (0, _)]) dL_law_21 (by decide) rfl ?_
  refine e_ws (ws' := lS t x c1 q0 q1 q2 q3 q4 q5 q6 q7 q8 q9 q10 q11 q12 c2 p0 p1 p2 p3 p4 p5 p6 p7 p8 p9 p10 p11 p12 m1 r0 r1 r2 r3 r4 r5 r6 o) rfl ?_
  intro H locs ls h1 h2 h3 h4
  have hw := lS_wl s.heap.size t x c1 q0 q1 q2 q3 q4 q5 q6 q7 q8 q9 q10 q11 q12 c2 p0 p1 p2 p3 p4 p5 p6 p7 p8 p9 p10 p11 p12 m1 r0 r1 r2 r3 r4 r5 r6 o
  have p1 := h1.sub pS (fm_of hw)
  have p2 := h2.sub pS (by decide +kernel) hw
  sorry
