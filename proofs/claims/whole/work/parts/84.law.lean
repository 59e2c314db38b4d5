/-! The law from its entry. -/
theorem fm_of {α β : Type} {f : α → Option β} : ∀ {l : List α} {r : List β}, l.map f = r.map some → l.filterMap f = r
  | [], [], _ => rfl
  | [], _ :: _, h => by simp at h
  | _ :: _, [], h => by simp at h
  | a :: l, b :: r, h => by
    simp only [List.map_cons, List.cons.injEq] at h
    rw [List.filterMap_cons_some h.1, fm_of h.2]
theorem gk_of {s : State} {t : YT} {args : Array Value} {as : List Nat} {A : Nat → Prop} (hA : A = fun q => s.heap.size ≤ q) (hts : ∀ w ∈ lw_tbl, w.before args s = true) (hs : ∀ c ∈ flatC (Cond.and given_1 narrow_1), c.before args s = true) (hK : Ky t s) (hD : va_D A (wl (gS s.heap.size t as) M0)) : GK (gS s.heap.size t as) s ∧ GH (gS s.heap.size t as) s s.heap := by
  subst hA
  have z := z_start hts hs
  refine ⟨⟨hK.1, hK.2, str_start hts hs, nc_start hs, fun j k hj hk e => hD.1 j k _ _ (wl_at _ M0 hj) (wl_at _ M0 hk) e, fun k hk => hD.2 k _ (wl_at _ M0 hk), Nat.le_refl 38, (by decide : 38 ≤ 39)⟩, Nat.le_refl _, z.1, z.2⟩
set_option maxHeartbeats 4000000 in
set_option maxRecDepth 100000 in
theorem whole_start {p : Program} {e : Env} {s : State} {m : MethodId} {below : List Frame} {meth : Method} {c : Code} (l : Launch) (hflags : l.flags = flags0) {b L : Nat} {xs : Nat → Int32} (hL : L ≤ 2048) (C0 : lw_At p s m meth c b L xs) : W p l e room_1 s m #[Value.ref b] below meth c s.heap [] 0 0 (lw_Z below #[Value.ref b] s) (entryFrame m ([Value.ref b] : List Value).toArray 9) := by
  obtain ⟨hx, hb, hr, hml, hown, hts, hX, hbl, hlocks, hgv⟩ := C0
  have hs := flat_of_before _ hgv
  have hst : l.stackTraces = false := by
    unfold Launch.stackTraces
    rw [hflags]
    rfl
  obtain ⟨t, hK⟩ := ky_start hts
  refine W.base ?_
  have hd0 := Drawn.sameBut.refl s.drawn lw_cs
  have C : Cy (p, l, e, room_1, s.setDrawn s.drawn, m, #[Value.ref b], below, meth, c, lw_Z below #[Value.ref b] s) t (fun q => s.heap.size ≤ q) l cL_law 9 RL (some .boolean) room_1 := ⟨hx, hb, hml, hown, hK, fun _ h => h, hlocks, hr, rfl, rfl⟩
  have hl := lv_entry ([.ref b]) (n := 9) (Nat.le_of_ble_eq_true rfl)
  rw [lg_entry_eq]
  suffices k : VE (p, l, e, room_1, s.setDrawn s.drawn, m, #[Value.ref b], below, meth, c, lw_Z below #[Value.ref b] s) t (fun q => s.heap.size ≤ q) [] 0 0 0 [(0, .ref b)] [] from
    k s.heap [] _ (fun k q h => by simp at h) ⟨fun i j p q h => by simp at h, fun k q h => by simp at h⟩ va_S.rf (by rw [show (xC (p, l, e, room_1, s.setDrawn s.drawn, m, #[Value.ref b], below, meth, c, lw_Z below #[Value.ref b] s)).maxLocals = 9 from hml]; exact hl)
  generalize hXX : ((p, l, e, room_1, s.setDrawn s.drawn, m, #[Value.ref b], below, meth, c, lw_Z below #[Value.ref b] s) : XT) = X at C ⊢
  refine e_new C (fs := [.null, .null]) ci1 (by decide +kernel) (by decide +kernel) (by decide +kernel) tyX1 tyX1_ok (fun j hj => by rcases (show j = 0 ∨ j = 1 by omega) with rfl | rfl <;> rfl) ⟨by decide, by decide⟩ dL_law_0 (fun x => ?_)
  refine e_dup C dL_law_3 ?_
  refine e_callI C (as := []) (wr := []) [0] [] (fun sz => qy_X1 l t x sz) cd_X1_init rfl ⟨⟨66, by decide +kernel⟩, ⟨67, by decide +kernel⟩⟩ rfl rfl ⟨⟨by decide, by decide⟩, by decide, by decide⟩ (Nat.le_of_ble_eq_true rfl) dL_law_4 rfl rfl rfl rfl rfl (by decide) (fun w1 hw1 => ?_)
  obtain ⟨c1, q0, q1, q2, q3, q4, q5, q6, q7, q8, q9, q10, q11, q12, c2, p0, p1, p2, p3, p4, p5, p6, p7, p8, p9, p10, p11, p12, hw1⟩ := hw1
  subst hw1
  refine e_astore_n C (lo' := [(1, _), (0, _)]) dL_law_7 (by decide) rfl ?_
  sorry
