/-! From the world of the start into the law's body. -/
theorem fm_of {α β : Type} {f : α → Option β} : ∀ {l : List α} {r : List β}, l.map f = r.map some → l.filterMap f = r
  | [], [], _ => rfl
  | [], _ :: _, h => by simp at h
  | _ :: _, [], h => by simp at h
  | a :: l, b :: r, h => by
    simp only [List.map_cons, List.cons.injEq] at h
    rw [List.filterMap_cons_some h.1, fm_of h.2]
def KnX (U : State) : Prop := ∀ q ∈ strL, ∃ sa, vk_R q.1 q.2.1 q.2.2 sa U
def KzX (B : Nat) (U : State) (H : Heap) : Prop := vx_Zq Bundle.tN "UNASSIGNED_STACK" Bundle.steD (fun q => B ≤ q) U H ∧ vx_Zq Bundle.tN "SUPPRESSED_SENTINEL" Bundle.listD (fun q => B ≤ q) U H
theorem start_gk {X : XT} {t : YT} {as : List Nat} {B : Nat} {l : Launch} {A : Nat → Prop} (hA : A = fun q => B ≤ q) (hB : B ≤ (xS X).heap.size) (C : Cy X t A l cL_law 39 RL (some .boolean) room_1) (h1 : KnX (xS X)) (h0 : RK t.2.2.2 t.2.1 (xS X)) (h2 : KzX B (xS X) (xS X).heap) (hD : va_D A (wl (gS B t as) M0)) : Cx X (gS B t as) l cL_law 39 RL (some .boolean) room_1 := by
  subst hA
  obtain ⟨c1, c2, c3, c4, c5, c6, c7, c8, c9, c10⟩ := C
  exact ⟨c1, c2, c3, c4, ⟨c5.1, c5.2, h1, h0, fun j k hj hk e => hD.1 j k _ _ (wl_at _ M0 hj) (wl_at _ M0 hk) e, fun k hk => hD.2 k _ (wl_at _ M0 hk), Nat.le_refl 29, Nat.le_refl 29⟩, ⟨fun q hq => Nat.le_trans hB hq, h2.1, h2.2⟩, c7, c8, c9, c10⟩
theorem start_law {X : XT} {t : YT} {as : List Nat} {B b L kc ks : Nat} {l : Launch} {A : Nat → Prop} {xs : Nat → Int32} {ws : va_W} {lo : List (Nat × Value)} (hst : l.stackTraces = false) (hA : A = fun q => B ≤ q) (hB : B ≤ (xS X).heap.size) (C : Cy X t A l cL_law 39 RL (some .boolean) room_1) (h1 : KnX (xS X)) (h0 : RK t.2.2.2 t.2.1 (xS X)) (h2 : KzX B (xS X) (xS X).heap) (hX : va_X b L xs (xS X) (xS X).heap) (hbl : b < (xS X).heap.size) (hbB : b < B) (hL : L ≤ 2048) (hk : kc ≤ 100 ∧ ks ≤ 2000)
    (hw : pS.map (fun i => ws[i]?) = (wl (gS B t as) M0).map some) (hlo : lo = [(0, .ref b), (1, .ref (ga (gS B t as) 0))])
    (E : ∀ g : GT, Cx X g l cL_law 39 RL (some .boolean) room_1 → (∀ q, gA g q → B ≤ q) → ∀ (M : Mem) (D : DM) (lo : List (Nat × Value)) (kc ks : Nat), kc ≤ 60000 → ks ≤ 900000 → UX X g kc ks 1494 lo [.int 1] M D) : VE X t A ws kc ks 8 lo [] := by
  intro H locs ls h3 h4 h5 h6
  have p1 := h3.sub pS (fm_of hw)
  have p2 := h4.sub pS (by decide +kernel) hw
  have CC := start_gk hA hB C h1 h0 h2 p2
  subst hA
  subst hlo
  have S : SX X (gS B t as) b L xs := ⟨hX, hbl, fun z => absurd z (Nat.not_le.mpr hbB), hL⟩
  exact q_law hst S (fun M D lo kc ks e1 e2 => E _ CC (fun q z => z) M D lo kc ks e1 e2) hk li_0 CC (D := fun _ => none) H locs ls ⟨[], by rw [List.append_nil]; exact p1, by rw [List.append_nil]; exact p2, fun a e h => by cases h⟩ h5 h6
set_option maxHeartbeats 4000000 in
set_option maxRecDepth 100000 in
theorem start_walk {X : XT} {t : YT} {A : Nat → Prop} {l : Launch} {b : Nat} (C : Cy X t A l cL_law 39 RL (some .boolean) room_1) (K : ∀ x c1 q0 q1 q2 q3 q4 q5 q6 q7 q8 q9 q10 q11 q12 c2 p0 p1 p2 p3 p4 p5 p6 p7 p8 p9 p10 p11 p12 kc ks : Nat, kc ≤ 100 ∧ ks ≤ 2000 → VE X t A (lS t x c1 q0 q1 q2 q3 q4 q5 q6 q7 q8 q9 q10 q11 q12 c2 p0 p1 p2 p3 p4 p5 p6 p7 p8 p9 p10 p11 p12) kc ks 8 [(1, .ref x), (0, .ref b)] []) : VE X t A [] 0 0 0 [(0, .ref b)] [] := by
  refine e_new C (fs := [.null, .null]) ci1 (by decide +kernel) (by decide +kernel) (by decide +kernel) tyX1 tyX1_ok (fun j hj => by rcases (show j = 0 ∨ j = 1 by omega) with rfl | rfl <;> rfl) ⟨by decide, by decide⟩ dL_law_0 (fun x => ?_)
  refine e_dup C dL_law_3 ?_
  refine e_callI C (as := []) (wr := []) [0] [] (fun sz => qy_X1 l t x sz) cd_X1_init rfl ⟨⟨37, by decide +kernel⟩, ⟨38, by decide +kernel⟩⟩ rfl rfl ⟨⟨by decide, by decide⟩, by decide, by decide⟩ (Nat.le_of_ble_eq_true rfl) dL_law_4 rfl rfl rfl rfl rfl (by decide) (fun w1 hw1 => ?_)
  obtain ⟨c1, q0, q1, q2, q3, q4, q5, q6, q7, q8, q9, q10, q11, q12, c2, p0, p1, p2, p3, p4, p5, p6, p7, p8, p9, p10, p11, p12, hw1⟩ := hw1
  subst hw1
  refine e_astore_n C (lo' := [(1, _), (0, _)]) dL_law_7 (by decide) rfl ?_
  refine e_ws (ws' := lS t x c1 q0 q1 q2 q3 q4 q5 q6 q7 q8 q9 q10 q11 q12 c2 p0 p1 p2 p3 p4 p5 p6 p7 p8 p9 p10 p11 p12) rfl ?_
  exact K x c1 q0 q1 q2 q3 q4 q5 q6 q7 q8 q9 q10 q11 q12 c2 p0 p1 p2 p3 p4 p5 p6 p7 p8 p9 p10 p11 p12 _ _ ⟨by decide, by decide⟩
theorem start_end {p : Program} {e : Env} {s U : State} {m : MethodId} {below : List Frame} {meth : Method} {c : Code} {l : Launch} {b B : Nat} {g : GT} (hU : U = s.setDrawn s.drawn) (hr : meth.sig.returnType = ret) (hlocks : meth.locks = false) (hB : B = U.heap.size)
    (CC : Cx ((p, l, e, room_1, U, m, #[Value.ref b], below, meth, c, lw_Z below #[Value.ref b] s) : XT) g l cL_law 39 RL (some .boolean) room_1) (hg : ∀ q, gA g q → B ≤ q) (M : Mem) (D : DM) (lo : List (Nat × Value)) (kc ks : Nat) (h1 : kc ≤ 60000) (h2 : ks ≤ 900000) : UX ((p, l, e, room_1, U, m, #[Value.ref b], below, meth, c, lw_Z below #[Value.ref b] s) : XT) g kc ks 1494 lo [.int 1] M D := by
  intro H locs ls a1 a2 a3
  have hf : ∀ q ∈ locs, U.heap.size ≤ q.base := fun q hq => by rw [← hB]; exact hg _ (a2.2.2 q hq)
  have hx := CC.1
  have hb := CC.2.1
  show W p l e room_1 U m #[Value.ref b] below meth c H locs kc ks (lw_Z below #[Value.ref b] s) _
  refine va_forget hf (W.widen (k := 982245) (n := 6154733) (by omega) (by omega) ?_)
  rw [hU]
  exact lw_ret (Drawn.sameBut.refl s.drawn lw_cs) hx hb hr hlocks dL_law_1494
set_option maxHeartbeats 4000000 in
set_option maxRecDepth 100000 in
theorem whole_start {p : Program} {e : Env} {s : State} {m : MethodId} {below : List Frame} {meth : Method} {c : Code} (l : Launch) (hflags : l.flags = flags0) {b L : Nat} {xs : Nat → Int32} (hL : L ≤ 260) (C0 : lw_At p s m meth c b L xs) : W p l e room_1 s m #[Value.ref b] below meth c s.heap [] 0 0 (lw_Z below #[Value.ref b] s) (entryFrame m ([Value.ref b] : List Value).toArray 39) := by
  obtain ⟨hx, hb, hr, hml, hown, hts, hX, hbl, hlocks, hgv⟩ := C0
  have hs := flat_of_before _ hgv
  have hst : l.stackTraces = false := by
    unfold Launch.stackTraces
    rw [hflags]
    rfl
  obtain ⟨t, hK, hR⟩ := ky_start hts
  have hn : KnX s := str_start hts hs
  have hz : KzX s.heap.size s s.heap := z_start hts hs
  refine W.base ?_
  have hl := lv_entry ([.ref b]) (n := 39) (Nat.le_of_ble_eq_true rfl)
  rw [lg_entry_eq]
  obtain ⟨B, hB⟩ : ∃ B : Nat, B = s.heap.size := ⟨_, rfl⟩
  obtain ⟨A, hA⟩ : ∃ A : Nat → Prop, A = fun q => B ≤ q := ⟨_, rfl⟩
  have hes : s.setDrawn s.drawn = s := rfl
  obtain ⟨U, hU⟩ : ∃ U : State, U = s.setDrawn s.drawn := ⟨_, rfl⟩
  have hUs : U = s := hU.trans hes
  have hH : s.heap = U.heap := by rw [hUs]
  rw [← hU, hH]
  rw [← hUs] at hn hz hX hown hK hB hbl hR
  rw [← hB] at hz
  have C : Cy ((p, l, e, room_1, U, m, #[Value.ref b], below, meth, c, lw_Z below #[Value.ref b] s) : XT) t A l cL_law 39 RL (some .boolean) room_1 := ⟨hx, hb, hml, hown, hK, fun q h => by rw [hA, hB]; exact h, hlocks, hr, rfl, rfl⟩
  have E : ∀ g : GT, Cx ((p, l, e, room_1, U, m, #[Value.ref b], below, meth, c, lw_Z below #[Value.ref b] s) : XT) g l cL_law 39 RL (some .boolean) room_1 → (∀ q, gA g q → B ≤ q) → ∀ (M : Mem) (D : DM) (lo : List (Nat × Value)) (kc ks : Nat), kc ≤ 60000 → ks ≤ 900000 → UX ((p, l, e, room_1, U, m, #[Value.ref b], below, meth, c, lw_Z below #[Value.ref b] s) : XT) g kc ks 1494 lo [.int 1] M D := fun g CC hg M D lo kc ks h1 h2 => start_end hU hr hlocks hB CC hg M D lo kc ks h1 h2
  suffices k : VE ((p, l, e, room_1, U, m, #[Value.ref b], below, meth, c, lw_Z below #[Value.ref b] s) : XT) t A [] 0 0 0 [(0, .ref b)] [] from
    k U.heap [] _ (fun k q h => by simp at h) ⟨fun i j p q h => by simp at h, fun k q h => by simp at h⟩ va_S.rf (by rw [show (xC ((p, l, e, room_1, U, m, #[Value.ref b], below, meth, c, lw_Z below #[Value.ref b] s) : XT)).maxLocals = 39 from hml]; exact hl)
  have hXX : ∃ X : XT, X = ((p, l, e, room_1, U, m, #[Value.ref b], below, meth, c, lw_Z below #[Value.ref b] s) : XT) := ⟨_, rfl⟩
  obtain ⟨X, hXX⟩ := hXX
  have n1 : KnX (xS X) := by rw [hXX]; exact hn
  have n0 : RK t.2.2.2 t.2.1 (xS X) := by rw [hXX]; exact hR
  have n2 : KzX B (xS X) (xS X).heap := by rw [hXX]; exact hz
  have n3 : va_X b L xs (xS X) (xS X).heap := by rw [hXX]; exact hX
  have n4 : (xS X).heap.size = B := by rw [hXX]; exact hB.symm
  have n5 : b < B := by rw [hB]; exact hbl
  rw [← hXX] at C E ⊢
  refine start_walk C (fun x c1 q0 q1 q2 q3 q4 q5 q6 q7 q8 q9 q10 q11 q12 c2 p0 p1 p2 p3 p4 p5 p6 p7 p8 p9 p10 p11 p12 kc ks hk => ?_)
  exact e_lsub [1, 0] rfl (start_law (as := [x, c1, q0, q1, q2, q3, q4, q5, q6, q7, q8, q9, q10, q11, q12, c2, p0, p1, p2, p3, p4, p5, p6, p7, p8, p9, p10, p11, p12]) hst hA (Nat.le_of_eq n4.symm) C n1 n0 n2 n3 (by rw [n4]; exact n5) n5 (by omega) hk (lS_wl B t x c1 q0 q1 q2 q3 q4 q5 q6 q7 q8 q9 q10 q11 q12 c2 p0 p1 p2 p3 p4 p5 p6 p7 p8 p9 p10 p11 p12) rfl E)
