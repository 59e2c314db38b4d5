/-! The law from its entry. -/
theorem start_end {p : Program} {e : Env} {s U : State} {m : MethodId} {below : List Frame} {meth : Method} {c : Code} {l : Launch} {b B : Nat} {g : GT} (hU : U = s.setDrawn s.drawn) (hr : meth.sig.returnType = ret) (hlocks : meth.locks = false) (hB : B = U.heap.size)
    (CC : Cx ((p, l, e, room_1, U, m, #[Value.ref b], below, meth, c, lw_Z below #[Value.ref b] s) : XT) g l cL_law 9 RL (some .boolean) room_1) (hg : ∀ q, gA g q → B ≤ q) (M : Mem) (lo : List (Nat × Value)) (kc ks : Nat) (h1 : kc ≤ 600) (h2 : ks ≤ 9000) : V ((p, l, e, room_1, U, m, #[Value.ref b], below, meth, c, lw_Z below #[Value.ref b] s) : XT) g kc ks 1855 lo [] M := by
  refine x_iconst CC (v := 1) dL_law_1855 (by decide) ?_
  intro H locs ls a1 a2 a3
  have hf : ∀ q ∈ locs, U.heap.size ≤ q.base := fun q hq => by rw [← hB]; exact hg _ (a2.2.2 q hq)
  have hx := CC.1
  have hb := CC.2.1
  show W p l e room_1 U m #[Value.ref b] below meth c H locs kc ks (lw_Z below #[Value.ref b] s) _
  refine va_forget hf (W.widen (k := 601024) (n := 7293034) (by omega) (by omega) ?_)
  rw [hU]
  exact lw_ret (Drawn.sameBut.refl s.drawn lw_cs) hx hb hr hlocks dL_law_1856
set_option maxHeartbeats 4000000 in
set_option maxRecDepth 100000 in
theorem whole_start {p : Program} {e : Env} {s : State} {m : MethodId} {below : List Frame} {meth : Method} {c : Code} (l : Launch) (hflags : l.flags = flags0) {b L : Nat} {xs : Nat → Int32} (hL : L ≤ 2048) (C0 : lw_At p s m meth c b L xs) : W p l e room_1 s m #[Value.ref b] below meth c s.heap [] 0 0 (lw_Z below #[Value.ref b] s) (entryFrame m ([Value.ref b] : List Value).toArray 9) := by
  obtain ⟨hx, hb, hr, hml, hown, hts, hX, hbl, hlocks, hgv⟩ := C0
  have hs := flat_of_before _ hgv
  have hst : l.stackTraces = false := by
    unfold Launch.stackTraces
    rw [hflags]
    rfl
  obtain ⟨t, hK⟩ := ky_start hts
  have hn : KnX s := ⟨str_start hts hs, nc_start hs⟩
  have hz : KzX s.heap.size s s.heap := z_start hts hs
  refine W.base ?_
  have hl := lv_entry ([.ref b]) (n := 9) (Nat.le_of_ble_eq_true rfl)
  rw [lg_entry_eq]
  obtain ⟨B, hB⟩ : ∃ B : Nat, B = s.heap.size := ⟨_, rfl⟩
  obtain ⟨A, hA⟩ : ∃ A : Nat → Prop, A = fun q => B ≤ q := ⟨_, rfl⟩
  have hes : s.setDrawn s.drawn = s := rfl
  obtain ⟨U, hU⟩ : ∃ U : State, U = s.setDrawn s.drawn := ⟨_, rfl⟩
  have hUs : U = s := hU.trans hes
  have hH : s.heap = U.heap := by rw [hUs]
  rw [← hU, hH]
  rw [← hUs] at hn hz hX hown hK hB hbl
  rw [← hB] at hz
  have C : Cy ((p, l, e, room_1, U, m, #[Value.ref b], below, meth, c, lw_Z below #[Value.ref b] s) : XT) t A l cL_law 9 RL (some .boolean) room_1 := ⟨hx, hb, hml, hown, hK, fun q h => by rw [hA, hB]; exact h, hlocks, hr, rfl, rfl⟩
  have E : ∀ g : GT, Cx ((p, l, e, room_1, U, m, #[Value.ref b], below, meth, c, lw_Z below #[Value.ref b] s) : XT) g l cL_law 9 RL (some .boolean) room_1 → (∀ q, gA g q → B ≤ q) → ∀ (M : Mem) (lo : List (Nat × Value)) (kc ks : Nat), kc ≤ 600 → ks ≤ 9000 → V ((p, l, e, room_1, U, m, #[Value.ref b], below, meth, c, lw_Z below #[Value.ref b] s) : XT) g kc ks 1855 lo [] M := fun g CC hg M lo kc ks h1 h2 => start_end hU hr hlocks hB CC hg M lo kc ks h1 h2
  suffices k : VE ((p, l, e, room_1, U, m, #[Value.ref b], below, meth, c, lw_Z below #[Value.ref b] s) : XT) t A [] 0 0 0 [(0, .ref b)] [] from
    k U.heap [] _ (fun k q h => by simp at h) ⟨fun i j p q h => by simp at h, fun k q h => by simp at h⟩ va_S.rf (by rw [show (xC ((p, l, e, room_1, U, m, #[Value.ref b], below, meth, c, lw_Z below #[Value.ref b] s) : XT)).maxLocals = 9 from hml]; exact hl)
  have hXX : ∃ X : XT, X = ((p, l, e, room_1, U, m, #[Value.ref b], below, meth, c, lw_Z below #[Value.ref b] s) : XT) := ⟨_, rfl⟩
  obtain ⟨X, hXX⟩ := hXX
  have n1 : KnX (xS X) := by rw [hXX]; exact hn
  have n2 : KzX B (xS X) (xS X).heap := by rw [hXX]; exact hz
  have n3 : va_X b L xs (xS X) (xS X).heap := by rw [hXX]; exact hX
  have n4 : (xS X).heap.size = B := by rw [hXX]; exact hB.symm
  have n5 : b < B := by rw [hB]; exact hbl
  rw [← hXX] at C E ⊢
  refine start_walk C (fun x c1 q0 q1 q2 q3 q4 q5 q6 q7 q8 q9 q10 q11 q12 c2 p0 p1 p2 p3 p4 p5 p6 p7 p8 p9 p10 p11 p12 m1 r0 r1 r2 r3 r4 r5 r6 o kc ks hk => ?_)
  exact start_loop (as := [x, c1, q0, q1, q2, q3, q4, q5, q6, q7, q8, q9, q10, q11, q12, c2, p0, p1, p2, p3, p4, p5, p6, p7, p8, p9, p10, p11, p12, m1, r0, r1, r2, r3, r4, r5, r6, o]) hst hA (Nat.le_of_eq n4.symm) C n1 n2 n3 (by rw [n4]; exact n5) n5 hL hk (lS_wl B t x c1 q0 q1 q2 q3 q4 q5 q6 q7 q8 q9 q10 q11 q12 c2 p0 p1 p2 p3 p4 p5 p6 p7 p8 p9 p10 p11 p12 m1 r0 r1 r2 r3 r4 r5 r6 o) rfl E
