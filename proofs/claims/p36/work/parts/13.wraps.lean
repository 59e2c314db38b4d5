/-! Short forms of the calls, throws, small number facts. -/
theorem nI_inc (i : Nat) : nI i + Int32.ofInt 1 = nI (i + 1) := nI_1 i
theorem nI_inc4 (i : Nat) : nI i + Int32.ofInt 4 = nI (i + 4) := nI_add i 4
theorem rb_t {c : Prop} [Decidable c] (h : c) : some (Value.int (b2i c)) = some (.int 1) := by rw [b2i_t h]
theorem rb_f {c : Prop} [Decidable c] (h : ¬ c) : some (Value.int (b2i c)) = some (.int 0) := by rw [b2i_f h]
/-- an int as a number -/
abbrev tn (x : Int32) : Nat := x.toNatClampNeg
theorem nI_tn {x : Int32} (h : 0 ≤ x) : x = nI (tn x) := by
  obtain ⟨j, h1, rfl⟩ := nI_of (Int32.not_lt.mpr h)
  rw [tn, nI_clamp h1]
theorem tn_nI {j : Nat} (h : j < 2 ^ 31) : tn (nI j) = j := nI_clamp h
theorem tn_lt {x : Int32} {n : Nat} (h0 : 0 ≤ x) (hn : n < 2 ^ 31) (h : x < nI n) : tn x < n := by
  obtain ⟨j, h1, rfl⟩ := nI_of (Int32.not_lt.mpr h0)
  rw [tn_nI h1]
  exact (nI_ltI h1 hn).mp h
theorem tn_le {x : Int32} {n : Nat} (h0 : 0 ≤ x) (hn : n < 2 ^ 31) (h : x ≤ nI n) : tn x ≤ n := by
  obtain ⟨j, h1, rfl⟩ := nI_of (Int32.not_lt.mpr h0)
  rw [tn_nI h1]
  exact (nI_leI h1 hn).mp h
section RULES4
variable {X : XT} {g : GT} {l : Launch} {cc : ByteArray} {mL : Nat} {own : String} {ret : Option FieldType} {rm : Room} {kc ks pc : Nat} {lo lo' : List (Nat × Value)} {st st0 : List Value} {M M' : Mem}
variable {y : MethodName} {bs' : ByteArray} {mL' n idx k : Nat} {ret' : Option FieldType} {rm' : Room} {as : List Value} {res : Option Value}
theorem x_lcmp (C : Cx X g l cc mL own ret rm) {x y : Int64} (d : decode cc pc = .ok (.lcmp, 1)) (k : V X g kc ks (pc + 1) lo (.int (lg_cmp x y) :: st) M) : V X g kc ks pc lo (.long y :: .long x :: st) M := fun H locs ls h1 h2 h3 => W.lcmp C.1 C.2.1 d (k H locs ls h1 h2 h3)
theorem x_ldc2 (C : Cx X g l cc mL own ret rm) {i : Nat} {v : Int64} (d : decode cc pc = .ok (.ldc2_w idx, 3)) (h : lw_tbl[i]? = some (.constantLong own idx v)) (k : V X g kc ks (pc + 3) lo (.long v :: st) M) : V X g kc ks pc lo st M := fun H locs ls h1 h2 h3 => lv_ldc2 C.1 C.2.1 C.2.2.2.1 (C.w h rfl) d (k H locs ls h1 h2 h3)
theorem x_callS0r (C : Cx X g l cc mL own ret rm) {v : Value} (hM : CM l y bs' mL' ret' rm' g M as (some v) M') (hc : CD y bs' mL' ret' n) (hl : KS own idx y) (hn : as.length = n) (hst : st0 = as.reverse ++ st) (hR : Rm rm' rm mL' kc ks) (hz : rm'.cells = 0 ∧ rm'.slots = 0) (hW : (st.map fun v => v.category).sum ≤ 8) (d : decode cc pc = .ok (.invokestatic idx, 3)) (kk : V X g kc ks (pc + 3) lo (v :: st) M') : V X g kc ks pc lo st0 M := by
  refine x_callS C hM hc hl hn hst hR hW d ?_
  rw [hz.1, hz.2]
  exact kk
theorem x_callS0v (C : Cx X g l cc mL own ret rm) (hM : CM l y bs' mL' ret' rm' g M as none M') (hc : CD y bs' mL' ret' n) (hl : KS own idx y) (hn : as.length = n) (hst : st0 = as.reverse ++ st) (hR : Rm rm' rm mL' kc ks) (hz : rm'.cells = 0 ∧ rm'.slots = 0) (hW : (st.map fun v => v.category).sum ≤ 8) (d : decode cc pc = .ok (.invokestatic idx, 3)) (kk : V X g kc ks (pc + 3) lo st M') : V X g kc ks pc lo st0 M := by
  refine x_callS C hM hc hl hn hst hR hW d ?_
  rw [hz.1, hz.2]
  exact kk
theorem x_callSN0r (C : Cx X g l cc mL own ret rm) {v : Value} (hM : CM l y bs' mL' ret' rm' g M as (some v) M') (hc : CD y bs' mL' ret' n) (hl : KSN own idx y) (hn : as.length = n) (hst : st0 = as.reverse ++ st) (hR : Rm rm' rm mL' kc ks) (hz : rm'.cells = 0 ∧ rm'.slots = 0) (hW : (st.map fun v => v.category).sum ≤ 8) (d : decode cc pc = .ok (.invokestatic idx, 3)) (kk : V X g kc ks (pc + 3) lo (v :: st) M') : V X g kc ks pc lo st0 M := by
  refine x_callSN C hM hc hl hn hst hR hW d ?_
  rw [hz.1, hz.2]
  exact kk
theorem x_callSN0v (C : Cx X g l cc mL own ret rm) (hM : CM l y bs' mL' ret' rm' g M as none M') (hc : CD y bs' mL' ret' n) (hl : KSN own idx y) (hn : as.length = n) (hst : st0 = as.reverse ++ st) (hR : Rm rm' rm mL' kc ks) (hz : rm'.cells = 0 ∧ rm'.slots = 0) (hW : (st.map fun v => v.category).sum ≤ 8) (d : decode cc pc = .ok (.invokestatic idx, 3)) (kk : V X g kc ks (pc + 3) lo st M') : V X g kc ks pc lo st0 M := by
  refine x_callSN C hM hc hl hn hst hR hW d ?_
  rw [hz.1, hz.2]
  exact kk
theorem x_callV0r (C : Cx X g l cc mL own ret rm) {ci N : Nat} {T : u_T} {v : Value} (hM : CM l y bs' mL' ret' rm' g M (.ref (ga g k) :: as) (some v) M') (hc : CD y bs' mL' ret' n) (hl : KV own idx y) (hci : CI ci y.cls T N) (hk : xk k = ci) (hk2 : k < 29) (hn : as.length = n) (hst : st0 = as.reverse ++ .ref (ga g k) :: st) (hR : Rm rm' rm mL' kc ks) (hz : rm'.cells = 0 ∧ rm'.slots = 0) (hW : (st.map fun v => v.category).sum ≤ 8) (d : decode cc pc = .ok (.invokevirtual idx, 3)) (kk : V X g kc ks (pc + 3) lo (v :: st) M') : V X g kc ks pc lo st0 M := by
  refine x_callV C hM hc hl hci hk hk2 hn hst hR hW d ?_
  rw [hz.1, hz.2]
  exact kk
theorem x_callV0v (C : Cx X g l cc mL own ret rm) {ci N : Nat} {T : u_T} (hM : CM l y bs' mL' ret' rm' g M (.ref (ga g k) :: as) none M') (hc : CD y bs' mL' ret' n) (hl : KV own idx y) (hci : CI ci y.cls T N) (hk : xk k = ci) (hk2 : k < 29) (hn : as.length = n) (hst : st0 = as.reverse ++ .ref (ga g k) :: st) (hR : Rm rm' rm mL' kc ks) (hz : rm'.cells = 0 ∧ rm'.slots = 0) (hW : (st.map fun v => v.category).sum ≤ 8) (d : decode cc pc = .ok (.invokevirtual idx, 3)) (kk : V X g kc ks (pc + 3) lo st M') : V X g kc ks pc lo st0 M := by
  refine x_callV C hM hc hl hci hk hk2 hn hst hR hW d ?_
  rw [hz.1, hz.2]
  exact kk
theorem x_callVN0r (C : Cx X g l cc mL own ret rm) {ci N : Nat} {T : u_T} {v : Value} (hM : CM l y bs' mL' ret' rm' g M (.ref (ga g k) :: as) (some v) M') (hc : CD y bs' mL' ret' n) (hl : KVN own idx y) (hci : CI ci y.cls T N) (hk : xk k = ci) (hk2 : k < 29) (hn : as.length = n) (hst : st0 = as.reverse ++ .ref (ga g k) :: st) (hR : Rm rm' rm mL' kc ks) (hz : rm'.cells = 0 ∧ rm'.slots = 0) (hW : (st.map fun v => v.category).sum ≤ 8) (d : decode cc pc = .ok (.invokevirtual idx, 3)) (kk : V X g kc ks (pc + 3) lo (v :: st) M') : V X g kc ks pc lo st0 M := by
  refine x_callVN C hM hc hl hci hk hk2 hn hst hR hW d ?_
  rw [hz.1, hz.2]
  exact kk
theorem x_callVN0v (C : Cx X g l cc mL own ret rm) {ci N : Nat} {T : u_T} (hM : CM l y bs' mL' ret' rm' g M (.ref (ga g k) :: as) none M') (hc : CD y bs' mL' ret' n) (hl : KVN own idx y) (hci : CI ci y.cls T N) (hk : xk k = ci) (hk2 : k < 29) (hn : as.length = n) (hst : st0 = as.reverse ++ .ref (ga g k) :: st) (hR : Rm rm' rm mL' kc ks) (hz : rm'.cells = 0 ∧ rm'.slots = 0) (hW : (st.map fun v => v.category).sum ≤ 8) (d : decode cc pc = .ok (.invokevirtual idx, 3)) (kk : V X g kc ks (pc + 3) lo st M') : V X g kc ks pc lo st0 M := by
  refine x_callVN C hM hc hl hci hk hk2 hn hst hR hW d ?_
  rw [hz.1, hz.2]
  exact kk
/-- what a throw of E with a text in CanyonEchoes needs -/
def XI (E : String) (ik ic : Nat) : Prop := Bundle.fit E = true ∧ Cond.classLink RX1 ik E ∈ lw_tbl ∧ Cond.initialized E ∈ lw_tbl ∧ (∀ w ∈ vx_atS RX1 ic E ["java/lang/RuntimeException", "java/lang/Exception"], w ∈ lw_tbl ∧ xw w = true) ∧ (∀ w ∈ Cond.classLink RX1 ik E :: Cond.initialized E :: vx_atS RX1 ic E ["java/lang/RuntimeException", "java/lang/Exception"], vx_ot w = true)
theorem xi_eB : XI eB 246 250 := ⟨by decide +kernel, by decide +kernel, by decide +kernel, by decide +kernel, by decide +kernel⟩
theorem xi_eA : XI eA 26 30 := ⟨by decide +kernel, by decide +kernel, by decide +kernel, by decide +kernel, by decide +kernel⟩
theorem xi_eS : XI eS 41 45 := ⟨by decide +kernel, by decide +kernel, by decide +kernel, by decide +kernel, by decide +kernel⟩
theorem x_throw {E : String} (C : Cx X g l cc mL RX1 ret rm) (hl : l.stackTraces = false) (hq : Re X g rm M E) {ik ic is : Nat} {text : String} (hX : XI E ik ic) (hs : (RX1, is, text) ∈ strL) (d0 : decode cc pc = .ok (.new ik, 3)) (d3 : decode cc (pc + 3) = .ok (.dup, 1)) (d4 : decode cc (pc + 4) = .ok (.ldc is, 2)) (d6 : decode cc (pc + 6) = .ok (.invokespecial ic, 3)) (d9 : decode cc (pc + 9) = .ok (.athrow, 1)) (hR : 5 < rm.frames ∧ (st.map fun v => v.category).sum + 82 ≤ rm.locals ∧ kc + 1 ≤ rm.cells ∧ ks + 6 ≤ rm.slots) : V X g kc ks pc lo st M := by
  intro H locs ls h1 h2 h3
  obtain ⟨x1, x2, x3, x4, x5⟩ := hX
  obtain ⟨sa, hsa⟩ := C.2.2.2.2.1.2.2.1 _ hs
  have hR' : xR X = rm := C.2.2.2.2.2.2.2.2.1
  have hl' : xL X = l := C.2.2.2.2.2.2.2.2.2
  show W _ _ _ _ _ _ _ _ _ _ _ _ _ _ (xQ X) _
  rw [hq.1]
  refine vx_throwS (names := ["java/lang/RuntimeException", "java/lang/Exception"]) C.1 C.2.1 (by rw [hl']; exact hl) C.2.2.2.1 x1 (by decide +kernel) (C.wm x2 rfl) (C.wm x3 rfl) hsa (fun w hw => C.wm (x4 w hw).1 (x4 w hw).2) x5 C.2.2.2.2.2.1.2.1 C.2.2.2.2.2.1.2.2 h2 h3.1 d0 d3 d4 d6 d9 (fun x hx => (hq.2 x hx).elim) (by rw [hR']; exact hR.1) (by rw [hR']; exact hR.2.1) (by rw [hR']; exact hR.2.2.1) (by rw [hR']; exact hR.2.2.2) C.2.2.2.2.2.2.1 (fun t _ hz hk => ⟨rfl, ?_, ?_⟩) (fun z hz => h2.2.2 z hz) hR.2.2.1 hR.2.2.2
  · exact va_P.kept h1 (fun k q hkq => hk q.1 ((h1 k q hkq).lt))
  · exact ⟨Nat.le_trans h2.1 hz, fun q a1 a2 => (hk q (Nat.lt_of_lt_of_le a1 h2.1)).trans (h2.2.1 q a1 a2)⟩
theorem x_throwW {E : String} (C : Cx X g l cc mL RX1 ret rm) (hl : l.stackTraces = false) (hq : Re X g rm M E) {ik ic is : Nat} {text : String} (hX : XI E ik ic) (hs : (RX1, is, text) ∈ strL) (d0 : decode cc pc = .ok (.new ik, 3)) (d3 : decode cc (pc + 3) = .ok (.dup, 1)) (d4 : decode cc (pc + 4) = .ok (.ldc_w is, 3)) (d6 : decode cc (pc + 7) = .ok (.invokespecial ic, 3)) (d9 : decode cc (pc + 10) = .ok (.athrow, 1)) (hR : 5 < rm.frames ∧ (st.map fun v => v.category).sum + 82 ≤ rm.locals ∧ kc + 1 ≤ rm.cells ∧ ks + 6 ≤ rm.slots) : V X g kc ks pc lo st M := by
  intro H locs ls h1 h2 h3
  obtain ⟨x1, x2, x3, x4, x5⟩ := hX
  obtain ⟨sa, hsa⟩ := C.2.2.2.2.1.2.2.1 _ hs
  have hR' : xR X = rm := C.2.2.2.2.2.2.2.2.1
  have hl' : xL X = l := C.2.2.2.2.2.2.2.2.2
  show W _ _ _ _ _ _ _ _ _ _ _ _ _ _ (xQ X) _
  rw [hq.1]
  refine vx_throwSW (names := ["java/lang/RuntimeException", "java/lang/Exception"]) C.1 C.2.1 (by rw [hl']; exact hl) C.2.2.2.1 x1 (by decide +kernel) (C.wm x2 rfl) (C.wm x3 rfl) hsa (fun w hw => C.wm (x4 w hw).1 (x4 w hw).2) x5 C.2.2.2.2.2.1.2.1 C.2.2.2.2.2.1.2.2 h2 h3.1 d0 d3 d4 d6 d9 (fun x hx => (hq.2 x hx).elim) (by rw [hR']; exact hR.1) (by rw [hR']; exact hR.2.1) (by rw [hR']; exact hR.2.2.1) (by rw [hR']; exact hR.2.2.2) C.2.2.2.2.2.2.1 (fun t _ hz hk => ⟨rfl, ?_, ?_⟩) (fun z hz => h2.2.2 z hz) hR.2.2.1 hR.2.2.2
  · exact va_P.kept h1 (fun k q hkq => hk q.1 ((h1 k q hkq).lt))
  · exact ⟨Nat.le_trans h2.1 hz, fun q a1 a2 => (hk q (Nat.lt_of_lt_of_le a1 h2.1)).trans (h2.2.1 q a1 a2)⟩
/-- what follows a run of a callee that throws, where nobody catches it: the method throws too -/
theorem x_ranX {E : String} (C : Cx X g l cc mL own ret rm) (hq : Re X g rm M E) {H : Heap} {locs : List Loc} {ls : Array Slot} {a : Array Value} (hr : vx_Run (xP X) (xL X) (xE X) (xR X) (xS X) (xM X) (xA X) (xB X) (xMe X) (xC X) H locs kc ks rm'.cells rm'.slots (F0 (xM X) pc ls st0) st (QN a) (QX g M E) (gA g)) (h2 : va_S (gA g) (xS X).heap H locs) (hk : kc + rm'.cells ≤ rm.cells ∧ ks + rm'.slots ≤ rm.slots) : xW X H locs kc ks (F0 (xM X) pc ls st0) := by
  intro T hT Xs
  rcases hr T hT Xs with ⟨v, st₀, t, T', L, h0, X', hL, e1, e2, hqn, hgo⟩ | ⟨q, st₀, t, T', L, E', ce, h0, X', hL, e1, e2, ⟨hE, hP, hz, hkp⟩, hce, hcv, hcl, hgo⟩
  · exact hqn.elim
  · subst hE
    rw [h0] at hz hkp
    have h2' : va_S (gA g) (xS X).heap T'.heap (locs ++ L) := ⟨Nat.le_trans h2.1 (by rw [e1]; exact hz), fun q a1 a2 => by rw [e1, hkp q (Nat.lt_of_lt_of_le a1 h2.1) a2]; exact h2.2.1 q a1 a2, fun q hq => by
        rcases List.mem_append.mp hq with h | h
        · exact h2.2.2 q h
        · exact hL q h⟩
    have hw : vx_W (xP X) (xL X) (xE X) (xR X) (xS X) (xM X) (xA X) (xB X) (xMe X) (xC X) T'.heap (locs ++ L) (kc + rm'.cells) (ks + rm'.slots) (vx_MQ (xB X) QN (QX g M E') (xA X) (xS X) rm.cells rm.slots (gA g)) (F0 (xM X) pc ls st) q :=
      vx_out (fun x hx => (hq.2 x hx).elim) C.2.2.2.2.2.2.1 (by rw [e1]; exact hce) hcv hcl (fun t2 ht2 _ => ⟨rfl, by rw [ht2, e1]; exact hP, h2'.F ht2⟩) (fun z hz => h2'.2.2 z hz) hk.1 hk.2
    obtain ⟨t2, a1, b1⟩ := hw T' rfl X'
    refine ⟨t2, hgo.trans a1, ?_⟩
    rw [hq.1]
    exact b1
theorem x_callSx {E : String} (C : Cx X g l cc mL own ret rm) (hq : Re X g rm M E) (hM : CE l y bs' mL' ret' rm' g M as E) (hc : CD y bs' mL' ret' n) (hl : KS own idx y) (hn : as.length = n) (hst : st0 = as.reverse ++ st) (hR : Rm rm' rm mL' kc ks) (hW : (st.map fun v => v.category).sum ≤ 8) (d : decode cc pc = .ok (.invokestatic idx, 3)) : V X g kc ks pc lo st0 M := by
  intro H locs ls h1 h2 h3
  obtain ⟨⟨i, hcd⟩, hini, hd⟩ := hc
  obtain ⟨⟨i1, hl1⟩, i2, hl2⟩ := hl
  have hR' : xR X = rm := C.2.2.2.2.2.2.2.2.1
  have hl' : xL X = l := C.2.2.2.2.2.2.2.2.2
  subst hl'
  refine x_ranX C hq (vx_runS (As := as) (rest := st) (Ts := [Cond.code y bs' mL' ret']) ⟨C.1, C.2.1, rfl, C.2.2.2.1, fun w hw => ?_⟩ hM ⟨callB_of (Ts := [Cond.code y bs' mL' ret']) n (fun w hw => ?_) (code_good y bs' mL' ret') rfl rfl rfl (C.wm hini rfl) (C.w hl1 rfl) hd (by rw [hR']; exact hR.1), C.w hl2 rfl⟩ ⟨PC.blind, pcAt C h1 h2⟩ rfl hn h3.1 hst (lv_room hW) d (by rw [hR']; exact hR.2)) h2 hR.2
  · rw [List.mem_singleton.mp hw]; exact C.w hcd rfl
  · rw [List.mem_singleton.mp hw]; exact C.w hcd rfl
theorem x_callVx {E : String} (C : Cx X g l cc mL own ret rm) (hq : Re X g rm M E) {ci N : Nat} {T : u_T} (hM : CE l y bs' mL' ret' rm' g M (.ref (ga g k) :: as) E) (hc : CD y bs' mL' ret' n) (hl : KV own idx y) (hci : CI ci y.cls T N) (hk : xk k = ci) (hk2 : k < 29) (hn : as.length = n) (hst : st0 = as.reverse ++ .ref (ga g k) :: st) (hR : Rm rm' rm mL' kc ks) (hW : (st.map fun v => v.category).sum ≤ 8) (d : decode cc pc = .ok (.invokevirtual idx, 3)) : V X g kc ks pc lo st0 M := by
  intro H locs ls h1 h2 h3
  obtain ⟨⟨i, hcd⟩, hini, hd⟩ := hc
  obtain ⟨⟨i1, hl1⟩, ⟨i2, hl2⟩, i3, hl3⟩ := hl
  have hR' : xR X = rm := C.2.2.2.2.2.2.2.2.1
  have hl' : xL X = l := C.2.2.2.2.2.2.2.2.2
  subst hl'
  refine x_ranX C hq (vx_runV (As := as) (rest := st) (Ts := [Cond.code y bs' mL' ret']) ⟨C.1, C.2.1, rfl, C.2.2.2.1, fun w hw => ?_⟩ hM ⟨callB_of (Ts := [Cond.code y bs' mL' ret']) n (fun w hw => ?_) (code_good y bs' mL' ret') rfl rfl rfl (C.wm hini rfl) (C.w hl1 rfl) hd (by rw [hR']; exact hR.1), C.w hl2 rfl, C.w hl3 rfl⟩ ⟨PC.blind, x_recv C h1 hci hk hk2, pcAt C h1 h2⟩ rfl hn h3.1 hst (lv_room hW) d (by rw [hR']; exact hR.2)) h2 hR.2
  · rw [List.mem_singleton.mp hw]; exact C.w hcd rfl
  · rw [List.mem_singleton.mp hw]; exact C.w hcd rfl
end RULES4
