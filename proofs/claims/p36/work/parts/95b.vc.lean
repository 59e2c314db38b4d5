/-! Constructors: contracts over lists, calls, ends. -/
def PCY (t : YT) (ws0 : va_W) (sz : Nat) (as : List Value) : Array Value → State → Prop := va_Pc as (fun U => U.heap.size = sz ∧ Ky t U ∧ va_P t.1 vwCl ws0 U.heap ∧ va_D (fun _ => True) ws0)
def QCY (t : YT) (ws0 : va_W) (sz : Nat) (R : va_W → Prop) : Array Value → State → Outcome → State → Prop := fun _ st oc u => (oc = .returned none ∧ ∃ ws, R ws ∧ va_P t.1 vwCl ws u.heap ∧ va_D (va_A ws0 sz) ws) ∧ va_F (va_A ws0 sz) st u
def CMY (l : Launch) (y : MethodName) (bs : ByteArray) (mL : Nat) (rm : Room) (t : YT) (ws0 : va_W) (sz : Nat) (as : List Value) (R : va_W → Prop) : Prop :=
  Met l y [.code y bs mL none] rm (PCY t ws0 sz as) (QCY t ws0 sz R) rm.cells rm.slots (va_A ws0 sz)
def RtY (X : XT) (t : YT) (ws0 : va_W) (sz : Nat) (rm : Room) (R : va_W → Prop) : Prop := xQ X = MQ (xB X) (QCY t ws0 sz R) (xA X) (xS X) rm.cells rm.slots (va_A ws0 sz)
theorem CMY.of {l : Launch} {y : MethodName} {bs : ByteArray} {mL : Nat} {rm : Room} {t : YT} {ws0 : va_W} {sz : Nat} {as : List Value} {R : va_W → Prop} (hy : plainName y.cls = true) (hf : (lg_sl as).length ≤ mL)
    (h : ∀ X : XT, Cy X t (va_A ws0 sz) l bs mL y.cls none rm → (xMe X).name = y.name → RtY X t ws0 sz rm R → VE X t (va_A ws0 sz) ws0 0 0 0 (lv_args 0 as) []) : CMY l y bs mL rm t ws0 sz as R := by
  refine Met.ofW (cc := bs) (maxL := mL) (ret := none) hy rfl ?_
  intro p e s m args below meth c s₁ B hml hv
  obtain ⟨rfl, hsz, hK, hP, hD⟩ := hv
  have k := h (p, l, e, rm, s, m, as.toArray, below, meth, c, MQ below (QCY t ws0 sz R) as.toArray s rm.cells rm.slots (va_A ws0 sz)) ⟨B.exec, B.bytes, hml, findClass_of_methodNamed B.named, hK, fun q hq => Or.inr (by rw [← hsz]; exact hq), B.notSynchronized, B.returns, rfl, rfl⟩ (name_of_methodNamed B.named B.method).1 rfl
  have hl := lv_entry as (n := mL) hf
  rw [lg_entry_eq]
  exact k s.heap [] _ hP hD.self va_S.rf (by rw [show (xC (p, l, e, rm, s, m, as.toArray, below, meth, c, MQ below (QCY t ws0 sz R) as.toArray s rm.cells rm.slots (va_A ws0 sz))).maxLocals = mL from hml]; exact hl)
section VEC
variable {X : XT} {t : YT} {A : Nat → Prop} {l : Launch} {cc : ByteArray} {mL : Nat} {own : String} {ret : Option FieldType} {rm : Room} {kc ks pc : Nat} {lo lo' : List (Nat × Value)} {st st0 : List Value} {ws wc wr ws0 : va_W} {sz : Nat} {R : va_W → Prop}
variable {y : MethodName} {bs' : ByteArray} {mL' n idx : Nat} {rm' : Room} {as : List Value}
theorem e_vret (C : Cy X t (va_A ws0 sz) l cc mL own none rm) (hq : RtY X t ws0 sz rm R) (hk : kc ≤ rm.cells ∧ ks ≤ rm.slots) (d : decode cc pc = .ok (.return_, 1)) (hR : R ws) : VE X t (va_A ws0 sz) ws kc ks pc lo [] := by
  intro H locs ls h1 h2 h3 h4
  show W _ _ _ _ _ _ _ _ _ _ _ _ _ _ (xQ X) _
  rw [show xQ X = _ from hq]
  exact W.widen hk.1 hk.2 (W.vret C.1 C.2.1 C.2.2.2.2.2.2.2.1 (fun u hu _ => ⟨⟨rfl, ws, hR, by rw [hu]; exact h1, h2⟩, h3.F hu⟩) (fun q hq => h3.2.2 q hq) d C.2.2.2.2.2.2.1)
theorem PCY.blind : FrameBlind (PCY t wc sz as) := fun a U f mk q => ⟨q.1, q.2.1, Ky.warm (State.WarmedH.refl U) q.2.2.1, q.2.2.2⟩
theorem e_pre (C : Cy X t A l cc mL own ret rm) {H : Heap} (h1 : va_P t.1 vwCl wc H) (h2 : va_D A wc) : ∀ U : State, U.heap = H → (xS X).WarmedH U.vm → PCY t wc H.size as as.toArray U := fun U hU hW => ⟨rfl, by rw [hU], Ky.warm hW C.2.2.2.2.1, by rw [hU]; exact h1, h2.weaken (fun _ _ _ _ => trivial)⟩
theorem e_ran (C : Cy X t A l cc mL own ret rm) {H : Heap} {locs : List Loc} {ls : Array Slot} {a : Array Value} (hr : va_Run (xP X) (xL X) (xE X) (xR X) (xS X) (xM X) (xA X) (xB X) (xMe X) (xC X) H locs kc ks rm'.cells rm'.slots (F0 (xM X) pc ls st0) st (QCY t wc H.size R a) (va_A wc H.size)) (h1 : va_P t.1 vwCl ws H) (h2 : va_D A ws) (h3 : va_S A (xS X).heap H locs) (h4 : lv_has ls (xC X).maxLocals lo) (isC isR : List Nat) (hC : isC.map (fun i => ws[i]?) = wc.map some) (hRr : isR.map (fun i => ws[i]?) = wr.map some) (hnd : va_nd isR = true) (hdis : ∀ i ∈ isR, i ∉ isC)
    (kk : ∀ w1, R w1 → VE X t A (wr ++ w1) (kc + rm'.cells) (ks + rm'.slots) (pc + 3) lo st) : xW X H locs kc ks (F0 (xM X) pc ls st0) := by
  intro T hT Xs
  have hF := va_free (wc := wc) h2 h3 C.2.2.2.2.2.1 isC hC
  obtain ⟨v, st₀, u, T', L, h0, X', hL, e1, e2, ⟨⟨hv, w1, hR, hP, hD⟩, hz, hk⟩, hgo⟩ := hr T hT Xs
  cases hv
  rw [h0] at hz hk
  have h3' : va_S A (xS X).heap T'.heap (locs ++ L) := ⟨Nat.le_trans h3.1 (by rw [e1]; exact hz), fun q a1 a2 => by rw [e1, hk q (Nat.lt_of_lt_of_le a1 h3.1) (fun z => a2 (hF q z))]; exact h3.2.1 q a1 a2, fun q hq => by
      rcases List.mem_append.mp hq with h | h
      · exact h3.2.2 q h
      · exact hF _ (hL q h)⟩
  obtain ⟨j1, j2⟩ := va_join h1 h2 isC isR hC hRr hnd hdis hk hF hP hD
  obtain ⟨t2, a1, b1⟩ := kk w1 hR T'.heap (locs ++ L) ls (by rw [e1]; exact j1) j2 h3' h4 T' rfl X'
  exact ⟨t2, hgo t2 a1, b1⟩
theorem e_callS (C : Cy X t A l cc mL own ret rm) (isC isR : List Nat) (hM : ∀ sz, CMY l y bs' mL' rm' t wc sz as R) (hc : CD y bs' mL' none n) (hl : KS own idx y) (hn : as.length = n) (hst : st0 = as.reverse ++ st) (hR : Rm rm' rm mL' kc ks) (hW : (st.map fun v => v.category).sum ≤ 8) (d : decode cc pc = .ok (.invokestatic idx, 3)) (hC : isC.map (fun i => ws[i]?) = wc.map some) (hC2 : isC.filterMap (fun i => ws[i]?) = wc) (hCn : va_nd isC = true) (hRr : isR.map (fun i => ws[i]?) = wr.map some) (hnd : va_nd isR = true) (hdis : ∀ i ∈ isR, i ∉ isC)
    (kk : ∀ w1, R w1 → VE X t A (wr ++ w1) (kc + rm'.cells) (ks + rm'.slots) (pc + 3) lo st) : VE X t A ws kc ks pc lo st0 := by
  intro H locs ls h1 h2 h3 h4
  obtain ⟨⟨i, hcd⟩, hini, hd⟩ := hc
  obtain ⟨⟨i1, hl1⟩, i2, hl2⟩ := hl
  have hR' : xR X = rm := C.2.2.2.2.2.2.2.2.1
  have hl' : xL X = l := C.2.2.2.2.2.2.2.2.2
  subst hl'
  refine e_ran C (va_runS (As := as) (rest := st) (Ts := [Cond.code y bs' mL' none]) ⟨C.1, C.2.1, rfl, C.2.2.2.1, fun w hw => ?_⟩ (hM H.size) ⟨callB_of (Ts := [Cond.code y bs' mL' none]) n (fun w hw => ?_) (code_good y bs' mL' none) rfl rfl rfl (C.wm hini rfl) (C.w hl1 rfl) hd (by rw [hR']; exact hR.1), C.w hl2 rfl⟩ ⟨PCY.blind, e_pre C (h1.sub isC hC2) (h2.sub isC hCn hC)⟩ rfl hn h4.1 hst (lv_room hW) d (by rw [hR']; exact hR.2)) h1 h2 h3 h4 isC isR hC hRr hnd hdis kk
  · rw [List.mem_singleton.mp hw]; exact C.w hcd rfl
  · rw [List.mem_singleton.mp hw]; exact C.w hcd rfl
theorem e_objInit (C : Cy X t A l cc mL own ret rm) {a : Nat} {i : Nat} (hl : lw_tbl[i]? = some (.methodLink own idx Lib.objectInit)) (hR : 1 ≤ rm.frames ∧ (st.map fun v => v.category).sum + 12 ≤ rm.locals) (d : decode cc pc = .ok (.invokespecial idx, 3)) (kk : VE X t A ws kc ks (pc + 3) lo st) : VE X t A ws kc ks pc lo (.ref a :: st) := by
  intro H locs ls h1 h2 h3 h4
  have w1 : (Cond.instanceMethod Lib.objectInit) ∈ lw_tbl := by decide +kernel
  have w2 : (Cond.code Lib.objectInit ⟨#[0xb1]⟩ 1 none) ∈ lw_tbl := by decide +kernel
  have hR' : xR X = rm := C.2.2.2.2.2.2.2.2.1
  refine W.objInit C.1 C.2.1 C.2.2.2.1 (C.w hl rfl) (C.wm w1 rfl) (C.wm w2 rfl) rfl h4.1 rfl d (by rw [hR']; exact hR.1) ?_ (W.eq (g2 := F0 (xM X) (pc + 3) ls st) rfl (kk H locs ls h1 h2 h3 h4))
  rw [hR']
  show 2 * 0 + _ + 12 ≤ _
  omega
end VEC
