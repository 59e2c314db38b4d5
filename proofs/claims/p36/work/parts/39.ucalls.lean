/-! Contracts over D, calls, ends. -/
def QU (g : GT) (R : Option Value → Mem → DM → Prop) : Array Value → State → Outcome → State → Prop := fun _ st oc t => (∃ (r : Option Value) (M' : Mem) (D' : DM), oc = .returned r ∧ R r M' D' ∧ HD g M' D' t.heap) ∧ va_F (gA g) st t
def PU (g : GT) (M : Mem) (D : DM) (as : List Value) : Array Value → State → Prop := va_Pc as (fun U => GK g U ∧ GH g U U.heap ∧ HD g M D U.heap)
/-- from (M, D), with these arguments, the method returns; R says what, and of the new memories -/
def CU (l : Launch) (y : MethodName) (bs : ByteArray) (mL : Nat) (ret : Option FieldType) (rm : Room) (g : GT) (M : Mem) (D : DM) (as : List Value) (R : Option Value → Mem → DM → Prop) : Prop :=
  Met l y [.code y bs mL ret] rm (PU g M D as) (QU g R) rm.cells rm.slots (gA g)
def RU (X : XT) (g : GT) (rm : Room) (R : Option Value → Mem → DM → Prop) : Prop := xQ X = MQ (xB X) (QU g R) (xA X) (xS X) rm.cells rm.slots (gA g)
theorem CU.of {l : Launch} {y : MethodName} {bs : ByteArray} {mL : Nat} {ret : Option FieldType} {rm : Room} {g : GT} {M : Mem} {D : DM} {as : List Value} {R : Option Value → Mem → DM → Prop} (hy : plainName y.cls = true) (hf : (lg_sl as).length ≤ mL)
    (h : ∀ X : XT, Cx X g l bs mL y.cls ret rm → RU X g rm R → UX X g 0 0 0 (lv_args 0 as) [] M D) : CU l y bs mL ret rm g M D as R := by
  refine Met.ofW (cc := bs) (maxL := mL) (ret := ret) hy rfl ?_
  intro p e s m args below meth c s₁ B hml hv
  obtain ⟨rfl, hK, hH, hP⟩ := hv
  have k := h (p, l, e, rm, s, m, as.toArray, below, meth, c, MQ below (QU g R) as.toArray s rm.cells rm.slots (gA g)) ⟨B.exec, B.bytes, hml, findClass_of_methodNamed B.named, hK, hH, B.notSynchronized, B.returns, rfl, rfl⟩ rfl
  have hl := lv_entry as (n := mL) hf
  rw [lg_entry_eq]
  exact k s.heap [] _ hP va_S.rf (by rw [show (xC (p, l, e, rm, s, m, as.toArray, below, meth, c, MQ below (QU g R) as.toArray s rm.cells rm.slots (gA g))).maxLocals = mL from hml]; exact hl)
/-- .. of a method with a table -/
def tb (h : Nat × Nat × Nat × Nat) : ExceptionTableEntry := ⟨h.1, h.2.1, h.2.2.1, h.2.2.2⟩
def CUW (l : Launch) (y : MethodName) (bs : ByteArray) (mL : Nat) (ret : Option FieldType) (hh : List (Nat × Nat × Nat × Nat)) (rm : Room) (g : GT) (M : Mem) (D : DM) (as : List Value) (R : Option Value → Mem → DM → Prop) : Prop :=
  Met l y [.codeWith y bs mL ret hh] rm (PU g M D as) (QU g R) rm.cells rm.slots (gA g)
theorem CUW.of {l : Launch} {y : MethodName} {bs : ByteArray} {mL : Nat} {ret : Option FieldType} {hh : List (Nat × Nat × Nat × Nat)} {rm : Room} {g : GT} {M : Mem} {D : DM} {as : List Value} {R : Option Value → Mem → DM → Prop} (hy : plainName y.cls = true) (hf : (lg_sl as).length ≤ mL) (hcd : ∃ i : Nat, lw_tbl[i]? = some (.codeWith y bs mL ret hh))
    (h : ∀ X : XT, Cx X g l bs mL y.cls ret rm → RU X g rm R → (xC X).exceptionTable.toList = tableOf hh → UX X g 0 0 0 (lv_args 0 as) [] M D) : CUW l y bs mL ret hh rm g M D as R := by
  show Met l y [.codeWith y bs mL ret hh] rm (PU g M D as) (QU g R) rm.cells rm.slots (gA g)
  unfold Met
  refine MetFree.of_bodyS (code := bs) (maxLocals := mL) (ret := ret) hy ?_ ?_
  · intro args s m h9 hn
    obtain ⟨m9, meth, c, hn9, h1, h2, h3, h4, -, h5, h6, -⟩ := Cond.codeWith_spec (atoms_spec (ws := [.codeWith y bs mL ret hh]) h9 _ List.mem_cons_self)
    cases hn.symm.trans hn9
    exact ⟨meth, c, h1, h2, h3, h4, h5, h6⟩
  · intro p e s m args below meth c s₁ B hml hv _
    have hh0 : s₁.heap = s.heap := by rw [B.state]; rfl
    obtain ⟨rfl, hK, hH, hP⟩ := hv
    obtain ⟨i, hi⟩ := hcd
    have hT : c.exceptionTable.toList = tableOf hh := vx_table (x := y) B (xw_at (args := #[]) (State.WarmedH.refl s) rfl (hK.1 _ (List.mem_of_getElem? hi) rfl) : (Cond.codeWith y bs mL ret hh).before as.toArray s = true)
    have k := h (p, l, e, rm, s, m, as.toArray, below, meth, c, MQ below (QU g R) as.toArray s rm.cells rm.slots (gA g)) ⟨B.exec, B.bytes, hml, findClass_of_methodNamed B.named, hK, hH, B.notSynchronized, B.returns, rfl, rfl⟩ rfl hT
    have hl := lv_entry as (n := mL) hf
    have k2 : xW (p, l, e, rm, s, m, as.toArray, below, meth, c, MQ below (QU g R) as.toArray s rm.cells rm.slots (gA g)) s.heap [] 0 0 (entryFrame m as.toArray mL) := by
      rw [lg_entry_eq]
      exact k s.heap [] _ hP va_S.rf (by rw [show (xC (p, l, e, rm, s, m, as.toArray, below, meth, c, MQ below (QU g R) as.toArray s rm.cells rm.slots (gA g))).maxLocals = mL from hml]; exact hl)
    obtain ⟨t, a1, o, b1, b2, b3⟩ := k2 s₁ hh0 (Stand.of_body B)
    exact ⟨t, o, a1, b1, b2, ⟨b3.1, b3.2⟩⟩
def CDW (y : MethodName) (bs : ByteArray) (mL : Nat) (ret : Option FieldType) (hh : List (Nat × Nat × Nat × Nat)) (n : Nat) : Prop := (∃ i : Nat, lw_tbl[i]? = some (.codeWith y bs mL ret hh)) ∧ (Cond.initialized y.cls) ∈ lw_tbl ∧ hdN y n
/-- E is caught at pc by the row x -/
def Ct (own : String) (pc : Nat) (E : String) (x : Nat × Nat × Nat × Nat) : Prop := covers (tb x) pc = true ∧ x.2.2.2 ≠ 0 ∧ (Cond.classLink own x.2.2.2 E) ∈ lw_tbl ∧ (Cond.castable E E) ∈ lw_tbl
/-- a call of the class's from the law: its free cells are its own 29 and all new ones -/
def gat (g : GT) (H : Heap) : GT := (fun q => (∃ k, k < gn g ∧ q = ga g k) ∨ H.size ≤ q, g.2)
theorem gat_A {g : GT} {H H0 : Heap} {U : State} (hK : GK g U) (hH : ∀ q : Nat, H0.size ≤ q → gA g q) (hz : H0.size ≤ H.size) (q : Nat) (h : gA (gat g H) q) : gA g q := by
  rcases h with ⟨k, hk, rfl⟩ | h
  · exact hK.2.2.2.2.2.1 k hk
  · exact hH q (Nat.le_trans hz h)
theorem GK.gat {g : GT} {U : State} (H : Heap) (h : GK g U) : GK (gat g H) U := ⟨h.1, h.2.1, h.2.2.1, h.2.2.2.1, h.2.2.2.2.1, fun k hk => Or.inl ⟨k, hk, rfl⟩, h.2.2.2.2.2.2⟩
theorem HD.cls {g : GT} {M : Mem} {D : DM} {H : Heap} (h : HD g M D H) : Hd g M H := by
  obtain ⟨Wl, p, -, -⟩ := h
  intro k q hk
  exact p k q (by rw [List.getElem?_append_left (List.getElem?_eq_some_iff.mp hk).1]; exact hk)
theorem HD.after {g : GT} {M M' : Mem} {D : DM} {H H1 : Heap} {U : State} (hK : GK g U) (h : HD g M D H) (h1 : Hd g M' H1) (hq : ∀ q : Nat, q < H.size → ¬ gA (gat g H) q → H1[q]? = H[q]?) : HD g M' D H1 := by
  obtain ⟨Wl, p, dd, hD⟩ := h
  have hw : ∀ (i : Nat) (q : Nat × va_E), Wl[i]? = some q → (wl g M ++ Wl)[(wl g M).length + i]? = some q := fun i q hi => by
    rw [List.getElem?_append_right (by omega), Nat.add_sub_cancel_left]
    exact hi
  have hc : ∀ (k : Nat), k < gn g → (wl g M ++ Wl)[k]? = some (ga g k, xe g (M k) k) := fun k hk => by
    rw [List.getElem?_append_left (by rw [wl_len]; exact hk)]
    exact wl_at g M hk
  have hne : ∀ (i : Nat) (q : Nat × va_E), Wl[i]? = some q → ∀ k, k < gn g → q.1 ≠ ga g k := fun i q hi k hk e => by
    have := dd.1 _ _ _ _ (hw i q hi) (hc k hk) e
    rw [wl_len] at this
    omega
  refine ⟨Wl, va_P.app h1 (fun i q hi => ?_), ⟨fun i j x y hx hy hxy => ?_, fun k q hk => ?_⟩, hD⟩
  · have hlt := (p _ _ (hw i q hi)).lt
    refine (p _ _ (hw i q hi)).kept (hq q.1 hlt (fun z => ?_))
    rcases z with ⟨k, hk, e⟩ | z
    · exact hne i q hi k hk e
    · omega
  · have tr : ∀ (i : Nat) (x : Nat × va_E), (wl g M' ++ Wl)[i]? = some x → ∃ x0, (wl g M ++ Wl)[i]? = some x0 ∧ x0.1 = x.1 := fun i x hx => by
      by_cases hi : i < gn g
      · rw [List.getElem?_append_left (by rw [wl_len]; exact hi), wl_at g M' hi] at hx
        cases hx
        exact ⟨_, hc i hi, rfl⟩
      · rw [List.getElem?_append_right (by rw [wl_len]; omega), wl_len] at hx
        refine ⟨x, ?_, rfl⟩
        rw [List.getElem?_append_right (by rw [wl_len]; omega), wl_len]
        exact hx
    obtain ⟨x0, a1, a2⟩ := tr i x hx
    obtain ⟨y0, b1, b2⟩ := tr j y hy
    exact dd.1 i j x0 y0 a1 b1 (by rw [a2, b2]; exact hxy)
  · by_cases hi : k < gn g
    · rw [List.getElem?_append_left (by rw [wl_len]; exact hi), wl_at g M' hi] at hk
      cases hk
      exact hK.2.2.2.2.2.1 k hi
    · rw [List.getElem?_append_right (by rw [wl_len]; omega), wl_len] at hk
      refine dd.2 k q ?_
      rw [List.getElem?_append_right (by rw [wl_len]; omega), wl_len]
      exact hk
section UCALLS
variable {X : XT} {g : GT} {l : Launch} {cc : ByteArray} {mL : Nat} {own : String} {ret : Option FieldType} {rm : Room} {kc ks pc : Nat} {lo lo' : List (Nat × Value)} {st st0 : List Value} {M M' : Mem} {D : DM} {R : Option Value → Mem → DM → Prop}
variable {y : MethodName} {bs' : ByteArray} {mL' n idx k : Nat} {ret' : Option FieldType} {rm' : Room} {as : List Value} {res : Option Value} {hh : List (Nat × Nat × Nat × Nat)}
theorem PU.blind : FrameBlind (PU g M D as) := fun a U f mk q => ⟨q.1, GK.blind f mk a q.2.1, GH.moved (Vm.Alike.refl U.vm) q.2.2.1, q.2.2.2⟩
theorem puAt (C : Cx X g l cc mL own ret rm) {H : Heap} {locs : List Loc} (h1 : HD g M D H) (h2 : va_S (gA g) (xS X).heap H locs) : ∀ U : State, U.heap = H → (xS X).WarmedH U.vm → PU g M D as as.toArray U := by
  intro U hU hW
  refine ⟨rfl, GK.warm hW C.2.2.2.2.1, ?_, by rw [hU]; exact h1⟩
  rw [hU]
  exact (GH.moved hW.alike C.2.2.2.2.2.1).kept h2.1 h2.2.1
theorem u_ran {H : Heap} {locs : List Loc} {ls : Array Slot} {a : Array Value} (hr : va_Run (xP X) (xL X) (xE X) (xR X) (xS X) (xM X) (xA X) (xB X) (xMe X) (xC X) H locs kc ks rm'.cells rm'.slots (F0 (xM X) pc ls st0) st (QU g R a) (gA g)) (h2 : va_S (gA g) (xS X).heap H locs) (h3 : lv_has ls (xC X).maxLocals lo)
    (kk : ∀ r M' D', R r M' D' → UX X g (kc + rm'.cells) (ks + rm'.slots) (pc + 3) lo (r.toList ++ st) M' D') : xW X H locs kc ks (F0 (xM X) pc ls st0) := by
  intro T hT Xs
  obtain ⟨v, st₀, t, T', L, h0, X', hL, e1, e2, ⟨⟨r, M1, D1, hv, hR, hP⟩, hz, hk⟩, hgo⟩ := hr T hT Xs
  cases hv
  rw [h0] at hz hk
  have h2' : va_S (gA g) (xS X).heap T'.heap (locs ++ L) := ⟨Nat.le_trans h2.1 (by rw [e1]; exact hz), fun q a1 a2 => by rw [e1, hk q (Nat.lt_of_lt_of_le a1 h2.1) a2]; exact h2.2.1 q a1 a2, fun q hq => by
      rcases List.mem_append.mp hq with h | h
      · exact h2.2.2 q h
      · exact hL q h⟩
  obtain ⟨t2, a1, b1⟩ := kk _ _ _ hR T'.heap (locs ++ L) ls (by rw [e1]; exact hP) h2' h3 T' rfl X'
  exact ⟨t2, hgo t2 a1, b1⟩
theorem u_callS (C : Cx X g l cc mL own ret rm) (hM : CU l y bs' mL' ret' rm' g M D as R) (hc : CD y bs' mL' ret' n) (hl : KS own idx y) (hn : as.length = n) (hst : st0 = as.reverse ++ st) (hR : Rm rm' rm mL' kc ks) (hW : (st.map fun v => v.category).sum ≤ 8) (d : decode cc pc = .ok (.invokestatic idx, 3))
    (kk : ∀ r M' D', R r M' D' → UX X g (kc + rm'.cells) (ks + rm'.slots) (pc + 3) lo (r.toList ++ st) M' D') : UX X g kc ks pc lo st0 M D := by
  intro H locs ls h1 h2 h3
  obtain ⟨⟨i, hcd⟩, hini, hd⟩ := hc
  obtain ⟨⟨i1, hl1⟩, i2, hl2⟩ := hl
  have hR' : xR X = rm := C.2.2.2.2.2.2.2.2.1
  have hl' : xL X = l := C.2.2.2.2.2.2.2.2.2
  subst hl'
  refine u_ran (va_runS (As := as) (rest := st) (Ts := [Cond.code y bs' mL' ret']) ⟨C.1, C.2.1, rfl, C.2.2.2.1, fun w hw => ?_⟩ hM ⟨callB_of (Ts := [Cond.code y bs' mL' ret']) n (fun w hw => ?_) (code_good y bs' mL' ret') rfl rfl rfl (C.wm hini rfl) (C.w hl1 rfl) hd (by rw [hR']; exact hR.1), C.w hl2 rfl⟩ ⟨PU.blind, puAt C h1 h2⟩ rfl hn h3.1 hst (lv_room hW) d (by rw [hR']; exact hR.2)) h2 h3 kk
  · rw [List.mem_singleton.mp hw]; exact C.w hcd rfl
  · rw [List.mem_singleton.mp hw]; exact C.w hcd rfl
theorem u_callSW (C : Cx X g l cc mL own ret rm) (hM : CUW l y bs' mL' ret' hh rm' g M D as R) (hc : CDW y bs' mL' ret' hh n) (hl : KS own idx y) (hn : as.length = n) (hst : st0 = as.reverse ++ st) (hR : Rm rm' rm mL' kc ks) (hW : (st.map fun v => v.category).sum ≤ 8) (d : decode cc pc = .ok (.invokestatic idx, 3))
    (kk : ∀ r M' D', R r M' D' → UX X g (kc + rm'.cells) (ks + rm'.slots) (pc + 3) lo (r.toList ++ st) M' D') : UX X g kc ks pc lo st0 M D := by
  intro H locs ls h1 h2 h3
  obtain ⟨⟨i, hcd⟩, hini, hd⟩ := hc
  obtain ⟨⟨i1, hl1⟩, i2, hl2⟩ := hl
  have hR' : xR X = rm := C.2.2.2.2.2.2.2.2.1
  have hl' : xL X = l := C.2.2.2.2.2.2.2.2.2
  subst hl'
  refine u_ran (vx_runSW (As := as) (rest := st) (Ts := [Cond.codeWith y bs' mL' ret' hh]) ⟨C.1, C.2.1, rfl, C.2.2.2.1, fun w hw => ?_⟩ hM ⟨⟨rfl, rfl, by rw [hR']; exact hR.1.1, by rw [hR']; exact hR.1.2, fun w hw a' U hU => ?_, List.mem_singleton.mpr rfl⟩, C.w hcd rfl, C.wm hini rfl, ⟨hd.1, hd.2.1⟩, fun sig h => ?_, C.w hl1 rfl, C.w hl2 rfl⟩ ⟨PU.blind, puAt C h1 h2⟩ rfl hn h3.1 hst (lv_room hW) d (by rw [hR']; exact hR.2)) h2 h3 kk
  · rw [List.mem_singleton.mp hw]; exact C.w hcd rfl
  · rw [List.mem_singleton.mp hw]; exact xw_at hU rfl (C.w hcd rfl)
  · have h2 := hd.2.2
    rw [h] at h2
    exact (Option.some.inj h2).symm
theorem u_recv (C : Cx X g l cc mL own ret rm) {H : Heap} {a : Nat} {vs : List Value} (h1 : HD g M D H) {ci : Nat} {Cn : String} {T : u_T} {N : Nat} (hci : CI ci Cn T N) (ha : OB D a ci vs) : ∃ cell : Cell, H[a]? = some cell ∧ cell.vm.isStatics = false ∧ (xS X).vm.findClass Cn = some cell.cls := by
  obtain ⟨Wl, p, dd, hD⟩ := h1
  obtain ⟨i0, -, hat⟩ := dd_at g M hD ha
  exact va_recv C.2.2.2.2.1.2.1 p (ci := ci) hci.1 hat
theorem u_callV (C : Cx X g l cc mL own ret rm) {a ci N : Nat} {T : u_T} {vs : List Value} (hM : CU l y bs' mL' ret' rm' g M D (.ref a :: as) R) (hc : CD y bs' mL' ret' n) (hl : KV own idx y) (hci : CI ci y.cls T N) (ha : OB D a ci vs) (hn : as.length = n) (hst : st0 = as.reverse ++ .ref a :: st) (hR : Rm rm' rm mL' kc ks) (hW : (st.map fun v => v.category).sum ≤ 8) (d : decode cc pc = .ok (.invokevirtual idx, 3))
    (kk : ∀ r M' D', R r M' D' → UX X g (kc + rm'.cells) (ks + rm'.slots) (pc + 3) lo (r.toList ++ st) M' D') : UX X g kc ks pc lo st0 M D := by
  intro H locs ls h1 h2 h3
  obtain ⟨⟨i, hcd⟩, hini, hd⟩ := hc
  obtain ⟨⟨i1, hl1⟩, ⟨i2, hl2⟩, i3, hl3⟩ := hl
  have hR' : xR X = rm := C.2.2.2.2.2.2.2.2.1
  have hl' : xL X = l := C.2.2.2.2.2.2.2.2.2
  subst hl'
  refine u_ran (va_runV (As := as) (rest := st) (Ts := [Cond.code y bs' mL' ret']) ⟨C.1, C.2.1, rfl, C.2.2.2.1, fun w hw => ?_⟩ hM ⟨callB_of (Ts := [Cond.code y bs' mL' ret']) n (fun w hw => ?_) (code_good y bs' mL' ret') rfl rfl rfl (C.wm hini rfl) (C.w hl1 rfl) hd (by rw [hR']; exact hR.1), C.w hl2 rfl, C.w hl3 rfl⟩ ⟨PU.blind, u_recv C h1 hci ha, puAt C h1 h2⟩ rfl hn h3.1 hst (lv_room hW) d (by rw [hR']; exact hR.2)) h2 h3 kk
  · rw [List.mem_singleton.mp hw]; exact C.w hcd rfl
  · rw [List.mem_singleton.mp hw]; exact C.w hcd rfl
/-- a constructor -/
theorem u_callI (C : Cx X g l cc mL own ret rm) {a : Nat} (hM : CU l y bs' mL' none rm' g M D (.ref a :: as) R) (hc : CD y bs' mL' none n) (hnm : y.name = "<init>") (hl : (∃ i : Nat, lw_tbl[i]? = some (.methodLink own idx y)) ∧ ∃ i : Nat, lw_tbl[i]? = some (.instanceMethod y)) (hn : as.length = n) (hst : st0 = as.reverse ++ .ref a :: st) (hR : Rm rm' rm mL' kc ks) (hW : (st.map fun v => v.category).sum ≤ 8) (d : decode cc pc = .ok (.invokespecial idx, 3))
    (kk : ∀ r M' D', R r M' D' → UX X g (kc + rm'.cells) (ks + rm'.slots) (pc + 3) lo (r.toList ++ st) M' D') : UX X g kc ks pc lo st0 M D := by
  intro H locs ls h1 h2 h3
  obtain ⟨⟨i, hcd⟩, hini, hd⟩ := hc
  obtain ⟨⟨i1, hl1⟩, i2, hl2⟩ := hl
  have hR' : xR X = rm := C.2.2.2.2.2.2.2.2.1
  have hl' : xL X = l := C.2.2.2.2.2.2.2.2.2
  subst hl'
  refine u_ran (va_runI (As := as) (rest := st) (Ts := [Cond.code y bs' mL' none]) ⟨C.1, C.2.1, rfl, C.2.2.2.1, fun w hw => ?_⟩ hM ⟨callB_of (Ts := [Cond.code y bs' mL' none]) n (fun w hw => ?_) (code_good y bs' mL' none) rfl rfl rfl (C.wm hini rfl) (C.w hl1 rfl) hd (by rw [hR']; exact hR.1), hnm, C.w hl2 rfl⟩ ⟨PU.blind, puAt C h1 h2⟩ rfl hn h3.1 hst (lv_room hW) d (by rw [hR']; exact hR.2)) h2 h3 kk
  · rw [List.mem_singleton.mp hw]; exact C.w hcd rfl
  · rw [List.mem_singleton.mp hw]; exact C.w hcd rfl
theorem u_callIN (C : Cx X g l cc mL own ret rm) {a : Nat} (hM : CU l y bs' mL' none rm' g M D (.ref a :: as) R) (hc : CD y bs' mL' none n) (hnm : y.name = "<init>") (hl : (∃ (i : Nat) (h : String), lw_tbl[i]? = some (.methodLinkNest own idx y h)) ∧ ∃ i : Nat, lw_tbl[i]? = some (.instanceMethod y)) (hn : as.length = n) (hst : st0 = as.reverse ++ .ref a :: st) (hR : Rm rm' rm mL' kc ks) (hW : (st.map fun v => v.category).sum ≤ 8) (d : decode cc pc = .ok (.invokespecial idx, 3))
    (kk : ∀ r M' D', R r M' D' → UX X g (kc + rm'.cells) (ks + rm'.slots) (pc + 3) lo (r.toList ++ st) M' D') : UX X g kc ks pc lo st0 M D := by
  intro H locs ls h1 h2 h3
  obtain ⟨⟨i, hcd⟩, hini, hd⟩ := hc
  obtain ⟨⟨i1, hh, hl1⟩, i2, hl2⟩ := hl
  have hR' : xR X = rm := C.2.2.2.2.2.2.2.2.1
  have hl' : xL X = l := C.2.2.2.2.2.2.2.2.2
  subst hl'
  refine u_ran (va_runIN (As := as) (rest := st) (Ts := [Cond.code y bs' mL' none]) ⟨C.1, C.2.1, rfl, C.2.2.2.1, fun w hw => ?_⟩ hM ⟨va_cnB (Ts := [Cond.code y bs' mL' none]) n (fun w hw => ?_) (code_good y bs' mL' none) rfl rfl rfl (va_Nw.of rfl (C.w hl1 rfl)) (C.wm hini rfl) hd (by rw [hR']; exact hR.1), hnm, C.w hl2 rfl⟩ ⟨PU.blind, puAt C h1 h2⟩ rfl hn h3.1 hst (lv_room hW) d (by rw [hR']; exact hR.2)) h2 h3 kk
  · rw [List.mem_singleton.mp hw]; exact C.w hcd rfl
  · rw [List.mem_singleton.mp hw]; exact C.w hcd rfl
theorem pgAt (C : Cx X g l cc mL own ret rm) {H : Heap} {locs : List Loc} (h1 : HD g M D H) (h2 : va_S (gA g) (xS X).heap H locs) : ∀ U : State, U.heap = H → (xS X).WarmedH U.vm → PC (gat g H) M as as.toArray U := by
  intro U hU hW
  have hH := (GH.moved hW.alike C.2.2.2.2.2.1).kept h2.1 h2.2.1
  have hn : ∀ q, gA (gat g H) q → gA g q := gat_A C.2.2.2.2.1 C.2.2.2.2.2.1.1 h2.1
  refine ⟨rfl, (GK.warm hW C.2.2.2.2.1).gat H, ?_, by rw [hU]; exact h1.cls⟩
  rw [hU]
  exact ⟨fun q hq => Or.inr hq, vx_Zq.narrow hH.2.1 hn, vx_Zq.narrow hH.2.2 hn⟩
/-- the class's method called from the law -/
theorem u_callC (C : Cx X g l cc mL own ret rm) {ci N : Nat} {T : u_T} (hM : ∀ B : Nat → Prop, CM l y bs' mL' ret' rm' (B, g.2) M (.ref (ga g k) :: as) res M') (hc : CD y bs' mL' ret' n) (hl : KV own idx y) (hci : CI ci y.cls T N) (hk : xk k = ci) (hk2 : k < 29) (hn : as.length = n) (hst : st0 = as.reverse ++ .ref (ga g k) :: st) (hR : Rm rm' rm mL' kc ks) (hW : (st.map fun v => v.category).sum ≤ 8) (d : decode cc pc = .ok (.invokevirtual idx, 3))
    (kk : UX X g (kc + rm'.cells) (ks + rm'.slots) (pc + 3) lo (res.toList ++ st) M' D) : UX X g kc ks pc lo st0 M D := by
  intro H locs ls h1 h2 h3
  obtain ⟨⟨i, hcd⟩, hini, hd⟩ := hc
  obtain ⟨⟨i1, hl1⟩, ⟨i2, hl2⟩, i3, hl3⟩ := hl
  have hR' : xR X = rm := C.2.2.2.2.2.2.2.2.1
  have hl' : xL X = l := C.2.2.2.2.2.2.2.2.2
  subst hl'
  have hn' : ∀ q, gA (gat g H) q → gA g q := gat_A C.2.2.2.2.1 C.2.2.2.2.2.1.1 h2.1
  have hr : va_Run (xP X) (xL X) (xE X) (xR X) (xS X) (xM X) (xA X) (xB X) (xMe X) (xC X) H locs kc ks rm'.cells rm'.slots (F0 (xM X) pc ls st0) st (QC (gat g H) res M' (Value.ref (ga g k) :: as).toArray) (gA (gat g H)) := va_runV (As := as) (rest := st) (Ts := [Cond.code y bs' mL' ret']) ⟨C.1, C.2.1, rfl, C.2.2.2.1, fun w hw => by rw [List.mem_singleton.mp hw]; exact C.w hcd rfl⟩ (hM (gA (gat g H))) ⟨callB_of (Ts := [Cond.code y bs' mL' ret']) n (fun w hw => by rw [List.mem_singleton.mp hw]; exact C.w hcd rfl) (code_good y bs' mL' ret') rfl rfl rfl (C.wm hini rfl) (C.w hl1 rfl) hd (by rw [hR']; exact hR.1), C.w hl2 rfl, C.w hl3 rfl⟩ ⟨PC.blind, x_recv C h1.cls hci hk hk2, pgAt C h1 h2⟩ rfl hn h3.1 hst (lv_room hW) d (by rw [hR']; exact hR.2)
  intro T9 hT Xs
  obtain ⟨v, st₀, t, T', L, h0, X', hL, e1, e2, ⟨⟨hv, hP⟩, hz, hkq⟩, hgo⟩ := hr T9 hT Xs
  cases hv
  rw [h0] at hz hkq
  have h2' : va_S (gA g) (xS X).heap T'.heap (locs ++ L) := ⟨Nat.le_trans h2.1 (by rw [e1]; exact hz), fun q a1 a2 => by rw [e1, hkq q (Nat.lt_of_lt_of_le a1 h2.1) (fun z => a2 (hn' q z))]; exact h2.2.1 q a1 a2, fun q hq => by
      rcases List.mem_append.mp hq with h | h
      · exact h2.2.2 q h
      · exact hn' _ (hL q h)⟩
  have hP2 : HD g M' D T'.heap := by
    rw [e1]
    exact HD.after C.2.2.2.2.1 h1 hP hkq
  obtain ⟨t2, a1, b1⟩ := kk T'.heap (locs ++ L) ls hP2 h2' h3 T' rfl X'
  exact ⟨t2, hgo t2 a1, b1⟩
/-- .. which throws E, caught here -/
theorem u_callCx {E : String} {x : Nat × Nat × Nat × Nat} {pre suf : List (Nat × Nat × Nat × Nat)} (C : Cx X g l cc mL own ret rm) (hT : (xC X).exceptionTable.toList = tableOf (pre ++ x :: suf)) (hpre : ∀ z ∈ pre, covers (tb z) pc = false) {ci N : Nat} {T : u_T} (hM : ∀ B : Nat → Prop, CE l y bs' mL' ret' rm' (B, g.2) M (.ref (ga g k) :: as) E) (hc : CD y bs' mL' ret' n) (hl : KV own idx y) (hci : CI ci y.cls T N) (hk : xk k = ci) (hk2 : k < 29) (hn : as.length = n) (hst : st0 = as.reverse ++ .ref (ga g k) :: st) (hR : Rm rm' rm mL' kc ks) (hW : (st.map fun v => v.category).sum ≤ 8) (d : decode cc pc = .ok (.invokevirtual idx, 3)) (hx : Ct own pc E x)
    (kk : ∀ q : Nat, UX X g (kc + rm'.cells) (ks + rm'.slots) x.2.2.1 lo [.ref q] M D) : UX X g kc ks pc lo st0 M D := by
  intro H locs ls h1 h2 h3
  obtain ⟨⟨i, hcd⟩, hini, hd⟩ := hc
  obtain ⟨⟨i1, hl1⟩, ⟨i2, hl2⟩, i3, hl3⟩ := hl
  have hR' : xR X = rm := C.2.2.2.2.2.2.2.2.1
  have hl' : xL X = l := C.2.2.2.2.2.2.2.2.2
  subst hl'
  have hn' : ∀ q, gA (gat g H) q → gA g q := gat_A C.2.2.2.2.1 C.2.2.2.2.2.1.1 h2.1
  have hr : vx_Run (xP X) (xL X) (xE X) (xR X) (xS X) (xM X) (xA X) (xB X) (xMe X) (xC X) H locs kc ks rm'.cells rm'.slots (F0 (xM X) pc ls st0) st (QN (Value.ref (ga g k) :: as).toArray) (QX (gat g H) M E) (gA (gat g H)) := vx_runV (As := as) (rest := st) (Ts := [Cond.code y bs' mL' ret']) ⟨C.1, C.2.1, rfl, C.2.2.2.1, fun w hw => by rw [List.mem_singleton.mp hw]; exact C.w hcd rfl⟩ (hM (gA (gat g H))) ⟨callB_of (Ts := [Cond.code y bs' mL' ret']) n (fun w hw => by rw [List.mem_singleton.mp hw]; exact C.w hcd rfl) (code_good y bs' mL' ret') rfl rfl rfl (C.wm hini rfl) (C.w hl1 rfl) hd (by rw [hR']; exact hR.1), C.w hl2 rfl, C.w hl3 rfl⟩ ⟨PC.blind, x_recv C h1.cls hci hk hk2, pgAt C h1 h2⟩ rfl hn h3.1 hst (lv_room hW) d (by rw [hR']; exact hR.2)
  intro T9 hT9 Xs
  rcases hr T9 hT9 Xs with ⟨v, st₀, t, T', L, h0, X', hL, e1, e2, hqn, hgo⟩ | ⟨q, st₀, t, T', L, E', ce, h0, X', hL, e1, e2, ⟨hE, hP, hz, hkp⟩, hce, hcv, hcl, hgo⟩
  · exact hqn.elim
  · subst hE
    rw [h0] at hz hkp
    have h2' : va_S (gA g) (xS X).heap T'.heap (locs ++ L) := ⟨Nat.le_trans h2.1 (by rw [e1]; exact hz), fun q a1 a2 => by rw [e1, hkp q (Nat.lt_of_lt_of_le a1 h2.1) (fun z => a2 (hn' q z))]; exact h2.2.1 q a1 a2, fun q hq => by
        rcases List.mem_append.mp hq with h | h
        · exact h2.2.2 q h
        · exact hn' _ (hL q h)⟩
    have hP2 : HD g M D T'.heap := by
      rw [e1]
      exact HD.after C.2.2.2.2.1 h1 hP hkp
    obtain ⟨x3, x4, x5, x6⟩ := hx
    have hw := vx_catch (p := xP X) (l := xL X) (e := xE X) (R := xR X) (below := xB X) (meth := xMe X) (locs := locs ++ L) (cells := kc + rm'.cells) (slots := ks + rm'.slots) (Q := xQ X) (ls := ls) (rest := st) (pc := pc) C.2.2.2.1 (pre.map tb) (tb x) (suf.map tb) (by rw [hT]; show (pre ++ x :: suf).map tb = _; rw [List.map_append]; rfl) (fun z hz => by
        obtain ⟨z0, hz0, rfl⟩ := List.mem_map.mp hz
        exact Or.inl (hpre z0 hz0)) x3 x4 (C.wm x5 rfl) (C.wm x6 rfl) (by rw [e1]; exact hce) hcv hcl (kk q T'.heap (locs ++ L) ls hP2 h2' h3)
    obtain ⟨t2, a1, b1⟩ := hw T' rfl X'
    exact ⟨t2, hgo.trans a1, b1⟩
/-! ends -/
theorem u_endG {H : Heap} {locs : List Loc} {v : Option Value} (h1 : HD g M D H) (h2 : va_S (gA g) (xS X).heap H locs) (hR : R v M D) : ∀ t : State, t.heap = H → (xS X).WarmedH t.vm → QU g R (xA X) (xS X) (.returned v) t := fun t ht _ => ⟨⟨v, M, D, rfl, hR, by rw [ht]; exact h1⟩, h2.F ht⟩
theorem u_iret (C : Cx X g l cc mL own (some .int) rm) (hq : RU X g rm R) {v : Int32} (hk : kc ≤ rm.cells ∧ ks ≤ rm.slots) (d : decode cc pc = .ok (.ireturn, 1)) (hR : R (some (.int v)) M D) : UX X g kc ks pc lo [.int v] M D := by
  intro H locs ls h1 h2 h3
  show W _ _ _ _ _ _ _ _ _ _ _ _ _ _ (xQ X) _
  rw [show xQ X = _ from hq]
  exact W.widen hk.1 hk.2 (W.iret C.1 C.2.1 C.2.2.2.2.2.2.2.1 (u_endG h1 h2 hR) (fun q hq => h2.2.2 q hq) d C.2.2.2.2.2.2.1)
theorem u_zret (C : Cx X g l cc mL own (some .boolean) rm) (hq : RU X g rm R) {v : Int32} (hv : narrow .boolean (.int v) = .int v) (hk : kc ≤ rm.cells ∧ ks ≤ rm.slots) (d : decode cc pc = .ok (.ireturn, 1)) (hR : R (some (.int v)) M D) : UX X g kc ks pc lo [.int v] M D := by
  intro H locs ls h1 h2 h3
  show W _ _ _ _ _ _ _ _ _ _ _ _ _ _ (xQ X) _
  rw [show xQ X = _ from hq]
  exact W.widen hk.1 hk.2 (W.zret C.1 C.2.1 C.2.2.2.2.2.2.2.1 hv (u_endG h1 h2 hR) (fun q hq => h2.2.2 q hq) d C.2.2.2.2.2.2.1)
theorem u_vret (C : Cx X g l cc mL own none rm) (hq : RU X g rm R) (hk : kc ≤ rm.cells ∧ ks ≤ rm.slots) (d : decode cc pc = .ok (.return_, 1)) (hR : R none M D) : UX X g kc ks pc lo [] M D := by
  intro H locs ls h1 h2 h3
  show W _ _ _ _ _ _ _ _ _ _ _ _ _ _ (xQ X) _
  rw [show xQ X = _ from hq]
  exact W.widen hk.1 hk.2 (W.vret C.1 C.2.1 C.2.2.2.2.2.2.2.1 (u_endG h1 h2 hR) (fun q hq => h2.2.2 q hq) d C.2.2.2.2.2.2.1)
theorem u_aret {rt : FieldType} (C : Cx X g l cc mL own (some rt) rm) (hrt : (∃ n, rt = .object n) ∨ ∃ t, rt = .array t) (hq : RU X g rm R) {a : Nat} (hk : kc ≤ rm.cells ∧ ks ≤ rm.slots) (d : decode cc pc = .ok (.areturn, 1)) (hR : R (some (.ref a)) M D) : UX X g kc ks pc lo [.ref a] M D := by
  intro H locs ls h1 h2 h3
  show W _ _ _ _ _ _ _ _ _ _ _ _ _ _ (xQ X) _
  rw [show xQ X = _ from hq]
  exact W.widen hk.1 hk.2 (W.aret C.1 C.2.1 C.2.2.2.2.2.2.2.1 hrt (Or.inr ⟨a, rfl⟩) (u_endG h1 h2 hR) (fun q hq => h2.2.2 q hq) d C.2.2.2.2.2.2.1)
end UCALLS
section UCALLS0
variable {X : XT} {g : GT} {l : Launch} {cc : ByteArray} {mL : Nat} {own : String} {ret : Option FieldType} {rm : Room} {kc ks pc : Nat} {lo lo' : List (Nat × Value)} {st st0 : List Value} {M M' : Mem} {D : DM}
variable {y : MethodName} {bs' : ByteArray} {mL' n idx k : Nat} {ret' : Option FieldType} {rm' : Room} {as : List Value} {v : Value}
/-- calls that answer and change nothing -/
theorem u_callV0 (C : Cx X g l cc mL own ret rm) {a ci N : Nat} {T : u_T} {vs : List Value} (hM : CU l y bs' mL' ret' rm' g M D (.ref a :: as) (fun r M1 D1 => r = some v ∧ M1 = M ∧ D1 = D)) (hc : CD y bs' mL' ret' n) (hl : KV own idx y) (hci : CI ci y.cls T N) (ha : OB D a ci vs) (hn : as.length = n) (hst : st0 = as.reverse ++ .ref a :: st) (hR : Rm rm' rm mL' kc ks) (hz : rm'.cells = 0 ∧ rm'.slots = 0) (hW : (st.map fun v => v.category).sum ≤ 8) (d : decode cc pc = .ok (.invokevirtual idx, 3)) (kk : UX X g kc ks (pc + 3) lo (v :: st) M D) : UX X g kc ks pc lo st0 M D := by
  refine u_callV C hM hc hl hci ha hn hst hR hW d (fun r M1 D1 e => ?_)
  obtain ⟨rfl, rfl, rfl⟩ := e
  rw [hz.1, hz.2]
  exact kk
theorem u_callS0 (C : Cx X g l cc mL own ret rm) (hM : CU l y bs' mL' ret' rm' g M D as (fun r M1 D1 => r = some v ∧ M1 = M ∧ D1 = D)) (hc : CD y bs' mL' ret' n) (hl : KS own idx y) (hn : as.length = n) (hst : st0 = as.reverse ++ st) (hR : Rm rm' rm mL' kc ks) (hz : rm'.cells = 0 ∧ rm'.slots = 0) (hW : (st.map fun v => v.category).sum ≤ 8) (d : decode cc pc = .ok (.invokestatic idx, 3)) (kk : UX X g kc ks (pc + 3) lo (v :: st) M D) : UX X g kc ks pc lo st0 M D := by
  refine u_callS C hM hc hl hn hst hR hW d (fun r M1 D1 e => ?_)
  obtain ⟨rfl, rfl, rfl⟩ := e
  rw [hz.1, hz.2]
  exact kk
theorem u_callC0 (C : Cx X g l cc mL own ret rm) {ci N : Nat} {T : u_T} (hM : ∀ B : Nat → Prop, CM l y bs' mL' ret' rm' (B, g.2) M (.ref (ga g k) :: as) (some v) M') (hc : CD y bs' mL' ret' n) (hl : KV own idx y) (hci : CI ci y.cls T N) (hk : xk k = ci) (hk2 : k < 29) (hn : as.length = n) (hst : st0 = as.reverse ++ .ref (ga g k) :: st) (hR : Rm rm' rm mL' kc ks) (hz : rm'.cells = 0 ∧ rm'.slots = 0) (hW : (st.map fun v => v.category).sum ≤ 8) (d : decode cc pc = .ok (.invokevirtual idx, 3)) (kk : UX X g kc ks (pc + 3) lo (v :: st) M' D) : UX X g kc ks pc lo st0 M D := by
  refine u_callC C hM hc hl hci hk hk2 hn hst hR hW d ?_
  rw [hz.1, hz.2]
  exact kk
end UCALLS0
