/-! Contracts, calls, ends. -/
def QC (g : GT) (res : Option Value) (M' : Mem) : Array Value → State → Outcome → State → Prop := fun _ st oc t => (oc = .returned res ∧ Hd g M' t.heap) ∧ va_F (gA g) st t
def PC (g : GT) (M : Mem) (as : List Value) : Array Value → State → Prop := va_Pc as (fun U => GK g U ∧ GH g U U.heap ∧ Hd g M U.heap)
/-- from the memory M, with these arguments, the method returns res, the memory is M' -/
def CM (l : Launch) (y : MethodName) (bs : ByteArray) (mL : Nat) (ret : Option FieldType) (rm : Room) (g : GT) (M : Mem) (as : List Value) (res : Option Value) (M' : Mem) : Prop :=
  Met l y [.code y bs mL ret] rm (PC g M as) (QC g res M') rm.cells rm.slots (gA g)
/-- .. it throws an E, the memory stays -/
def QX (g : GT) (M : Mem) (E : String) : String → State → State → Prop := fun E' st t => E' = E ∧ Hd g M t.heap ∧ va_F (gA g) st t
def QN : Array Value → State → Outcome → State → Prop := fun _ _ _ _ => False
def CE (l : Launch) (y : MethodName) (bs : ByteArray) (mL : Nat) (ret : Option FieldType) (rm : Room) (g : GT) (M : Mem) (as : List Value) (E : String) : Prop :=
  vx_Met l y [.code y bs mL ret] rm (PC g M as) QN (QX g M E) rm.cells rm.slots (gA g)
def Rt (X : XT) (g : GT) (rm : Room) (res : Option Value) (M' : Mem) : Prop := xQ X = MQ (xB X) (QC g res M') (xA X) (xS X) rm.cells rm.slots (gA g)
def Re (X : XT) (g : GT) (rm : Room) (M : Mem) (E : String) : Prop := xQ X = vx_MQ (xB X) QN (QX g M E) (xA X) (xS X) rm.cells rm.slots (gA g) ∧ ∀ x ∈ (xC X).exceptionTable.toList, False
theorem CM.of {l : Launch} {y : MethodName} {bs : ByteArray} {mL : Nat} {ret : Option FieldType} {rm : Room} {g : GT} {M : Mem} {as : List Value} {res : Option Value} {M' : Mem} (hy : plainName y.cls = true) (hf : (lg_sl as).length ≤ mL)
    (h : ∀ X : XT, Cx X g l bs mL y.cls ret rm → Rt X g rm res M' → V X g 0 0 0 (lv_args 0 as) [] M) : CM l y bs mL ret rm g M as res M' := by
  refine Met.ofW (cc := bs) (maxL := mL) (ret := ret) hy rfl ?_
  intro p e s m args below meth c s₁ B hml hv
  obtain ⟨rfl, hK, hH, hP⟩ := hv
  have k := h (p, l, e, rm, s, m, as.toArray, below, meth, c, MQ below (QC g res M') as.toArray s rm.cells rm.slots (gA g)) ⟨B.exec, B.bytes, hml, findClass_of_methodNamed B.named, hK, hH, B.notSynchronized, B.returns, rfl, rfl⟩ rfl
  have hl := lv_entry as (n := mL) hf
  rw [lg_entry_eq]
  exact k s.heap [] _ hP va_S.rf (by rw [show (xC (p, l, e, rm, s, m, as.toArray, below, meth, c, MQ below (QC g res M') as.toArray s rm.cells rm.slots (gA g))).maxLocals = mL from hml]; exact hl)
theorem CE.of {l : Launch} {y : MethodName} {bs : ByteArray} {mL : Nat} {ret : Option FieldType} {rm : Room} {g : GT} {M : Mem} {as : List Value} {E : String} (hy : plainName y.cls = true) (hf : (lg_sl as).length ≤ mL)
    (h : ∀ X : XT, Cx X g l bs mL y.cls ret rm → Re X g rm M E → V X g 0 0 0 (lv_args 0 as) [] M) : CE l y bs mL ret rm g M as E := by
  refine vx_ofW (cc := bs) (maxL := mL) (ret := ret) hy rfl ?_
  intro p e s m args below meth c s₁ B hml ht hv
  obtain ⟨rfl, hK, hH, hP⟩ := hv
  have k := h (p, l, e, rm, s, m, as.toArray, below, meth, c, vx_MQ below QN (QX g M E) as.toArray s rm.cells rm.slots (gA g)) ⟨B.exec, B.bytes, hml, findClass_of_methodNamed B.named, hK, hH, B.notSynchronized, B.returns, rfl, rfl⟩ ⟨rfl, ht⟩
  have hl := lv_entry as (n := mL) hf
  rw [lg_entry_eq]
  exact k s.heap [] _ hP va_S.rf (by rw [show (xC (p, l, e, rm, s, m, as.toArray, below, meth, c, vx_MQ below QN (QX g M E) as.toArray s rm.cells rm.slots (gA g))).maxLocals = mL from hml]; exact hl)
/-- entries of the pool that name a method; kind: 0 static, 1 virtual, 2 static of a nest mate, 3 private of a nest mate -/
def hdN (y : MethodName) (n : Nat) : Prop := y.cls ≠ "java/lang/invoke/MethodHandle" ∧ y.cls ≠ "java/lang/invoke/VarHandle" ∧ (parseMethodDescriptor y.desc).map (fun d => d.parameters.length) = some n
def CD (y : MethodName) (bs : ByteArray) (mL : Nat) (ret : Option FieldType) (n : Nat) : Prop := (∃ i : Nat, lw_tbl[i]? = some (.code y bs mL ret)) ∧ (Cond.initialized y.cls) ∈ lw_tbl ∧ hdN y n
def KS (own : String) (idx : Nat) (y : MethodName) : Prop := (∃ i : Nat, lw_tbl[i]? = some (.methodLink own idx y)) ∧ ∃ i : Nat, lw_tbl[i]? = some (.static y)
def KSN (own : String) (idx : Nat) (y : MethodName) : Prop := (∃ (i : Nat) (h : String), lw_tbl[i]? = some (.methodLinkNest own idx y h)) ∧ ∃ i : Nat, lw_tbl[i]? = some (.static y)
def KV (own : String) (idx : Nat) (y : MethodName) : Prop := (∃ i : Nat, lw_tbl[i]? = some (.methodLink own idx y)) ∧ (∃ i : Nat, lw_tbl[i]? = some (.instanceMethod y)) ∧ ∃ i : Nat, lw_tbl[i]? = some (.selects y.cls y y)
def KVN (own : String) (idx : Nat) (y : MethodName) : Prop := (∃ (i : Nat) (h : String), lw_tbl[i]? = some (.methodLinkNest own idx y h)) ∧ (∃ i : Nat, lw_tbl[i]? = some (.instanceMethod y)) ∧ ∃ i : Nat, lw_tbl[i]? = some (.selects y.cls y y)
section RULES3
variable {X : XT} {g : GT} {l : Launch} {cc : ByteArray} {mL : Nat} {own : String} {ret : Option FieldType} {rm : Room} {kc ks pc : Nat} {lo lo' : List (Nat × Value)} {st st0 : List Value} {M M' : Mem}
variable {y : MethodName} {bs' : ByteArray} {mL' n idx k : Nat} {ret' : Option FieldType} {rm' : Room} {as : List Value} {res : Option Value}
theorem code_good (y : MethodName) (bs : ByteArray) (mL : Nat) (ret : Option FieldType) : GoodIn [Cond.code y bs mL ret] [Cond.code y bs mL ret] := fun w h => ⟨h, by rw [List.mem_singleton.mp h]; exact Or.inl rfl⟩
theorem PC.blind : FrameBlind (PC g M as) := fun a U f mk q => ⟨q.1, GK.blind f mk a q.2.1, GH.moved (Vm.Alike.refl U.vm) q.2.2.1, q.2.2.2⟩
theorem pcAt (C : Cx X g l cc mL own ret rm) {H : Heap} {locs : List Loc} (h1 : Hd g M H) (h2 : va_S (gA g) (xS X).heap H locs) : ∀ U : State, U.heap = H → (xS X).WarmedH U.vm → PC g M as as.toArray U := by
  intro U hU hW
  refine ⟨rfl, GK.warm hW C.2.2.2.2.1, ?_, by rw [hU]; exact h1⟩
  rw [hU]
  exact (GH.moved hW.alike C.2.2.2.2.2.1).kept h2.1 h2.2.1
def Rm (rm' rm : Room) (mL' kc ks : Nat) : Prop := (rm'.frames + 1 ≤ rm.frames ∧ 8 + (mL' + 11) + rm'.locals ≤ rm.locals) ∧ kc + rm'.cells ≤ rm.cells ∧ ks + rm'.slots ≤ rm.slots
/-- what follows a run of a callee that returns -/
theorem x_ran {H : Heap} {locs : List Loc} {ls : Array Slot} {a : Array Value} (hr : va_Run (xP X) (xL X) (xE X) (xR X) (xS X) (xM X) (xA X) (xB X) (xMe X) (xC X) H locs kc ks rm'.cells rm'.slots (F0 (xM X) pc ls st0) st (QC g res M' a) (gA g)) (h2 : va_S (gA g) (xS X).heap H locs) (h3 : lv_has ls (xC X).maxLocals lo)
    (kk : V X g (kc + rm'.cells) (ks + rm'.slots) (pc + 3) lo (res.toList ++ st) M') : xW X H locs kc ks (F0 (xM X) pc ls st0) := by
  intro T hT Xs
  obtain ⟨v, st₀, t, T', L, h0, X', hL, e1, e2, ⟨⟨hv, hP⟩, hz, hk⟩, hgo⟩ := hr T hT Xs
  cases hv
  rw [h0] at hz hk
  have h2' : va_S (gA g) (xS X).heap T'.heap (locs ++ L) := ⟨Nat.le_trans h2.1 (by rw [e1]; exact hz), fun q a1 a2 => by rw [e1, hk q (Nat.lt_of_lt_of_le a1 h2.1) a2]; exact h2.2.1 q a1 a2, fun q hq => by
      rcases List.mem_append.mp hq with h | h
      · exact h2.2.2 q h
      · exact hL q h⟩
  obtain ⟨t2, a1, b1⟩ := kk T'.heap (locs ++ L) ls (by rw [e1]; exact hP) h2' h3 T' rfl X'
  exact ⟨t2, hgo t2 a1, b1⟩
theorem x_callS (C : Cx X g l cc mL own ret rm) (hM : CM l y bs' mL' ret' rm' g M as res M') (hc : CD y bs' mL' ret' n) (hl : KS own idx y) (hn : as.length = n) (hst : st0 = as.reverse ++ st) (hR : Rm rm' rm mL' kc ks) (hW : (st.map fun v => v.category).sum ≤ 8) (d : decode cc pc = .ok (.invokestatic idx, 3))
    (kk : V X g (kc + rm'.cells) (ks + rm'.slots) (pc + 3) lo (res.toList ++ st) M') : V X g kc ks pc lo st0 M := by
  intro H locs ls h1 h2 h3
  obtain ⟨⟨i, hcd⟩, hini, hd⟩ := hc
  obtain ⟨⟨i1, hl1⟩, i2, hl2⟩ := hl
  have hR' : xR X = rm := C.2.2.2.2.2.2.2.2.1
  have hl' : xL X = l := C.2.2.2.2.2.2.2.2.2
  subst hl'
  refine x_ran (va_runS (As := as) (rest := st) (Ts := [Cond.code y bs' mL' ret']) ⟨C.1, C.2.1, rfl, C.2.2.2.1, fun w hw => ?_⟩ hM ⟨callB_of (Ts := [Cond.code y bs' mL' ret']) n (fun w hw => ?_) (code_good y bs' mL' ret') rfl rfl rfl (C.wm hini rfl) (C.w hl1 rfl) hd (by rw [hR']; exact hR.1), C.w hl2 rfl⟩ ⟨PC.blind, pcAt C h1 h2⟩ rfl hn h3.1 hst (lv_room hW) d (by rw [hR']; exact hR.2)) h2 h3 kk
  · rw [List.mem_singleton.mp hw]; exact C.w hcd rfl
  · rw [List.mem_singleton.mp hw]; exact C.w hcd rfl
theorem x_callSN (C : Cx X g l cc mL own ret rm) (hM : CM l y bs' mL' ret' rm' g M as res M') (hc : CD y bs' mL' ret' n) (hl : KSN own idx y) (hn : as.length = n) (hst : st0 = as.reverse ++ st) (hR : Rm rm' rm mL' kc ks) (hW : (st.map fun v => v.category).sum ≤ 8) (d : decode cc pc = .ok (.invokestatic idx, 3))
    (kk : V X g (kc + rm'.cells) (ks + rm'.slots) (pc + 3) lo (res.toList ++ st) M') : V X g kc ks pc lo st0 M := by
  intro H locs ls h1 h2 h3
  obtain ⟨⟨i, hcd⟩, hini, hd⟩ := hc
  obtain ⟨⟨i1, hh, hl1⟩, i2, hl2⟩ := hl
  have hR' : xR X = rm := C.2.2.2.2.2.2.2.2.1
  have hl' : xL X = l := C.2.2.2.2.2.2.2.2.2
  subst hl'
  refine x_ran (va_runSN (As := as) (rest := st) (Ts := [Cond.code y bs' mL' ret']) ⟨C.1, C.2.1, rfl, C.2.2.2.1, fun w hw => ?_⟩ hM ⟨va_cnB (Ts := [Cond.code y bs' mL' ret']) n (fun w hw => ?_) (code_good y bs' mL' ret') rfl rfl rfl (va_Nw.of rfl (C.w hl1 rfl)) (C.wm hini rfl) hd (by rw [hR']; exact hR.1), C.w hl2 rfl, trivial⟩ ⟨PC.blind, pcAt C h1 h2⟩ rfl hn h3.1 hst (lv_room hW) d (by rw [hR']; exact hR.2)) h2 h3 kk
  · rw [List.mem_singleton.mp hw]; exact C.w hcd rfl
  · rw [List.mem_singleton.mp hw]; exact C.w hcd rfl
/-- the receiver is an object of its class -/
theorem x_recv (C : Cx X g l cc mL own ret rm) {H : Heap} (h1 : Hd g M H) {ci : Nat} {Cn : String} {T : u_T} {N : Nat} (hci : CI ci Cn T N) (hk : xk k = ci) (hn : k < 29) : ∃ cell : Cell, H[ga g k]? = some cell ∧ cell.vm.isStatics = false ∧ (xS X).vm.findClass Cn = some cell.cls := by
  have hat := wl_at g M (C.lt hn)
  rw [xe_O g (M k) hk hci.2.1] at hat
  exact va_recv C.2.2.2.2.1.2.1 h1 (ci := ci) (q0 := k) hci.1 hat
theorem x_callV (C : Cx X g l cc mL own ret rm) {ci N : Nat} {T : u_T} (hM : CM l y bs' mL' ret' rm' g M (.ref (ga g k) :: as) res M') (hc : CD y bs' mL' ret' n) (hl : KV own idx y) (hci : CI ci y.cls T N) (hk : xk k = ci) (hk2 : k < 29) (hn : as.length = n) (hst : st0 = as.reverse ++ .ref (ga g k) :: st) (hR : Rm rm' rm mL' kc ks) (hW : (st.map fun v => v.category).sum ≤ 8) (d : decode cc pc = .ok (.invokevirtual idx, 3))
    (kk : V X g (kc + rm'.cells) (ks + rm'.slots) (pc + 3) lo (res.toList ++ st) M') : V X g kc ks pc lo st0 M := by
  intro H locs ls h1 h2 h3
  obtain ⟨⟨i, hcd⟩, hini, hd⟩ := hc
  obtain ⟨⟨i1, hl1⟩, ⟨i2, hl2⟩, i3, hl3⟩ := hl
  have hR' : xR X = rm := C.2.2.2.2.2.2.2.2.1
  have hl' : xL X = l := C.2.2.2.2.2.2.2.2.2
  subst hl'
  refine x_ran (va_runV (As := as) (rest := st) (Ts := [Cond.code y bs' mL' ret']) ⟨C.1, C.2.1, rfl, C.2.2.2.1, fun w hw => ?_⟩ hM ⟨callB_of (Ts := [Cond.code y bs' mL' ret']) n (fun w hw => ?_) (code_good y bs' mL' ret') rfl rfl rfl (C.wm hini rfl) (C.w hl1 rfl) hd (by rw [hR']; exact hR.1), C.w hl2 rfl, C.w hl3 rfl⟩ ⟨PC.blind, x_recv C h1 hci hk hk2, pcAt C h1 h2⟩ rfl hn h3.1 hst (lv_room hW) d (by rw [hR']; exact hR.2)) h2 h3 kk
  · rw [List.mem_singleton.mp hw]; exact C.w hcd rfl
  · rw [List.mem_singleton.mp hw]; exact C.w hcd rfl
theorem x_callVN (C : Cx X g l cc mL own ret rm) {ci N : Nat} {T : u_T} (hM : CM l y bs' mL' ret' rm' g M (.ref (ga g k) :: as) res M') (hc : CD y bs' mL' ret' n) (hl : KVN own idx y) (hci : CI ci y.cls T N) (hk : xk k = ci) (hk2 : k < 29) (hn : as.length = n) (hst : st0 = as.reverse ++ .ref (ga g k) :: st) (hR : Rm rm' rm mL' kc ks) (hW : (st.map fun v => v.category).sum ≤ 8) (d : decode cc pc = .ok (.invokevirtual idx, 3))
    (kk : V X g (kc + rm'.cells) (ks + rm'.slots) (pc + 3) lo (res.toList ++ st) M') : V X g kc ks pc lo st0 M := by
  intro H locs ls h1 h2 h3
  obtain ⟨⟨i, hcd⟩, hini, hd⟩ := hc
  obtain ⟨⟨i1, hh, hl1⟩, ⟨i2, hl2⟩, i3, hl3⟩ := hl
  have hR' : xR X = rm := C.2.2.2.2.2.2.2.2.1
  have hl' : xL X = l := C.2.2.2.2.2.2.2.2.2
  subst hl'
  refine x_ran (va_runVN (As := as) (rest := st) (Ts := [Cond.code y bs' mL' ret']) ⟨C.1, C.2.1, rfl, C.2.2.2.1, fun w hw => ?_⟩ hM ⟨va_cnB (Ts := [Cond.code y bs' mL' ret']) n (fun w hw => ?_) (code_good y bs' mL' ret') rfl rfl rfl (va_Nw.of rfl (C.w hl1 rfl)) (C.wm hini rfl) hd (by rw [hR']; exact hR.1), C.w hl2 rfl, C.w hl3 rfl⟩ ⟨PC.blind, x_recv C h1 hci hk hk2, pcAt C h1 h2⟩ rfl hn h3.1 hst (lv_room hW) d (by rw [hR']; exact hR.2)) h2 h3 kk
  · rw [List.mem_singleton.mp hw]; exact C.w hcd rfl
  · rw [List.mem_singleton.mp hw]; exact C.w hcd rfl
/-! ends -/
theorem x_endG {H : Heap} {locs : List Loc} {v : Option Value} (h1 : Hd g M H) (h2 : va_S (gA g) (xS X).heap H locs) (hres : res = v) (hm : M' = M) : ∀ t : State, t.heap = H → (xS X).WarmedH t.vm → QC g res M' (xA X) (xS X) (.returned v) t := fun t ht _ => ⟨⟨by rw [hres], by rw [hm, ht]; exact h1⟩, h2.F ht⟩
theorem x_iret (C : Cx X g l cc mL own (some .int) rm) (hq : Rt X g rm res M') {v : Int32} (hk : kc ≤ rm.cells ∧ ks ≤ rm.slots) (d : decode cc pc = .ok (.ireturn, 1)) (hres : res = some (.int v)) (hm : M' = M) : V X g kc ks pc lo [.int v] M := by
  intro H locs ls h1 h2 h3
  show W _ _ _ _ _ _ _ _ _ _ _ _ _ _ (xQ X) _
  rw [show xQ X = _ from hq]
  exact W.widen hk.1 hk.2 (W.iret C.1 C.2.1 C.2.2.2.2.2.2.2.1 (x_endG h1 h2 hres hm) (fun q hq => h2.2.2 q hq) d C.2.2.2.2.2.2.1)
theorem x_zret (C : Cx X g l cc mL own (some .boolean) rm) (hq : Rt X g rm res M') {v : Int32} (hv : narrow .boolean (.int v) = .int v) (hk : kc ≤ rm.cells ∧ ks ≤ rm.slots) (d : decode cc pc = .ok (.ireturn, 1)) (hres : res = some (.int v)) (hm : M' = M) : V X g kc ks pc lo [.int v] M := by
  intro H locs ls h1 h2 h3
  show W _ _ _ _ _ _ _ _ _ _ _ _ _ _ (xQ X) _
  rw [show xQ X = _ from hq]
  exact W.widen hk.1 hk.2 (W.zret C.1 C.2.1 C.2.2.2.2.2.2.2.1 hv (x_endG h1 h2 hres hm) (fun q hq => h2.2.2 q hq) d C.2.2.2.2.2.2.1)
theorem x_lret (C : Cx X g l cc mL own (some .long) rm) (hq : Rt X g rm res M') {v : Int64} (hk : kc ≤ rm.cells ∧ ks ≤ rm.slots) (d : decode cc pc = .ok (.lreturn, 1)) (hres : res = some (.long v)) (hm : M' = M) : V X g kc ks pc lo [.long v] M := by
  intro H locs ls h1 h2 h3
  show W _ _ _ _ _ _ _ _ _ _ _ _ _ _ (xQ X) _
  rw [show xQ X = _ from hq]
  exact W.widen hk.1 hk.2 (W.lret C.1 C.2.1 C.2.2.2.2.2.2.2.1 (x_endG h1 h2 hres hm) (fun q hq => h2.2.2 q hq) d C.2.2.2.2.2.2.1)
theorem x_dret (C : Cx X g l cc mL own (some .double) rm) (hq : Rt X g rm res M') {v : UInt64} (hk : kc ≤ rm.cells ∧ ks ≤ rm.slots) (d : decode cc pc = .ok (.dreturn, 1)) (hres : res = some (.double v)) (hm : M' = M) : V X g kc ks pc lo [.double v] M := by
  intro H locs ls h1 h2 h3
  show W _ _ _ _ _ _ _ _ _ _ _ _ _ _ (xQ X) _
  rw [show xQ X = _ from hq]
  exact W.widen hk.1 hk.2 (W.dret C.1 C.2.1 C.2.2.2.2.2.2.2.1 (x_endG h1 h2 hres hm) (fun q hq => h2.2.2 q hq) d C.2.2.2.2.2.2.1)
theorem x_vret (C : Cx X g l cc mL own none rm) (hq : Rt X g rm res M') (hk : kc ≤ rm.cells ∧ ks ≤ rm.slots) (d : decode cc pc = .ok (.return_, 1)) (hres : res = none) (hm : M' = M) : V X g kc ks pc lo [] M := by
  intro H locs ls h1 h2 h3
  show W _ _ _ _ _ _ _ _ _ _ _ _ _ _ (xQ X) _
  rw [show xQ X = _ from hq]
  exact W.widen hk.1 hk.2 (W.vret C.1 C.2.1 C.2.2.2.2.2.2.2.1 (x_endG h1 h2 hres hm) (fun q hq => h2.2.2 q hq) d C.2.2.2.2.2.2.1)
end RULES3
