/-! The law's script: an array that nobody writes. -/
def SX (X : XT) (g : GT) (b L : Nat) (xs : Nat → Int32) : Prop := va_X b L xs (xS X) (xS X).heap ∧ b < (xS X).heap.size ∧ ¬ gA g b ∧ L ≤ 2048
def PUS (b L : Nat) (xs : Nat → Int32) (g : GT) (M : Mem) (D : DM) (as : List Value) : Array Value → State → Prop := va_Pc as (fun U => (GK g U ∧ GH g U U.heap ∧ HD g M D U.heap) ∧ va_X b L xs U U.heap ∧ b < U.heap.size ∧ ¬ gA g b ∧ L ≤ 2048)
def CUS (l : Launch) (y : MethodName) (bs : ByteArray) (mL : Nat) (ret : Option FieldType) (rm : Room) (b L : Nat) (xs : Nat → Int32) (g : GT) (M : Mem) (D : DM) (as : List Value) (R : Option Value → Mem → DM → Prop) : Prop :=
  Met l y [.code y bs mL ret] rm (PUS b L xs g M D as) (QU g R) rm.cells rm.slots (gA g)
theorem CUS.of {l : Launch} {y : MethodName} {bs : ByteArray} {mL : Nat} {ret : Option FieldType} {rm : Room} {b L : Nat} {xs : Nat → Int32} {g : GT} {M : Mem} {D : DM} {as : List Value} {R : Option Value → Mem → DM → Prop} (hy : plainName y.cls = true) (hf : (lg_sl as).length ≤ mL)
    (h : ∀ X : XT, Cx X g l bs mL y.cls ret rm → RU X g rm R → SX X g b L xs → UX X g 0 0 0 (lv_args 0 as) [] M D) : CUS l y bs mL ret rm b L xs g M D as R := by
  refine Met.ofW (cc := bs) (maxL := mL) (ret := ret) hy rfl ?_
  intro p e s m args below meth c s₁ B hml hv
  obtain ⟨rfl, ⟨hK, hH, hP⟩, hX⟩ := hv
  have k := h (p, l, e, rm, s, m, as.toArray, below, meth, c, MQ below (QU g R) as.toArray s rm.cells rm.slots (gA g)) ⟨B.exec, B.bytes, hml, findClass_of_methodNamed B.named, hK, hH, B.notSynchronized, B.returns, rfl, rfl⟩ rfl hX
  have hl := lv_entry as (n := mL) hf
  rw [lg_entry_eq]
  exact k s.heap [] _ hP va_S.rf (by rw [show (xC (p, l, e, rm, s, m, as.toArray, below, meth, c, MQ below (QU g R) as.toArray s rm.cells rm.slots (gA g))).maxLocals = mL from hml]; exact hl)
section USCRIPT
variable {X : XT} {g : GT} {l : Launch} {cc : ByteArray} {mL : Nat} {own : String} {ret : Option FieldType} {rm : Room} {kc ks pc : Nat} {lo lo' : List (Nat × Value)} {st st0 : List Value} {M M' : Mem} {D : DM} {R : Option Value → Mem → DM → Prop}
variable {y : MethodName} {bs' : ByteArray} {mL' n idx k : Nat} {ret' : Option FieldType} {rm' : Room} {as : List Value} {b L : Nat} {xs : Nat → Int32}
theorem u_sld (C : Cx X g l cc mL own ret rm) (S : SX X g b L xs) {i : Int32} {j : Nat} (hi : i = nI j) (hj : j < L) (d : decode cc pc = .ok (.iaload, 1)) (kk : UX X g kc ks (pc + 1) lo (.int (xs j) :: st) M D) : UX X g kc ks pc lo (.int i :: .ref b :: st) M D := by
  intro H locs ls h1 h2 h3
  obtain ⟨s1, s2, s3, s4⟩ := S
  subst hi
  refine va_sld C.1 C.2.1 s1 s2 s3 h2 (vp_in_nI hj (by omega)) d ?_
  rw [nI_clamp (by omega)]
  exact kk H locs ls h1 h2 h3
theorem u_slen (C : Cx X g l cc mL own ret rm) (S : SX X g b L xs) (d : decode cc pc = .ok (.arraylength, 1)) (kk : UX X g kc ks (pc + 1) lo (.int (nI L) :: st) M D) : UX X g kc ks pc lo (.ref b :: st) M D := by
  intro H locs ls h1 h2 h3
  obtain ⟨s1, s2, s3, s4⟩ := S
  exact va_slen C.1 C.2.1 s1 s2 s3 h2 d (kk H locs ls h1 h2 h3)
theorem PUS.blind : FrameBlind (PUS b L xs g M D as) := fun a U f mk q => ⟨q.1, ⟨GK.blind f mk a q.2.1.1, GH.moved (Vm.Alike.refl U.vm) q.2.1.2.1, q.2.1.2.2⟩, va_X.moved (Vm.Alike.refl U.vm) q.2.2.1, q.2.2.2⟩
theorem pusAt (C : Cx X g l cc mL own ret rm) (S : SX X g b L xs) {H : Heap} {locs : List Loc} (h1 : HD g M D H) (h2 : va_S (gA g) (xS X).heap H locs) : ∀ U : State, U.heap = H → (xS X).WarmedH U.vm → PUS b L xs g M D as as.toArray U := by
  intro U hU hW
  obtain ⟨a1, a2, a3, a4⟩ := puAt (as := as) C h1 h2 U hU hW
  refine ⟨a1, ⟨a2, a3, a4⟩, ?_, ?_, S.2.2.1, S.2.2.2⟩
  · rw [hU]
    exact (S.1.kept (h2.2.1 b S.2.1 S.2.2.1)).moved hW.alike
  · rw [hU]
    exact Nat.lt_of_lt_of_le S.2.1 h2.1
theorem u_callSS (C : Cx X g l cc mL own ret rm) (S : SX X g b L xs) (hM : CUS l y bs' mL' ret' rm' b L xs g M D as R) (hc : CD y bs' mL' ret' n) (hl : KS own idx y) (hn : as.length = n) (hst : st0 = as.reverse ++ st) (hR : Rm rm' rm mL' kc ks) (hW : (st.map fun v => v.category).sum ≤ 8) (d : decode cc pc = .ok (.invokestatic idx, 3))
    (kk : ∀ r M' D', R r M' D' → UX X g (kc + rm'.cells) (ks + rm'.slots) (pc + 3) lo (r.toList ++ st) M' D') : UX X g kc ks pc lo st0 M D := by
  intro H locs ls h1 h2 h3
  obtain ⟨⟨i, hcd⟩, hini, hd⟩ := hc
  obtain ⟨⟨i1, hl1⟩, i2, hl2⟩ := hl
  have hR' : xR X = rm := C.2.2.2.2.2.2.2.2.1
  have hl' : xL X = l := C.2.2.2.2.2.2.2.2.2
  subst hl'
  refine u_ran (va_runS (As := as) (rest := st) (Ts := [Cond.code y bs' mL' ret']) ⟨C.1, C.2.1, rfl, C.2.2.2.1, fun w hw => ?_⟩ hM ⟨callB_of (Ts := [Cond.code y bs' mL' ret']) n (fun w hw => ?_) (code_good y bs' mL' ret') rfl rfl rfl (C.wm hini rfl) (C.w hl1 rfl) hd (by rw [hR']; exact hR.1), C.w hl2 rfl⟩ ⟨PUS.blind, pusAt C S h1 h2⟩ rfl hn h3.1 hst (lv_room hW) d (by rw [hR']; exact hR.2)) h2 h3 kk
  · rw [List.mem_singleton.mp hw]; exact C.w hcd rfl
  · rw [List.mem_singleton.mp hw]; exact C.w hcd rfl
end USCRIPT
abbrev rmL_cell : Room := { frames := 0, cells := 0, slots := 0, locals := 0 }
set_option maxHeartbeats 1000000 in
set_option maxRecDepth 100000 in
theorem qL_cell (l : Launch) (g : GT) (M : Mem) (D : DM) {b L : Nat} {xs : Nat → Int32} {k : Nat} (hk : k < 1000) : CUS l yL_cell cL_cell 2 (some .int) rmL_cell b L xs g M D [.ref b, .int (nI k)] (fun r M1 D1 => (∃ v, r = some (.int v)) ∧ M1 = M ∧ D1 = D) := by
  refine CUS.of (by decide) (Nat.le_of_ble_eq_true rfl) (fun X C hq hS => ?_)
  have C : Cx X g l cL_cell 2 RL (some .int) rmL_cell := C
  show UX X g 0 0 0 [(0, .ref b), (1, .int (nI k))] [] M D
  refine u_iload_n C dL_cell_0 rfl ?_
  refine u_aload_n C dL_cell_1 rfl ?_
  refine u_slen C (hS) dL_cell_2 ?_
  refine u_icmp_ge C (tgt := 12) dL_cell_3 (by decide) (fun c3 => ?_) (fun c3 => ?_)
  · refine u_ldc C (v := 790386105) (by decide +kernel) dL_cell_12 ?_
    refine u_iload_n C dL_cell_14 rfl ?_
    refine u_iconst C (v := 3) dL_cell_15 (by decide) ?_
    refine u_iadd C dL_cell_16 ?_
    refine u_imul C dL_cell_17 ?_
    exact u_iret C hq ⟨by decide, by decide⟩ dL_cell_18 (⟨⟨_, rfl⟩, rfl, rfl⟩)
  · have hlt : k < L := Nat.lt_of_not_le (fun z => c3 ((nI_leI (a := L) (b := k) (by have := hS.2.2.2; omega) (by omega)).mpr z))
    refine u_aload_n C dL_cell_6 rfl ?_
    refine u_iload_n C dL_cell_7 rfl ?_
    refine u_sld C (hS) rfl hlt dL_cell_8 ?_
    refine u_goto C (tgt := 18) dL_cell_9 (by decide) ?_
    exact u_iret C hq ⟨by decide, by decide⟩ dL_cell_18 (⟨⟨_, rfl⟩, rfl, rfl⟩)
