/-! Methods with a table: contracts, calls, catching. -/
def tb (h : Nat × Nat × Nat × Nat) : ExceptionTableEntry := ⟨h.1, h.2.1, h.2.2.1, h.2.2.2⟩
def CMW (l : Launch) (y : MethodName) (bs : ByteArray) (mL : Nat) (ret : Option FieldType) (hh : List (Nat × Nat × Nat × Nat)) (rm : Room) (g : GT) (M : Mem) (as : List Value) (res : Option Value) (M' : Mem) : Prop :=
  Met l y [.codeWith y bs mL ret hh] rm (PC g M as) (QC g res M') rm.cells rm.slots (gA g)
theorem CMW.of {l : Launch} {y : MethodName} {bs : ByteArray} {mL : Nat} {ret : Option FieldType} {hh : List (Nat × Nat × Nat × Nat)} {rm : Room} {g : GT} {M : Mem} {as : List Value} {res : Option Value} {M' : Mem} (hy : plainName y.cls = true) (hf : (lg_sl as).length ≤ mL) (hcd : ∃ i : Nat, lw_tbl[i]? = some (.codeWith y bs mL ret hh))
    (h : ∀ X : XT, Cx X g l bs mL y.cls ret rm → Rt X g rm res M' → (xC X).exceptionTable.toList = tableOf hh → V X g 0 0 0 (lv_args 0 as) [] M) : CMW l y bs mL ret hh rm g M as res M' := by
  show Met l y [.codeWith y bs mL ret hh] rm (PC g M as) (QC g res M') rm.cells rm.slots (gA g)
  unfold Met
  refine MetFree.of_bodyS (code := bs) (maxLocals := mL) (ret := ret) hy ?_ ?_
  · intro args s m h9 hn
    obtain ⟨m9, meth, c, hn9, h1, h2, h3, h4, -, h5, h6, -⟩ := Cond.codeWith_spec (atoms_spec (ws := [.codeWith y bs mL ret hh]) h9 _ List.mem_cons_self)
    cases hn.symm.trans hn9
    exact ⟨meth, c, h1, h2, h3, h4, h5, h6⟩
  · intro p e s m args below meth c s₁ B hml hv _
    have hh0 : s₁.heap = s.heap := by rw [B.state]; rfl
    obtain ⟨rfl, hK, hH, hP⟩ := hv
    obtain ⟨i, hi⟩ := hcd
    have hT : c.exceptionTable.toList = tableOf hh := vx_table (x := y) B (xw_at (args := #[]) (State.WarmedH.refl s) rfl (hK.1 _ (List.mem_of_getElem? hi) rfl) : (Cond.codeWith y bs mL ret hh).before as.toArray s = true)
    have k := h (p, l, e, rm, s, m, as.toArray, below, meth, c, MQ below (QC g res M') as.toArray s rm.cells rm.slots (gA g)) ⟨B.exec, B.bytes, hml, findClass_of_methodNamed B.named, hK, hH, B.notSynchronized, B.returns, rfl, rfl⟩ rfl hT
    have hl := lv_entry as (n := mL) hf
    have k2 : xW (p, l, e, rm, s, m, as.toArray, below, meth, c, MQ below (QC g res M') as.toArray s rm.cells rm.slots (gA g)) s.heap [] 0 0 (entryFrame m as.toArray mL) := by
      rw [lg_entry_eq]
      exact k s.heap [] _ hP va_S.rf (by rw [show (xC (p, l, e, rm, s, m, as.toArray, below, meth, c, MQ below (QC g res M') as.toArray s rm.cells rm.slots (gA g))).maxLocals = mL from hml]; exact hl)
    obtain ⟨t, a1, o, b1, b2, b3⟩ := k2 s₁ hh0 (Stand.of_body B)
    exact ⟨t, o, a1, b1, b2, ⟨b3.1, b3.2⟩⟩
def CDW (y : MethodName) (bs : ByteArray) (mL : Nat) (ret : Option FieldType) (hh : List (Nat × Nat × Nat × Nat)) (n : Nat) : Prop := (∃ i : Nat, lw_tbl[i]? = some (.codeWith y bs mL ret hh)) ∧ (Cond.initialized y.cls) ∈ lw_tbl ∧ hdN y n
/-- E is caught at pc by the row x of the table, past rows that name other classes -/
def Ct (own : String) (hh : List (Nat × Nat × Nat × Nat)) (pc : Nat) (E : String) (pre : List (Nat × Nat × Nat × Nat)) (x : Nat × Nat × Nat × Nat) (suf : List (Nat × Nat × Nat × Nat)) : Prop :=
  hh = pre ++ x :: suf ∧ (∀ z ∈ pre, z.2.2.2 ≠ 0 ∧ ∃ nm : String, (Cond.classLink own z.2.2.2 nm) ∈ lw_tbl ∧ (E, nm) ∈ ncL) ∧ covers (tb x) pc = true ∧ x.2.2.2 ≠ 0 ∧ (Cond.classLink own x.2.2.2 E) ∈ lw_tbl ∧ (Cond.castable E E) ∈ lw_tbl
section RULES5
variable {X : XT} {g : GT} {l : Launch} {cc : ByteArray} {mL : Nat} {own : String} {ret : Option FieldType} {rm : Room} {kc ks pc : Nat} {lo lo' : List (Nat × Value)} {st st0 : List Value} {M M' : Mem}
variable {y : MethodName} {bs' : ByteArray} {mL' n idx k : Nat} {ret' : Option FieldType} {rm' : Room} {as : List Value} {res : Option Value} {hh : List (Nat × Nat × Nat × Nat)}
theorem x_callSW (C : Cx X g l cc mL own ret rm) (hM : CMW l y bs' mL' ret' hh rm' g M as res M') (hc : CDW y bs' mL' ret' hh n) (hl : KS own idx y) (hn : as.length = n) (hst : st0 = as.reverse ++ st) (hR : Rm rm' rm mL' kc ks) (hW : (st.map fun v => v.category).sum ≤ 8) (d : decode cc pc = .ok (.invokestatic idx, 3))
    (kk : V X g (kc + rm'.cells) (ks + rm'.slots) (pc + 3) lo (res.toList ++ st) M') : V X g kc ks pc lo st0 M := by
  intro H locs ls h1 h2 h3
  obtain ⟨⟨i, hcd⟩, hini, hd⟩ := hc
  obtain ⟨⟨i1, hl1⟩, i2, hl2⟩ := hl
  have hR' : xR X = rm := C.2.2.2.2.2.2.2.2.1
  have hl' : xL X = l := C.2.2.2.2.2.2.2.2.2
  subst hl'
  refine x_ran (vx_runSW (As := as) (rest := st) (Ts := [Cond.codeWith y bs' mL' ret' hh]) ⟨C.1, C.2.1, rfl, C.2.2.2.1, fun w hw => ?_⟩ hM ⟨⟨rfl, rfl, by rw [hR']; exact hR.1.1, by rw [hR']; exact hR.1.2, fun w hw a' U hU => ?_, List.mem_singleton.mpr rfl⟩, C.w hcd rfl, C.wm hini rfl, ⟨hd.1, hd.2.1⟩, fun sig h => ?_, C.w hl1 rfl, C.w hl2 rfl⟩ ⟨PC.blind, pcAt C h1 h2⟩ rfl hn h3.1 hst (lv_room hW) d (by rw [hR']; exact hR.2)) h2 h3 kk
  · rw [List.mem_singleton.mp hw]; exact C.w hcd rfl
  · rw [List.mem_singleton.mp hw]; exact xw_at hU rfl (C.w hcd rfl)
  · have h2 := hd.2.2
    rw [h] at h2
    exact (Option.some.inj h2).symm
/-- a callee that throws E, caught here -/
theorem x_callVc {E : String} {pre suf : List (Nat × Nat × Nat × Nat)} {x : Nat × Nat × Nat × Nat} (C : Cx X g l cc mL own ret rm) (hT : (xC X).exceptionTable.toList = tableOf hh) {ci N : Nat} {T : u_T} (hM : CE l y bs' mL' ret' rm' g M (.ref (ga g k) :: as) E) (hc : CD y bs' mL' ret' n) (hl : KV own idx y) (hci : CI ci y.cls T N) (hk : xk k = ci) (hk2 : k < 38) (hn : as.length = n) (hst : st0 = as.reverse ++ .ref (ga g k) :: st) (hR : Rm rm' rm mL' kc ks) (hW : (st.map fun v => v.category).sum ≤ 8) (d : decode cc pc = .ok (.invokevirtual idx, 3)) (hx : Ct own hh pc E pre x suf)
    (kk : ∀ q : Nat, V X g (kc + rm'.cells) (ks + rm'.slots) x.2.2.1 lo [.ref q] M) : V X g kc ks pc lo st0 M := by
  intro H locs ls h1 h2 h3
  obtain ⟨⟨i, hcd⟩, hini, hd⟩ := hc
  obtain ⟨⟨i1, hl1⟩, ⟨i2, hl2⟩, i3, hl3⟩ := hl
  have hR' : xR X = rm := C.2.2.2.2.2.2.2.2.1
  have hl' : xL X = l := C.2.2.2.2.2.2.2.2.2
  subst hl'
  have hr : vx_Run (xP X) (xL X) (xE X) (xR X) (xS X) (xM X) (xA X) (xB X) (xMe X) (xC X) H locs kc ks rm'.cells rm'.slots (F0 (xM X) pc ls st0) st (QN (Value.ref (ga g k) :: as).toArray) (QX g M E) (gA g) := vx_runV (As := as) (rest := st) (Ts := [Cond.code y bs' mL' ret']) ⟨C.1, C.2.1, rfl, C.2.2.2.1, fun w hw => by rw [List.mem_singleton.mp hw]; exact C.w hcd rfl⟩ hM ⟨callB_of (Ts := [Cond.code y bs' mL' ret']) n (fun w hw => by rw [List.mem_singleton.mp hw]; exact C.w hcd rfl) (code_good y bs' mL' ret') rfl rfl rfl (C.wm hini rfl) (C.w hl1 rfl) hd (by rw [hR']; exact hR.1), C.w hl2 rfl, C.w hl3 rfl⟩ ⟨PC.blind, x_recv C h1 hci hk hk2, pcAt C h1 h2⟩ rfl hn h3.1 hst (lv_room hW) d (by rw [hR']; exact hR.2)
  intro T9 hT9 Xs
  rcases hr T9 hT9 Xs with ⟨v, st₀, t, T', L, h0, X', hL, e1, e2, hqn, hgo⟩ | ⟨q, st₀, t, T', L, E', ce, h0, X', hL, e1, e2, ⟨hE, hP, hz, hkp⟩, hce, hcv, hcl, hgo⟩
  · exact hqn.elim
  · subst hE
    rw [h0] at hz hkp
    have h2' : va_S (gA g) (xS X).heap T'.heap (locs ++ L) := ⟨Nat.le_trans h2.1 (by rw [e1]; exact hz), fun q a1 a2 => by rw [e1, hkp q (Nat.lt_of_lt_of_le a1 h2.1) a2]; exact h2.2.1 q a1 a2, fun q hq => by
        rcases List.mem_append.mp hq with h | h
        · exact h2.2.2 q h
        · exact hL q h⟩
    obtain ⟨x1, x2, x3, x4, x5, x6⟩ := hx
    have hw := vx_catch (p := xP X) (l := xL X) (e := xE X) (R := xR X) (below := xB X) (meth := xMe X) (locs := locs ++ L) (cells := kc + rm'.cells) (slots := ks + rm'.slots) (Q := xQ X) (ls := ls) (rest := st) (pc := pc) C.2.2.2.1 (pre.map tb) (tb x) (suf.map tb) (by rw [hT, x1]; show (pre ++ x :: suf).map tb = _; rw [List.map_append]; rfl) (fun z hz => by
        obtain ⟨z0, hz0, rfl⟩ := List.mem_map.mp hz
        obtain ⟨a1, nm, a2, a3⟩ := x2 z0 hz0
        exact Or.inr ⟨a1, nm, C.wm a2 rfl, C.2.2.2.2.1.2.2.2.1 _ a3⟩) x3 x4 (C.wm x5 rfl) (C.wm x6 rfl) (by rw [e1]; exact hce) hcv hcl (kk q T'.heap (locs ++ L) ls (by rw [e1]; exact hP) h2' h3)
    obtain ⟨t2, a1, b1⟩ := hw T' rfl X'
    exact ⟨t2, hgo.trans a1, b1⟩
end RULES5

abbrev hhL_addWall : List (Nat × Nat × Nat × Nat) := [(0, 12, 15, 13), (0, 12, 19, 15), (0, 12, 23, 17)]
theorem cwL_addWall : CDW yL_addWall cL_addWall 6 (some .int) hhL_addWall 5 := ⟨⟨466, by decide +kernel⟩, by decide +kernel, by decide, by decide, by decide⟩
abbrev rmL_addWall : Room := { frames := 3, cells := 0, slots := 0, locals := 63 }
set_option maxHeartbeats 1000000 in
theorem qL_addWall {l : Launch} {g : GT} {M M' : Mem} {p0 p1 p2 : Int32} {v : Int32} (hM : CM l yX1_addWall cX1_addWall 4 (some .int) rmX1_addWall g M [.ref (ga g 0), .int p0, .int p1, .int p2] (some (.int v)) M') : CMW l yL_addWall cL_addWall 6 (some .int) hhL_addWall rmL_addWall g M [.ref (ga g 0), .int p0, .int p1, .int p2, .ref (ga g 37)] (some (.int 0)) (wr M' 37 0 v) := by
  refine CMW.of (by decide) (Nat.le_of_ble_eq_true rfl) cwL_addWall.1 (fun X C hq hT => ?_)
  have C : Cx X g l cL_addWall 6 RL (some .int) rmL_addWall := C
  show V X g 0 0 0 [(0, .ref (ga g 0)), (1, .int p0), (2, .int p1), (3, .int p2), (4, .ref (ga g 37))] [] M
  refine x_aload C dL_addWall_0 rfl ?_
  refine x_iconst C (v := 0) dL_addWall_2 (by decide) ?_
  refine x_aload_n C dL_addWall_3 rfl ?_
  refine x_iload_n C dL_addWall_4 rfl ?_
  refine x_iload_n C dL_addWall_5 rfl ?_
  refine x_iload_n C dL_addWall_6 rfl ?_
  refine x_callV0r C hM cd_X1_addWall kl_L_7 ci1 rfl (by decide) (as := [_, _, _]) rfl rfl ⟨⟨by decide, by decide⟩, by decide, by decide⟩ ⟨rfl, rfl⟩ (Nat.le_of_ble_eq_true rfl) dL_addWall_7 ?_
  refine x_i2l C dL_addWall_10 ?_
  refine x_last C (n := 1) rfl (by decide) rfl (rfl) ((by decide : 0 < 1)) dL_addWall_11 ?_
  refine x_goto C (tgt := 27) dL_addWall_12 (by decide) ?_
  refine x_iconst C (v := 0) dL_addWall_27 (by decide) ?_
  exact x_iret C hq ⟨by decide, by decide⟩ dL_addWall_28 (rfl) (rfl)
abbrev rmL_addWall_x : Room := { frames := 8, cells := 1, slots := 6, locals := 133 }
set_option maxHeartbeats 1000000 in
theorem qLeB_addWall {l : Launch} {g : GT} {M : Mem} {p0 p1 p2 : Int32} (hM : CE l yX1_addWall cX1_addWall 4 (some .int) rmX1_addWall_x g M [.ref (ga g 0), .int p0, .int p1, .int p2] eB) : CMW l yL_addWall cL_addWall 6 (some .int) hhL_addWall rmL_addWall_x g M [.ref (ga g 0), .int p0, .int p1, .int p2, .ref (ga g 37)] (some (.int 1)) M := by
  refine CMW.of (by decide) (Nat.le_of_ble_eq_true rfl) cwL_addWall.1 (fun X C hq hT => ?_)
  have C : Cx X g l cL_addWall 6 RL (some .int) rmL_addWall_x := C
  show V X g 0 0 0 [(0, .ref (ga g 0)), (1, .int p0), (2, .int p1), (3, .int p2), (4, .ref (ga g 37))] [] M
  refine x_aload C dL_addWall_0 rfl ?_
  refine x_iconst C (v := 0) dL_addWall_2 (by decide) ?_
  refine x_aload_n C dL_addWall_3 rfl ?_
  refine x_iload_n C dL_addWall_4 rfl ?_
  refine x_iload_n C dL_addWall_5 rfl ?_
  refine x_iload_n C dL_addWall_6 rfl ?_
  refine x_callVc C hT (pre := []) (x := (0, 12, 15, 13)) (suf := [(0, 12, 19, 15), (0, 12, 23, 17)]) hM cd_X1_addWall kl_L_7 ci1 rfl (by decide) (as := [_, _, _]) rfl rfl ⟨⟨by decide, by decide⟩, by decide, by decide⟩ (Nat.le_of_ble_eq_true rfl) dL_addWall_7 ⟨rfl, fun _ h => absurd h List.not_mem_nil, by decide, by decide, by decide +kernel, by decide +kernel⟩ (fun q => ?_)
  refine x_astore C (lo' := [(5, _), (0, _), (1, _), (2, _), (3, _), (4, _)]) dL_addWall_15 (by decide) rfl ?_
  refine x_iconst C (v := 1) dL_addWall_17 (by decide) ?_
  exact x_iret C hq ⟨by decide, by decide⟩ dL_addWall_18 (rfl) (rfl)
set_option maxHeartbeats 1000000 in
theorem qLeA_addWall {l : Launch} {g : GT} {M : Mem} {p0 p1 p2 : Int32} (hM : CE l yX1_addWall cX1_addWall 4 (some .int) rmX1_addWall_x g M [.ref (ga g 0), .int p0, .int p1, .int p2] eA) : CMW l yL_addWall cL_addWall 6 (some .int) hhL_addWall rmL_addWall_x g M [.ref (ga g 0), .int p0, .int p1, .int p2, .ref (ga g 37)] (some (.int 2)) M := by
  refine CMW.of (by decide) (Nat.le_of_ble_eq_true rfl) cwL_addWall.1 (fun X C hq hT => ?_)
  have C : Cx X g l cL_addWall 6 RL (some .int) rmL_addWall_x := C
  show V X g 0 0 0 [(0, .ref (ga g 0)), (1, .int p0), (2, .int p1), (3, .int p2), (4, .ref (ga g 37))] [] M
  refine x_aload C dL_addWall_0 rfl ?_
  refine x_iconst C (v := 0) dL_addWall_2 (by decide) ?_
  refine x_aload_n C dL_addWall_3 rfl ?_
  refine x_iload_n C dL_addWall_4 rfl ?_
  refine x_iload_n C dL_addWall_5 rfl ?_
  refine x_iload_n C dL_addWall_6 rfl ?_
  refine x_callVc C hT (pre := [(0, 12, 15, 13)]) (x := (0, 12, 19, 15)) (suf := [(0, 12, 23, 17)]) hM cd_X1_addWall kl_L_7 ci1 rfl (by decide) (as := [_, _, _]) rfl rfl ⟨⟨by decide, by decide⟩, by decide, by decide⟩ (Nat.le_of_ble_eq_true rfl) dL_addWall_7 ⟨rfl, List.forall_mem_cons.mpr ⟨⟨by decide, eB, by decide +kernel, by decide⟩, fun _ h => absurd h List.not_mem_nil⟩, by decide, by decide, by decide +kernel, by decide +kernel⟩ (fun q => ?_)
  refine x_astore C (lo' := [(5, _), (0, _), (1, _), (2, _), (3, _), (4, _)]) dL_addWall_19 (by decide) rfl ?_
  refine x_iconst C (v := 2) dL_addWall_21 (by decide) ?_
  exact x_iret C hq ⟨by decide, by decide⟩ dL_addWall_22 (rfl) (rfl)
set_option maxHeartbeats 1000000 in
theorem qLeS_addWall {l : Launch} {g : GT} {M : Mem} {p0 p1 p2 : Int32} (hM : CE l yX1_addWall cX1_addWall 4 (some .int) rmX1_addWall_x g M [.ref (ga g 0), .int p0, .int p1, .int p2] eS) : CMW l yL_addWall cL_addWall 6 (some .int) hhL_addWall rmL_addWall_x g M [.ref (ga g 0), .int p0, .int p1, .int p2, .ref (ga g 37)] (some (.int 3)) M := by
  refine CMW.of (by decide) (Nat.le_of_ble_eq_true rfl) cwL_addWall.1 (fun X C hq hT => ?_)
  have C : Cx X g l cL_addWall 6 RL (some .int) rmL_addWall_x := C
  show V X g 0 0 0 [(0, .ref (ga g 0)), (1, .int p0), (2, .int p1), (3, .int p2), (4, .ref (ga g 37))] [] M
  refine x_aload C dL_addWall_0 rfl ?_
  refine x_iconst C (v := 0) dL_addWall_2 (by decide) ?_
  refine x_aload_n C dL_addWall_3 rfl ?_
  refine x_iload_n C dL_addWall_4 rfl ?_
  refine x_iload_n C dL_addWall_5 rfl ?_
  refine x_iload_n C dL_addWall_6 rfl ?_
  refine x_callVc C hT (pre := [(0, 12, 15, 13), (0, 12, 19, 15)]) (x := (0, 12, 23, 17)) (suf := []) hM cd_X1_addWall kl_L_7 ci1 rfl (by decide) (as := [_, _, _]) rfl rfl ⟨⟨by decide, by decide⟩, by decide, by decide⟩ (Nat.le_of_ble_eq_true rfl) dL_addWall_7 ⟨rfl, List.forall_mem_cons.mpr ⟨⟨by decide, eB, by decide +kernel, by decide⟩, List.forall_mem_cons.mpr ⟨⟨by decide, eA, by decide +kernel, by decide⟩, fun _ h => absurd h List.not_mem_nil⟩⟩, by decide, by decide, by decide +kernel, by decide +kernel⟩ (fun q => ?_)
  refine x_astore C (lo' := [(5, _), (0, _), (1, _), (2, _), (3, _), (4, _)]) dL_addWall_23 (by decide) rfl ?_
  refine x_iconst C (v := 3) dL_addWall_25 (by decide) ?_
  exact x_iret C hq ⟨by decide, by decide⟩ dL_addWall_26 (rfl) (rfl)
abbrev hhL_hand : List (Nat × Nat × Nat × Nat) := [(0, 9, 12, 13)]
theorem cwL_hand : CDW yL_hand cL_hand 4 (some .int) hhL_hand 3 := ⟨⟨497, by decide +kernel⟩, by decide +kernel, by decide, by decide, by decide⟩
abbrev rmL_hand : Room := { frames := 2, cells := 0, slots := 0, locals := 42 }
set_option maxHeartbeats 1000000 in
theorem qL_hand {l : Launch} {g : GT} {M M' : Mem} {p0 : Int32} {v : Int32} (hM : CM l yX1_hand cX1_hand 2 (some .int) rmX1_hand g M [.ref (ga g 0), .int p0] (some (.int v)) M') : CMW l yL_hand cL_hand 4 (some .int) hhL_hand rmL_hand g M [.ref (ga g 0), .int p0, .ref (ga g 37)] (some (.int 0)) (wr M' 37 0 v) := by
  refine CMW.of (by decide) (Nat.le_of_ble_eq_true rfl) cwL_hand.1 (fun X C hq hT => ?_)
  have C : Cx X g l cL_hand 4 RL (some .int) rmL_hand := C
  show V X g 0 0 0 [(0, .ref (ga g 0)), (1, .int p0), (2, .ref (ga g 37))] [] M
  refine x_aload_n C dL_hand_0 rfl ?_
  refine x_iconst C (v := 0) dL_hand_1 (by decide) ?_
  refine x_aload_n C dL_hand_2 rfl ?_
  refine x_iload_n C dL_hand_3 rfl ?_
  refine x_callV0r C hM cd_X1_hand kl_L_19 ci1 rfl (by decide) (as := [_]) rfl rfl ⟨⟨by decide, by decide⟩, by decide, by decide⟩ ⟨rfl, rfl⟩ (Nat.le_of_ble_eq_true rfl) dL_hand_4 ?_
  refine x_i2l C dL_hand_7 ?_
  refine x_last C (n := 1) rfl (by decide) rfl (rfl) ((by decide : 0 < 1)) dL_hand_8 ?_
  refine x_goto C (tgt := 15) dL_hand_9 (by decide) ?_
  refine x_iconst C (v := 0) dL_hand_15 (by decide) ?_
  exact x_iret C hq ⟨by decide, by decide⟩ dL_hand_16 (rfl) (rfl)
abbrev rmL_hand_x : Room := { frames := 8, cells := 1, slots := 6, locals := 132 }
set_option maxHeartbeats 1000000 in
theorem qLeB_hand {l : Launch} {g : GT} {M : Mem} {p0 : Int32} (hM : CE l yX1_hand cX1_hand 2 (some .int) rmX1_hand_x g M [.ref (ga g 0), .int p0] eB) : CMW l yL_hand cL_hand 4 (some .int) hhL_hand rmL_hand_x g M [.ref (ga g 0), .int p0, .ref (ga g 37)] (some (.int 1)) M := by
  refine CMW.of (by decide) (Nat.le_of_ble_eq_true rfl) cwL_hand.1 (fun X C hq hT => ?_)
  have C : Cx X g l cL_hand 4 RL (some .int) rmL_hand_x := C
  show V X g 0 0 0 [(0, .ref (ga g 0)), (1, .int p0), (2, .ref (ga g 37))] [] M
  refine x_aload_n C dL_hand_0 rfl ?_
  refine x_iconst C (v := 0) dL_hand_1 (by decide) ?_
  refine x_aload_n C dL_hand_2 rfl ?_
  refine x_iload_n C dL_hand_3 rfl ?_
  refine x_callVc C hT (pre := []) (x := (0, 9, 12, 13)) (suf := []) hM cd_X1_hand kl_L_19 ci1 rfl (by decide) (as := [_]) rfl rfl ⟨⟨by decide, by decide⟩, by decide, by decide⟩ (Nat.le_of_ble_eq_true rfl) dL_hand_4 ⟨rfl, fun _ h => absurd h List.not_mem_nil, by decide, by decide, by decide +kernel, by decide +kernel⟩ (fun q => ?_)
  refine x_astore_n C (lo' := [(3, _), (0, _), (1, _), (2, _)]) dL_hand_12 (by decide) rfl ?_
  refine x_iconst C (v := 1) dL_hand_13 (by decide) ?_
  exact x_iret C hq ⟨by decide, by decide⟩ dL_hand_14 (rfl) (rfl)
abbrev hhL_setSnow : List (Nat × Nat × Nat × Nat) := [(0, 10, 13, 13), (0, 10, 17, 15)]
theorem cwL_setSnow : CDW yL_setSnow cL_setSnow 5 (some .int) hhL_setSnow 4 := ⟨⟨505, by decide +kernel⟩, by decide +kernel, by decide, by decide, by decide⟩
abbrev rmL_setSnow : Room := { frames := 3, cells := 0, slots := 0, locals := 63 }
set_option maxHeartbeats 1000000 in
theorem qL_setSnow {l : Launch} {g : GT} {M M' : Mem} {p0 p1 : Int32} {v : Int32} (hM : CM l yX1_setSnow cX1_setSnow 4 (some .int) rmX1_setSnow g M [.ref (ga g 0), .int p0, .int p1] (some (.int v)) M') : CMW l yL_setSnow cL_setSnow 5 (some .int) hhL_setSnow rmL_setSnow g M [.ref (ga g 0), .int p0, .int p1, .ref (ga g 37)] (some (.int 0)) (wr M' 37 0 v) := by
  refine CMW.of (by decide) (Nat.le_of_ble_eq_true rfl) cwL_setSnow.1 (fun X C hq hT => ?_)
  have C : Cx X g l cL_setSnow 5 RL (some .int) rmL_setSnow := C
  show V X g 0 0 0 [(0, .ref (ga g 0)), (1, .int p0), (2, .int p1), (3, .ref (ga g 37))] [] M
  refine x_aload_n C dL_setSnow_0 rfl ?_
  refine x_iconst C (v := 0) dL_setSnow_1 (by decide) ?_
  refine x_aload_n C dL_setSnow_2 rfl ?_
  refine x_iload_n C dL_setSnow_3 rfl ?_
  refine x_iload_n C dL_setSnow_4 rfl ?_
  refine x_callV0r C hM cd_X1_setSnow kl_L_23 ci1 rfl (by decide) (as := [_, _]) rfl rfl ⟨⟨by decide, by decide⟩, by decide, by decide⟩ ⟨rfl, rfl⟩ (Nat.le_of_ble_eq_true rfl) dL_setSnow_5 ?_
  refine x_i2l C dL_setSnow_8 ?_
  refine x_last C (n := 1) rfl (by decide) rfl (rfl) ((by decide : 0 < 1)) dL_setSnow_9 ?_
  refine x_goto C (tgt := 21) dL_setSnow_10 (by decide) ?_
  refine x_iconst C (v := 0) dL_setSnow_21 (by decide) ?_
  exact x_iret C hq ⟨by decide, by decide⟩ dL_setSnow_22 (rfl) (rfl)
abbrev rmL_setSnow_x : Room := { frames := 8, cells := 1, slots := 6, locals := 133 }
set_option maxHeartbeats 1000000 in
theorem qLeB_setSnow {l : Launch} {g : GT} {M : Mem} {p0 p1 : Int32} (hM : CE l yX1_setSnow cX1_setSnow 4 (some .int) rmX1_setSnow_x g M [.ref (ga g 0), .int p0, .int p1] eB) : CMW l yL_setSnow cL_setSnow 5 (some .int) hhL_setSnow rmL_setSnow_x g M [.ref (ga g 0), .int p0, .int p1, .ref (ga g 37)] (some (.int 1)) M := by
  refine CMW.of (by decide) (Nat.le_of_ble_eq_true rfl) cwL_setSnow.1 (fun X C hq hT => ?_)
  have C : Cx X g l cL_setSnow 5 RL (some .int) rmL_setSnow_x := C
  show V X g 0 0 0 [(0, .ref (ga g 0)), (1, .int p0), (2, .int p1), (3, .ref (ga g 37))] [] M
  refine x_aload_n C dL_setSnow_0 rfl ?_
  refine x_iconst C (v := 0) dL_setSnow_1 (by decide) ?_
  refine x_aload_n C dL_setSnow_2 rfl ?_
  refine x_iload_n C dL_setSnow_3 rfl ?_
  refine x_iload_n C dL_setSnow_4 rfl ?_
  refine x_callVc C hT (pre := []) (x := (0, 10, 13, 13)) (suf := [(0, 10, 17, 15)]) hM cd_X1_setSnow kl_L_23 ci1 rfl (by decide) (as := [_, _]) rfl rfl ⟨⟨by decide, by decide⟩, by decide, by decide⟩ (Nat.le_of_ble_eq_true rfl) dL_setSnow_5 ⟨rfl, fun _ h => absurd h List.not_mem_nil, by decide, by decide, by decide +kernel, by decide +kernel⟩ (fun q => ?_)
  refine x_astore C (lo' := [(4, _), (0, _), (1, _), (2, _), (3, _)]) dL_setSnow_13 (by decide) rfl ?_
  refine x_iconst C (v := 1) dL_setSnow_15 (by decide) ?_
  exact x_iret C hq ⟨by decide, by decide⟩ dL_setSnow_16 (rfl) (rfl)
set_option maxHeartbeats 1000000 in
theorem qLeA_setSnow {l : Launch} {g : GT} {M : Mem} {p0 p1 : Int32} (hM : CE l yX1_setSnow cX1_setSnow 4 (some .int) rmX1_setSnow_x g M [.ref (ga g 0), .int p0, .int p1] eA) : CMW l yL_setSnow cL_setSnow 5 (some .int) hhL_setSnow rmL_setSnow_x g M [.ref (ga g 0), .int p0, .int p1, .ref (ga g 37)] (some (.int 2)) M := by
  refine CMW.of (by decide) (Nat.le_of_ble_eq_true rfl) cwL_setSnow.1 (fun X C hq hT => ?_)
  have C : Cx X g l cL_setSnow 5 RL (some .int) rmL_setSnow_x := C
  show V X g 0 0 0 [(0, .ref (ga g 0)), (1, .int p0), (2, .int p1), (3, .ref (ga g 37))] [] M
  refine x_aload_n C dL_setSnow_0 rfl ?_
  refine x_iconst C (v := 0) dL_setSnow_1 (by decide) ?_
  refine x_aload_n C dL_setSnow_2 rfl ?_
  refine x_iload_n C dL_setSnow_3 rfl ?_
  refine x_iload_n C dL_setSnow_4 rfl ?_
  refine x_callVc C hT (pre := [(0, 10, 13, 13)]) (x := (0, 10, 17, 15)) (suf := []) hM cd_X1_setSnow kl_L_23 ci1 rfl (by decide) (as := [_, _]) rfl rfl ⟨⟨by decide, by decide⟩, by decide, by decide⟩ (Nat.le_of_ble_eq_true rfl) dL_setSnow_5 ⟨rfl, List.forall_mem_cons.mpr ⟨⟨by decide, eB, by decide +kernel, by decide⟩, fun _ h => absurd h List.not_mem_nil⟩, by decide, by decide, by decide +kernel, by decide +kernel⟩ (fun q => ?_)
  refine x_astore C (lo' := [(4, _), (0, _), (1, _), (2, _), (3, _)]) dL_setSnow_17 (by decide) rfl ?_
  refine x_iconst C (v := 2) dL_setSnow_19 (by decide) ?_
  exact x_iret C hq ⟨by decide, by decide⟩ dL_setSnow_20 (rfl) (rfl)
abbrev hhL_shout : List (Nat × Nat × Nat × Nat) := [(0, 12, 15, 13), (0, 12, 19, 15), (0, 12, 23, 17)]
theorem cwL_shout : CDW yL_shout cL_shout 6 (some .int) hhL_shout 5 := ⟨⟨513, by decide +kernel⟩, by decide +kernel, by decide, by decide, by decide⟩
abbrev rmL_shout : Room := { frames := 3, cells := 0, slots := 0, locals := 63 }
set_option maxHeartbeats 1000000 in
theorem qL_shout {l : Launch} {g : GT} {M M' : Mem} {p0 p1 p2 : Int32} {v : Int32} (hM : CM l yX1_shout cX1_shout 4 (some .int) rmX1_shout g M [.ref (ga g 0), .int p0, .int p1, .int p2] (some (.int v)) M') : CMW l yL_shout cL_shout 6 (some .int) hhL_shout rmL_shout g M [.ref (ga g 0), .int p0, .int p1, .int p2, .ref (ga g 37)] (some (.int 0)) (wr M' 37 0 v) := by
  refine CMW.of (by decide) (Nat.le_of_ble_eq_true rfl) cwL_shout.1 (fun X C hq hT => ?_)
  have C : Cx X g l cL_shout 6 RL (some .int) rmL_shout := C
  show V X g 0 0 0 [(0, .ref (ga g 0)), (1, .int p0), (2, .int p1), (3, .int p2), (4, .ref (ga g 37))] [] M
  refine x_aload C dL_shout_0 rfl ?_
  refine x_iconst C (v := 0) dL_shout_2 (by decide) ?_
  refine x_aload_n C dL_shout_3 rfl ?_
  refine x_iload_n C dL_shout_4 rfl ?_
  refine x_iload_n C dL_shout_5 rfl ?_
  refine x_iload_n C dL_shout_6 rfl ?_
  refine x_callV0r C hM cd_X1_shout kl_L_27 ci1 rfl (by decide) (as := [_, _, _]) rfl rfl ⟨⟨by decide, by decide⟩, by decide, by decide⟩ ⟨rfl, rfl⟩ (Nat.le_of_ble_eq_true rfl) dL_shout_7 ?_
  refine x_i2l C dL_shout_10 ?_
  refine x_last C (n := 1) rfl (by decide) rfl (rfl) ((by decide : 0 < 1)) dL_shout_11 ?_
  refine x_goto C (tgt := 27) dL_shout_12 (by decide) ?_
  refine x_iconst C (v := 0) dL_shout_27 (by decide) ?_
  exact x_iret C hq ⟨by decide, by decide⟩ dL_shout_28 (rfl) (rfl)
abbrev rmL_shout_x : Room := { frames := 8, cells := 1, slots := 6, locals := 133 }
set_option maxHeartbeats 1000000 in
theorem qLeB_shout {l : Launch} {g : GT} {M : Mem} {p0 p1 p2 : Int32} (hM : CE l yX1_shout cX1_shout 4 (some .int) rmX1_shout_x g M [.ref (ga g 0), .int p0, .int p1, .int p2] eB) : CMW l yL_shout cL_shout 6 (some .int) hhL_shout rmL_shout_x g M [.ref (ga g 0), .int p0, .int p1, .int p2, .ref (ga g 37)] (some (.int 1)) M := by
  refine CMW.of (by decide) (Nat.le_of_ble_eq_true rfl) cwL_shout.1 (fun X C hq hT => ?_)
  have C : Cx X g l cL_shout 6 RL (some .int) rmL_shout_x := C
  show V X g 0 0 0 [(0, .ref (ga g 0)), (1, .int p0), (2, .int p1), (3, .int p2), (4, .ref (ga g 37))] [] M
  refine x_aload C dL_shout_0 rfl ?_
  refine x_iconst C (v := 0) dL_shout_2 (by decide) ?_
  refine x_aload_n C dL_shout_3 rfl ?_
  refine x_iload_n C dL_shout_4 rfl ?_
  refine x_iload_n C dL_shout_5 rfl ?_
  refine x_iload_n C dL_shout_6 rfl ?_
  refine x_callVc C hT (pre := []) (x := (0, 12, 15, 13)) (suf := [(0, 12, 19, 15), (0, 12, 23, 17)]) hM cd_X1_shout kl_L_27 ci1 rfl (by decide) (as := [_, _, _]) rfl rfl ⟨⟨by decide, by decide⟩, by decide, by decide⟩ (Nat.le_of_ble_eq_true rfl) dL_shout_7 ⟨rfl, fun _ h => absurd h List.not_mem_nil, by decide, by decide, by decide +kernel, by decide +kernel⟩ (fun q => ?_)
  refine x_astore C (lo' := [(5, _), (0, _), (1, _), (2, _), (3, _), (4, _)]) dL_shout_15 (by decide) rfl ?_
  refine x_iconst C (v := 1) dL_shout_17 (by decide) ?_
  exact x_iret C hq ⟨by decide, by decide⟩ dL_shout_18 (rfl) (rfl)
set_option maxHeartbeats 1000000 in
theorem qLeA_shout {l : Launch} {g : GT} {M : Mem} {p0 p1 p2 : Int32} (hM : CE l yX1_shout cX1_shout 4 (some .int) rmX1_shout_x g M [.ref (ga g 0), .int p0, .int p1, .int p2] eA) : CMW l yL_shout cL_shout 6 (some .int) hhL_shout rmL_shout_x g M [.ref (ga g 0), .int p0, .int p1, .int p2, .ref (ga g 37)] (some (.int 2)) M := by
  refine CMW.of (by decide) (Nat.le_of_ble_eq_true rfl) cwL_shout.1 (fun X C hq hT => ?_)
  have C : Cx X g l cL_shout 6 RL (some .int) rmL_shout_x := C
  show V X g 0 0 0 [(0, .ref (ga g 0)), (1, .int p0), (2, .int p1), (3, .int p2), (4, .ref (ga g 37))] [] M
  refine x_aload C dL_shout_0 rfl ?_
  refine x_iconst C (v := 0) dL_shout_2 (by decide) ?_
  refine x_aload_n C dL_shout_3 rfl ?_
  refine x_iload_n C dL_shout_4 rfl ?_
  refine x_iload_n C dL_shout_5 rfl ?_
  refine x_iload_n C dL_shout_6 rfl ?_
  refine x_callVc C hT (pre := [(0, 12, 15, 13)]) (x := (0, 12, 19, 15)) (suf := [(0, 12, 23, 17)]) hM cd_X1_shout kl_L_27 ci1 rfl (by decide) (as := [_, _, _]) rfl rfl ⟨⟨by decide, by decide⟩, by decide, by decide⟩ (Nat.le_of_ble_eq_true rfl) dL_shout_7 ⟨rfl, List.forall_mem_cons.mpr ⟨⟨by decide, eB, by decide +kernel, by decide⟩, fun _ h => absurd h List.not_mem_nil⟩, by decide, by decide, by decide +kernel, by decide +kernel⟩ (fun q => ?_)
  refine x_astore C (lo' := [(5, _), (0, _), (1, _), (2, _), (3, _), (4, _)]) dL_shout_19 (by decide) rfl ?_
  refine x_iconst C (v := 2) dL_shout_21 (by decide) ?_
  exact x_iret C hq ⟨by decide, by decide⟩ dL_shout_22 (rfl) (rfl)
set_option maxHeartbeats 1000000 in
theorem qLeS_shout {l : Launch} {g : GT} {M : Mem} {p0 p1 p2 : Int32} (hM : CE l yX1_shout cX1_shout 4 (some .int) rmX1_shout_x g M [.ref (ga g 0), .int p0, .int p1, .int p2] eS) : CMW l yL_shout cL_shout 6 (some .int) hhL_shout rmL_shout_x g M [.ref (ga g 0), .int p0, .int p1, .int p2, .ref (ga g 37)] (some (.int 3)) M := by
  refine CMW.of (by decide) (Nat.le_of_ble_eq_true rfl) cwL_shout.1 (fun X C hq hT => ?_)
  have C : Cx X g l cL_shout 6 RL (some .int) rmL_shout_x := C
  show V X g 0 0 0 [(0, .ref (ga g 0)), (1, .int p0), (2, .int p1), (3, .int p2), (4, .ref (ga g 37))] [] M
  refine x_aload C dL_shout_0 rfl ?_
  refine x_iconst C (v := 0) dL_shout_2 (by decide) ?_
  refine x_aload_n C dL_shout_3 rfl ?_
  refine x_iload_n C dL_shout_4 rfl ?_
  refine x_iload_n C dL_shout_5 rfl ?_
  refine x_iload_n C dL_shout_6 rfl ?_
  refine x_callVc C hT (pre := [(0, 12, 15, 13), (0, 12, 19, 15)]) (x := (0, 12, 23, 17)) (suf := []) hM cd_X1_shout kl_L_27 ci1 rfl (by decide) (as := [_, _, _]) rfl rfl ⟨⟨by decide, by decide⟩, by decide, by decide⟩ (Nat.le_of_ble_eq_true rfl) dL_shout_7 ⟨rfl, List.forall_mem_cons.mpr ⟨⟨by decide, eB, by decide +kernel, by decide⟩, List.forall_mem_cons.mpr ⟨⟨by decide, eA, by decide +kernel, by decide⟩, fun _ h => absurd h List.not_mem_nil⟩⟩, by decide, by decide, by decide +kernel, by decide +kernel⟩ (fun q => ?_)
  refine x_astore C (lo' := [(5, _), (0, _), (1, _), (2, _), (3, _), (4, _)]) dL_shout_23 (by decide) rfl ?_
  refine x_iconst C (v := 3) dL_shout_25 (by decide) ?_
  exact x_iret C hq ⟨by decide, by decide⟩ dL_shout_26 (rfl) (rfl)
abbrev hhL_pass : List (Nat × Nat × Nat × Nat) := [(0, 9, 12, 15)]
theorem cwL_pass : CDW yL_pass cL_pass 4 (some .int) hhL_pass 3 := ⟨⟨523, by decide +kernel⟩, by decide +kernel, by decide, by decide, by decide⟩
abbrev rmL_pass : Room := { frames := 5, cells := 0, slots := 0, locals := 111 }
set_option maxHeartbeats 1000000 in
theorem qL_pass {l : Launch} {g : GT} {M M' : Mem} {p0 : Int32} {v : Int32} (hM : CM l yX1_pass cX1_pass 4 (some .int) rmX1_pass g M [.ref (ga g 0), .int p0] (some (.int v)) M') : CMW l yL_pass cL_pass 4 (some .int) hhL_pass rmL_pass g M [.ref (ga g 0), .int p0, .ref (ga g 37)] (some (.int 0)) (wr M' 37 0 v) := by
  refine CMW.of (by decide) (Nat.le_of_ble_eq_true rfl) cwL_pass.1 (fun X C hq hT => ?_)
  have C : Cx X g l cL_pass 4 RL (some .int) rmL_pass := C
  show V X g 0 0 0 [(0, .ref (ga g 0)), (1, .int p0), (2, .ref (ga g 37))] [] M
  refine x_aload_n C dL_pass_0 rfl ?_
  refine x_iconst C (v := 0) dL_pass_1 (by decide) ?_
  refine x_aload_n C dL_pass_2 rfl ?_
  refine x_iload_n C dL_pass_3 rfl ?_
  refine x_callV0r C hM cd_X1_pass kl_L_31 ci1 rfl (by decide) (as := [_]) rfl rfl ⟨⟨by decide, by decide⟩, by decide, by decide⟩ ⟨rfl, rfl⟩ (Nat.le_of_ble_eq_true rfl) dL_pass_4 ?_
  refine x_i2l C dL_pass_7 ?_
  refine x_last C (n := 1) rfl (by decide) rfl (rfl) ((by decide : 0 < 1)) dL_pass_8 ?_
  refine x_goto C (tgt := 15) dL_pass_9 (by decide) ?_
  refine x_iconst C (v := 0) dL_pass_15 (by decide) ?_
  exact x_iret C hq ⟨by decide, by decide⟩ dL_pass_16 (rfl) (rfl)
abbrev rmL_pass_x : Room := { frames := 8, cells := 1, slots := 6, locals := 133 }
set_option maxHeartbeats 1000000 in
theorem qLeA_pass {l : Launch} {g : GT} {M : Mem} {p0 : Int32} (hM : CE l yX1_pass cX1_pass 4 (some .int) rmX1_pass_x g M [.ref (ga g 0), .int p0] eA) : CMW l yL_pass cL_pass 4 (some .int) hhL_pass rmL_pass_x g M [.ref (ga g 0), .int p0, .ref (ga g 37)] (some (.int 1)) M := by
  refine CMW.of (by decide) (Nat.le_of_ble_eq_true rfl) cwL_pass.1 (fun X C hq hT => ?_)
  have C : Cx X g l cL_pass 4 RL (some .int) rmL_pass_x := C
  show V X g 0 0 0 [(0, .ref (ga g 0)), (1, .int p0), (2, .ref (ga g 37))] [] M
  refine x_aload_n C dL_pass_0 rfl ?_
  refine x_iconst C (v := 0) dL_pass_1 (by decide) ?_
  refine x_aload_n C dL_pass_2 rfl ?_
  refine x_iload_n C dL_pass_3 rfl ?_
  refine x_callVc C hT (pre := []) (x := (0, 9, 12, 15)) (suf := []) hM cd_X1_pass kl_L_31 ci1 rfl (by decide) (as := [_]) rfl rfl ⟨⟨by decide, by decide⟩, by decide, by decide⟩ (Nat.le_of_ble_eq_true rfl) dL_pass_4 ⟨rfl, fun _ h => absurd h List.not_mem_nil, by decide, by decide, by decide +kernel, by decide +kernel⟩ (fun q => ?_)
  refine x_astore_n C (lo' := [(3, _), (0, _), (1, _), (2, _)]) dL_pass_12 (by decide) rfl ?_
  refine x_iconst C (v := 1) dL_pass_13 (by decide) ?_
  exact x_iret C hq ⟨by decide, by decide⟩ dL_pass_14 (rfl) (rfl)
abbrev hhL_snowOn : List (Nat × Nat × Nat × Nat) := [(0, 9, 12, 13)]
theorem cwL_snowOn : CDW yL_snowOn cL_snowOn 4 (some .int) hhL_snowOn 3 := ⟨⟨530, by decide +kernel⟩, by decide +kernel, by decide, by decide, by decide⟩
abbrev rmL_snowOn : Room := { frames := 3, cells := 0, slots := 0, locals := 61 }
set_option maxHeartbeats 1000000 in
theorem qL_snowOn {l : Launch} {g : GT} {M M' : Mem} {p0 : Int32} {v : Int32} (hM : CM l yX1_snowOn cX1_snowOn 2 (some .int) rmX1_snowOn g M [.ref (ga g 0), .int p0] (some (.int v)) M') : CMW l yL_snowOn cL_snowOn 4 (some .int) hhL_snowOn rmL_snowOn g M [.ref (ga g 0), .int p0, .ref (ga g 37)] (some (.int 0)) (wr M' 37 0 v) := by
  refine CMW.of (by decide) (Nat.le_of_ble_eq_true rfl) cwL_snowOn.1 (fun X C hq hT => ?_)
  have C : Cx X g l cL_snowOn 4 RL (some .int) rmL_snowOn := C
  show V X g 0 0 0 [(0, .ref (ga g 0)), (1, .int p0), (2, .ref (ga g 37))] [] M
  refine x_aload_n C dL_snowOn_0 rfl ?_
  refine x_iconst C (v := 0) dL_snowOn_1 (by decide) ?_
  refine x_aload_n C dL_snowOn_2 rfl ?_
  refine x_iload_n C dL_snowOn_3 rfl ?_
  refine x_callV0r C hM cd_X1_snowOn kl_L_34 ci1 rfl (by decide) (as := [_]) rfl rfl ⟨⟨by decide, by decide⟩, by decide, by decide⟩ ⟨rfl, rfl⟩ (Nat.le_of_ble_eq_true rfl) dL_snowOn_4 ?_
  refine x_i2l C dL_snowOn_7 ?_
  refine x_last C (n := 1) rfl (by decide) rfl (rfl) ((by decide : 0 < 1)) dL_snowOn_8 ?_
  refine x_goto C (tgt := 15) dL_snowOn_9 (by decide) ?_
  refine x_iconst C (v := 0) dL_snowOn_15 (by decide) ?_
  exact x_iret C hq ⟨by decide, by decide⟩ dL_snowOn_16 (rfl) (rfl)
abbrev rmL_snowOn_x : Room := { frames := 8, cells := 1, slots := 6, locals := 131 }
set_option maxHeartbeats 1000000 in
theorem qLeB_snowOn {l : Launch} {g : GT} {M : Mem} {p0 : Int32} (hM : CE l yX1_snowOn cX1_snowOn 2 (some .int) rmX1_snowOn_x g M [.ref (ga g 0), .int p0] eB) : CMW l yL_snowOn cL_snowOn 4 (some .int) hhL_snowOn rmL_snowOn_x g M [.ref (ga g 0), .int p0, .ref (ga g 37)] (some (.int 1)) M := by
  refine CMW.of (by decide) (Nat.le_of_ble_eq_true rfl) cwL_snowOn.1 (fun X C hq hT => ?_)
  have C : Cx X g l cL_snowOn 4 RL (some .int) rmL_snowOn_x := C
  show V X g 0 0 0 [(0, .ref (ga g 0)), (1, .int p0), (2, .ref (ga g 37))] [] M
  refine x_aload_n C dL_snowOn_0 rfl ?_
  refine x_iconst C (v := 0) dL_snowOn_1 (by decide) ?_
  refine x_aload_n C dL_snowOn_2 rfl ?_
  refine x_iload_n C dL_snowOn_3 rfl ?_
  refine x_callVc C hT (pre := []) (x := (0, 9, 12, 13)) (suf := []) hM cd_X1_snowOn kl_L_34 ci1 rfl (by decide) (as := [_]) rfl rfl ⟨⟨by decide, by decide⟩, by decide, by decide⟩ (Nat.le_of_ble_eq_true rfl) dL_snowOn_4 ⟨rfl, fun _ h => absurd h List.not_mem_nil, by decide, by decide, by decide +kernel, by decide +kernel⟩ (fun q => ?_)
  refine x_astore_n C (lo' := [(3, _), (0, _), (1, _), (2, _)]) dL_snowOn_12 (by decide) rfl ?_
  refine x_iconst C (v := 1) dL_snowOn_13 (by decide) ?_
  exact x_iret C hq ⟨by decide, by decide⟩ dL_snowOn_14 (rfl) (rfl)
abbrev hhL_wallOn : List (Nat × Nat × Nat × Nat) := [(0, 9, 12, 13)]
theorem cwL_wallOn : CDW yL_wallOn cL_wallOn 4 (some .int) hhL_wallOn 3 := ⟨⟨534, by decide +kernel⟩, by decide +kernel, by decide, by decide, by decide⟩
abbrev rmL_wallOn : Room := { frames := 3, cells := 0, slots := 0, locals := 61 }
set_option maxHeartbeats 1000000 in
theorem qL_wallOn {l : Launch} {g : GT} {M M' : Mem} {p0 : Int32} {v : Int32} (hM : CM l yX1_wallOn cX1_wallOn 2 (some .int) rmX1_wallOn g M [.ref (ga g 0), .int p0] (some (.int v)) M') : CMW l yL_wallOn cL_wallOn 4 (some .int) hhL_wallOn rmL_wallOn g M [.ref (ga g 0), .int p0, .ref (ga g 37)] (some (.int 0)) (wr M' 37 0 v) := by
  refine CMW.of (by decide) (Nat.le_of_ble_eq_true rfl) cwL_wallOn.1 (fun X C hq hT => ?_)
  have C : Cx X g l cL_wallOn 4 RL (some .int) rmL_wallOn := C
  show V X g 0 0 0 [(0, .ref (ga g 0)), (1, .int p0), (2, .ref (ga g 37))] [] M
  refine x_aload_n C dL_wallOn_0 rfl ?_
  refine x_iconst C (v := 0) dL_wallOn_1 (by decide) ?_
  refine x_aload_n C dL_wallOn_2 rfl ?_
  refine x_iload_n C dL_wallOn_3 rfl ?_
  refine x_callV0r C hM cd_X1_wallOn kl_L_37 ci1 rfl (by decide) (as := [_]) rfl rfl ⟨⟨by decide, by decide⟩, by decide, by decide⟩ ⟨rfl, rfl⟩ (Nat.le_of_ble_eq_true rfl) dL_wallOn_4 ?_
  refine x_i2l C dL_wallOn_7 ?_
  refine x_last C (n := 1) rfl (by decide) rfl (rfl) ((by decide : 0 < 1)) dL_wallOn_8 ?_
  refine x_goto C (tgt := 15) dL_wallOn_9 (by decide) ?_
  refine x_iconst C (v := 0) dL_wallOn_15 (by decide) ?_
  exact x_iret C hq ⟨by decide, by decide⟩ dL_wallOn_16 (rfl) (rfl)
abbrev rmL_wallOn_x : Room := { frames := 8, cells := 1, slots := 6, locals := 131 }
set_option maxHeartbeats 1000000 in
theorem qLeB_wallOn {l : Launch} {g : GT} {M : Mem} {p0 : Int32} (hM : CE l yX1_wallOn cX1_wallOn 2 (some .int) rmX1_wallOn_x g M [.ref (ga g 0), .int p0] eB) : CMW l yL_wallOn cL_wallOn 4 (some .int) hhL_wallOn rmL_wallOn_x g M [.ref (ga g 0), .int p0, .ref (ga g 37)] (some (.int 1)) M := by
  refine CMW.of (by decide) (Nat.le_of_ble_eq_true rfl) cwL_wallOn.1 (fun X C hq hT => ?_)
  have C : Cx X g l cL_wallOn 4 RL (some .int) rmL_wallOn_x := C
  show V X g 0 0 0 [(0, .ref (ga g 0)), (1, .int p0), (2, .ref (ga g 37))] [] M
  refine x_aload_n C dL_wallOn_0 rfl ?_
  refine x_iconst C (v := 0) dL_wallOn_1 (by decide) ?_
  refine x_aload_n C dL_wallOn_2 rfl ?_
  refine x_iload_n C dL_wallOn_3 rfl ?_
  refine x_callVc C hT (pre := []) (x := (0, 9, 12, 13)) (suf := []) hM cd_X1_wallOn kl_L_37 ci1 rfl (by decide) (as := [_]) rfl rfl ⟨⟨by decide, by decide⟩, by decide, by decide⟩ (Nat.le_of_ble_eq_true rfl) dL_wallOn_4 ⟨rfl, fun _ h => absurd h List.not_mem_nil, by decide, by decide, by decide +kernel, by decide +kernel⟩ (fun q => ?_)
  refine x_astore_n C (lo' := [(3, _), (0, _), (1, _), (2, _)]) dL_wallOn_12 (by decide) rfl ?_
  refine x_iconst C (v := 1) dL_wallOn_13 (by decide) ?_
  exact x_iret C hq ⟨by decide, by decide⟩ dL_wallOn_14 (rfl) (rfl)
abbrev hhL_loudOn : List (Nat × Nat × Nat × Nat) := [(0, 9, 12, 13)]
theorem cwL_loudOn : CDW yL_loudOn cL_loudOn 4 (some .int) hhL_loudOn 3 := ⟨⟨541, by decide +kernel⟩, by decide +kernel, by decide, by decide, by decide⟩
abbrev rmL_loudOn : Room := { frames := 3, cells := 0, slots := 0, locals := 61 }
set_option maxHeartbeats 1000000 in
theorem qL_loudOn {l : Launch} {g : GT} {M M' : Mem} {p0 : Int32} {v : Int32} (hM : CM l yX1_loudOn cX1_loudOn 2 (some .int) rmX1_loudOn g M [.ref (ga g 0), .int p0] (some (.int v)) M') : CMW l yL_loudOn cL_loudOn 4 (some .int) hhL_loudOn rmL_loudOn g M [.ref (ga g 0), .int p0, .ref (ga g 37)] (some (.int 0)) (wr M' 37 0 v) := by
  refine CMW.of (by decide) (Nat.le_of_ble_eq_true rfl) cwL_loudOn.1 (fun X C hq hT => ?_)
  have C : Cx X g l cL_loudOn 4 RL (some .int) rmL_loudOn := C
  show V X g 0 0 0 [(0, .ref (ga g 0)), (1, .int p0), (2, .ref (ga g 37))] [] M
  refine x_aload_n C dL_loudOn_0 rfl ?_
  refine x_iconst C (v := 0) dL_loudOn_1 (by decide) ?_
  refine x_aload_n C dL_loudOn_2 rfl ?_
  refine x_iload_n C dL_loudOn_3 rfl ?_
  refine x_callV0r C hM cd_X1_loudOn kl_L_40 ci1 rfl (by decide) (as := [_]) rfl rfl ⟨⟨by decide, by decide⟩, by decide, by decide⟩ ⟨rfl, rfl⟩ (Nat.le_of_ble_eq_true rfl) dL_loudOn_4 ?_
  refine x_i2l C dL_loudOn_7 ?_
  refine x_last C (n := 1) rfl (by decide) rfl (rfl) ((by decide : 0 < 1)) dL_loudOn_8 ?_
  refine x_goto C (tgt := 15) dL_loudOn_9 (by decide) ?_
  refine x_iconst C (v := 0) dL_loudOn_15 (by decide) ?_
  exact x_iret C hq ⟨by decide, by decide⟩ dL_loudOn_16 (rfl) (rfl)
abbrev rmL_loudOn_x : Room := { frames := 8, cells := 1, slots := 6, locals := 131 }
set_option maxHeartbeats 1000000 in
theorem qLeB_loudOn {l : Launch} {g : GT} {M : Mem} {p0 : Int32} (hM : CE l yX1_loudOn cX1_loudOn 2 (some .int) rmX1_loudOn_x g M [.ref (ga g 0), .int p0] eB) : CMW l yL_loudOn cL_loudOn 4 (some .int) hhL_loudOn rmL_loudOn_x g M [.ref (ga g 0), .int p0, .ref (ga g 37)] (some (.int 1)) M := by
  refine CMW.of (by decide) (Nat.le_of_ble_eq_true rfl) cwL_loudOn.1 (fun X C hq hT => ?_)
  have C : Cx X g l cL_loudOn 4 RL (some .int) rmL_loudOn_x := C
  show V X g 0 0 0 [(0, .ref (ga g 0)), (1, .int p0), (2, .ref (ga g 37))] [] M
  refine x_aload_n C dL_loudOn_0 rfl ?_
  refine x_iconst C (v := 0) dL_loudOn_1 (by decide) ?_
  refine x_aload_n C dL_loudOn_2 rfl ?_
  refine x_iload_n C dL_loudOn_3 rfl ?_
  refine x_callVc C hT (pre := []) (x := (0, 9, 12, 13)) (suf := []) hM cd_X1_loudOn kl_L_40 ci1 rfl (by decide) (as := [_]) rfl rfl ⟨⟨by decide, by decide⟩, by decide, by decide⟩ (Nat.le_of_ble_eq_true rfl) dL_loudOn_4 ⟨rfl, fun _ h => absurd h List.not_mem_nil, by decide, by decide, by decide +kernel, by decide +kernel⟩ (fun q => ?_)
  refine x_astore_n C (lo' := [(3, _), (0, _), (1, _), (2, _)]) dL_loudOn_12 (by decide) rfl ?_
  refine x_iconst C (v := 1) dL_loudOn_13 (by decide) ?_
  exact x_iret C hq ⟨by decide, by decide⟩ dL_loudOn_14 (rfl) (rfl)
abbrev hhL_stoneOf : List (Nat × Nat × Nat × Nat) := [(0, 9, 12, 13)]
theorem cwL_stoneOf : CDW yL_stoneOf cL_stoneOf 4 (some .int) hhL_stoneOf 3 := ⟨⟨545, by decide +kernel⟩, by decide +kernel, by decide, by decide, by decide⟩
abbrev rmL_stoneOf : Room := { frames := 2, cells := 0, slots := 0, locals := 42 }
set_option maxHeartbeats 1000000 in
theorem qL_stoneOf {l : Launch} {g : GT} {M M' : Mem} {p0 : Int32} {v : Int32} (hM : CM l yX1_stoneOf cX1_stoneOf 2 (some .int) rmX1_stoneOf g M [.ref (ga g 0), .int p0] (some (.int v)) M') : CMW l yL_stoneOf cL_stoneOf 4 (some .int) hhL_stoneOf rmL_stoneOf g M [.ref (ga g 0), .int p0, .ref (ga g 37)] (some (.int 0)) (wr M' 37 0 v) := by
  refine CMW.of (by decide) (Nat.le_of_ble_eq_true rfl) cwL_stoneOf.1 (fun X C hq hT => ?_)
  have C : Cx X g l cL_stoneOf 4 RL (some .int) rmL_stoneOf := C
  show V X g 0 0 0 [(0, .ref (ga g 0)), (1, .int p0), (2, .ref (ga g 37))] [] M
  refine x_aload_n C dL_stoneOf_0 rfl ?_
  refine x_iconst C (v := 0) dL_stoneOf_1 (by decide) ?_
  refine x_aload_n C dL_stoneOf_2 rfl ?_
  refine x_iload_n C dL_stoneOf_3 rfl ?_
  refine x_callV0r C hM cd_X1_stoneOf kl_L_43 ci1 rfl (by decide) (as := [_]) rfl rfl ⟨⟨by decide, by decide⟩, by decide, by decide⟩ ⟨rfl, rfl⟩ (Nat.le_of_ble_eq_true rfl) dL_stoneOf_4 ?_
  refine x_i2l C dL_stoneOf_7 ?_
  refine x_last C (n := 1) rfl (by decide) rfl (rfl) ((by decide : 0 < 1)) dL_stoneOf_8 ?_
  refine x_goto C (tgt := 15) dL_stoneOf_9 (by decide) ?_
  refine x_iconst C (v := 0) dL_stoneOf_15 (by decide) ?_
  exact x_iret C hq ⟨by decide, by decide⟩ dL_stoneOf_16 (rfl) (rfl)
abbrev rmL_stoneOf_x : Room := { frames := 8, cells := 1, slots := 6, locals := 132 }
set_option maxHeartbeats 1000000 in
theorem qLeB_stoneOf {l : Launch} {g : GT} {M : Mem} {p0 : Int32} (hM : CE l yX1_stoneOf cX1_stoneOf 2 (some .int) rmX1_stoneOf_x g M [.ref (ga g 0), .int p0] eB) : CMW l yL_stoneOf cL_stoneOf 4 (some .int) hhL_stoneOf rmL_stoneOf_x g M [.ref (ga g 0), .int p0, .ref (ga g 37)] (some (.int 1)) M := by
  refine CMW.of (by decide) (Nat.le_of_ble_eq_true rfl) cwL_stoneOf.1 (fun X C hq hT => ?_)
  have C : Cx X g l cL_stoneOf 4 RL (some .int) rmL_stoneOf_x := C
  show V X g 0 0 0 [(0, .ref (ga g 0)), (1, .int p0), (2, .ref (ga g 37))] [] M
  refine x_aload_n C dL_stoneOf_0 rfl ?_
  refine x_iconst C (v := 0) dL_stoneOf_1 (by decide) ?_
  refine x_aload_n C dL_stoneOf_2 rfl ?_
  refine x_iload_n C dL_stoneOf_3 rfl ?_
  refine x_callVc C hT (pre := []) (x := (0, 9, 12, 13)) (suf := []) hM cd_X1_stoneOf kl_L_43 ci1 rfl (by decide) (as := [_]) rfl rfl ⟨⟨by decide, by decide⟩, by decide, by decide⟩ (Nat.le_of_ble_eq_true rfl) dL_stoneOf_4 ⟨rfl, fun _ h => absurd h List.not_mem_nil, by decide, by decide, by decide +kernel, by decide +kernel⟩ (fun q => ?_)
  refine x_astore_n C (lo' := [(3, _), (0, _), (1, _), (2, _)]) dL_stoneOf_12 (by decide) rfl ?_
  refine x_iconst C (v := 1) dL_stoneOf_13 (by decide) ?_
  exact x_iret C hq ⟨by decide, by decide⟩ dL_stoneOf_14 (rfl) (rfl)
abbrev hhL_ownerOf : List (Nat × Nat × Nat × Nat) := [(0, 9, 12, 13)]
theorem cwL_ownerOf : CDW yL_ownerOf cL_ownerOf 4 (some .int) hhL_ownerOf 3 := ⟨⟨549, by decide +kernel⟩, by decide +kernel, by decide, by decide, by decide⟩
abbrev rmL_ownerOf : Room := { frames := 2, cells := 0, slots := 0, locals := 42 }
set_option maxHeartbeats 1000000 in
theorem qL_ownerOf {l : Launch} {g : GT} {M M' : Mem} {p0 : Int32} {v : Int32} (hM : CM l yX1_ownerOf cX1_ownerOf 2 (some .int) rmX1_ownerOf g M [.ref (ga g 0), .int p0] (some (.int v)) M') : CMW l yL_ownerOf cL_ownerOf 4 (some .int) hhL_ownerOf rmL_ownerOf g M [.ref (ga g 0), .int p0, .ref (ga g 37)] (some (.int 0)) (wr M' 37 0 v) := by
  refine CMW.of (by decide) (Nat.le_of_ble_eq_true rfl) cwL_ownerOf.1 (fun X C hq hT => ?_)
  have C : Cx X g l cL_ownerOf 4 RL (some .int) rmL_ownerOf := C
  show V X g 0 0 0 [(0, .ref (ga g 0)), (1, .int p0), (2, .ref (ga g 37))] [] M
  refine x_aload_n C dL_ownerOf_0 rfl ?_
  refine x_iconst C (v := 0) dL_ownerOf_1 (by decide) ?_
  refine x_aload_n C dL_ownerOf_2 rfl ?_
  refine x_iload_n C dL_ownerOf_3 rfl ?_
  refine x_callV0r C hM cd_X1_ownerOf kl_L_46 ci1 rfl (by decide) (as := [_]) rfl rfl ⟨⟨by decide, by decide⟩, by decide, by decide⟩ ⟨rfl, rfl⟩ (Nat.le_of_ble_eq_true rfl) dL_ownerOf_4 ?_
  refine x_i2l C dL_ownerOf_7 ?_
  refine x_last C (n := 1) rfl (by decide) rfl (rfl) ((by decide : 0 < 1)) dL_ownerOf_8 ?_
  refine x_goto C (tgt := 15) dL_ownerOf_9 (by decide) ?_
  refine x_iconst C (v := 0) dL_ownerOf_15 (by decide) ?_
  exact x_iret C hq ⟨by decide, by decide⟩ dL_ownerOf_16 (rfl) (rfl)
abbrev rmL_ownerOf_x : Room := { frames := 8, cells := 1, slots := 6, locals := 132 }
set_option maxHeartbeats 1000000 in
theorem qLeB_ownerOf {l : Launch} {g : GT} {M : Mem} {p0 : Int32} (hM : CE l yX1_ownerOf cX1_ownerOf 2 (some .int) rmX1_ownerOf_x g M [.ref (ga g 0), .int p0] eB) : CMW l yL_ownerOf cL_ownerOf 4 (some .int) hhL_ownerOf rmL_ownerOf_x g M [.ref (ga g 0), .int p0, .ref (ga g 37)] (some (.int 1)) M := by
  refine CMW.of (by decide) (Nat.le_of_ble_eq_true rfl) cwL_ownerOf.1 (fun X C hq hT => ?_)
  have C : Cx X g l cL_ownerOf 4 RL (some .int) rmL_ownerOf_x := C
  show V X g 0 0 0 [(0, .ref (ga g 0)), (1, .int p0), (2, .ref (ga g 37))] [] M
  refine x_aload_n C dL_ownerOf_0 rfl ?_
  refine x_iconst C (v := 0) dL_ownerOf_1 (by decide) ?_
  refine x_aload_n C dL_ownerOf_2 rfl ?_
  refine x_iload_n C dL_ownerOf_3 rfl ?_
  refine x_callVc C hT (pre := []) (x := (0, 9, 12, 13)) (suf := []) hM cd_X1_ownerOf kl_L_46 ci1 rfl (by decide) (as := [_]) rfl rfl ⟨⟨by decide, by decide⟩, by decide, by decide⟩ (Nat.le_of_ble_eq_true rfl) dL_ownerOf_4 ⟨rfl, fun _ h => absurd h List.not_mem_nil, by decide, by decide, by decide +kernel, by decide +kernel⟩ (fun q => ?_)
  refine x_astore_n C (lo' := [(3, _), (0, _), (1, _), (2, _)]) dL_ownerOf_12 (by decide) rfl ?_
  refine x_iconst C (v := 1) dL_ownerOf_13 (by decide) ?_
  exact x_iret C hq ⟨by decide, by decide⟩ dL_ownerOf_14 (rfl) (rfl)
abbrev hhL_thrownBack : List (Nat × Nat × Nat × Nat) := [(0, 9, 12, 13)]
theorem cwL_thrownBack : CDW yL_thrownBack cL_thrownBack 4 (some .int) hhL_thrownBack 3 := ⟨⟨553, by decide +kernel⟩, by decide +kernel, by decide, by decide, by decide⟩
abbrev rmL_thrownBack : Room := { frames := 2, cells := 0, slots := 0, locals := 42 }
set_option maxHeartbeats 1000000 in
theorem qL_thrownBack {l : Launch} {g : GT} {M M' : Mem} {p0 : Int32} {v : Int32} (hM : CM l yX1_thrownBack cX1_thrownBack 2 (some .int) rmX1_thrownBack g M [.ref (ga g 0), .int p0] (some (.int v)) M') : CMW l yL_thrownBack cL_thrownBack 4 (some .int) hhL_thrownBack rmL_thrownBack g M [.ref (ga g 0), .int p0, .ref (ga g 37)] (some (.int 0)) (wr M' 37 0 v) := by
  refine CMW.of (by decide) (Nat.le_of_ble_eq_true rfl) cwL_thrownBack.1 (fun X C hq hT => ?_)
  have C : Cx X g l cL_thrownBack 4 RL (some .int) rmL_thrownBack := C
  show V X g 0 0 0 [(0, .ref (ga g 0)), (1, .int p0), (2, .ref (ga g 37))] [] M
  refine x_aload_n C dL_thrownBack_0 rfl ?_
  refine x_iconst C (v := 0) dL_thrownBack_1 (by decide) ?_
  refine x_aload_n C dL_thrownBack_2 rfl ?_
  refine x_iload_n C dL_thrownBack_3 rfl ?_
  refine x_callV0r C hM cd_X1_thrownBack kl_L_49 ci1 rfl (by decide) (as := [_]) rfl rfl ⟨⟨by decide, by decide⟩, by decide, by decide⟩ ⟨rfl, rfl⟩ (Nat.le_of_ble_eq_true rfl) dL_thrownBack_4 ?_
  refine x_i2l C dL_thrownBack_7 ?_
  refine x_last C (n := 1) rfl (by decide) rfl (rfl) ((by decide : 0 < 1)) dL_thrownBack_8 ?_
  refine x_goto C (tgt := 15) dL_thrownBack_9 (by decide) ?_
  refine x_iconst C (v := 0) dL_thrownBack_15 (by decide) ?_
  exact x_iret C hq ⟨by decide, by decide⟩ dL_thrownBack_16 (rfl) (rfl)
abbrev rmL_thrownBack_x : Room := { frames := 8, cells := 1, slots := 6, locals := 132 }
set_option maxHeartbeats 1000000 in
theorem qLeB_thrownBack {l : Launch} {g : GT} {M : Mem} {p0 : Int32} (hM : CE l yX1_thrownBack cX1_thrownBack 2 (some .int) rmX1_thrownBack_x g M [.ref (ga g 0), .int p0] eB) : CMW l yL_thrownBack cL_thrownBack 4 (some .int) hhL_thrownBack rmL_thrownBack_x g M [.ref (ga g 0), .int p0, .ref (ga g 37)] (some (.int 1)) M := by
  refine CMW.of (by decide) (Nat.le_of_ble_eq_true rfl) cwL_thrownBack.1 (fun X C hq hT => ?_)
  have C : Cx X g l cL_thrownBack 4 RL (some .int) rmL_thrownBack_x := C
  show V X g 0 0 0 [(0, .ref (ga g 0)), (1, .int p0), (2, .ref (ga g 37))] [] M
  refine x_aload_n C dL_thrownBack_0 rfl ?_
  refine x_iconst C (v := 0) dL_thrownBack_1 (by decide) ?_
  refine x_aload_n C dL_thrownBack_2 rfl ?_
  refine x_iload_n C dL_thrownBack_3 rfl ?_
  refine x_callVc C hT (pre := []) (x := (0, 9, 12, 13)) (suf := []) hM cd_X1_thrownBack kl_L_49 ci1 rfl (by decide) (as := [_]) rfl rfl ⟨⟨by decide, by decide⟩, by decide, by decide⟩ (Nat.le_of_ble_eq_true rfl) dL_thrownBack_4 ⟨rfl, fun _ h => absurd h List.not_mem_nil, by decide, by decide, by decide +kernel, by decide +kernel⟩ (fun q => ?_)
  refine x_astore_n C (lo' := [(3, _), (0, _), (1, _), (2, _)]) dL_thrownBack_12 (by decide) rfl ?_
  refine x_iconst C (v := 1) dL_thrownBack_13 (by decide) ?_
  exact x_iret C hq ⟨by decide, by decide⟩ dL_thrownBack_14 (rfl) (rfl)
abbrev hhL_coinsOf : List (Nat × Nat × Nat × Nat) := [(0, 9, 12, 13)]
theorem cwL_coinsOf : CDW yL_coinsOf cL_coinsOf 4 (some .int) hhL_coinsOf 3 := ⟨⟨557, by decide +kernel⟩, by decide +kernel, by decide, by decide, by decide⟩
abbrev rmL_coinsOf : Room := { frames := 2, cells := 0, slots := 0, locals := 41 }
set_option maxHeartbeats 1000000 in
theorem qL_coinsOf {l : Launch} {g : GT} {M M' : Mem} {p0 : Int32} {v : Int32} (hM : CM l yX1_coinsOf cX1_coinsOf 2 (some .int) rmX1_coinsOf g M [.ref (ga g 0), .int p0] (some (.int v)) M') : CMW l yL_coinsOf cL_coinsOf 4 (some .int) hhL_coinsOf rmL_coinsOf g M [.ref (ga g 0), .int p0, .ref (ga g 37)] (some (.int 0)) (wr M' 37 0 v) := by
  refine CMW.of (by decide) (Nat.le_of_ble_eq_true rfl) cwL_coinsOf.1 (fun X C hq hT => ?_)
  have C : Cx X g l cL_coinsOf 4 RL (some .int) rmL_coinsOf := C
  show V X g 0 0 0 [(0, .ref (ga g 0)), (1, .int p0), (2, .ref (ga g 37))] [] M
  refine x_aload_n C dL_coinsOf_0 rfl ?_
  refine x_iconst C (v := 0) dL_coinsOf_1 (by decide) ?_
  refine x_aload_n C dL_coinsOf_2 rfl ?_
  refine x_iload_n C dL_coinsOf_3 rfl ?_
  refine x_callV0r C hM cd_X1_coinsOf kl_L_52 ci1 rfl (by decide) (as := [_]) rfl rfl ⟨⟨by decide, by decide⟩, by decide, by decide⟩ ⟨rfl, rfl⟩ (Nat.le_of_ble_eq_true rfl) dL_coinsOf_4 ?_
  refine x_i2l C dL_coinsOf_7 ?_
  refine x_last C (n := 1) rfl (by decide) rfl (rfl) ((by decide : 0 < 1)) dL_coinsOf_8 ?_
  refine x_goto C (tgt := 15) dL_coinsOf_9 (by decide) ?_
  refine x_iconst C (v := 0) dL_coinsOf_15 (by decide) ?_
  exact x_iret C hq ⟨by decide, by decide⟩ dL_coinsOf_16 (rfl) (rfl)
abbrev rmL_coinsOf_x : Room := { frames := 8, cells := 1, slots := 6, locals := 131 }
set_option maxHeartbeats 1000000 in
theorem qLeB_coinsOf {l : Launch} {g : GT} {M : Mem} {p0 : Int32} (hM : CE l yX1_coinsOf cX1_coinsOf 2 (some .int) rmX1_coinsOf_x g M [.ref (ga g 0), .int p0] eB) : CMW l yL_coinsOf cL_coinsOf 4 (some .int) hhL_coinsOf rmL_coinsOf_x g M [.ref (ga g 0), .int p0, .ref (ga g 37)] (some (.int 1)) M := by
  refine CMW.of (by decide) (Nat.le_of_ble_eq_true rfl) cwL_coinsOf.1 (fun X C hq hT => ?_)
  have C : Cx X g l cL_coinsOf 4 RL (some .int) rmL_coinsOf_x := C
  show V X g 0 0 0 [(0, .ref (ga g 0)), (1, .int p0), (2, .ref (ga g 37))] [] M
  refine x_aload_n C dL_coinsOf_0 rfl ?_
  refine x_iconst C (v := 0) dL_coinsOf_1 (by decide) ?_
  refine x_aload_n C dL_coinsOf_2 rfl ?_
  refine x_iload_n C dL_coinsOf_3 rfl ?_
  refine x_callVc C hT (pre := []) (x := (0, 9, 12, 13)) (suf := []) hM cd_X1_coinsOf kl_L_52 ci1 rfl (by decide) (as := [_]) rfl rfl ⟨⟨by decide, by decide⟩, by decide, by decide⟩ (Nat.le_of_ble_eq_true rfl) dL_coinsOf_4 ⟨rfl, fun _ h => absurd h List.not_mem_nil, by decide, by decide, by decide +kernel, by decide +kernel⟩ (fun q => ?_)
  refine x_astore_n C (lo' := [(3, _), (0, _), (1, _), (2, _)]) dL_coinsOf_12 (by decide) rfl ?_
  refine x_iconst C (v := 1) dL_coinsOf_13 (by decide) ?_
  exact x_iret C hq ⟨by decide, by decide⟩ dL_coinsOf_14 (rfl) (rfl)
abbrev hhL_wallsOf : List (Nat × Nat × Nat × Nat) := [(0, 9, 12, 13)]
theorem cwL_wallsOf : CDW yL_wallsOf cL_wallsOf 4 (some .int) hhL_wallsOf 3 := ⟨⟨561, by decide +kernel⟩, by decide +kernel, by decide, by decide, by decide⟩
abbrev rmL_wallsOf : Room := { frames := 2, cells := 0, slots := 0, locals := 43 }
set_option maxHeartbeats 1000000 in
theorem qL_wallsOf {l : Launch} {g : GT} {M M' : Mem} {p0 : Int32} {v : Int32} (hM : CM l yX1_wallsOf cX1_wallsOf 4 (some .int) rmX1_wallsOf g M [.ref (ga g 0), .int p0] (some (.int v)) M') : CMW l yL_wallsOf cL_wallsOf 4 (some .int) hhL_wallsOf rmL_wallsOf g M [.ref (ga g 0), .int p0, .ref (ga g 37)] (some (.int 0)) (wr M' 37 0 v) := by
  refine CMW.of (by decide) (Nat.le_of_ble_eq_true rfl) cwL_wallsOf.1 (fun X C hq hT => ?_)
  have C : Cx X g l cL_wallsOf 4 RL (some .int) rmL_wallsOf := C
  show V X g 0 0 0 [(0, .ref (ga g 0)), (1, .int p0), (2, .ref (ga g 37))] [] M
  refine x_aload_n C dL_wallsOf_0 rfl ?_
  refine x_iconst C (v := 0) dL_wallsOf_1 (by decide) ?_
  refine x_aload_n C dL_wallsOf_2 rfl ?_
  refine x_iload_n C dL_wallsOf_3 rfl ?_
  refine x_callV0r C hM cd_X1_wallsOf kl_L_55 ci1 rfl (by decide) (as := [_]) rfl rfl ⟨⟨by decide, by decide⟩, by decide, by decide⟩ ⟨rfl, rfl⟩ (Nat.le_of_ble_eq_true rfl) dL_wallsOf_4 ?_
  refine x_i2l C dL_wallsOf_7 ?_
  refine x_last C (n := 1) rfl (by decide) rfl (rfl) ((by decide : 0 < 1)) dL_wallsOf_8 ?_
  refine x_goto C (tgt := 15) dL_wallsOf_9 (by decide) ?_
  refine x_iconst C (v := 0) dL_wallsOf_15 (by decide) ?_
  exact x_iret C hq ⟨by decide, by decide⟩ dL_wallsOf_16 (rfl) (rfl)
abbrev rmL_wallsOf_x : Room := { frames := 8, cells := 1, slots := 6, locals := 133 }
set_option maxHeartbeats 1000000 in
theorem qLeB_wallsOf {l : Launch} {g : GT} {M : Mem} {p0 : Int32} (hM : CE l yX1_wallsOf cX1_wallsOf 4 (some .int) rmX1_wallsOf_x g M [.ref (ga g 0), .int p0] eB) : CMW l yL_wallsOf cL_wallsOf 4 (some .int) hhL_wallsOf rmL_wallsOf_x g M [.ref (ga g 0), .int p0, .ref (ga g 37)] (some (.int 1)) M := by
  refine CMW.of (by decide) (Nat.le_of_ble_eq_true rfl) cwL_wallsOf.1 (fun X C hq hT => ?_)
  have C : Cx X g l cL_wallsOf 4 RL (some .int) rmL_wallsOf_x := C
  show V X g 0 0 0 [(0, .ref (ga g 0)), (1, .int p0), (2, .ref (ga g 37))] [] M
  refine x_aload_n C dL_wallsOf_0 rfl ?_
  refine x_iconst C (v := 0) dL_wallsOf_1 (by decide) ?_
  refine x_aload_n C dL_wallsOf_2 rfl ?_
  refine x_iload_n C dL_wallsOf_3 rfl ?_
  refine x_callVc C hT (pre := []) (x := (0, 9, 12, 13)) (suf := []) hM cd_X1_wallsOf kl_L_55 ci1 rfl (by decide) (as := [_]) rfl rfl ⟨⟨by decide, by decide⟩, by decide, by decide⟩ (Nat.le_of_ble_eq_true rfl) dL_wallsOf_4 ⟨rfl, fun _ h => absurd h List.not_mem_nil, by decide, by decide, by decide +kernel, by decide +kernel⟩ (fun q => ?_)
  refine x_astore_n C (lo' := [(3, _), (0, _), (1, _), (2, _)]) dL_wallsOf_12 (by decide) rfl ?_
  refine x_iconst C (v := 1) dL_wallsOf_13 (by decide) ?_
  exact x_iret C hq ⟨by decide, by decide⟩ dL_wallsOf_14 (rfl) (rfl)
abbrev hhL_silentFor : List (Nat × Nat × Nat × Nat) := [(0, 9, 12, 13)]
theorem cwL_silentFor : CDW yL_silentFor cL_silentFor 4 (some .int) hhL_silentFor 3 := ⟨⟨565, by decide +kernel⟩, by decide +kernel, by decide, by decide, by decide⟩
abbrev rmL_silentFor : Room := { frames := 2, cells := 0, slots := 0, locals := 41 }
set_option maxHeartbeats 1000000 in
theorem qL_silentFor {l : Launch} {g : GT} {M M' : Mem} {p0 : Int32} {v : Int32} (hM : CM l yX1_silentFor cX1_silentFor 2 (some .int) rmX1_silentFor g M [.ref (ga g 0), .int p0] (some (.int v)) M') : CMW l yL_silentFor cL_silentFor 4 (some .int) hhL_silentFor rmL_silentFor g M [.ref (ga g 0), .int p0, .ref (ga g 37)] (some (.int 0)) (wr M' 37 0 v) := by
  refine CMW.of (by decide) (Nat.le_of_ble_eq_true rfl) cwL_silentFor.1 (fun X C hq hT => ?_)
  have C : Cx X g l cL_silentFor 4 RL (some .int) rmL_silentFor := C
  show V X g 0 0 0 [(0, .ref (ga g 0)), (1, .int p0), (2, .ref (ga g 37))] [] M
  refine x_aload_n C dL_silentFor_0 rfl ?_
  refine x_iconst C (v := 0) dL_silentFor_1 (by decide) ?_
  refine x_aload_n C dL_silentFor_2 rfl ?_
  refine x_iload_n C dL_silentFor_3 rfl ?_
  refine x_callV0r C hM cd_X1_silentFor kl_L_58 ci1 rfl (by decide) (as := [_]) rfl rfl ⟨⟨by decide, by decide⟩, by decide, by decide⟩ ⟨rfl, rfl⟩ (Nat.le_of_ble_eq_true rfl) dL_silentFor_4 ?_
  refine x_i2l C dL_silentFor_7 ?_
  refine x_last C (n := 1) rfl (by decide) rfl (rfl) ((by decide : 0 < 1)) dL_silentFor_8 ?_
  refine x_goto C (tgt := 15) dL_silentFor_9 (by decide) ?_
  refine x_iconst C (v := 0) dL_silentFor_15 (by decide) ?_
  exact x_iret C hq ⟨by decide, by decide⟩ dL_silentFor_16 (rfl) (rfl)
abbrev rmL_silentFor_x : Room := { frames := 8, cells := 1, slots := 6, locals := 131 }
set_option maxHeartbeats 1000000 in
theorem qLeB_silentFor {l : Launch} {g : GT} {M : Mem} {p0 : Int32} (hM : CE l yX1_silentFor cX1_silentFor 2 (some .int) rmX1_silentFor_x g M [.ref (ga g 0), .int p0] eB) : CMW l yL_silentFor cL_silentFor 4 (some .int) hhL_silentFor rmL_silentFor_x g M [.ref (ga g 0), .int p0, .ref (ga g 37)] (some (.int 1)) M := by
  refine CMW.of (by decide) (Nat.le_of_ble_eq_true rfl) cwL_silentFor.1 (fun X C hq hT => ?_)
  have C : Cx X g l cL_silentFor 4 RL (some .int) rmL_silentFor_x := C
  show V X g 0 0 0 [(0, .ref (ga g 0)), (1, .int p0), (2, .ref (ga g 37))] [] M
  refine x_aload_n C dL_silentFor_0 rfl ?_
  refine x_iconst C (v := 0) dL_silentFor_1 (by decide) ?_
  refine x_aload_n C dL_silentFor_2 rfl ?_
  refine x_iload_n C dL_silentFor_3 rfl ?_
  refine x_callVc C hT (pre := []) (x := (0, 9, 12, 13)) (suf := []) hM cd_X1_silentFor kl_L_58 ci1 rfl (by decide) (as := [_]) rfl rfl ⟨⟨by decide, by decide⟩, by decide, by decide⟩ (Nat.le_of_ble_eq_true rfl) dL_silentFor_4 ⟨rfl, fun _ h => absurd h List.not_mem_nil, by decide, by decide, by decide +kernel, by decide +kernel⟩ (fun q => ?_)
  refine x_astore_n C (lo' := [(3, _), (0, _), (1, _), (2, _)]) dL_silentFor_12 (by decide) rfl ?_
  refine x_iconst C (v := 1) dL_silentFor_13 (by decide) ?_
  exact x_iret C hq ⟨by decide, by decide⟩ dL_silentFor_14 (rfl) (rfl)
abbrev hhL_loudnessOf : List (Nat × Nat × Nat × Nat) := [(0, 9, 12, 13)]
theorem cwL_loudnessOf : CDW yL_loudnessOf cL_loudnessOf 4 (some .int) hhL_loudnessOf 3 := ⟨⟨569, by decide +kernel⟩, by decide +kernel, by decide, by decide, by decide⟩
abbrev rmL_loudnessOf : Room := { frames := 2, cells := 0, slots := 0, locals := 42 }
set_option maxHeartbeats 1000000 in
theorem qL_loudnessOf {l : Launch} {g : GT} {M M' : Mem} {p0 : Int32} {v : Int32} (hM : CM l yX1_loudnessOf cX1_loudnessOf 2 (some .int) rmX1_loudnessOf g M [.ref (ga g 0), .int p0] (some (.int v)) M') : CMW l yL_loudnessOf cL_loudnessOf 4 (some .int) hhL_loudnessOf rmL_loudnessOf g M [.ref (ga g 0), .int p0, .ref (ga g 37)] (some (.int 0)) (wr M' 37 0 v) := by
  refine CMW.of (by decide) (Nat.le_of_ble_eq_true rfl) cwL_loudnessOf.1 (fun X C hq hT => ?_)
  have C : Cx X g l cL_loudnessOf 4 RL (some .int) rmL_loudnessOf := C
  show V X g 0 0 0 [(0, .ref (ga g 0)), (1, .int p0), (2, .ref (ga g 37))] [] M
  refine x_aload_n C dL_loudnessOf_0 rfl ?_
  refine x_iconst C (v := 0) dL_loudnessOf_1 (by decide) ?_
  refine x_aload_n C dL_loudnessOf_2 rfl ?_
  refine x_iload_n C dL_loudnessOf_3 rfl ?_
  refine x_callV0r C hM cd_X1_loudnessOf kl_L_61 ci1 rfl (by decide) (as := [_]) rfl rfl ⟨⟨by decide, by decide⟩, by decide, by decide⟩ ⟨rfl, rfl⟩ (Nat.le_of_ble_eq_true rfl) dL_loudnessOf_4 ?_
  refine x_i2l C dL_loudnessOf_7 ?_
  refine x_last C (n := 1) rfl (by decide) rfl (rfl) ((by decide : 0 < 1)) dL_loudnessOf_8 ?_
  refine x_goto C (tgt := 15) dL_loudnessOf_9 (by decide) ?_
  refine x_iconst C (v := 0) dL_loudnessOf_15 (by decide) ?_
  exact x_iret C hq ⟨by decide, by decide⟩ dL_loudnessOf_16 (rfl) (rfl)
abbrev rmL_loudnessOf_x : Room := { frames := 8, cells := 1, slots := 6, locals := 132 }
set_option maxHeartbeats 1000000 in
theorem qLeB_loudnessOf {l : Launch} {g : GT} {M : Mem} {p0 : Int32} (hM : CE l yX1_loudnessOf cX1_loudnessOf 2 (some .int) rmX1_loudnessOf_x g M [.ref (ga g 0), .int p0] eB) : CMW l yL_loudnessOf cL_loudnessOf 4 (some .int) hhL_loudnessOf rmL_loudnessOf_x g M [.ref (ga g 0), .int p0, .ref (ga g 37)] (some (.int 1)) M := by
  refine CMW.of (by decide) (Nat.le_of_ble_eq_true rfl) cwL_loudnessOf.1 (fun X C hq hT => ?_)
  have C : Cx X g l cL_loudnessOf 4 RL (some .int) rmL_loudnessOf_x := C
  show V X g 0 0 0 [(0, .ref (ga g 0)), (1, .int p0), (2, .ref (ga g 37))] [] M
  refine x_aload_n C dL_loudnessOf_0 rfl ?_
  refine x_iconst C (v := 0) dL_loudnessOf_1 (by decide) ?_
  refine x_aload_n C dL_loudnessOf_2 rfl ?_
  refine x_iload_n C dL_loudnessOf_3 rfl ?_
  refine x_callVc C hT (pre := []) (x := (0, 9, 12, 13)) (suf := []) hM cd_X1_loudnessOf kl_L_61 ci1 rfl (by decide) (as := [_]) rfl rfl ⟨⟨by decide, by decide⟩, by decide, by decide⟩ (Nat.le_of_ble_eq_true rfl) dL_loudnessOf_4 ⟨rfl, fun _ h => absurd h List.not_mem_nil, by decide, by decide, by decide +kernel, by decide +kernel⟩ (fun q => ?_)
  refine x_astore_n C (lo' := [(3, _), (0, _), (1, _), (2, _)]) dL_loudnessOf_12 (by decide) rfl ?_
  refine x_iconst C (v := 1) dL_loudnessOf_13 (by decide) ?_
  exact x_iret C hq ⟨by decide, by decide⟩ dL_loudnessOf_14 (rfl) (rfl)
abbrev hhL_placeOf : List (Nat × Nat × Nat × Nat) := [(0, 9, 12, 13)]
theorem cwL_placeOf : CDW yL_placeOf cL_placeOf 4 (some .int) hhL_placeOf 3 := ⟨⟨573, by decide +kernel⟩, by decide +kernel, by decide, by decide, by decide⟩
abbrev rmL_placeOf : Room := { frames := 2, cells := 0, slots := 0, locals := 42 }
set_option maxHeartbeats 1000000 in
theorem qL_placeOf {l : Launch} {g : GT} {M M' : Mem} {p0 : Int32} {v : Int32} (hM : CM l yX1_placeOf cX1_placeOf 2 (some .int) rmX1_placeOf g M [.ref (ga g 0), .int p0] (some (.int v)) M') : CMW l yL_placeOf cL_placeOf 4 (some .int) hhL_placeOf rmL_placeOf g M [.ref (ga g 0), .int p0, .ref (ga g 37)] (some (.int 0)) (wr M' 37 0 v) := by
  refine CMW.of (by decide) (Nat.le_of_ble_eq_true rfl) cwL_placeOf.1 (fun X C hq hT => ?_)
  have C : Cx X g l cL_placeOf 4 RL (some .int) rmL_placeOf := C
  show V X g 0 0 0 [(0, .ref (ga g 0)), (1, .int p0), (2, .ref (ga g 37))] [] M
  refine x_aload_n C dL_placeOf_0 rfl ?_
  refine x_iconst C (v := 0) dL_placeOf_1 (by decide) ?_
  refine x_aload_n C dL_placeOf_2 rfl ?_
  refine x_iload_n C dL_placeOf_3 rfl ?_
  refine x_callV0r C hM cd_X1_placeOf kl_L_64 ci1 rfl (by decide) (as := [_]) rfl rfl ⟨⟨by decide, by decide⟩, by decide, by decide⟩ ⟨rfl, rfl⟩ (Nat.le_of_ble_eq_true rfl) dL_placeOf_4 ?_
  refine x_i2l C dL_placeOf_7 ?_
  refine x_last C (n := 1) rfl (by decide) rfl (rfl) ((by decide : 0 < 1)) dL_placeOf_8 ?_
  refine x_goto C (tgt := 15) dL_placeOf_9 (by decide) ?_
  refine x_iconst C (v := 0) dL_placeOf_15 (by decide) ?_
  exact x_iret C hq ⟨by decide, by decide⟩ dL_placeOf_16 (rfl) (rfl)
abbrev rmL_placeOf_x : Room := { frames := 8, cells := 1, slots := 6, locals := 132 }
set_option maxHeartbeats 1000000 in
theorem qLeB_placeOf {l : Launch} {g : GT} {M : Mem} {p0 : Int32} (hM : CE l yX1_placeOf cX1_placeOf 2 (some .int) rmX1_placeOf_x g M [.ref (ga g 0), .int p0] eB) : CMW l yL_placeOf cL_placeOf 4 (some .int) hhL_placeOf rmL_placeOf_x g M [.ref (ga g 0), .int p0, .ref (ga g 37)] (some (.int 1)) M := by
  refine CMW.of (by decide) (Nat.le_of_ble_eq_true rfl) cwL_placeOf.1 (fun X C hq hT => ?_)
  have C : Cx X g l cL_placeOf 4 RL (some .int) rmL_placeOf_x := C
  show V X g 0 0 0 [(0, .ref (ga g 0)), (1, .int p0), (2, .ref (ga g 37))] [] M
  refine x_aload_n C dL_placeOf_0 rfl ?_
  refine x_iconst C (v := 0) dL_placeOf_1 (by decide) ?_
  refine x_aload_n C dL_placeOf_2 rfl ?_
  refine x_iload_n C dL_placeOf_3 rfl ?_
  refine x_callVc C hT (pre := []) (x := (0, 9, 12, 13)) (suf := []) hM cd_X1_placeOf kl_L_64 ci1 rfl (by decide) (as := [_]) rfl rfl ⟨⟨by decide, by decide⟩, by decide, by decide⟩ (Nat.le_of_ble_eq_true rfl) dL_placeOf_4 ⟨rfl, fun _ h => absurd h List.not_mem_nil, by decide, by decide, by decide +kernel, by decide +kernel⟩ (fun q => ?_)
  refine x_astore_n C (lo' := [(3, _), (0, _), (1, _), (2, _)]) dL_placeOf_12 (by decide) rfl ?_
  refine x_iconst C (v := 1) dL_placeOf_13 (by decide) ?_
  exact x_iret C hq ⟨by decide, by decide⟩ dL_placeOf_14 (rfl) (rfl)
abbrev hhL_goesRight : List (Nat × Nat × Nat × Nat) := [(0, 16, 19, 13)]
theorem cwL_goesRight : CDW yL_goesRight cL_goesRight 4 (some .int) hhL_goesRight 3 := ⟨⟨577, by decide +kernel⟩, by decide +kernel, by decide, by decide, by decide⟩
abbrev rmL_goesRight : Room := { frames := 2, cells := 0, slots := 0, locals := 42 }
set_option maxHeartbeats 1000000 in
theorem qL_goesRight {l : Launch} {g : GT} {M M' : Mem} {p0 : Int32} {c : Prop} [Decidable c] (hM : CM l yX1_goesRight cX1_goesRight 2 (some .boolean) rmX1_goesRight g M [.ref (ga g 0), .int p0] (some (.int (b2i c))) M') : CMW l yL_goesRight cL_goesRight 4 (some .int) hhL_goesRight rmL_goesRight g M [.ref (ga g 0), .int p0, .ref (ga g 37)] (some (.int 0)) (wr M' 37 0 (b2i c)) := by
  refine CMW.of (by decide) (Nat.le_of_ble_eq_true rfl) cwL_goesRight.1 (fun X C hq hT => ?_)
  have C : Cx X g l cL_goesRight 4 RL (some .int) rmL_goesRight := C
  show V X g 0 0 0 [(0, .ref (ga g 0)), (1, .int p0), (2, .ref (ga g 37))] [] M
  refine x_aload_n C dL_goesRight_0 rfl ?_
  refine x_iconst C (v := 0) dL_goesRight_1 (by decide) ?_
  refine x_aload_n C dL_goesRight_2 rfl ?_
  refine x_iload_n C dL_goesRight_3 rfl ?_
  refine x_callV0r C hM cd_X1_goesRight kl_L_67 ci1 rfl (by decide) (as := [_]) rfl rfl ⟨⟨by decide, by decide⟩, by decide, by decide⟩ ⟨rfl, rfl⟩ (Nat.le_of_ble_eq_true rfl) dL_goesRight_4 ?_
  refine x_bif_eq C (tgt := 14) dL_goesRight_7 (by decide) (fun hc => ?_) (fun hc => ?_)
  · refine x_lconst C (v := (0 : Int32).toInt64) dL_goesRight_14 (by decide) ?_
    refine x_last C (n := 1) rfl (by decide) rfl (rfl) ((by decide : 0 < 1)) dL_goesRight_15 ?_
    refine x_goto C (tgt := 22) dL_goesRight_16 (by decide) ?_
    refine x_iconst C (v := 0) dL_goesRight_22 (by decide) ?_
    exact x_iret C hq ⟨by decide, by decide⟩ dL_goesRight_23 (rfl) (by rw [b2i_f hc])
  · refine x_lconst C (v := (1 : Int32).toInt64) dL_goesRight_10 (by decide) ?_
    refine x_goto C (tgt := 15) dL_goesRight_11 (by decide) ?_
    refine x_last C (n := 1) rfl (by decide) rfl (rfl) ((by decide : 0 < 1)) dL_goesRight_15 ?_
    refine x_goto C (tgt := 22) dL_goesRight_16 (by decide) ?_
    refine x_iconst C (v := 0) dL_goesRight_22 (by decide) ?_
    exact x_iret C hq ⟨by decide, by decide⟩ dL_goesRight_23 (rfl) (by rw [b2i_t hc])
abbrev rmL_goesRight_x : Room := { frames := 8, cells := 1, slots := 6, locals := 132 }
set_option maxHeartbeats 1000000 in
theorem qLeB_goesRight {l : Launch} {g : GT} {M : Mem} {p0 : Int32} (hM : CE l yX1_goesRight cX1_goesRight 2 (some .boolean) rmX1_goesRight_x g M [.ref (ga g 0), .int p0] eB) : CMW l yL_goesRight cL_goesRight 4 (some .int) hhL_goesRight rmL_goesRight_x g M [.ref (ga g 0), .int p0, .ref (ga g 37)] (some (.int 1)) M := by
  refine CMW.of (by decide) (Nat.le_of_ble_eq_true rfl) cwL_goesRight.1 (fun X C hq hT => ?_)
  have C : Cx X g l cL_goesRight 4 RL (some .int) rmL_goesRight_x := C
  show V X g 0 0 0 [(0, .ref (ga g 0)), (1, .int p0), (2, .ref (ga g 37))] [] M
  refine x_aload_n C dL_goesRight_0 rfl ?_
  refine x_iconst C (v := 0) dL_goesRight_1 (by decide) ?_
  refine x_aload_n C dL_goesRight_2 rfl ?_
  refine x_iload_n C dL_goesRight_3 rfl ?_
  refine x_callVc C hT (pre := []) (x := (0, 16, 19, 13)) (suf := []) hM cd_X1_goesRight kl_L_67 ci1 rfl (by decide) (as := [_]) rfl rfl ⟨⟨by decide, by decide⟩, by decide, by decide⟩ (Nat.le_of_ble_eq_true rfl) dL_goesRight_4 ⟨rfl, fun _ h => absurd h List.not_mem_nil, by decide, by decide, by decide +kernel, by decide +kernel⟩ (fun q => ?_)
  refine x_astore_n C (lo' := [(3, _), (0, _), (1, _), (2, _)]) dL_goesRight_19 (by decide) rfl ?_
  refine x_iconst C (v := 1) dL_goesRight_20 (by decide) ?_
  exact x_iret C hq ⟨by decide, by decide⟩ dL_goesRight_21 (rfl) (rfl)
abbrev hhL_turnsOf : List (Nat × Nat × Nat × Nat) := [(0, 9, 12, 13)]
theorem cwL_turnsOf : CDW yL_turnsOf cL_turnsOf 4 (some .int) hhL_turnsOf 3 := ⟨⟨581, by decide +kernel⟩, by decide +kernel, by decide, by decide, by decide⟩
abbrev rmL_turnsOf : Room := { frames := 2, cells := 0, slots := 0, locals := 42 }
set_option maxHeartbeats 1000000 in
theorem qL_turnsOf {l : Launch} {g : GT} {M M' : Mem} {p0 : Int32} {v : Int32} (hM : CM l yX1_turnsOf cX1_turnsOf 2 (some .int) rmX1_turnsOf g M [.ref (ga g 0), .int p0] (some (.int v)) M') : CMW l yL_turnsOf cL_turnsOf 4 (some .int) hhL_turnsOf rmL_turnsOf g M [.ref (ga g 0), .int p0, .ref (ga g 37)] (some (.int 0)) (wr M' 37 0 v) := by
  refine CMW.of (by decide) (Nat.le_of_ble_eq_true rfl) cwL_turnsOf.1 (fun X C hq hT => ?_)
  have C : Cx X g l cL_turnsOf 4 RL (some .int) rmL_turnsOf := C
  show V X g 0 0 0 [(0, .ref (ga g 0)), (1, .int p0), (2, .ref (ga g 37))] [] M
  refine x_aload_n C dL_turnsOf_0 rfl ?_
  refine x_iconst C (v := 0) dL_turnsOf_1 (by decide) ?_
  refine x_aload_n C dL_turnsOf_2 rfl ?_
  refine x_iload_n C dL_turnsOf_3 rfl ?_
  refine x_callV0r C hM cd_X1_turnsOf kl_L_71 ci1 rfl (by decide) (as := [_]) rfl rfl ⟨⟨by decide, by decide⟩, by decide, by decide⟩ ⟨rfl, rfl⟩ (Nat.le_of_ble_eq_true rfl) dL_turnsOf_4 ?_
  refine x_i2l C dL_turnsOf_7 ?_
  refine x_last C (n := 1) rfl (by decide) rfl (rfl) ((by decide : 0 < 1)) dL_turnsOf_8 ?_
  refine x_goto C (tgt := 15) dL_turnsOf_9 (by decide) ?_
  refine x_iconst C (v := 0) dL_turnsOf_15 (by decide) ?_
  exact x_iret C hq ⟨by decide, by decide⟩ dL_turnsOf_16 (rfl) (rfl)
abbrev rmL_turnsOf_x : Room := { frames := 8, cells := 1, slots := 6, locals := 132 }
set_option maxHeartbeats 1000000 in
theorem qLeB_turnsOf {l : Launch} {g : GT} {M : Mem} {p0 : Int32} (hM : CE l yX1_turnsOf cX1_turnsOf 2 (some .int) rmX1_turnsOf_x g M [.ref (ga g 0), .int p0] eB) : CMW l yL_turnsOf cL_turnsOf 4 (some .int) hhL_turnsOf rmL_turnsOf_x g M [.ref (ga g 0), .int p0, .ref (ga g 37)] (some (.int 1)) M := by
  refine CMW.of (by decide) (Nat.le_of_ble_eq_true rfl) cwL_turnsOf.1 (fun X C hq hT => ?_)
  have C : Cx X g l cL_turnsOf 4 RL (some .int) rmL_turnsOf_x := C
  show V X g 0 0 0 [(0, .ref (ga g 0)), (1, .int p0), (2, .ref (ga g 37))] [] M
  refine x_aload_n C dL_turnsOf_0 rfl ?_
  refine x_iconst C (v := 0) dL_turnsOf_1 (by decide) ?_
  refine x_aload_n C dL_turnsOf_2 rfl ?_
  refine x_iload_n C dL_turnsOf_3 rfl ?_
  refine x_callVc C hT (pre := []) (x := (0, 9, 12, 13)) (suf := []) hM cd_X1_turnsOf kl_L_71 ci1 rfl (by decide) (as := [_]) rfl rfl ⟨⟨by decide, by decide⟩, by decide, by decide⟩ (Nat.le_of_ble_eq_true rfl) dL_turnsOf_4 ⟨rfl, fun _ h => absurd h List.not_mem_nil, by decide, by decide, by decide +kernel, by decide +kernel⟩ (fun q => ?_)
  refine x_astore_n C (lo' := [(3, _), (0, _), (1, _), (2, _)]) dL_turnsOf_12 (by decide) rfl ?_
  refine x_iconst C (v := 1) dL_turnsOf_13 (by decide) ?_
  exact x_iret C hq ⟨by decide, by decide⟩ dL_turnsOf_14 (rfl) (rfl)
abbrev hhL_nextWall : List (Nat × Nat × Nat × Nat) := [(0, 10, 13, 13)]
theorem cwL_nextWall : CDW yL_nextWall cL_nextWall 5 (some .int) hhL_nextWall 4 := ⟨⟨585, by decide +kernel⟩, by decide +kernel, by decide, by decide, by decide⟩
abbrev rmL_nextWall : Room := { frames := 3, cells := 0, slots := 0, locals := 64 }
set_option maxHeartbeats 1000000 in
theorem qL_nextWall {l : Launch} {g : GT} {M M' : Mem} {p0 p1 : Int32} {v : Int32} (hM : CM l yX1_nextWall cX1_nextWall 5 (some .int) rmX1_nextWall g M [.ref (ga g 0), .int p0, .int p1] (some (.int v)) M') : CMW l yL_nextWall cL_nextWall 5 (some .int) hhL_nextWall rmL_nextWall g M [.ref (ga g 0), .int p0, .int p1, .ref (ga g 37)] (some (.int 0)) (wr M' 37 0 v) := by
  refine CMW.of (by decide) (Nat.le_of_ble_eq_true rfl) cwL_nextWall.1 (fun X C hq hT => ?_)
  have C : Cx X g l cL_nextWall 5 RL (some .int) rmL_nextWall := C
  show V X g 0 0 0 [(0, .ref (ga g 0)), (1, .int p0), (2, .int p1), (3, .ref (ga g 37))] [] M
  refine x_aload_n C dL_nextWall_0 rfl ?_
  refine x_iconst C (v := 0) dL_nextWall_1 (by decide) ?_
  refine x_aload_n C dL_nextWall_2 rfl ?_
  refine x_iload_n C dL_nextWall_3 rfl ?_
  refine x_iload_n C dL_nextWall_4 rfl ?_
  refine x_callV0r C hM cd_X1_nextWall kl_L_74 ci1 rfl (by decide) (as := [_, _]) rfl rfl ⟨⟨by decide, by decide⟩, by decide, by decide⟩ ⟨rfl, rfl⟩ (Nat.le_of_ble_eq_true rfl) dL_nextWall_5 ?_
  refine x_i2l C dL_nextWall_8 ?_
  refine x_last C (n := 1) rfl (by decide) rfl (rfl) ((by decide : 0 < 1)) dL_nextWall_9 ?_
  refine x_goto C (tgt := 17) dL_nextWall_10 (by decide) ?_
  refine x_iconst C (v := 0) dL_nextWall_17 (by decide) ?_
  exact x_iret C hq ⟨by decide, by decide⟩ dL_nextWall_18 (rfl) (rfl)
abbrev rmL_nextWall_x : Room := { frames := 8, cells := 1, slots := 6, locals := 134 }
set_option maxHeartbeats 1000000 in
theorem qLeB_nextWall {l : Launch} {g : GT} {M : Mem} {p0 p1 : Int32} (hM : CE l yX1_nextWall cX1_nextWall 5 (some .int) rmX1_nextWall_x g M [.ref (ga g 0), .int p0, .int p1] eB) : CMW l yL_nextWall cL_nextWall 5 (some .int) hhL_nextWall rmL_nextWall_x g M [.ref (ga g 0), .int p0, .int p1, .ref (ga g 37)] (some (.int 1)) M := by
  refine CMW.of (by decide) (Nat.le_of_ble_eq_true rfl) cwL_nextWall.1 (fun X C hq hT => ?_)
  have C : Cx X g l cL_nextWall 5 RL (some .int) rmL_nextWall_x := C
  show V X g 0 0 0 [(0, .ref (ga g 0)), (1, .int p0), (2, .int p1), (3, .ref (ga g 37))] [] M
  refine x_aload_n C dL_nextWall_0 rfl ?_
  refine x_iconst C (v := 0) dL_nextWall_1 (by decide) ?_
  refine x_aload_n C dL_nextWall_2 rfl ?_
  refine x_iload_n C dL_nextWall_3 rfl ?_
  refine x_iload_n C dL_nextWall_4 rfl ?_
  refine x_callVc C hT (pre := []) (x := (0, 10, 13, 13)) (suf := []) hM cd_X1_nextWall kl_L_74 ci1 rfl (by decide) (as := [_, _]) rfl rfl ⟨⟨by decide, by decide⟩, by decide, by decide⟩ (Nat.le_of_ble_eq_true rfl) dL_nextWall_5 ⟨rfl, fun _ h => absurd h List.not_mem_nil, by decide, by decide, by decide +kernel, by decide +kernel⟩ (fun q => ?_)
  refine x_astore C (lo' := [(4, _), (0, _), (1, _), (2, _), (3, _)]) dL_nextWall_13 (by decide) rfl ?_
  refine x_iconst C (v := 1) dL_nextWall_15 (by decide) ?_
  exact x_iret C hq ⟨by decide, by decide⟩ dL_nextWall_16 (rfl) (rfl)
abbrev hhL_beatsUntilGone : List (Nat × Nat × Nat × Nat) := [(0, 9, 12, 13)]
theorem cwL_beatsUntilGone : CDW yL_beatsUntilGone cL_beatsUntilGone 4 (some .int) hhL_beatsUntilGone 3 := ⟨⟨589, by decide +kernel⟩, by decide +kernel, by decide, by decide, by decide⟩
abbrev rmL_beatsUntilGone : Room := { frames := 5, cells := 0, slots := 0, locals := 110 }
set_option maxHeartbeats 1000000 in
theorem qL_beatsUntilGone {l : Launch} {g : GT} {M M' : Mem} {p0 : Int32} {v : Int32} (hM : CM l yX1_beatsUntilGone cX1_beatsUntilGone 3 (some .int) rmX1_beatsUntilGone g M [.ref (ga g 0), .int p0] (some (.int v)) M') : CMW l yL_beatsUntilGone cL_beatsUntilGone 4 (some .int) hhL_beatsUntilGone rmL_beatsUntilGone g M [.ref (ga g 0), .int p0, .ref (ga g 37)] (some (.int 0)) (wr M' 37 0 v) := by
  refine CMW.of (by decide) (Nat.le_of_ble_eq_true rfl) cwL_beatsUntilGone.1 (fun X C hq hT => ?_)
  have C : Cx X g l cL_beatsUntilGone 4 RL (some .int) rmL_beatsUntilGone := C
  show V X g 0 0 0 [(0, .ref (ga g 0)), (1, .int p0), (2, .ref (ga g 37))] [] M
  refine x_aload_n C dL_beatsUntilGone_0 rfl ?_
  refine x_iconst C (v := 0) dL_beatsUntilGone_1 (by decide) ?_
  refine x_aload_n C dL_beatsUntilGone_2 rfl ?_
  refine x_iload_n C dL_beatsUntilGone_3 rfl ?_
  refine x_callV0r C hM cd_X1_beatsUntilGone kl_L_78 ci1 rfl (by decide) (as := [_]) rfl rfl ⟨⟨by decide, by decide⟩, by decide, by decide⟩ ⟨rfl, rfl⟩ (Nat.le_of_ble_eq_true rfl) dL_beatsUntilGone_4 ?_
  refine x_i2l C dL_beatsUntilGone_7 ?_
  refine x_last C (n := 1) rfl (by decide) rfl (rfl) ((by decide : 0 < 1)) dL_beatsUntilGone_8 ?_
  refine x_goto C (tgt := 15) dL_beatsUntilGone_9 (by decide) ?_
  refine x_iconst C (v := 0) dL_beatsUntilGone_15 (by decide) ?_
  exact x_iret C hq ⟨by decide, by decide⟩ dL_beatsUntilGone_16 (rfl) (rfl)
abbrev rmL_beatsUntilGone_x : Room := { frames := 8, cells := 1, slots := 6, locals := 133 }
set_option maxHeartbeats 1000000 in
theorem qLeB_beatsUntilGone {l : Launch} {g : GT} {M : Mem} {p0 : Int32} (hM : CE l yX1_beatsUntilGone cX1_beatsUntilGone 3 (some .int) rmX1_beatsUntilGone_x g M [.ref (ga g 0), .int p0] eB) : CMW l yL_beatsUntilGone cL_beatsUntilGone 4 (some .int) hhL_beatsUntilGone rmL_beatsUntilGone_x g M [.ref (ga g 0), .int p0, .ref (ga g 37)] (some (.int 1)) M := by
  refine CMW.of (by decide) (Nat.le_of_ble_eq_true rfl) cwL_beatsUntilGone.1 (fun X C hq hT => ?_)
  have C : Cx X g l cL_beatsUntilGone 4 RL (some .int) rmL_beatsUntilGone_x := C
  show V X g 0 0 0 [(0, .ref (ga g 0)), (1, .int p0), (2, .ref (ga g 37))] [] M
  refine x_aload_n C dL_beatsUntilGone_0 rfl ?_
  refine x_iconst C (v := 0) dL_beatsUntilGone_1 (by decide) ?_
  refine x_aload_n C dL_beatsUntilGone_2 rfl ?_
  refine x_iload_n C dL_beatsUntilGone_3 rfl ?_
  refine x_callVc C hT (pre := []) (x := (0, 9, 12, 13)) (suf := []) hM cd_X1_beatsUntilGone kl_L_78 ci1 rfl (by decide) (as := [_]) rfl rfl ⟨⟨by decide, by decide⟩, by decide, by decide⟩ (Nat.le_of_ble_eq_true rfl) dL_beatsUntilGone_4 ⟨rfl, fun _ h => absurd h List.not_mem_nil, by decide, by decide, by decide +kernel, by decide +kernel⟩ (fun q => ?_)
  refine x_astore_n C (lo' := [(3, _), (0, _), (1, _), (2, _)]) dL_beatsUntilGone_12 (by decide) rfl ?_
  refine x_iconst C (v := 1) dL_beatsUntilGone_13 (by decide) ?_
  exact x_iret C hq ⟨by decide, by decide⟩ dL_beatsUntilGone_14 (rfl) (rfl)
abbrev hhL_coinsIn : List (Nat × Nat × Nat × Nat) := [(0, 10, 13, 13), (0, 10, 17, 15)]
theorem cwL_coinsIn : CDW yL_coinsIn cL_coinsIn 5 (some .int) hhL_coinsIn 4 := ⟨⟨596, by decide +kernel⟩, by decide +kernel, by decide, by decide, by decide⟩
abbrev rmL_coinsIn : Room := { frames := 5, cells := 0, slots := 0, locals := 111 }
set_option maxHeartbeats 1000000 in
theorem qL_coinsIn {l : Launch} {g : GT} {M M' : Mem} {p0 p1 : Int32} {v : Int32} (hM : CM l yX1_coinsIn cX1_coinsIn 4 (some .int) rmX1_coinsIn g M [.ref (ga g 0), .int p0, .int p1] (some (.int v)) M') : CMW l yL_coinsIn cL_coinsIn 5 (some .int) hhL_coinsIn rmL_coinsIn g M [.ref (ga g 0), .int p0, .int p1, .ref (ga g 37)] (some (.int 0)) (wr M' 37 0 v) := by
  refine CMW.of (by decide) (Nat.le_of_ble_eq_true rfl) cwL_coinsIn.1 (fun X C hq hT => ?_)
  have C : Cx X g l cL_coinsIn 5 RL (some .int) rmL_coinsIn := C
  show V X g 0 0 0 [(0, .ref (ga g 0)), (1, .int p0), (2, .int p1), (3, .ref (ga g 37))] [] M
  refine x_aload_n C dL_coinsIn_0 rfl ?_
  refine x_iconst C (v := 0) dL_coinsIn_1 (by decide) ?_
  refine x_aload_n C dL_coinsIn_2 rfl ?_
  refine x_iload_n C dL_coinsIn_3 rfl ?_
  refine x_iload_n C dL_coinsIn_4 rfl ?_
  refine x_callV0r C hM cd_X1_coinsIn kl_L_81 ci1 rfl (by decide) (as := [_, _]) rfl rfl ⟨⟨by decide, by decide⟩, by decide, by decide⟩ ⟨rfl, rfl⟩ (Nat.le_of_ble_eq_true rfl) dL_coinsIn_5 ?_
  refine x_i2l C dL_coinsIn_8 ?_
  refine x_last C (n := 1) rfl (by decide) rfl (rfl) ((by decide : 0 < 1)) dL_coinsIn_9 ?_
  refine x_goto C (tgt := 21) dL_coinsIn_10 (by decide) ?_
  refine x_iconst C (v := 0) dL_coinsIn_21 (by decide) ?_
  exact x_iret C hq ⟨by decide, by decide⟩ dL_coinsIn_22 (rfl) (rfl)
abbrev rmL_coinsIn_x : Room := { frames := 8, cells := 1, slots := 6, locals := 133 }
set_option maxHeartbeats 1000000 in
theorem qLeB_coinsIn {l : Launch} {g : GT} {M : Mem} {p0 p1 : Int32} (hM : CE l yX1_coinsIn cX1_coinsIn 4 (some .int) rmX1_coinsIn_x g M [.ref (ga g 0), .int p0, .int p1] eB) : CMW l yL_coinsIn cL_coinsIn 5 (some .int) hhL_coinsIn rmL_coinsIn_x g M [.ref (ga g 0), .int p0, .int p1, .ref (ga g 37)] (some (.int 1)) M := by
  refine CMW.of (by decide) (Nat.le_of_ble_eq_true rfl) cwL_coinsIn.1 (fun X C hq hT => ?_)
  have C : Cx X g l cL_coinsIn 5 RL (some .int) rmL_coinsIn_x := C
  show V X g 0 0 0 [(0, .ref (ga g 0)), (1, .int p0), (2, .int p1), (3, .ref (ga g 37))] [] M
  refine x_aload_n C dL_coinsIn_0 rfl ?_
  refine x_iconst C (v := 0) dL_coinsIn_1 (by decide) ?_
  refine x_aload_n C dL_coinsIn_2 rfl ?_
  refine x_iload_n C dL_coinsIn_3 rfl ?_
  refine x_iload_n C dL_coinsIn_4 rfl ?_
  refine x_callVc C hT (pre := []) (x := (0, 10, 13, 13)) (suf := [(0, 10, 17, 15)]) hM cd_X1_coinsIn kl_L_81 ci1 rfl (by decide) (as := [_, _]) rfl rfl ⟨⟨by decide, by decide⟩, by decide, by decide⟩ (Nat.le_of_ble_eq_true rfl) dL_coinsIn_5 ⟨rfl, fun _ h => absurd h List.not_mem_nil, by decide, by decide, by decide +kernel, by decide +kernel⟩ (fun q => ?_)
  refine x_astore C (lo' := [(4, _), (0, _), (1, _), (2, _), (3, _)]) dL_coinsIn_13 (by decide) rfl ?_
  refine x_iconst C (v := 1) dL_coinsIn_15 (by decide) ?_
  exact x_iret C hq ⟨by decide, by decide⟩ dL_coinsIn_16 (rfl) (rfl)
set_option maxHeartbeats 1000000 in
theorem qLeA_coinsIn {l : Launch} {g : GT} {M : Mem} {p0 p1 : Int32} (hM : CE l yX1_coinsIn cX1_coinsIn 4 (some .int) rmX1_coinsIn_x g M [.ref (ga g 0), .int p0, .int p1] eA) : CMW l yL_coinsIn cL_coinsIn 5 (some .int) hhL_coinsIn rmL_coinsIn_x g M [.ref (ga g 0), .int p0, .int p1, .ref (ga g 37)] (some (.int 2)) M := by
  refine CMW.of (by decide) (Nat.le_of_ble_eq_true rfl) cwL_coinsIn.1 (fun X C hq hT => ?_)
  have C : Cx X g l cL_coinsIn 5 RL (some .int) rmL_coinsIn_x := C
  show V X g 0 0 0 [(0, .ref (ga g 0)), (1, .int p0), (2, .int p1), (3, .ref (ga g 37))] [] M
  refine x_aload_n C dL_coinsIn_0 rfl ?_
  refine x_iconst C (v := 0) dL_coinsIn_1 (by decide) ?_
  refine x_aload_n C dL_coinsIn_2 rfl ?_
  refine x_iload_n C dL_coinsIn_3 rfl ?_
  refine x_iload_n C dL_coinsIn_4 rfl ?_
  refine x_callVc C hT (pre := [(0, 10, 13, 13)]) (x := (0, 10, 17, 15)) (suf := []) hM cd_X1_coinsIn kl_L_81 ci1 rfl (by decide) (as := [_, _]) rfl rfl ⟨⟨by decide, by decide⟩, by decide, by decide⟩ (Nat.le_of_ble_eq_true rfl) dL_coinsIn_5 ⟨rfl, List.forall_mem_cons.mpr ⟨⟨by decide, eB, by decide +kernel, by decide⟩, fun _ h => absurd h List.not_mem_nil⟩, by decide, by decide, by decide +kernel, by decide +kernel⟩ (fun q => ?_)
  refine x_astore C (lo' := [(4, _), (0, _), (1, _), (2, _), (3, _)]) dL_coinsIn_17 (by decide) rfl ?_
  refine x_iconst C (v := 2) dL_coinsIn_19 (by decide) ?_
  exact x_iret C hq ⟨by decide, by decide⟩ dL_coinsIn_20 (rfl) (rfl)
abbrev hhL_loudestOn : List (Nat × Nat × Nat × Nat) := [(0, 10, 13, 13), (0, 10, 17, 15)]
theorem cwL_loudestOn : CDW yL_loudestOn cL_loudestOn 5 (some .int) hhL_loudestOn 4 := ⟨⟨600, by decide +kernel⟩, by decide +kernel, by decide, by decide, by decide⟩
abbrev rmL_loudestOn : Room := { frames := 5, cells := 0, slots := 0, locals := 112 }
set_option maxHeartbeats 1000000 in
theorem qL_loudestOn {l : Launch} {g : GT} {M M' : Mem} {p0 p1 : Int32} {v : Int32} (hM : CM l yX1_loudestOn cX1_loudestOn 5 (some .int) rmX1_loudestOn g M [.ref (ga g 0), .int p0, .int p1] (some (.int v)) M') : CMW l yL_loudestOn cL_loudestOn 5 (some .int) hhL_loudestOn rmL_loudestOn g M [.ref (ga g 0), .int p0, .int p1, .ref (ga g 37)] (some (.int 0)) (wr M' 37 0 v) := by
  refine CMW.of (by decide) (Nat.le_of_ble_eq_true rfl) cwL_loudestOn.1 (fun X C hq hT => ?_)
  have C : Cx X g l cL_loudestOn 5 RL (some .int) rmL_loudestOn := C
  show V X g 0 0 0 [(0, .ref (ga g 0)), (1, .int p0), (2, .int p1), (3, .ref (ga g 37))] [] M
  refine x_aload_n C dL_loudestOn_0 rfl ?_
  refine x_iconst C (v := 0) dL_loudestOn_1 (by decide) ?_
  refine x_aload_n C dL_loudestOn_2 rfl ?_
  refine x_iload_n C dL_loudestOn_3 rfl ?_
  refine x_iload_n C dL_loudestOn_4 rfl ?_
  refine x_callV0r C hM cd_X1_loudestOn kl_L_84 ci1 rfl (by decide) (as := [_, _]) rfl rfl ⟨⟨by decide, by decide⟩, by decide, by decide⟩ ⟨rfl, rfl⟩ (Nat.le_of_ble_eq_true rfl) dL_loudestOn_5 ?_
  refine x_i2l C dL_loudestOn_8 ?_
  refine x_last C (n := 1) rfl (by decide) rfl (rfl) ((by decide : 0 < 1)) dL_loudestOn_9 ?_
  refine x_goto C (tgt := 21) dL_loudestOn_10 (by decide) ?_
  refine x_iconst C (v := 0) dL_loudestOn_21 (by decide) ?_
  exact x_iret C hq ⟨by decide, by decide⟩ dL_loudestOn_22 (rfl) (rfl)
abbrev rmL_loudestOn_x : Room := { frames := 8, cells := 1, slots := 6, locals := 134 }
set_option maxHeartbeats 1000000 in
theorem qLeB_loudestOn {l : Launch} {g : GT} {M : Mem} {p0 p1 : Int32} (hM : CE l yX1_loudestOn cX1_loudestOn 5 (some .int) rmX1_loudestOn_x g M [.ref (ga g 0), .int p0, .int p1] eB) : CMW l yL_loudestOn cL_loudestOn 5 (some .int) hhL_loudestOn rmL_loudestOn_x g M [.ref (ga g 0), .int p0, .int p1, .ref (ga g 37)] (some (.int 1)) M := by
  refine CMW.of (by decide) (Nat.le_of_ble_eq_true rfl) cwL_loudestOn.1 (fun X C hq hT => ?_)
  have C : Cx X g l cL_loudestOn 5 RL (some .int) rmL_loudestOn_x := C
  show V X g 0 0 0 [(0, .ref (ga g 0)), (1, .int p0), (2, .int p1), (3, .ref (ga g 37))] [] M
  refine x_aload_n C dL_loudestOn_0 rfl ?_
  refine x_iconst C (v := 0) dL_loudestOn_1 (by decide) ?_
  refine x_aload_n C dL_loudestOn_2 rfl ?_
  refine x_iload_n C dL_loudestOn_3 rfl ?_
  refine x_iload_n C dL_loudestOn_4 rfl ?_
  refine x_callVc C hT (pre := []) (x := (0, 10, 13, 13)) (suf := [(0, 10, 17, 15)]) hM cd_X1_loudestOn kl_L_84 ci1 rfl (by decide) (as := [_, _]) rfl rfl ⟨⟨by decide, by decide⟩, by decide, by decide⟩ (Nat.le_of_ble_eq_true rfl) dL_loudestOn_5 ⟨rfl, fun _ h => absurd h List.not_mem_nil, by decide, by decide, by decide +kernel, by decide +kernel⟩ (fun q => ?_)
  refine x_astore C (lo' := [(4, _), (0, _), (1, _), (2, _), (3, _)]) dL_loudestOn_13 (by decide) rfl ?_
  refine x_iconst C (v := 1) dL_loudestOn_15 (by decide) ?_
  exact x_iret C hq ⟨by decide, by decide⟩ dL_loudestOn_16 (rfl) (rfl)
set_option maxHeartbeats 1000000 in
theorem qLeA_loudestOn {l : Launch} {g : GT} {M : Mem} {p0 p1 : Int32} (hM : CE l yX1_loudestOn cX1_loudestOn 5 (some .int) rmX1_loudestOn_x g M [.ref (ga g 0), .int p0, .int p1] eA) : CMW l yL_loudestOn cL_loudestOn 5 (some .int) hhL_loudestOn rmL_loudestOn_x g M [.ref (ga g 0), .int p0, .int p1, .ref (ga g 37)] (some (.int 2)) M := by
  refine CMW.of (by decide) (Nat.le_of_ble_eq_true rfl) cwL_loudestOn.1 (fun X C hq hT => ?_)
  have C : Cx X g l cL_loudestOn 5 RL (some .int) rmL_loudestOn_x := C
  show V X g 0 0 0 [(0, .ref (ga g 0)), (1, .int p0), (2, .int p1), (3, .ref (ga g 37))] [] M
  refine x_aload_n C dL_loudestOn_0 rfl ?_
  refine x_iconst C (v := 0) dL_loudestOn_1 (by decide) ?_
  refine x_aload_n C dL_loudestOn_2 rfl ?_
  refine x_iload_n C dL_loudestOn_3 rfl ?_
  refine x_iload_n C dL_loudestOn_4 rfl ?_
  refine x_callVc C hT (pre := [(0, 10, 13, 13)]) (x := (0, 10, 17, 15)) (suf := []) hM cd_X1_loudestOn kl_L_84 ci1 rfl (by decide) (as := [_, _]) rfl rfl ⟨⟨by decide, by decide⟩, by decide, by decide⟩ (Nat.le_of_ble_eq_true rfl) dL_loudestOn_5 ⟨rfl, List.forall_mem_cons.mpr ⟨⟨by decide, eB, by decide +kernel, by decide⟩, fun _ h => absurd h List.not_mem_nil⟩, by decide, by decide, by decide +kernel, by decide +kernel⟩ (fun q => ?_)
  refine x_astore C (lo' := [(4, _), (0, _), (1, _), (2, _), (3, _)]) dL_loudestOn_17 (by decide) rfl ?_
  refine x_iconst C (v := 2) dL_loudestOn_19 (by decide) ?_
  exact x_iret C hq ⟨by decide, by decide⟩ dL_loudestOn_20 (rfl) (rfl)
abbrev hhL_loudnessWanted : List (Nat × Nat × Nat × Nat) := [(0, 12, 15, 13)]
theorem cwL_loudnessWanted : CDW yL_loudnessWanted cL_loudnessWanted 6 (some .int) hhL_loudnessWanted 5 := ⟨⟨610, by decide +kernel⟩, by decide +kernel, by decide, by decide, by decide⟩
abbrev rmL_loudnessWanted : Room := { frames := 3, cells := 0, slots := 0, locals := 105 }
set_option maxHeartbeats 1000000 in
theorem qL_loudnessWanted {l : Launch} {g : GT} {M M' : Mem} {p0 p1 p2 : Int32} {v : Int32} (hM : CM l yX1_loudnessWanted cX1_loudnessWanted 5 (some .int) rmX1_loudnessWanted g M [.ref (ga g 0), .int p0, .int p1, .int p2] (some (.int v)) M') : CMW l yL_loudnessWanted cL_loudnessWanted 6 (some .int) hhL_loudnessWanted rmL_loudnessWanted g M [.ref (ga g 0), .int p0, .int p1, .int p2, .ref (ga g 37)] (some (.int 0)) (wr M' 37 0 v) := by
  refine CMW.of (by decide) (Nat.le_of_ble_eq_true rfl) cwL_loudnessWanted.1 (fun X C hq hT => ?_)
  have C : Cx X g l cL_loudnessWanted 6 RL (some .int) rmL_loudnessWanted := C
  show V X g 0 0 0 [(0, .ref (ga g 0)), (1, .int p0), (2, .int p1), (3, .int p2), (4, .ref (ga g 37))] [] M
  refine x_aload C dL_loudnessWanted_0 rfl ?_
  refine x_iconst C (v := 0) dL_loudnessWanted_2 (by decide) ?_
  refine x_aload_n C dL_loudnessWanted_3 rfl ?_
  refine x_iload_n C dL_loudnessWanted_4 rfl ?_
  refine x_iload_n C dL_loudnessWanted_5 rfl ?_
  refine x_iload_n C dL_loudnessWanted_6 rfl ?_
  refine x_callV0r C hM cd_X1_loudnessWanted kl_L_87 ci1 rfl (by decide) (as := [_, _, _]) rfl rfl ⟨⟨by decide, by decide⟩, by decide, by decide⟩ ⟨rfl, rfl⟩ (Nat.le_of_ble_eq_true rfl) dL_loudnessWanted_7 ?_
  refine x_i2l C dL_loudnessWanted_10 ?_
  refine x_last C (n := 1) rfl (by decide) rfl (rfl) ((by decide : 0 < 1)) dL_loudnessWanted_11 ?_
  refine x_goto C (tgt := 19) dL_loudnessWanted_12 (by decide) ?_
  refine x_iconst C (v := 0) dL_loudnessWanted_19 (by decide) ?_
  exact x_iret C hq ⟨by decide, by decide⟩ dL_loudnessWanted_20 (rfl) (rfl)
abbrev rmL_loudnessWanted_x : Room := { frames := 8, cells := 1, slots := 6, locals := 134 }
set_option maxHeartbeats 1000000 in
theorem qLeB_loudnessWanted {l : Launch} {g : GT} {M : Mem} {p0 p1 p2 : Int32} (hM : CE l yX1_loudnessWanted cX1_loudnessWanted 5 (some .int) rmX1_loudnessWanted_x g M [.ref (ga g 0), .int p0, .int p1, .int p2] eB) : CMW l yL_loudnessWanted cL_loudnessWanted 6 (some .int) hhL_loudnessWanted rmL_loudnessWanted_x g M [.ref (ga g 0), .int p0, .int p1, .int p2, .ref (ga g 37)] (some (.int 1)) M := by
  refine CMW.of (by decide) (Nat.le_of_ble_eq_true rfl) cwL_loudnessWanted.1 (fun X C hq hT => ?_)
  have C : Cx X g l cL_loudnessWanted 6 RL (some .int) rmL_loudnessWanted_x := C
  show V X g 0 0 0 [(0, .ref (ga g 0)), (1, .int p0), (2, .int p1), (3, .int p2), (4, .ref (ga g 37))] [] M
  refine x_aload C dL_loudnessWanted_0 rfl ?_
  refine x_iconst C (v := 0) dL_loudnessWanted_2 (by decide) ?_
  refine x_aload_n C dL_loudnessWanted_3 rfl ?_
  refine x_iload_n C dL_loudnessWanted_4 rfl ?_
  refine x_iload_n C dL_loudnessWanted_5 rfl ?_
  refine x_iload_n C dL_loudnessWanted_6 rfl ?_
  refine x_callVc C hT (pre := []) (x := (0, 12, 15, 13)) (suf := []) hM cd_X1_loudnessWanted kl_L_87 ci1 rfl (by decide) (as := [_, _, _]) rfl rfl ⟨⟨by decide, by decide⟩, by decide, by decide⟩ (Nat.le_of_ble_eq_true rfl) dL_loudnessWanted_7 ⟨rfl, fun _ h => absurd h List.not_mem_nil, by decide, by decide, by decide +kernel, by decide +kernel⟩ (fun q => ?_)
  refine x_astore C (lo' := [(5, _), (0, _), (1, _), (2, _), (3, _), (4, _)]) dL_loudnessWanted_15 (by decide) rfl ?_
  refine x_iconst C (v := 1) dL_loudnessWanted_17 (by decide) ?_
  exact x_iret C hq ⟨by decide, by decide⟩ dL_loudnessWanted_18 (rfl) (rfl)
abbrev hhL_bestStone : List (Nat × Nat × Nat × Nat) := [(0, 9, 12, 15)]
theorem cwL_bestStone : CDW yL_bestStone cL_bestStone 4 (some .int) hhL_bestStone 3 := ⟨⟨617, by decide +kernel⟩, by decide +kernel, by decide, by decide, by decide⟩
abbrev rmL_bestStone : Room := { frames := 4, cells := 0, slots := 0, locals := 106 }
set_option maxHeartbeats 1000000 in
theorem qL_bestStone {l : Launch} {g : GT} {M M' : Mem} {p0 : Int32} {v : Int32} (hM : CM l yX1_bestStone cX1_bestStone 6 (some .int) rmX1_bestStone g M [.ref (ga g 0), .int p0] (some (.int v)) M') : CMW l yL_bestStone cL_bestStone 4 (some .int) hhL_bestStone rmL_bestStone g M [.ref (ga g 0), .int p0, .ref (ga g 37)] (some (.int 0)) (wr M' 37 0 v) := by
  refine CMW.of (by decide) (Nat.le_of_ble_eq_true rfl) cwL_bestStone.1 (fun X C hq hT => ?_)
  have C : Cx X g l cL_bestStone 4 RL (some .int) rmL_bestStone := C
  show V X g 0 0 0 [(0, .ref (ga g 0)), (1, .int p0), (2, .ref (ga g 37))] [] M
  refine x_aload_n C dL_bestStone_0 rfl ?_
  refine x_iconst C (v := 0) dL_bestStone_1 (by decide) ?_
  refine x_aload_n C dL_bestStone_2 rfl ?_
  refine x_iload_n C dL_bestStone_3 rfl ?_
  refine x_callV0r C hM cd_X1_bestStone kl_L_90 ci1 rfl (by decide) (as := [_]) rfl rfl ⟨⟨by decide, by decide⟩, by decide, by decide⟩ ⟨rfl, rfl⟩ (Nat.le_of_ble_eq_true rfl) dL_bestStone_4 ?_
  refine x_i2l C dL_bestStone_7 ?_
  refine x_last C (n := 1) rfl (by decide) rfl (rfl) ((by decide : 0 < 1)) dL_bestStone_8 ?_
  refine x_goto C (tgt := 15) dL_bestStone_9 (by decide) ?_
  refine x_iconst C (v := 0) dL_bestStone_15 (by decide) ?_
  exact x_iret C hq ⟨by decide, by decide⟩ dL_bestStone_16 (rfl) (rfl)
abbrev rmL_bestStone_x : Room := { frames := 8, cells := 1, slots := 6, locals := 135 }
set_option maxHeartbeats 1000000 in
theorem qLeA_bestStone {l : Launch} {g : GT} {M : Mem} {p0 : Int32} (hM : CE l yX1_bestStone cX1_bestStone 6 (some .int) rmX1_bestStone_x g M [.ref (ga g 0), .int p0] eA) : CMW l yL_bestStone cL_bestStone 4 (some .int) hhL_bestStone rmL_bestStone_x g M [.ref (ga g 0), .int p0, .ref (ga g 37)] (some (.int 1)) M := by
  refine CMW.of (by decide) (Nat.le_of_ble_eq_true rfl) cwL_bestStone.1 (fun X C hq hT => ?_)
  have C : Cx X g l cL_bestStone 4 RL (some .int) rmL_bestStone_x := C
  show V X g 0 0 0 [(0, .ref (ga g 0)), (1, .int p0), (2, .ref (ga g 37))] [] M
  refine x_aload_n C dL_bestStone_0 rfl ?_
  refine x_iconst C (v := 0) dL_bestStone_1 (by decide) ?_
  refine x_aload_n C dL_bestStone_2 rfl ?_
  refine x_iload_n C dL_bestStone_3 rfl ?_
  refine x_callVc C hT (pre := []) (x := (0, 9, 12, 15)) (suf := []) hM cd_X1_bestStone kl_L_90 ci1 rfl (by decide) (as := [_]) rfl rfl ⟨⟨by decide, by decide⟩, by decide, by decide⟩ (Nat.le_of_ble_eq_true rfl) dL_bestStone_4 ⟨rfl, fun _ h => absurd h List.not_mem_nil, by decide, by decide, by decide +kernel, by decide +kernel⟩ (fun q => ?_)
  refine x_astore_n C (lo' := [(3, _), (0, _), (1, _), (2, _)]) dL_bestStone_12 (by decide) rfl ?_
  refine x_iconst C (v := 1) dL_bestStone_13 (by decide) ?_
  exact x_iret C hq ⟨by decide, by decide⟩ dL_bestStone_14 (rfl) (rfl)
