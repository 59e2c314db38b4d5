section
/-! Ahead of all: a name that stands in the whole library alone (so a round on a new machine goes over it from its first part). -/
theorem nn_f (x : Int32) : FP.Core.DFin (FP.Core.i2d x) := FP.Core.i2d_fin x
end
section
-- ===== PART A: goes FIRST, ahead of the names: the tables' words, and 'selects' of the private methods out of them =====
/-- a private method of a class that the tables say can be made, by its rows of tables_1 -/
def lw_okq (q : MethodName × Nat) : Prop := (q.1.cls ≠ "java/lang/invoke/MethodHandle" ∧ q.1.cls ≠ "java/lang/invoke/VarHandle") ∧ Cond.instantiable q.1.cls q.2 ∈ tables_1 ∧ Cond.privateMethod q.1 ∈ tables_1 ∧ Cond.instanceMethod q.1 ∈ tables_1
theorem lw_p0 : lw_okq (⟨"java/lang/Throwable", "fillInStackTrace", "(I)Ljava/lang/Throwable;"⟩, 6) := ⟨⟨by decide +kernel, by decide +kernel⟩, List.mem_of_getElem? (i := 160) (by decide +kernel), List.mem_of_getElem? (i := 158) (by decide +kernel), List.mem_of_getElem? (i := 159) (by decide +kernel)⟩
theorem lw_p1 : lw_okq (⟨"CanyonEchoes$Canyon", "goOn", "()V"⟩, 19) := ⟨⟨by decide +kernel, by decide +kernel⟩, List.mem_of_getElem? (i := 22) (by decide +kernel), List.mem_of_getElem? (i := 190) (by decide +kernel), List.mem_of_getElem? (i := 191) (by decide +kernel)⟩
theorem lw_p2 : lw_okq (⟨"CanyonEchoes$Canyon", "move", "(I)V"⟩, 19) := ⟨⟨by decide +kernel, by decide +kernel⟩, List.mem_of_getElem? (i := 22) (by decide +kernel), List.mem_of_getElem? (i := 194) (by decide +kernel), List.mem_of_getElem? (i := 195) (by decide +kernel)⟩
theorem lw_p3 : lw_okq (⟨"CanyonEchoes$Canyon", "hush", "(I)V"⟩, 19) := ⟨⟨by decide +kernel, by decide +kernel⟩, List.mem_of_getElem? (i := 22) (by decide +kernel), List.mem_of_getElem? (i := 201) (by decide +kernel), List.mem_of_getElem? (i := 202) (by decide +kernel)⟩
theorem lw_p4 : lw_okq (⟨"CanyonEchoes$Canyon", "turnAt", "(II)V"⟩, 19) := ⟨⟨by decide +kernel, by decide +kernel⟩, List.mem_of_getElem? (i := 22) (by decide +kernel), List.mem_of_getElem? (i := 205) (by decide +kernel), List.mem_of_getElem? (i := 206) (by decide +kernel)⟩
theorem lw_p5 : lw_okq (⟨"CanyonEchoes$Canyon", "meet", "()V"⟩, 19) := ⟨⟨by decide +kernel, by decide +kernel⟩, List.mem_of_getElem? (i := 22) (by decide +kernel), List.mem_of_getElem? (i := 209) (by decide +kernel), List.mem_of_getElem? (i := 210) (by decide +kernel)⟩
theorem lw_p6 : lw_okq (⟨"CanyonEchoes$Canyon", "settle", "(I)V"⟩, 19) := ⟨⟨by decide +kernel, by decide +kernel⟩, List.mem_of_getElem? (i := 22) (by decide +kernel), List.mem_of_getElem? (i := 213) (by decide +kernel), List.mem_of_getElem? (i := 214) (by decide +kernel)⟩
theorem lw_p7 : lw_okq (⟨"CanyonEchoes$Canyon", "listen", "(IZ)V"⟩, 19) := ⟨⟨by decide +kernel, by decide +kernel⟩, List.mem_of_getElem? (i := 22) (by decide +kernel), List.mem_of_getElem? (i := 217) (by decide +kernel), List.mem_of_getElem? (i := 218) (by decide +kernel)⟩
theorem lw_p8 : lw_okq (⟨"CanyonEchoes$Canyon", "loseWall", "(I)V"⟩, 19) := ⟨⟨by decide +kernel, by decide +kernel⟩, List.mem_of_getElem? (i := 22) (by decide +kernel), List.mem_of_getElem? (i := 221) (by decide +kernel), List.mem_of_getElem? (i := 222) (by decide +kernel)⟩
theorem lw_p9 : lw_okq (⟨"CanyonEchoes$Canyon", "loudAt", "(I)I"⟩, 19) := ⟨⟨by decide +kernel, by decide +kernel⟩, List.mem_of_getElem? (i := 22) (by decide +kernel), List.mem_of_getElem? (i := 272) (by decide +kernel), List.mem_of_getElem? (i := 273) (by decide +kernel)⟩
theorem lw_p10 : lw_okq (⟨"CanyonEchoes", "needWall", "(I)V"⟩, 2) := ⟨⟨by decide +kernel, by decide +kernel⟩, List.mem_of_getElem? (i := 14) (by decide +kernel), List.mem_of_getElem? (i := 280) (by decide +kernel), List.mem_of_getElem? (i := 281) (by decide +kernel)⟩
theorem lw_p11 : lw_okq (⟨"CanyonEchoes", "needShout", "(I)V"⟩, 2) := ⟨⟨by decide +kernel, by decide +kernel⟩, List.mem_of_getElem? (i := 14) (by decide +kernel), List.mem_of_getElem? (i := 317) (by decide +kernel), List.mem_of_getElem? (i := 318) (by decide +kernel)⟩
theorem lw_p12 : lw_okq (⟨"CanyonEchoes$Canyon", "copyFrom", "(LCanyonEchoes$Canyon;)V"⟩, 19) := ⟨⟨by decide +kernel, by decide +kernel⟩, List.mem_of_getElem? (i := 22) (by decide +kernel), List.mem_of_getElem? (i := 338) (by decide +kernel), List.mem_of_getElem? (i := 339) (by decide +kernel)⟩
theorem lw_p13 : lw_okq (⟨"CanyonEchoes$Canyon", "startAlone", "(IZI)V"⟩, 19) := ⟨⟨by decide +kernel, by decide +kernel⟩, List.mem_of_getElem? (i := 22) (by decide +kernel), List.mem_of_getElem? (i := 364) (by decide +kernel), List.mem_of_getElem? (i := 365) (by decide +kernel)⟩
theorem lw_p14 : lw_okq (⟨"CanyonEchoes$Canyon", "start", "(IZI)I"⟩, 19) := ⟨⟨by decide +kernel, by decide +kernel⟩, List.mem_of_getElem? (i := 22) (by decide +kernel), List.mem_of_getElem? (i := 368) (by decide +kernel), List.mem_of_getElem? (i := 369) (by decide +kernel)⟩
theorem lw_p15 : lw_okq (⟨"CanyonEchoes", "turnsAlone", "(II)I"⟩, 2) := ⟨⟨by decide +kernel, by decide +kernel⟩, List.mem_of_getElem? (i := 14) (by decide +kernel), List.mem_of_getElem? (i := 381) (by decide +kernel), List.mem_of_getElem? (i := 382) (by decide +kernel)⟩
def lw_privs_1 : List (MethodName × Nat) := [(⟨"java/lang/Throwable", "fillInStackTrace", "(I)Ljava/lang/Throwable;"⟩, 6), (⟨"CanyonEchoes$Canyon", "goOn", "()V"⟩, 19), (⟨"CanyonEchoes$Canyon", "move", "(I)V"⟩, 19), (⟨"CanyonEchoes$Canyon", "hush", "(I)V"⟩, 19), (⟨"CanyonEchoes$Canyon", "turnAt", "(II)V"⟩, 19), (⟨"CanyonEchoes$Canyon", "meet", "()V"⟩, 19), (⟨"CanyonEchoes$Canyon", "settle", "(I)V"⟩, 19), (⟨"CanyonEchoes$Canyon", "listen", "(IZ)V"⟩, 19), (⟨"CanyonEchoes$Canyon", "loseWall", "(I)V"⟩, 19), (⟨"CanyonEchoes$Canyon", "loudAt", "(I)I"⟩, 19), (⟨"CanyonEchoes", "needWall", "(I)V"⟩, 2), (⟨"CanyonEchoes", "needShout", "(I)V"⟩, 2), (⟨"CanyonEchoes$Canyon", "copyFrom", "(LCanyonEchoes$Canyon;)V"⟩, 19), (⟨"CanyonEchoes$Canyon", "startAlone", "(IZI)V"⟩, 19), (⟨"CanyonEchoes$Canyon", "start", "(IZI)I"⟩, 19), (⟨"CanyonEchoes", "turnsAlone", "(II)I"⟩, 2)]
theorem lw_r1 : ∀ q ∈ lw_privs_1, lw_okq q := List.forall_mem_cons.mpr ⟨lw_p0, List.forall_mem_cons.mpr ⟨lw_p1, List.forall_mem_cons.mpr ⟨lw_p2, List.forall_mem_cons.mpr ⟨lw_p3, List.forall_mem_cons.mpr ⟨lw_p4, List.forall_mem_cons.mpr ⟨lw_p5, List.forall_mem_cons.mpr ⟨lw_p6, List.forall_mem_cons.mpr ⟨lw_p7, List.forall_mem_cons.mpr ⟨lw_p8, List.forall_mem_cons.mpr ⟨lw_p9, List.forall_mem_cons.mpr ⟨lw_p10, List.forall_mem_cons.mpr ⟨lw_p11, List.forall_mem_cons.mpr ⟨lw_p12, List.forall_mem_cons.mpr ⟨lw_p13, List.forall_mem_cons.mpr ⟨lw_p14, List.forall_mem_cons.mpr ⟨lw_p15, fun _ h => absurd h List.not_mem_nil⟩⟩⟩⟩⟩⟩⟩⟩⟩⟩⟩⟩⟩⟩⟩⟩
theorem lw_p16 : lw_okq (⟨"CanyonEchoes", "digestCounts", "(J)J"⟩, 2) := ⟨⟨by decide +kernel, by decide +kernel⟩, List.mem_of_getElem? (i := 14) (by decide +kernel), List.mem_of_getElem? (i := 390) (by decide +kernel), List.mem_of_getElem? (i := 391) (by decide +kernel)⟩
theorem lw_p17 : lw_okq (⟨"CanyonEchoes", "digestEchoes", "(J)J"⟩, 2) := ⟨⟨by decide +kernel, by decide +kernel⟩, List.mem_of_getElem? (i := 14) (by decide +kernel), List.mem_of_getElem? (i := 409) (by decide +kernel), List.mem_of_getElem? (i := 410) (by decide +kernel)⟩
theorem lw_p18 : lw_okq (⟨"CanyonEchoes", "digestWalls", "(J)J"⟩, 2) := ⟨⟨by decide +kernel, by decide +kernel⟩, List.mem_of_getElem? (i := 14) (by decide +kernel), List.mem_of_getElem? (i := 417) (by decide +kernel), List.mem_of_getElem? (i := 418) (by decide +kernel)⟩
theorem lw_p19 : lw_okq (⟨"CanyonEchoes", "digestShouts", "(J)J"⟩, 2) := ⟨⟨by decide +kernel, by decide +kernel⟩, List.mem_of_getElem? (i := 14) (by decide +kernel), List.mem_of_getElem? (i := 424) (by decide +kernel), List.mem_of_getElem? (i := 425) (by decide +kernel)⟩
theorem lw_p20 : lw_okq (⟨"CanyonEchoes", "digestStones", "(J)J"⟩, 2) := ⟨⟨by decide +kernel, by decide +kernel⟩, List.mem_of_getElem? (i := 14) (by decide +kernel), List.mem_of_getElem? (i := 432) (by decide +kernel), List.mem_of_getElem? (i := 433) (by decide +kernel)⟩
theorem lw_p21 : lw_okq (⟨"CanyonEchoes$Canyon", "build", "(III)I"⟩, 19) := ⟨⟨by decide +kernel, by decide +kernel⟩, List.mem_of_getElem? (i := 22) (by decide +kernel), List.mem_of_getElem? (i := 583) (by decide +kernel), List.mem_of_getElem? (i := 584) (by decide +kernel)⟩
def lw_privs_2 : List (MethodName × Nat) := [(⟨"CanyonEchoes", "digestCounts", "(J)J"⟩, 2), (⟨"CanyonEchoes", "digestEchoes", "(J)J"⟩, 2), (⟨"CanyonEchoes", "digestWalls", "(J)J"⟩, 2), (⟨"CanyonEchoes", "digestShouts", "(J)J"⟩, 2), (⟨"CanyonEchoes", "digestStones", "(J)J"⟩, 2), (⟨"CanyonEchoes$Canyon", "build", "(III)I"⟩, 19)]
theorem lw_r2 : ∀ q ∈ lw_privs_2, lw_okq q := List.forall_mem_cons.mpr ⟨lw_p16, List.forall_mem_cons.mpr ⟨lw_p17, List.forall_mem_cons.mpr ⟨lw_p18, List.forall_mem_cons.mpr ⟨lw_p19, List.forall_mem_cons.mpr ⟨lw_p20, List.forall_mem_cons.mpr ⟨lw_p21, fun _ h => absurd h List.not_mem_nil⟩⟩⟩⟩⟩⟩
def lw_privs : List (MethodName × Nat) := lw_privs_1 ++ (lw_privs_2)
def lw_tbl : List Cond := k2_sels lw_privs ++ tables_1
theorem lw_privs_ok : ∀ q ∈ lw_privs, lw_okq q := by
  show ∀ q ∈ lw_privs_1 ++ (lw_privs_2), lw_okq q
  exact List.forall_mem_append.mpr ⟨lw_r1, lw_r2⟩
/-- the streams that the claim lets the run draw from -/
abbrev lw_cs : List Choice := [Jvm.Choice.named "NaN.bits"]
theorem lw_bits : nanBits ∈ lw_cs := by first | decide | exact List.mem_cons_self | simp [lw_cs, nanBits]
-- ===== end of PART A; then your names; then what follows =====
end
section
/-! ===== BEGIN words of one list among another's, by their places ===== -/
theorem goodIn_r {big : List Cond} (ws : List Cond) (ps : List Nat) (hp : ws = ps.filterMap (fun i => big[i]?)) (h : ws.all goodWord = true) : GoodIn big ws := by
  intro w hw
  have h1 := List.all_eq_true.mp h w hw
  rw [hp] at hw
  obtain ⟨i, -, hi⟩ := List.mem_filterMap.mp hw
  have hm : w ∈ big := by first | exact List.mem_of_getElem? hi | exact List.getElem?_mem hi
  exact ⟨hm, good_of_word h1⟩
theorem goodIn_app {big a b : List Cond} (ha : GoodIn big a) (hb : GoodIn big b) : GoodIn big (a ++ b) := fun w h => (List.mem_append.mp h).elim (ha w) (hb w)
theorem goodIn_ca {big a b : List Cond} {c : Cond} (ha : GoodIn big (c :: a)) (hb : GoodIn big b) : GoodIn big (c :: (a ++ b)) := fun w h => (List.mem_cons.mp h).elim (fun e => ha w (List.mem_cons.mpr (Or.inl e))) (fun h => (List.mem_append.mp h).elim (fun h => ha w (List.mem_cons.mpr (Or.inr h))) (hb w))
theorem goodIn_sub {big ws : List Cond} (hm : ∀ w ∈ ws, w ∈ big) (h : ws.all goodWord = true) : GoodIn big ws := fun w hw => ⟨hm w hw, good_of_word (List.all_eq_true.mp h w hw)⟩
/-! ===== END ===== -/

/-! ===== BEGIN exceptions that leave a method, and their catching by the caller (launches without stack traces) ===== -/
section VXA
/-! The laws vx_back, vx_callV, vx_callS, vx_callSW, vx_throw0, vx_throwS follow proofs of the library, with one case more: JvmDerived/Free/Laws.lean (Back.of_free), Shelf42/LK1.lean (callV, callS), Shelf/KitTraced.lean (throwNew0V, throwNewS). -/
/-- where a method has thrown q: the class by its name, the cell, what was written, the world -/
def vx_T (XC : String → State → State → Prop) (st : State) (q : Addr) (t : State) (mc ms : Nat) (free : Addr → Prop) : Prop :=
  ∃ (E : String) (ce : Cell) (L : List Loc), XC E st t ∧ t.heap[q]? = some ce ∧ ce.vm = .none ∧ st.vm.findClass E = some ce.cls ∧ st.WarmedH t.vm ∧ st.sameButNew ({ t with vm := st.vm } : State) L mc ms ∧ ∀ z ∈ L, free z.base
def vx_Q (Qc : Array Value → State → Outcome → State → Prop) (XC : String → State → State → Prop) (mc ms : Nat) (free : Addr → Prop) : Array Value → State → Outcome → State → Prop := fun a st o t =>
  (Qc a st o t ∧ ∃ L, FrameEnd st o t L mc ms ∧ ∀ q ∈ L, free q.base) ∨ ∃ q, o = .threw q ∧ vx_T XC st q t mc ms free
/-- a callee that returns or throws -/
def vx_Met (l : Launch) (y : MethodName) (ws : List Cond) (rm : Room) (Pc : Array Value → State → Prop) (Qc : Array Value → State → Outcome → State → Prop) (XC : String → State → State → Prop) (mc ms : Nat) (free : Addr → Prop) : Prop :=
  MetFree l y (headSpec ws rm) Pc (fun _ _ _ _ _ => True) (vx_Q Qc XC mc ms free)
def vx_Post (XC : String → State → State → Prop) (mc ms : Nat) (free : Addr → Prop) : Pt → Array Value → Addr → Pt → Prop := fun A a q B =>
  ∃ (g : JFrame) (mk : MethodId) (t : State) (L : List Loc) (E : String) (ce : Cell), B.U.heap = t.heap ∧ B.U.vm = t.vm ∧ XC E (A.U.calling g mk a) t ∧ t.heap[q]? = some ce ∧ ce.vm = .none ∧ A.U.vm.findClass E = some ce.cls ∧ B.locs = A.locs ++ L ∧ (∀ z ∈ L, free z.base) ∧ B.cells = A.cells + mc ∧ B.slots = A.slots + ms
def vx_Back (l : Launch) (R : Room) (p : Program) (e : Env) (below : List Frame) (s : State) (sargs : Array Value) (y : MethodName) (len W9 : Nat)
    (Pre : Pt → Array Value → Prop) (Post : Pt → Array Value → Option Value → Pt → Prop) (PostX : Pt → Array Value → Addr → Pt → Prop) : Prop :=
  ∀ (m : MethodId) (meth : Method) (c : Code) (A : Pt) (g : JFrame) (ig : Instr) (mk : MethodId) (a : Array Value),
    Stand p l e R s m sargs below meth c A.U A.locs A.cells A.slots → g.method = m → g.locals.size = c.maxLocals → decode c.code g.pc = .ok (ig, len) →
    2 * g.monitorRoom + (g.stack.map fun v => v.category).sum ≤ W9 → A.U.methodNamed? y = some mk → Pre A a →
    (∃ (v : Option Value) (B : Pt), Stand p l e R s m sargs below meth c B.U B.locs B.cells B.slots ∧ Post A a v B ∧
      Steps p.tables e below (doInvoke e (A.U.setTop g) [] mk a).1 (B.U.setTop { g with pc := g.pc + len, stack := v.toList ++ g.stack })) ∨
    (∃ (q : Addr) (B : Pt), Stand p l e R s m sargs below meth c B.U B.locs B.cells B.slots ∧ PostX A a q B ∧
      Steps p.tables e below (doInvoke e (A.U.setTop g) [] mk a).1 ((B.U.setTop g).pushFrame (.throwing q)))
section Payer
variable {l : Launch} {R : Room} {p : Program} {e : Env} {below : List Frame} {s : State} {sargs : Array Value} {y : MethodName} {len W9 : Nat}
theorem vx_back {ws : List Cond} {rm : Room} {Pc : Array Value → State → Prop} {Qc : Array Value → State → Outcome → State → Prop} {XC : String → State → State → Prop} {mc ms : Nat} {free : Addr → Prop} {bytes : ByteArray} {maxL : Nat} {ret : Option FieldType}
    (hM : vx_Met l y ws rm Pc Qc XC mc ms free) (hblind : FrameBlind Pc) (hrc : rm.cells = mc) (hrs : rm.slots = ms)
    (hframes : rm.frames + 1 ≤ R.frames) (hlocals : W9 + (maxL + 11) + rm.locals ≤ R.locals)
    (hws : ∀ w ∈ ws, ∀ a' U, s.WarmedH U.vm → w.before a' U = true) (hcode : Cond.code y bytes maxL ret ∈ ws) (hinit : ∀ a' U, s.WarmedH U.vm → (Cond.initialized y.cls).before a' U = true) :
    vx_Back l R p e below s sargs y len W9 (PreOf R mc ms Pc) (PostOf Qc mc ms free) (vx_Post XC mc ms free) := by
  intro m meth c A g ig mk a X hg hsize hdg hW hn hp
  have h1 : (headSpec ws rm).pre.before a A.U = true := atoms_intro fun w hw => hws w hw _ _ X.warmed
  have h2 : (Cond.code y bytes maxL ret).before a A.U = true := hws _ hcode _ _ X.warmed
  have h3 : (Cond.initialized y.cls).before a A.U = true := hinit _ _ X.warmed
  have h4 : A.cells + (headSpec ws rm).room.cells ≤ R.cells := by rw [show (headSpec ws rm).room.cells = mc from hrc]; exact hp.1
  have h5 : A.slots + (headSpec ws rm).room.slots ≤ R.slots := by rw [show (headSpec ws rm).room.slots = ms from hrs]; exact hp.2.1
  have hPc : Pc a (A.U.calling g mk a) := hblind _ _ _ _ hp.2.2
  obtain ⟨U, Ls, c0, s0⟩ := A
  dsimp only [Pt.U, Pt.locs, Pt.cells, Pt.slots] at h1 h2 h3 h4 h5 X hn hPc ⊢
  obtain ⟨methY, cY, hmY, hcY, -, hlY, -, -, -, -⟩ := Cond.code_spec hn h2
  obtain ⟨kY, hkY, -⟩ := className_of_methodNamed hn
  have hinitY : kY.init = .initialized := Cond.initialized_spec (findClass_of_methodNamed hn) hkY h3
  have h : At U g.method c below := by rw [hg]; exact X.here
  have hlocals9 : W9 + (maxL + 11) + (headSpec ws rm).room.locals ≤ R.locals := hlocals
  have happ : (headSpec ws rm).appliesLoose y e.platform (U.calling g mk a) = true :=
    Spec.appliesLoose_calling (g := g) h hdg hn hkY hinitY
      (X.room_calling (g := g) (R' := (headSpec ws rm).room) hsize hmY hcY hframes (by rw [hlY]; omega) h4 h5) h1
  obtain ⟨mid, hmid⟩ := h.above
  have hfr : (U.setTop g).frames = (.java g :: mid) ++ below := by rw [State.frames_setTop' g h.top, hmid]; rfl
  obtain ⟨o, s₂, hsteps, -, hend, hq⟩ := Steps.callFree hM p X.admits X.cas X.clock (acts := []) hfr happ hPc trivial
  have hq' : vx_Q Qc XC mc ms free a (U.calling g mk a) o s₂ := hq
  rw [State.frames_setTop' g h.top] at hend
  obtain ⟨g₀, hg0⟩ := Option.isSome_iff_exists.mp h.top
  obtain ⟨r, hr⟩ := State.topJava?_eq_some.mp hg0
  have hr' : (({ U with heap := s₂.heap, slotsUsed := s₂.slotsUsed } : State).setVm s₂.vm).frames = .java g₀ :: r := hr
  rcases hq' with ⟨hqc, L, hfe, hL⟩ | ⟨q, rfl, E, ce, L, hx, hce, hcv, hcl, hW₂, hsm, hL⟩
  · obtain ⟨⟨v, rfl⟩, hW₂, e2, q2, q3, q4, q5, q6⟩ := id hfe
    have e3 : s₂ = ({ (U.calling g mk a).setFrames s₂.frames with heap := s₂.heap, slotsUsed := s₂.slotsUsed } : State).setVm s₂.vm := by
      have : s₂ = ({ s₂ with vm := (U.calling g mk a).vm } : State).setVm s₂.vm := rfl
      rw [e2] at this
      exact this
    obtain ⟨c₂, i₂, len₂, hc₂, hd₂, hf₂⟩ := hend
    have hW' : U.WarmedH s₂.vm := hW₂
    have hcc : c₂ = c := by
      have h1 : s₂.code? g.method = U.code? g.method := by
        rw [State.code?_eq, State.code?_eq, hW'.alike.method?]
      exact Option.some.inj (hc₂.symm.trans (h1.trans h.code))
    subst hcc
    have hlen : len₂ = len := by rw [hdg] at hd₂; cases hd₂; rfl
    subst hlen
    have hs₂ : s₂ = (({ U with heap := s₂.heap, slotsUsed := s₂.slotsUsed } : State).setVm s₂.vm).setTop { g with pc := g.pc + len₂, stack := v.toList ++ g.stack } := by
      refine e3.trans ?_
      rw [hf₂, State.calling_eq h.top, State.setFrames_setFrames, State.setTop_of_frames _ hr', hr]
      rfl
    have hsame : U.sameButNew ({ U with heap := s₂.heap, slotsUsed := s₂.slotsUsed } : State) L mc ms := by
      refine ⟨?_, q2, q3, q4, q5, q6⟩
      obtain ⟨t, ht, -⟩ := State.frames_cons hr
      show ({ U with heap := s₂.heap, slotsUsed := s₂.slotsUsed } : State) = { U.setFrames U.frames with heap := s₂.heap, slotsUsed := s₂.slotsUsed }
      rw [State.setFrames_self ht]
    subst hg
    refine Or.inl ⟨v, ⟨(({ U with heap := s₂.heap, slotsUsed := s₂.slotsUsed } : State).setVm s₂.vm), Ls ++ L, c0 + mc, s0 + ms⟩,
      ⟨X.admits, X.cas, X.clock, X.frames, X.room, X.hears, X.method, X.code, (X.here.setHeapUsed s₂.heap s₂.slotsUsed).setVm hW'.alike, X.tail, State.WarmedH.trans X.warmed hW', X.limits, X.bytes, X.same.trans (hsame.setVm s.vm)⟩,
      ⟨g, mk, s₂, L, rfl, rfl, hqc, rfl, hL, rfl, rfl⟩, ?_⟩
    show Steps p.tables e below _ ((({ U with heap := s₂.heap, slotsUsed := s₂.slotsUsed } : State).setVm s₂.vm).setTop { g with pc := g.pc + len₂, stack := v.toList ++ g.stack })
    rw [← hs₂]
    exact hsteps
  · obtain ⟨e2, q2, q3, q4, q5, q6⟩ := id hsm
    have e3 : s₂ = ({ (U.calling g mk a).setFrames s₂.frames with heap := s₂.heap, slotsUsed := s₂.slotsUsed } : State).setVm s₂.vm := by
      have : s₂ = ({ s₂ with vm := (U.calling g mk a).vm } : State).setVm s₂.vm := rfl
      rw [e2] at this
      exact this
    have hf₂ : s₂.frames = .throwing q :: .java g :: U.frames.tail := hend
    have hW' : U.WarmedH s₂.vm := hW₂
    have hs₂ : s₂ = ((({ U with heap := s₂.heap, slotsUsed := s₂.slotsUsed } : State).setVm s₂.vm).setTop g).pushFrame (.throwing q) := by
      refine e3.trans ?_
      rw [hf₂, State.calling_eq h.top, State.setFrames_setFrames, State.pushFrame, State.frames_setTop _ hr', State.setTop_of_frames _ hr', State.setFrames_setFrames, hr]
      rfl
    have hsame : U.sameButNew ({ U with heap := s₂.heap, slotsUsed := s₂.slotsUsed } : State) L mc ms := by
      refine ⟨?_, q2, q3, q4, q5, q6⟩
      obtain ⟨t, ht, -⟩ := State.frames_cons hr
      show ({ U with heap := s₂.heap, slotsUsed := s₂.slotsUsed } : State) = { U.setFrames U.frames with heap := s₂.heap, slotsUsed := s₂.slotsUsed }
      rw [State.setFrames_self ht]
    subst hg
    refine Or.inr ⟨q, ⟨(({ U with heap := s₂.heap, slotsUsed := s₂.slotsUsed } : State).setVm s₂.vm), Ls ++ L, c0 + mc, s0 + ms⟩,
      ⟨X.admits, X.cas, X.clock, X.frames, X.room, X.hears, X.method, X.code, (X.here.setHeapUsed s₂.heap s₂.slotsUsed).setVm hW'.alike, X.tail, State.WarmedH.trans X.warmed hW', X.limits, X.bytes, X.same.trans (hsame.setVm s.vm)⟩,
      ⟨g, mk, s₂, L, E, ce, rfl, rfl, hx, hce, hcv, hcl, rfl, hL, rfl, rfl⟩, ?_⟩
    show Steps p.tables e below _ (((({ U with heap := s₂.heap, slotsUsed := s₂.slotsUsed } : State).setVm s₂.vm).setTop g).pushFrame (.throwing q))
    rw [← hs₂]
    exact hsteps
end Payer
section Calls
variable {p : Program} {l : Launch} {e : Env} {R : Room} {s : State} {m : MethodId} {args : Array Value} {below : List Frame} {meth : Method} {c : Code} {T : State} {locs : List Loc} {cells slots : Nat}
theorem vx_callV (X : Stand p l e R s m args below meth c T locs cells slots) (hexec : p.tables.exec = Jvm.exec) {own C : String} {index : Nat} {y : MethodName} {bytes : ByteArray} {maxL : Nat} {ret : Option FieldType}
    (hown : s.vm.findClass own = some m.cls) (hlink : (Cond.methodLink own index y).before args s = true) (hinst : (Cond.instanceMethod y).before args s = true) (hsel : (Cond.selects C y y).before args s = true)
    (hcode : (Cond.code y bytes maxL ret).before args s = true) (hy : y.cls ≠ "java/lang/invoke/MethodHandle" ∧ y.cls ≠ "java/lang/invoke/VarHandle")
    {W9 : Nat} {Pre : Pt → Array Value → Prop} {Post : Pt → Array Value → Option Value → Pt → Prop} {PostX : Pt → Array Value → Addr → Pt → Prop} (hK : vx_Back l R p e below s args y 3 W9 Pre Post PostX)
    {b : Addr} {cellB : Cell} (hcell : T.heap[b]? = some cellB) (hobj : cellB.vm.isStatics = false) (hcls : s.vm.findClass C = some cellB.cls)
    {g : JFrame} (hg : g.method = m) (hsize : g.locals.size = c.maxLocals) {argsL rest : List Value} (hlen : ∀ sig, parseMethodDescriptor y.desc = some sig → argsL.length = sig.parameters.length)
    (hstack : g.stack = argsL.reverse ++ .ref b :: rest) (hW : 2 * g.monitorRoom + (rest.map fun v => v.category).sum ≤ W9) (hdg : decode c.code g.pc = .ok (.invokevirtual index, 3))
    (hpre : ∀ vm₁, s.WarmedH vm₁ → Pre ⟨T.setVm vm₁, locs, cells, slots⟩ (Value.ref b :: argsL).toArray) :
    (∃ (v : Option Value) (vm₁ : Vm) (B : Pt), s.WarmedH vm₁ ∧ Stand p l e R s m args below meth c B.U B.locs B.cells B.slots ∧ Post ⟨T.setVm vm₁, locs, cells, slots⟩ (Value.ref b :: argsL).toArray v B ∧
      ∀ target, Steps p.tables e below (B.U.setTop { g with pc := g.pc + 3, stack := v.toList ++ rest }) target → Steps p.tables e below (T.setTop g) target) ∨
    (∃ (q : Addr) (vm₁ : Vm) (B : Pt), s.WarmedH vm₁ ∧ Stand p l e R s m args below meth c B.U B.locs B.cells B.slots ∧ PostX ⟨T.setVm vm₁, locs, cells, slots⟩ (Value.ref b :: argsL).toArray q B ∧
      Steps p.tables e below (T.setTop g) ((B.U.setTop { g with stack := rest }).pushFrame (.throwing q))) := by
  obtain ⟨mk, methM, hnamed, hmethM, hstM, habM⟩ := Cond.instanceMethod_spec hinst
  obtain ⟨methM', cM, hmethM', -, -, -, -, -, -, hsigM⟩ := Cond.code_spec hnamed hcode
  cases hmethM.symm.trans hmethM'
  obtain ⟨c2, r2, m2, q1, q2, q3, q4, kP, hkP, hkPi⟩ := Cond.selects_spec hsel
  cases hcls.symm.trans q1
  cases (State.methodFound?_of_named hnamed hy).symm.trans q2
  cases hnamed.symm.trans q3
  have hselP : selectMethod e.platform s.vm cellB.cls mk = .method mk := by rw [Launch.admits_selectMethod X.admits]; exact q4
  obtain ⟨vm₁, X₁, hstep₁⟩ := X.invokevirtual hexec hown hlink hnamed hmethM hstM hkP hkPi hy (a := b) (cell := cellB) hcell
    (fun z h => by rw [h] at hobj; cases hobj) hselP hmethM habM hkP hkPi (g := g) hg (argsL := argsL) (rest := rest) (hlen _ hsigM) hstack hdg
  rcases hK m meth c ⟨T.setVm vm₁, locs, cells, slots⟩ { g with stack := rest } (.invokevirtual index) mk (Value.ref b :: argsL).toArray X₁ hg hsize hdg hW (X₁.named hnamed) (hpre vm₁ X₁.warmed) with ⟨v, B, X', hpost, hsteps⟩ | ⟨q, B, X', hpost, hsteps⟩
  · exact Or.inl ⟨v, vm₁, B, X₁.warmed, X', hpost, fun target h => hstep₁ _ fun acts => by rw [doInvoke_state]; exact hsteps.trans h⟩
  · exact Or.inr ⟨q, vm₁, B, X₁.warmed, X', hpost, hstep₁ _ fun acts => by rw [doInvoke_state]; exact hsteps⟩
theorem vx_callS (X : Stand p l e R s m args below meth c T locs cells slots) (hexec : p.tables.exec = Jvm.exec) {own : String} {index : Nat} {y : MethodName} {bytes : ByteArray} {maxL : Nat} {ret : Option FieldType}
    (hown : s.vm.findClass own = some m.cls) (hlink : (Cond.methodLink own index y).before args s = true) (hstat : (Cond.static y).before args s = true) (hinit : (Cond.initialized y.cls).before args s = true)
    (hcode : (Cond.code y bytes maxL ret).before args s = true) (hy : y.cls ≠ "java/lang/invoke/MethodHandle" ∧ y.cls ≠ "java/lang/invoke/VarHandle")
    {W9 : Nat} {Pre : Pt → Array Value → Prop} {Post : Pt → Array Value → Option Value → Pt → Prop} {PostX : Pt → Array Value → Addr → Pt → Prop} (hK : vx_Back l R p e below s args y 3 W9 Pre Post PostX)
    {g : JFrame} (hg : g.method = m) (hsize : g.locals.size = c.maxLocals) {argsL rest : List Value} (hlen : ∀ sig, parseMethodDescriptor y.desc = some sig → argsL.length = sig.parameters.length)
    (hstack : g.stack = argsL.reverse ++ rest) (hW : 2 * g.monitorRoom + (rest.map fun v => v.category).sum ≤ W9) (hdg : decode c.code g.pc = .ok (.invokestatic index, 3))
    (hpre : ∀ vm₁, s.WarmedH vm₁ → Pre ⟨T.setVm vm₁, locs, cells, slots⟩ argsL.toArray) :
    (∃ (v : Option Value) (vm₁ : Vm) (B : Pt), s.WarmedH vm₁ ∧ Stand p l e R s m args below meth c B.U B.locs B.cells B.slots ∧ Post ⟨T.setVm vm₁, locs, cells, slots⟩ argsL.toArray v B ∧
      ∀ target, Steps p.tables e below (B.U.setTop { g with pc := g.pc + 3, stack := v.toList ++ rest }) target → Steps p.tables e below (T.setTop g) target) ∨
    (∃ (q : Addr) (vm₁ : Vm) (B : Pt), s.WarmedH vm₁ ∧ Stand p l e R s m args below meth c B.U B.locs B.cells B.slots ∧ PostX ⟨T.setVm vm₁, locs, cells, slots⟩ argsL.toArray q B ∧
      Steps p.tables e below (T.setTop g) ((B.U.setTop { g with stack := rest }).pushFrame (.throwing q))) := by
  obtain ⟨mk, hnamed⟩ := Cond.code_named hcode
  obtain ⟨methM, cM, hmethM, -, -, -, -, -, -, hsigM⟩ := Cond.code_spec hnamed hcode
  have hstatic : methM.isStatic = true := Cond.static_spec hnamed hmethM hstat
  obtain ⟨kP, hkP, -⟩ := className_of_methodNamed hnamed
  have hinitP : kP.init = .initialized := Cond.initialized_spec (findClass_of_methodNamed hnamed) hkP hinit
  obtain ⟨vm₁, X₁, hstep₁⟩ := X.invokestatic hexec hown hlink hnamed hmethM hstatic hkP hinitP hy (g := g) hg (argsL := argsL) (rest := rest) (hlen _ hsigM) hstack hdg
  rcases hK m meth c ⟨T.setVm vm₁, locs, cells, slots⟩ { g with stack := rest } (.invokestatic index) mk argsL.toArray X₁ hg hsize hdg hW (X₁.named hnamed) (hpre vm₁ X₁.warmed) with ⟨v, B, X', hpost, hsteps⟩ | ⟨q, B, X', hpost, hsteps⟩
  · exact Or.inl ⟨v, vm₁, B, X₁.warmed, X', hpost, fun target h => hstep₁ _ fun acts => by rw [doInvoke_state]; exact hsteps.trans h⟩
  · exact Or.inr ⟨q, vm₁, B, X₁.warmed, X', hpost, hstep₁ _ fun acts => by rw [doInvoke_state]; exact hsteps⟩
end Calls
theorem vx_cls {s : State} {T : State} {vm₁ : Vm} {E : String} {k : ClassId} (hW : s.WarmedH vm₁) (h : (T.setVm vm₁).vm.findClass E = some k) : s.vm.findClass E = some k := by
  have h1 : vm₁.findClass E = some k := h
  rw [hW.alike.findClass] at h1
  exact h1
/-- the method's frame g, with q thrown over it -/
def vx_W (p : Program) (l : Launch) (e : Env) (R : Room) (s : State) (m : MethodId) (args : Array Value) (below : List Frame) (meth : Method) (c : Code) (H : Heap) (locs : List Loc) (cells slots : Nat) (Q : State → Prop) (g : JFrame) (q : Addr) : Prop :=
  ∀ T : State, T.heap = H → Stand p l e R s m args below meth c T locs cells slots → ∃ t, Steps p.tables e below ((T.setTop g).pushFrame (.throwing q)) t ∧ Q t
def vx_Run (p : Program) (l : Launch) (e : Env) (R : Room) (s : State) (m : MethodId) (args : Array Value) (below : List Frame) (meth : Method) (c : Code) (H : Heap) (locs : List Loc) (cells slots mc ms : Nat) (g : JFrame) (rest : List Value) (Qa : State → Outcome → State → Prop) (XC : String → State → State → Prop) (free : Addr → Prop) : Prop :=
  ∀ T : State, T.heap = H → Stand p l e R s m args below meth c T locs cells slots →
    (∃ (v : Option Value) (st₀ t T' : State) (L : List Loc), st₀.heap = H ∧ Stand p l e R s m args below meth c T' (locs ++ L) (cells + mc) (slots + ms) ∧ (∀ q ∈ L, free q.base) ∧ T'.heap = t.heap ∧ T'.vm = t.vm ∧ Qa st₀ (.returned v) t ∧
      Goes p e below T g T' { g with pc := g.pc + 3, stack := v.toList ++ rest }) ∨
    (∃ (q : Addr) (st₀ t T' : State) (L : List Loc) (E : String) (ce : Cell), st₀.heap = H ∧ Stand p l e R s m args below meth c T' (locs ++ L) (cells + mc) (slots + ms) ∧ (∀ z ∈ L, free z.base) ∧ T'.heap = t.heap ∧ T'.vm = t.vm ∧ XC E st₀ t ∧ t.heap[q]? = some ce ∧ ce.vm = .none ∧ s.vm.findClass E = some ce.cls ∧
      Steps p.tables e below (T.setTop g) ((T'.setTop { g with stack := rest }).pushFrame (.throwing q)))
def vx_X {S : Type} (px : S → Prop) (B : String → S → State → Prop) (A : Nat → Prop) : String → State → State → Prop := fun E st t => ∃ u : S, px u ∧ B E u t ∧ va_F A st t
section Runs
variable {p : Program} {l : Launch} {e : Env} {R : Room} {s : State} {m : MethodId} {args : Array Value} {below : List Frame} {meth : Method} {c : Code} {H : Heap} {locs : List Loc} {cells slots : Nat}
variable {y : MethodName} {bytes cc : ByteArray} {maxL nL mc ms n index : Nat} {ret : Option FieldType} {ws : List Cond} {rm : Room} {Pc : Array Value → State → Prop} {Qc : Array Value → State → Outcome → State → Prop} {XC : String → State → State → Prop} {free : Addr → Prop} {Ts : List Cond} {own C : String} {b : Addr} {As rest : List Value} {g : JFrame}
theorem vx_callBack (cb : CallB R s args own index y bytes maxL ret ws rm mc ms n) (hM : vx_Met l y ws rm Pc Qc XC mc ms free) (hbl : FrameBlind Pc) : vx_Back l R p e below s args y 3 8 (PreOf R mc ms Pc) (PostOf Qc mc ms free) (vx_Post XC mc ms free) := by
  obtain ⟨hrc, hrs, hfr, hlo, hws, hcw, -, hini, -⟩ := cb
  exact vx_back (bytes := bytes) (maxL := maxL) (ret := ret) hM hbl hrc hrs hfr hlo hws hcw (fun a' U hW => word_at hW (Or.inl (by first | rfl | simp [Cond.onTables, Cond.keeps, Cond.steady])) hini)
theorem vx_runV (S : CallFix p m c cc nL s args Ts own) (hM : vx_Met l y ws rm Pc Qc XC mc ms free) (cw : CallW R s args own C index y bytes maxL ret ws rm mc ms n) (hp : PreV s H C b Pc As)
    (hg : g.method = m) (hn : As.length = n) (hsize : g.locals.size = nL) (hstack : g.stack = As.reverse ++ .ref b :: rest) (hW : 2 * g.monitorRoom + (rest.map fun v => v.category).sum ≤ 8) (hdg : decode cc g.pc = .ok (.invokevirtual index, 3)) (hf : cells + mc ≤ R.cells ∧ slots + ms ≤ R.slots) :
    vx_Run p l e R s m args below meth c H locs cells slots mc ms g rest (Qc (Value.ref b :: As).toArray) XC free := by
  have hK : vx_Back l R p e below s args y 3 8 (PreOf R mc ms Pc) (PostOf Qc mc ms free) (vx_Post XC mc ms free) := vx_callBack cw.1 hM hp.1
  obtain ⟨⟨-, -, -, -, -, -, hcode, -, hy, hlen, hl⟩, hin, hse⟩ := cw
  obtain ⟨hx, hb, hml, ho, -⟩ := S
  obtain ⟨-, ⟨cellB, hcB, hoB, hclB⟩, hPc⟩ := hp
  intro T hT X
  rcases vx_callV X hx (C := C) (bytes := bytes) (maxL := maxL) (ret := ret) ho hl hin hse hcode hy hK (by rw [hT]; exact hcB) hoB hclB hg (hsize.trans hml.symm) (argsL := As) (rest := rest) (fun sig h => hn.trans (hlen sig h)) hstack hW (by rw [hb]; exact hdg)
    (fun vm₁ hW₁ => ⟨hf.1, hf.2, hPc (T.setVm vm₁) hT hW₁⟩) with ⟨v, vm₁, ⟨U', l2, c2, s2⟩, hW₁, X', ⟨g', mk, t, L, e1, e2, hq, h1, hL, h2, h3⟩, st⟩ | ⟨q, vm₁, ⟨U', l2, c2, s2⟩, hW₁, X', ⟨g', mk, t, L, E, ce, e1, e2, hq, hce, hcv, hcl, h1, hL, h2, h3⟩, st⟩
  · dsimp only [Pt.U, Pt.locs, Pt.cells, Pt.slots] at X' e1 e2 h1 h2 h3 st
    subst h1; subst h2; subst h3
    exact Or.inl ⟨v, (T.setVm vm₁).calling g' mk (Value.ref b :: As).toArray, t, U', L, hT, X', hL, e1, e2, hq, st⟩
  · dsimp only [Pt.U, Pt.locs, Pt.cells, Pt.slots] at X' e1 e2 h1 h2 h3 st hcl
    subst h1; subst h2; subst h3
    exact Or.inr ⟨q, (T.setVm vm₁).calling g' mk (Value.ref b :: As).toArray, t, U', L, E, ce, hT, X', hL, e1, e2, hq, hce, hcv, vx_cls hW₁ hcl, st⟩
theorem vx_runS (S : CallFix p m c cc nL s args Ts own) (hM : vx_Met l y ws rm Pc Qc XC mc ms free) (cw : CallB R s args own index y bytes maxL ret ws rm mc ms n ∧ (Cond.static y).before args s = true) (hp : PreS s H Pc As)
    (hg : g.method = m) (hn : As.length = n) (hsize : g.locals.size = nL) (hstack : g.stack = As.reverse ++ rest) (hW : 2 * g.monitorRoom + (rest.map fun v => v.category).sum ≤ 8) (hdg : decode cc g.pc = .ok (.invokestatic index, 3)) (hf : cells + mc ≤ R.cells ∧ slots + ms ≤ R.slots) :
    vx_Run p l e R s m args below meth c H locs cells slots mc ms g rest (Qc As.toArray) XC free := by
  have hK : vx_Back l R p e below s args y 3 8 (PreOf R mc ms Pc) (PostOf Qc mc ms free) (vx_Post XC mc ms free) := vx_callBack cw.1 hM hp.1
  obtain ⟨⟨-, -, -, -, -, -, hcode, hini, hy, hlen, hl⟩, hstt⟩ := cw
  obtain ⟨hx, hb, hml, ho, -⟩ := S
  intro T hT X
  rcases vx_callS X hx (bytes := bytes) (maxL := maxL) (ret := ret) ho hl hstt hini hcode hy hK hg (hsize.trans hml.symm) (argsL := As) (rest := rest) (fun sig h => hn.trans (hlen sig h)) hstack hW (by rw [hb]; exact hdg)
    (fun vm₁ hW₁ => ⟨hf.1, hf.2, hp.2 (T.setVm vm₁) hT hW₁⟩) with ⟨v, vm₁, ⟨U', l2, c2, s2⟩, hW₁, X', ⟨g', mk, t, L, e1, e2, hq, h1, hL, h2, h3⟩, st⟩ | ⟨q, vm₁, ⟨U', l2, c2, s2⟩, hW₁, X', ⟨g', mk, t, L, E, ce, e1, e2, hq, hce, hcv, hcl, h1, hL, h2, h3⟩, st⟩
  · dsimp only [Pt.U, Pt.locs, Pt.cells, Pt.slots] at X' e1 e2 h1 h2 h3 st
    subst h1; subst h2; subst h3
    exact Or.inl ⟨v, (T.setVm vm₁).calling g' mk As.toArray, t, U', L, hT, X', hL, e1, e2, hq, st⟩
  · dsimp only [Pt.U, Pt.locs, Pt.cells, Pt.slots] at X' e1 e2 h1 h2 h3 st hcl
    subst h1; subst h2; subst h3
    exact Or.inr ⟨q, (T.setVm vm₁).calling g' mk As.toArray, t, U', L, E, ce, hT, X', hL, e1, e2, hq, hce, hcv, vx_cls hW₁ hcl, st⟩
end Runs
section Rows
variable {p : Program} {l : Launch} {e : Env} {R : Room} {s : State} {m : MethodId} {args : Array Value} {below : List Frame} {meth : Method} {c : Code} {H : Heap} {locs : List Loc} {cells slots : Nat} {Q : State → Prop}
variable {mc ms : Nat} {free : Addr → Prop} {A0 A1 : Nat → Prop} {H0 : Heap} {a : Array Value} {pc : Nat} {ls : Array Slot} {st0 rest : List Value}
theorem vx_keep {st₀ t T' : State} {L : List Loc} (h0 : st₀.heap = H) (e1 : T'.heap = t.heap) (hS : va_S A0 H0 H locs) (hA : ∀ q, q < H.size → A1 q → A0 q) (hf : ∀ q, free q → A0 q) (hL : ∀ q ∈ L, free q.base) (hF : va_F A1 st₀ t) :
    H.size ≤ T'.heap.size ∧ (∀ q : Nat, q < H.size → ¬ A1 q → T'.heap[q]? = H[q]?) ∧ va_S A0 H0 T'.heap (locs ++ L) := by
  obtain ⟨hz, hk⟩ := hF
  rw [h0] at hz hk
  exact ⟨by rw [e1]; exact hz, fun q h1 h2 => by rw [e1]; exact hk q h1 h2,
    ⟨Nat.le_trans hS.1 (by rw [e1]; exact hz), fun q h1 h2 => by rw [e1, hk q (Nat.lt_of_lt_of_le h1 hS.1) (fun z => h2 (hA q (Nat.lt_of_lt_of_le h1 hS.1) z))]; exact hS.2.1 q h1 h2, fun q hq => by
      rcases List.mem_append.mp hq with h | h
      · exact hS.2.2 q h
      · exact hf _ (hL q h)⟩⟩
theorem vx_calli {S SX : Type} {post : Int32 → S → Prop} {px : SX → Prop} {B : S → State → Prop} {BX : String → SX → State → Prop} {AX : Nat → Prop} (hr : vx_Run p l e R s m args below meth c H locs cells slots mc ms (F0 m pc ls st0) rest (va_Qi post B A1 a) (vx_X px BX AX) free) (hS : va_S A0 H0 H locs) (hA : ∀ q, q < H.size → A1 q → A0 q) (hf : ∀ q, free q → A0 q) (hAX : ∀ q, q < H.size → AX q → A0 q)
    (kx : ∀ (E : String) (ce : Cell) (q9 : Addr) (u : SX) (t : State) (H1 : Heap) (locs1 : List Loc), t.heap = H1 → s.vm.Alike t.vm → px u → BX E u t → H.size ≤ H1.size → (∀ q : Nat, q < H.size → ¬ AX q → H1[q]? = H[q]?) → va_S A0 H0 H1 locs1 → H1[q9]? = some ce → ce.vm = .none → s.vm.findClass E = some ce.cls → vx_W p l e R s m args below meth c H1 locs1 (cells + mc) (slots + ms) Q (F0 m pc ls rest) q9)
    (kk : ∀ (r : Int32) (u : S) (t : State) (H1 : Heap) (locs1 : List Loc), t.heap = H1 → s.vm.Alike t.vm → post r u → B u t → H.size ≤ H1.size → (∀ q : Nat, q < H.size → ¬ A1 q → H1[q]? = H[q]?) → va_S A0 H0 H1 locs1 → W p l e R s m args below meth c H1 locs1 (cells + mc) (slots + ms) Q (F0 m (pc + 3) ls (.int r :: rest))) : W p l e R s m args below meth c H locs cells slots Q (F0 m pc ls st0) := by
  intro T hT X
  rcases hr T hT X with ⟨v, st₀, t, T', L, h0, X', hL, e1, e2, ⟨⟨r, u, hv, hp, hb⟩, hF⟩, st⟩ | ⟨q, st₀, t, T', L, E, ce, h0, X', hL, e1, e2, ⟨u, hp, hb, hF⟩, hce, hcv, hcl, st⟩
  · cases hv
    obtain ⟨k1, k2, k3⟩ := vx_keep h0 e1 hS hA hf hL hF
    obtain ⟨t2, a1, b1⟩ := kk r u t T'.heap (locs ++ L) e1.symm (by rw [← e2]; exact X'.warmed.alike) hp hb k1 k2 k3 T' rfl X'
    exact ⟨t2, st t2 a1, b1⟩
  · obtain ⟨k1, k2, k3⟩ := vx_keep h0 e1 hS hAX hf hL hF
    obtain ⟨t2, a1, b1⟩ := kx E ce q u t T'.heap (locs ++ L) e1.symm (by rw [← e2]; exact X'.warmed.alike) hp hb k1 k2 k3 (by rw [e1]; exact hce) hcv hcl T' rfl X'
    exact ⟨t2, st.trans a1, b1⟩
theorem vx_calll {S SX : Type} {post : Int64 → S → Prop} {px : SX → Prop} {B : S → State → Prop} {BX : String → SX → State → Prop} {AX : Nat → Prop} (hr : vx_Run p l e R s m args below meth c H locs cells slots mc ms (F0 m pc ls st0) rest (va_Ql post B A1 a) (vx_X px BX AX) free) (hS : va_S A0 H0 H locs) (hA : ∀ q, q < H.size → A1 q → A0 q) (hf : ∀ q, free q → A0 q) (hAX : ∀ q, q < H.size → AX q → A0 q)
    (kx : ∀ (E : String) (ce : Cell) (q9 : Addr) (u : SX) (t : State) (H1 : Heap) (locs1 : List Loc), t.heap = H1 → s.vm.Alike t.vm → px u → BX E u t → H.size ≤ H1.size → (∀ q : Nat, q < H.size → ¬ AX q → H1[q]? = H[q]?) → va_S A0 H0 H1 locs1 → H1[q9]? = some ce → ce.vm = .none → s.vm.findClass E = some ce.cls → vx_W p l e R s m args below meth c H1 locs1 (cells + mc) (slots + ms) Q (F0 m pc ls rest) q9)
    (kk : ∀ (r : Int64) (u : S) (t : State) (H1 : Heap) (locs1 : List Loc), t.heap = H1 → s.vm.Alike t.vm → post r u → B u t → H.size ≤ H1.size → (∀ q : Nat, q < H.size → ¬ A1 q → H1[q]? = H[q]?) → va_S A0 H0 H1 locs1 → W p l e R s m args below meth c H1 locs1 (cells + mc) (slots + ms) Q (F0 m (pc + 3) ls (.long r :: rest))) : W p l e R s m args below meth c H locs cells slots Q (F0 m pc ls st0) := by
  intro T hT X
  rcases hr T hT X with ⟨v, st₀, t, T', L, h0, X', hL, e1, e2, ⟨⟨r, u, hv, hp, hb⟩, hF⟩, st⟩ | ⟨q, st₀, t, T', L, E, ce, h0, X', hL, e1, e2, ⟨u, hp, hb, hF⟩, hce, hcv, hcl, st⟩
  · cases hv
    obtain ⟨k1, k2, k3⟩ := vx_keep h0 e1 hS hA hf hL hF
    obtain ⟨t2, a1, b1⟩ := kk r u t T'.heap (locs ++ L) e1.symm (by rw [← e2]; exact X'.warmed.alike) hp hb k1 k2 k3 T' rfl X'
    exact ⟨t2, st t2 a1, b1⟩
  · obtain ⟨k1, k2, k3⟩ := vx_keep h0 e1 hS hAX hf hL hF
    obtain ⟨t2, a1, b1⟩ := kx E ce q u t T'.heap (locs ++ L) e1.symm (by rw [← e2]; exact X'.warmed.alike) hp hb k1 k2 k3 (by rw [e1]; exact hce) hcv hcl T' rfl X'
    exact ⟨t2, st.trans a1, b1⟩
theorem vx_callf {S SX : Type} {post : UInt32 → S → Prop} {px : SX → Prop} {B : S → State → Prop} {BX : String → SX → State → Prop} {AX : Nat → Prop} (hr : vx_Run p l e R s m args below meth c H locs cells slots mc ms (F0 m pc ls st0) rest (va_Qf post B A1 a) (vx_X px BX AX) free) (hS : va_S A0 H0 H locs) (hA : ∀ q, q < H.size → A1 q → A0 q) (hf : ∀ q, free q → A0 q) (hAX : ∀ q, q < H.size → AX q → A0 q)
    (kx : ∀ (E : String) (ce : Cell) (q9 : Addr) (u : SX) (t : State) (H1 : Heap) (locs1 : List Loc), t.heap = H1 → s.vm.Alike t.vm → px u → BX E u t → H.size ≤ H1.size → (∀ q : Nat, q < H.size → ¬ AX q → H1[q]? = H[q]?) → va_S A0 H0 H1 locs1 → H1[q9]? = some ce → ce.vm = .none → s.vm.findClass E = some ce.cls → vx_W p l e R s m args below meth c H1 locs1 (cells + mc) (slots + ms) Q (F0 m pc ls rest) q9)
    (kk : ∀ (r : UInt32) (u : S) (t : State) (H1 : Heap) (locs1 : List Loc), t.heap = H1 → s.vm.Alike t.vm → post r u → B u t → H.size ≤ H1.size → (∀ q : Nat, q < H.size → ¬ A1 q → H1[q]? = H[q]?) → va_S A0 H0 H1 locs1 → W p l e R s m args below meth c H1 locs1 (cells + mc) (slots + ms) Q (F0 m (pc + 3) ls (.float r :: rest))) : W p l e R s m args below meth c H locs cells slots Q (F0 m pc ls st0) := by
  intro T hT X
  rcases hr T hT X with ⟨v, st₀, t, T', L, h0, X', hL, e1, e2, ⟨⟨r, u, hv, hp, hb⟩, hF⟩, st⟩ | ⟨q, st₀, t, T', L, E, ce, h0, X', hL, e1, e2, ⟨u, hp, hb, hF⟩, hce, hcv, hcl, st⟩
  · cases hv
    obtain ⟨k1, k2, k3⟩ := vx_keep h0 e1 hS hA hf hL hF
    obtain ⟨t2, a1, b1⟩ := kk r u t T'.heap (locs ++ L) e1.symm (by rw [← e2]; exact X'.warmed.alike) hp hb k1 k2 k3 T' rfl X'
    exact ⟨t2, st t2 a1, b1⟩
  · obtain ⟨k1, k2, k3⟩ := vx_keep h0 e1 hS hAX hf hL hF
    obtain ⟨t2, a1, b1⟩ := kx E ce q u t T'.heap (locs ++ L) e1.symm (by rw [← e2]; exact X'.warmed.alike) hp hb k1 k2 k3 (by rw [e1]; exact hce) hcv hcl T' rfl X'
    exact ⟨t2, st.trans a1, b1⟩
theorem vx_calld {S SX : Type} {post : UInt64 → S → Prop} {px : SX → Prop} {B : S → State → Prop} {BX : String → SX → State → Prop} {AX : Nat → Prop} (hr : vx_Run p l e R s m args below meth c H locs cells slots mc ms (F0 m pc ls st0) rest (va_Qd post B A1 a) (vx_X px BX AX) free) (hS : va_S A0 H0 H locs) (hA : ∀ q, q < H.size → A1 q → A0 q) (hf : ∀ q, free q → A0 q) (hAX : ∀ q, q < H.size → AX q → A0 q)
    (kx : ∀ (E : String) (ce : Cell) (q9 : Addr) (u : SX) (t : State) (H1 : Heap) (locs1 : List Loc), t.heap = H1 → s.vm.Alike t.vm → px u → BX E u t → H.size ≤ H1.size → (∀ q : Nat, q < H.size → ¬ AX q → H1[q]? = H[q]?) → va_S A0 H0 H1 locs1 → H1[q9]? = some ce → ce.vm = .none → s.vm.findClass E = some ce.cls → vx_W p l e R s m args below meth c H1 locs1 (cells + mc) (slots + ms) Q (F0 m pc ls rest) q9)
    (kk : ∀ (r : UInt64) (u : S) (t : State) (H1 : Heap) (locs1 : List Loc), t.heap = H1 → s.vm.Alike t.vm → post r u → B u t → H.size ≤ H1.size → (∀ q : Nat, q < H.size → ¬ A1 q → H1[q]? = H[q]?) → va_S A0 H0 H1 locs1 → W p l e R s m args below meth c H1 locs1 (cells + mc) (slots + ms) Q (F0 m (pc + 3) ls (.double r :: rest))) : W p l e R s m args below meth c H locs cells slots Q (F0 m pc ls st0) := by
  intro T hT X
  rcases hr T hT X with ⟨v, st₀, t, T', L, h0, X', hL, e1, e2, ⟨⟨r, u, hv, hp, hb⟩, hF⟩, st⟩ | ⟨q, st₀, t, T', L, E, ce, h0, X', hL, e1, e2, ⟨u, hp, hb, hF⟩, hce, hcv, hcl, st⟩
  · cases hv
    obtain ⟨k1, k2, k3⟩ := vx_keep h0 e1 hS hA hf hL hF
    obtain ⟨t2, a1, b1⟩ := kk r u t T'.heap (locs ++ L) e1.symm (by rw [← e2]; exact X'.warmed.alike) hp hb k1 k2 k3 T' rfl X'
    exact ⟨t2, st t2 a1, b1⟩
  · obtain ⟨k1, k2, k3⟩ := vx_keep h0 e1 hS hAX hf hL hF
    obtain ⟨t2, a1, b1⟩ := kx E ce q u t T'.heap (locs ++ L) e1.symm (by rw [← e2]; exact X'.warmed.alike) hp hb k1 k2 k3 (by rw [e1]; exact hce) hcv hcl T' rfl X'
    exact ⟨t2, st.trans a1, b1⟩
theorem vx_callv {S SX : Type} {post : S → Prop} {px : SX → Prop} {B : S → State → Prop} {BX : String → SX → State → Prop} {AX : Nat → Prop} (hr : vx_Run p l e R s m args below meth c H locs cells slots mc ms (F0 m pc ls st0) rest (va_Qv post B A1 a) (vx_X px BX AX) free) (hS : va_S A0 H0 H locs) (hA : ∀ q, q < H.size → A1 q → A0 q) (hf : ∀ q, free q → A0 q) (hAX : ∀ q, q < H.size → AX q → A0 q)
    (kx : ∀ (E : String) (ce : Cell) (q9 : Addr) (u : SX) (t : State) (H1 : Heap) (locs1 : List Loc), t.heap = H1 → s.vm.Alike t.vm → px u → BX E u t → H.size ≤ H1.size → (∀ q : Nat, q < H.size → ¬ AX q → H1[q]? = H[q]?) → va_S A0 H0 H1 locs1 → H1[q9]? = some ce → ce.vm = .none → s.vm.findClass E = some ce.cls → vx_W p l e R s m args below meth c H1 locs1 (cells + mc) (slots + ms) Q (F0 m pc ls rest) q9)
    (kk : ∀ (u : S) (t : State) (H1 : Heap) (locs1 : List Loc), t.heap = H1 → s.vm.Alike t.vm → post u → B u t → H.size ≤ H1.size → (∀ q : Nat, q < H.size → ¬ A1 q → H1[q]? = H[q]?) → va_S A0 H0 H1 locs1 → W p l e R s m args below meth c H1 locs1 (cells + mc) (slots + ms) Q (F0 m (pc + 3) ls (rest))) : W p l e R s m args below meth c H locs cells slots Q (F0 m pc ls st0) := by
  intro T hT X
  rcases hr T hT X with ⟨v, st₀, t, T', L, h0, X', hL, e1, e2, ⟨⟨u, hv, hp, hb⟩, hF⟩, st⟩ | ⟨q, st₀, t, T', L, E, ce, h0, X', hL, e1, e2, ⟨u, hp, hb, hF⟩, hce, hcv, hcl, st⟩
  · cases hv
    obtain ⟨k1, k2, k3⟩ := vx_keep h0 e1 hS hA hf hL hF
    obtain ⟨t2, a1, b1⟩ := kk u t T'.heap (locs ++ L) e1.symm (by rw [← e2]; exact X'.warmed.alike) hp hb k1 k2 k3 T' rfl X'
    exact ⟨t2, st t2 a1, b1⟩
  · obtain ⟨k1, k2, k3⟩ := vx_keep h0 e1 hS hAX hf hL hF
    obtain ⟨t2, a1, b1⟩ := kx E ce q u t T'.heap (locs ++ L) e1.symm (by rw [← e2]; exact X'.warmed.alike) hp hb k1 k2 k3 (by rw [e1]; exact hce) hcv hcl T' rfl X'
    exact ⟨t2, st.trans a1, b1⟩
/-- caught by the row x of this method's table; the rows ahead don't take it -/
theorem vx_catch {own name : String} {E : String} {ce : Cell} {q : Addr} (hown : s.vm.findClass own = some m.cls) (pre : List ExceptionTableEntry) (x : ExceptionTableEntry) (suf : List ExceptionTableEntry) (hsplit : c.exceptionTable.toList = pre ++ x :: suf)
    (hpass : ∀ z ∈ pre, covers z pc = false ∨ (z.catchType ≠ 0 ∧ ∃ nm : String, (Cond.classLink own z.catchType nm).before args s = true ∧ va_Nc E nm s)) (hx : covers x pc = true) (h0 : x.catchType ≠ 0)
    (hlink : (Cond.classLink own x.catchType name).before args s = true) (hcast : (Cond.castable E name).before args s = true) (hcell : H[q]? = some ce) (hv : ce.vm = .none) (hcl : s.vm.findClass E = some ce.cls)
    (kk : W p l e R s m args below meth c H locs cells slots Q (F0 m x.handlerPc ls [.ref q])) : vx_W p l e R s m args below meth c H locs cells slots Q (F0 m pc ls rest) q := by
  intro T hT X
  have hpl : e.platform.magicAccessors = ({} : Platform).magicAccessors := by rw [X.admits.platform]
  obtain ⟨c3, c4, hc3, hc4, hasg⟩ := Cond.castable_spec hcast
  cases Option.some.inj (hc3.symm.trans hcl)
  obtain ⟨c5, hc5, hcl5⟩ := Cond.classLink_spec hown hlink e.platform hpl
  cases Option.some.inj (hc4.symm.trans hc5)
  obtain ⟨vm', X', st⟩ := X.thenCaughtThrough q (g := F0 m pc ls rest) rfl (Steps.refl _) (by rw [hT]; exact hcell) (by rw [hv]; rfl) (by obtain ⟨k9, h9, -⟩ := Vm.findClass_spec hcl; exact ⟨k9, h9⟩) pre x suf hsplit
    (fun z hz => by
      rcases hpass z hz with h | ⟨hz0, nm, hl1, hn1⟩
      · exact Or.inl h
      · obtain ⟨c6, hc6, hcl6⟩ := Cond.classLink_spec hown hl1 e.platform hpl
        obtain ⟨a8, b8, h1, h2, h3⟩ := hn1
        cases Option.some.inj (h1.symm.trans hcl)
        cases Option.some.inj (h2.symm.trans hc6)
        exact Or.inr ⟨hz0, _, hcl6, h3⟩) hx (Or.inr ⟨h0, c4, hcl5, hasg⟩)
  obtain ⟨t, a1, b1⟩ := kk (T.setVm vm') hT X'
  exact ⟨t, st.trans a1, b1⟩
end Rows
section Ends
variable {p : Program} {l : Launch} {e : Env} {R : Room} {s : State} {m : MethodId} {args : Array Value} {below : List Frame} {meth : Method} {c : Code} {H : Heap} {locs : List Loc} {cells slots : Nat} {Q : State → Prop}
variable {mc ms : Nat} {free : Addr → Prop} {A0 A1 : Nat → Prop} {H0 : Heap} {a : Array Value} {ls : Array Slot} {st0 rest : List Value}
variable {Qc : Array Value → State → Outcome → State → Prop} {XC : String → State → State → Prop}
/-- what a body that may throw owes at its end -/
def vx_MQ (below : List Frame) (Qc : Array Value → State → Outcome → State → Prop) (XC : String → State → State → Prop) (a : Array Value) (s : State) (mc ms : Nat) (free : Addr → Prop) : State → Prop := fun t =>
  ∃ o, t.status = .running ∧ Ended t below o ∧ vx_Q Qc XC mc ms free a s o t
theorem vx_ret {g : JFrame} {mc ms : Nat} (k : W p l e R s m args below meth c H locs cells slots (MQ below Qc args s mc ms free) g) : W p l e R s m args below meth c H locs cells slots (vx_MQ below Qc XC args s mc ms free) g := by
  intro T hT X
  obtain ⟨t, a1, o, b1, b2, b3, b4⟩ := k T hT X
  exact ⟨t, a1, o, b1, b2, Or.inl ⟨b3, b4⟩⟩
/-- not caught here: it goes on to the caller -/
theorem vx_widen {g : JFrame} {q : Addr} {k n : Nat} (h1 : cells ≤ k) (h2 : slots ≤ n) (kk : vx_W p l e R s m args below meth c H locs k n Q g q) : vx_W p l e R s m args below meth c H locs cells slots Q g q := fun T hT X => kk T hT (stand_widen X h1 h2)
theorem vx_out {pc : Nat} {E : String} {ce : Cell} {q : Addr} {mc ms : Nat} (hout : ∀ x ∈ c.exceptionTable.toList, covers x pc = false) (hlocks : meth.locks = false) (hcell : H[q]? = some ce) (hv : ce.vm = .none) (hcl : s.vm.findClass E = some ce.cls)
    (hx : ∀ t : State, t.heap = H → s.vm.Alike t.vm → XC E s t) (hf : ∀ z ∈ locs, free z.base) (hc : cells ≤ mc) (hs : slots ≤ ms) :
    vx_W p l e R s m args below meth c H locs cells slots (vx_MQ below Qc XC args s mc ms free) (F0 m pc ls rest) q := by
  intro T hT X
  obtain ⟨st1, hrun, hend, hW, hsm⟩ := X.leaveThrown q (g := F0 m pc ls rest) rfl rfl rfl hout hlocks
  have hcell9 : (T.setFrames (.throwing q :: below)).heap[q]? = some ce := by
    show T.heap[q]? = some ce
    rw [hT]; exact hcell
  exact ⟨_, st1, .threw q, hrun, hend, Or.inr ⟨q, rfl, E, ce, locs, hx _ hT hW.alike, hcell9, hv, hcl, hW, hsm.mono hc hs, hf⟩⟩
theorem vx_frame {U : State} {k n : Nat} (h : s.sameButNew ({ U with vm := s.vm } : State) locs k n) : s.heap.size ≤ U.heap.size ∧ ∀ q : Nat, q < s.heap.size → (∀ z ∈ locs, z.base ≠ q) → U.heap[q]? = s.heap[q]? := by
  obtain ⟨-, h2, -, -, -, h6⟩ := h
  refine ⟨h2, fun q hq hz => ?_⟩
  obtain ⟨c9, e1, e2, e3, e4⟩ := h6 q _ (Array.getElem?_eq_getElem hq)
  have hs : c9.slots = (s.heap[q]).slots := Array.ext_getElem? fun i => e4 i fun hm => hz _ hm rfl
  have h9 : c9 = s.heap[q] := by
    rw [hs] at e2
    exact e2
  have e5 : U.heap[q]? = some c9 := e1
  rw [e5, h9, Array.getElem?_eq_getElem hq]
/-- the words of a throw but the four that speak of the heap -/
def vx_no (w : Cond) : Bool := decide (w ≠ .isRef (.static Bundle.tN "UNASSIGNED_STACK" Bundle.steD)) && decide (w ≠ .isRef (.static Bundle.tN "SUPPRESSED_SENTINEL" Bundle.listD)) && decide (w ≠ .laysStatic Bundle.tN "UNASSIGNED_STACK" Bundle.steD) && decide (w ≠ .laysStatic Bundle.tN "SUPPRESSED_SENTINEL" Bundle.listD)
def vx_at0 (own : String) (ic : Nat) (X : String) (names : List String) : List Cond := (Bundle.ownAtoms0 own ic X names).filter vx_no
def vx_atS (own : String) (ic : Nat) (X : String) (names : List String) : List Cond := (Bundle.ownAtoms own ic X names).filter vx_no
/-- a word that the tables alone decide, or a good one -/
def vx_ot (w : Cond) : Bool := w.onTables || goodWord w
theorem vx_ot_at {args a' : Array Value} {s U : State} {w : Cond} (hW : s.WarmedH U.vm) (hvm : s.vm = U.vm) (hg : vx_ot w = true) (h : w.before args s = true) : w.before a' U = true := by
  simp only [vx_ot, Bool.or_eq_true] at hg
  rcases hg with hg | hg
  · exact va_tabs hg hvm h
  · exact word_at hW (good_of_word hg) h
/-- a list's words: the good ones out of the method's own list, the others by premises of their own -/
theorem vx_hat {args : Array Value} {s : State} {L B : List Cond} (h1 : ∀ w ∈ L.filter goodWord, w.before args s = true) (h2 : ∀ w ∈ L.filter (fun w => !goodWord w), w ∈ B) (h3 : ∀ w ∈ B, w.before args s = true) : ∀ w ∈ L, w.before args s = true := by
  intro w hw
  by_cases g : goodWord w = true
  · exact h1 w (List.mem_filter.mpr ⟨hw, g⟩)
  · refine h3 w (h2 w (List.mem_filter.mpr ⟨hw, ?_⟩))
    show (!goodWord w) = true
    cases hgw : goodWord w
    · rfl
    · exact absurd hgw g
theorem vx_c {args : Array Value} {s : State} {w : Cond} {B : List Cond} (h : w.before args s = true) (t : ∀ w ∈ B, w.before args s = true) : ∀ w' ∈ w :: B, w'.before args s = true := fun w' h' => (List.mem_cons.mp h').elim (fun e => by rw [e]; exact h) (t w')
theorem vx_n {args : Array Value} {s : State} : ∀ w ∈ ([] : List Cond), w.before args s = true := fun _ h => nomatch h
theorem vx_own {args : Array Value} {s : State} {L : List Cond} (h1 : ∀ w ∈ L.filter vx_no, w.before args s = true)
    (hU : (Cond.isRef (.static Bundle.tN "UNASSIGNED_STACK" Bundle.steD)).before args s = true) (hN : (Cond.isRef (.static Bundle.tN "SUPPRESSED_SENTINEL" Bundle.listD)).before args s = true)
    (lU : (Cond.laysStatic Bundle.tN "UNASSIGNED_STACK" Bundle.steD).before args s = true) (lN : (Cond.laysStatic Bundle.tN "SUPPRESSED_SENTINEL" Bundle.listD).before args s = true) : ∀ w ∈ L, w.before args s = true := by
  intro w hw
  by_cases e1 : w = .isRef (.static Bundle.tN "UNASSIGNED_STACK" Bundle.steD)
  · rw [e1]; exact hU
  · by_cases e2 : w = .isRef (.static Bundle.tN "SUPPRESSED_SENTINEL" Bundle.listD)
    · rw [e2]; exact hN
    · by_cases e3 : w = .laysStatic Bundle.tN "UNASSIGNED_STACK" Bundle.steD
      · rw [e3]; exact lU
      · by_cases e4 : w = .laysStatic Bundle.tN "SUPPRESSED_SENTINEL" Bundle.listD
        · rw [e4]; exact lN
        · exact h1 w (List.mem_filter.mpr ⟨hw, by unfold vx_no; rw [decide_eq_true e1, decide_eq_true e2, decide_eq_true e3, decide_eq_true e4]; rfl⟩)
/-- where a static field lies, its class's statics cell in H -/
def vx_L (C n d : String) (A : Nat → Prop) (U : State) (H : Heap) : Prop := ∃ (c : ClassId) (k : Class) (i : Nat) (f : Field) (a : Nat) (cell : Cell), U.vm.findClass C = some c ∧ U.fieldFound? C n d = some (c, k, i, f) ∧ f.isStatic = true ∧ k.statics = some a ∧ H[a]? = some cell ∧ cell.vm.isStatics = true ∧ cell.cls = c ∧ f.slot < cell.slots.size ∧ k.staticTypes[f.slot]? = some f.type ∧ ¬ A a
theorem vx_L.moved {C n d : String} {A : Nat → Prop} {u U : State} {H : Heap} (hvm : u.vm.Alike U.vm) (h : vx_L C n d A u H) : vx_L C n d A U H := by
  obtain ⟨c, k, i, f, a, cell, h1, h2, h3, h4, h5, h6, h7, h8, h9, h10⟩ := h
  obtain ⟨k', hi', he⟩ := State.fieldFound?_setVm hvm h2
  exact ⟨c, k', i, f, a, cell, by rw [hvm.findClass]; exact h1, hi', h3, by rw [he]; exact h4, h5, h6, h7, h8, by rw [he]; exact h9, h10⟩
theorem vx_L.kept {C n d : String} {A : Nat → Prop} {U : State} {H H1 : Heap} (h : vx_L C n d A U H) (hq : ∀ a : Nat, a < H.size → ¬ A a → H1[a]? = H[a]?) : vx_L C n d A U H1 := by
  obtain ⟨c, k, i, f, a, cell, h1, h2, h3, h4, h5, h6, h7, h8, h9, h10⟩ := h
  exact ⟨c, k, i, f, a, cell, h1, h2, h3, h4, by rw [hq a (Array.getElem?_eq_some_iff.mp h5).1 h10]; exact h5, h6, h7, h8, h9, h10⟩
theorem vx_L.narrow {C n d : String} {A B : Nat → Prop} {U : State} {H : Heap} (h : vx_L C n d A U H) (hAB : ∀ q, B q → A q) : vx_L C n d B U H := by
  obtain ⟨c, k, i, f, a, cell, h1, h2, h3, h4, h5, h6, h7, h8, h9, h10⟩ := h
  exact ⟨c, k, i, f, a, cell, h1, h2, h3, h4, h5, h6, h7, h8, h9, fun z => h10 (hAB _ z)⟩
theorem vx_L.word {C n d : String} {A : Nat → Prop} {s : State} {args : Array Value} (h : vx_L C n d A s s.heap) : (Cond.laysStatic C n d).before args s = true := by
  obtain ⟨c, k, i, f, a, cell, h1, h2, h3, h4, h5, h6, h7, h8, h9, -⟩ := h
  show (Cond.laysStatic C n d).holds args s none s [] = true
  exact Cond.laysStatic_of h1 h2 h3 h4 h5 h6 h7 h8 h9
/-- .. and what it holds: null or some reference -/
def vx_Zq (C n d : String) (A : Nat → Prop) (U : State) (H : Heap) : Prop := va_Zq C n d A U H ∧ vx_L C n d A U H
theorem vx_Zq.moved {C n d : String} {A : Nat → Prop} {u U : State} {H : Heap} (hvm : u.vm.Alike U.vm) (h : vx_Zq C n d A u H) : vx_Zq C n d A U H := ⟨va_Zq.moved hvm h.1, vx_L.moved hvm h.2⟩
theorem vx_Zq.kept {C n d : String} {A : Nat → Prop} {U : State} {H H1 : Heap} (h : vx_Zq C n d A U H) (hq : ∀ a : Nat, a < H.size → ¬ A a → H1[a]? = H[a]?) : vx_Zq C n d A U H1 := ⟨va_Zq.kept h.1 hq, vx_L.kept h.2 hq⟩
theorem vx_Zq.narrow {C n d : String} {A B : Nat → Prop} {U : State} {H : Heap} (h : vx_Zq C n d A U H) (hAB : ∀ q, B q → A q) : vx_Zq C n d B U H := ⟨va_Zq.narrow h.1 hAB, vx_L.narrow h.2 hAB⟩
theorem vx_Zqof {args : Array Value} {s : State} {C n d : String} {A : Nat → Prop} (hl : (Cond.laysStatic C n d).before args s = true) (hini : (Cond.initialized C).before args s = true) (h : (Cond.isRef (.static C n d)).before args s = true) (hA : ∀ a : Nat, a < s.heap.size → ¬ A a) : vx_Zq C n d A s s.heap := by
  refine ⟨va_Zqof hl hini h hA, ?_⟩
  obtain ⟨c, k, i, f, a, cell, h1, h2, h3, h4, h5, h6, h7, h8, h9⟩ := Cond.laysStatic_spec hl
  exact ⟨c, k, i, f, a, cell, h1, h2, h3, h4, h5, h6, h7, h8, h9, hA a (Array.getElem?_eq_some_iff.mp h5).1⟩
theorem vx_isRef {C n d : String} {v : Value} {A : Nat → Prop} {s : State} {args : Array Value} (h : va_Z C n d v A s s.heap) (hv : v.isRef = true) : (Cond.isRef (.static C n d)).before args s = true := by
  obtain ⟨cf, kf, fi, f, a, cell, h1, h2, h3, h4, h5, h6, h7, -⟩ := h
  have he : (Term.static C n d).eval args s none [] s = some v := by
    simp [Term.eval, State.fieldNamed?, h1, h2, h4, h5, h6, h7]
  simp only [Cond.before, Cond.holds, Cond.value, he]
  cases v <;> simp_all [Value.isRef]
theorem vx_isRefq {C n d : String} {A : Nat → Prop} {s : State} {args : Array Value} (h : va_Zq C n d A s s.heap) : (Cond.isRef (.static C n d)).before args s = true := by
  rcases h with h | ⟨t, h⟩
  · exact vx_isRef h rfl
  · exact vx_isRef h rfl
/-- the same frame, seen from here: as if the method were called anew in this heap -/
theorem vx_rebase {T : State} (X : Stand p l e R s m args below meth c T locs cells slots) {R' : Room} (hf : R'.frames ≤ R.frames) (hl : R'.locals ≤ R.locals) (hc : cells + R'.cells ≤ R.cells) (hs : slots + R'.slots ≤ R.slots) :
    Stand p l e R' ((T.setVm s.vm).setFrames (.invoking m args :: below)) m args below meth c T [] 0 0 := by
  have htop : (T.setVm s.vm).topJava?.isSome := X.here.top
  have hF : ((T.setVm s.vm).setFrames (.invoking m args :: below)).frames = .invoking m args :: below := State.frames_setFrames _ (State.cur_lt_of_top htop)
  obtain ⟨g₀, hg0⟩ := Option.isSome_iff_exists.mp htop
  obtain ⟨r, hr⟩ := State.topJava?_eq_some.mp hg0
  have hl9 : e.platform.stackLimits (T.setVm s.vm).me = e.platform.stackLimits s.me := X.limits
  have hb9 : (T.setVm s.vm).me.stackBytes = s.me.stackBytes := X.bytes
  refine ⟨X.admits, X.cas, X.clock, hF, ?_, X.hears, X.method, X.code, X.here, X.tail, X.warmed, ?_, ?_, ?_⟩
  · have h := X.room
    have hU : ((T.setVm s.vm).setFrames (.invoking m args :: below)).localsInUse = s.localsInUse := by
      rw [State.localsInUse_invoking hF (meth := meth) (c := c) X.method X.code, State.localsInUse_invoking X.frames X.method X.code]
    simp only [State.hasRoom, Bool.and_eq_true, decide_eq_true_eq] at h ⊢
    obtain ⟨⟨⟨⟨h1, h2, h3, h4, h5, h6⟩, h7⟩, h8⟩, h9⟩ := h
    rw [X.frames, List.length_cons] at h2 h3
    have q1 := X.heapSize
    have q2 := X.used
    simp only [hF, hU, List.length_cons, State.stackLimits_setFrames, State.stackBytes_setFrames, hl9, hb9]
    refine ⟨⟨⟨⟨by omega, by omega, by omega, by omega, by omega, h6⟩, ?_⟩, ?_⟩, X.book⟩
    · show T.heap.size + R'.cells ≤ e.platform.maxCells
      omega
    · show T.slotsUsed + R'.slots ≤ e.platform.maxSlots
      omega
  · rw [State.stackLimits_setFrames]; rfl
  · rw [State.stackBytes_setFrames]; rfl
  · refine ⟨?_, Nat.le_refl _, Nat.le_refl _, ?_, ?_, fun a c9 h9 => ⟨c9, h9, rfl, rfl, fun _ _ => rfl⟩⟩
    · obtain ⟨t, ht, -⟩ := State.frames_cons hr
      show T.setVm s.vm = { ((T.setVm s.vm).setFrames (.invoking m args :: below)).setFrames (T.setVm s.vm).frames with heap := T.heap, slotsUsed := T.slotsUsed }
      rw [State.setFrames_setFrames, State.setFrames_self ht]
      rfl
    · show T.slotsUsed = T.slotsUsed + ((T.heap.toList.drop T.heap.size).map (·.slots.size)).sum
      rw [List.drop_eq_nil_of_le (Nat.le_of_eq Array.length_toList)]
      rfl
    · show ((T.heap.toList.drop T.heap.size).map (·.slots.size)).sum ≤ 0
      rw [List.drop_eq_nil_of_le (Nat.le_of_eq Array.length_toList)]
      exact Nat.le_refl _
/-- 'throw new E()': new; dup; invokespecial; athrow -/
theorem vx_throw0 {cc : ByteArray} {pc : Nat} (hexec : p.tables.exec = Jvm.exec) (hb : c.code = cc) (hl : l.stackTraces = false) {own cls : String} {names : List String} {ik ic mc ms : Nat} {A : Nat → Prop}
    (hown : s.vm.findClass own = some m.cls) (hcls : Bundle.fit cls = true) (hnames : ∀ n ∈ names, Bundle.fit n = true)
    (hk : (Cond.classLink own ik cls).before args s = true) (hini : (Cond.initialized cls).before args s = true) (hat : ∀ w ∈ vx_at0 own ic cls names, w.before args s = true)
    (hgood : ∀ w ∈ Cond.classLink own ik cls :: Cond.initialized cls :: vx_at0 own ic cls names, vx_ot w = true)
    (hU : vx_Zq Bundle.tN "UNASSIGNED_STACK" Bundle.steD A s s.heap) (hN : vx_Zq Bundle.tN "SUPPRESSED_SENTINEL" Bundle.listD A s s.heap) (hS : va_S A s.heap H locs) (hsize : ls.size = c.maxLocals)
    (d0 : decode cc pc = .ok (.new ik, 3)) (d3 : decode cc (pc + 3) = .ok (.dup, 1)) (d4 : decode cc (pc + 4) = .ok (.invokespecial ic, 3)) (d7 : decode cc (pc + 7) = .ok (.athrow, 1))
    (hout : ∀ x ∈ c.exceptionTable.toList, covers x (pc + 7) = false)
    (hRframes : names.length + 3 < R.frames) (hRlocals : (rest.map fun v => v.category).sum + (13 * (names.length + 1) + 42) ≤ R.locals) (hRcells : cells + 1 ≤ R.cells) (hRslots : slots + 6 ≤ R.slots) (hlocks : meth.locks = false)
    (hx : ∀ t : State, s.vm.Alike t.vm → H.size ≤ t.heap.size → (∀ q : Nat, q < H.size → t.heap[q]? = H[q]?) → XC cls s t)
    (hf : ∀ z ∈ locs, free z.base) (hc : cells + 1 ≤ mc) (hs : slots + 6 ≤ ms) :
    W p l e R s m args below meth c H locs cells slots (vx_MQ below Qc XC args s mc ms free) (F0 m pc ls rest) := by
  intro T hT X
  have htr : e.platform.stackTraces = false := (show e.platform.stackTraces = l.stackTraces by rw [X.admits.platform]).trans hl
  have Y := vx_rebase X (R' := { frames := R.frames, locals := R.locals, cells := 1, slots := 6 }) (Nat.le_refl _) (Nat.le_refl _) hRcells hRslots
  obtain ⟨s', hA⟩ : ∃ z, z = (T.setVm s.vm).setFrames (.invoking m args :: below) := ⟨_, rfl⟩
  rw [← hA] at Y
  have hvm : s'.vm = s.vm := by rw [hA]; rfl
  have hhp : s'.heap = H := by rw [hA]; exact hT
  have hW0 : s.WarmedH s'.vm := by rw [hvm]; exact State.WarmedH.refl s
  have hat' : ∀ w ∈ vx_at0 own ic cls names, w.before args s' = true := fun w hw => vx_ot_at hW0 hvm.symm (hgood w (List.mem_cons_of_mem _ (List.mem_cons_of_mem _ hw))) (hat w hw)
  have hk' : (Cond.classLink own ik cls).before args s' = true := vx_ot_at hW0 hvm.symm (hgood _ List.mem_cons_self) hk
  have hini' : (Cond.initialized cls).before args s' = true := vx_ot_at hW0 hvm.symm (hgood _ (List.mem_cons_of_mem _ List.mem_cons_self)) hini
  have hU' : vx_Zq Bundle.tN "UNASSIGNED_STACK" Bundle.steD A s' s'.heap := by rw [hhp]; exact vx_Zq.moved hW0.alike (hU.kept hS.2.1)
  have hN' : vx_Zq Bundle.tN "SUPPRESSED_SENTINEL" Bundle.listD A s' s'.heap := by rw [hhp]; exact vx_Zq.moved hW0.alike (hN.kept hS.2.1)
  have h : ∀ w ∈ Bundle.ownAtoms0 own ic cls names, w.before args s' = true := vx_own hat' (vx_isRefq hU'.1) (vx_isRefq hN'.1) hU'.2.word hN'.2.word
  have hown' : s'.vm.findClass own = some m.cls := by rw [hvm]; exact hown
  have hins : (Cond.instantiable cls 6).before args s' = true := h _ (by simp [Bundle.ownAtoms0])
  obtain ⟨vm₁, cX, kX, hfX, hkX, -, -, X₁, st1⟩ := Y.newCold hexec (own := own) (C := cls) (index := ik) (n := 6) hown' hk' hins hini'
    (g := F0 m pc ls rest) rfl (by rw [hb]; exact d0) (Nat.le_refl _) (Nat.le_refl _)
  generalize hT1 : (T.setVm vm₁).pushCell { cls := cX, slots := kX.instanceTypes.map defaultValue, vm := .none } = T1 at X₁ st1
  have hcat : (Value.ref T.heap.size).category = 1 := rfl
  have hcellA : T1.heap[T.heap.size]? = some (freshCell cX kX) := by rw [← hT1]; exact State.heap_pushCell_size _ _
  have d3' : decode c.code (pc + 3) = .ok (.dup, 1) := by rw [hb]; exact d3
  obtain ⟨U, hsteps, hrun, hend, hW, hsame, ce, hce, hO⟩ := X₁.ctorThrow0 hexec htr (own := own) (cls := cls) (names := names) (ic := ic) hown' hcls hnames h (fun x hx => nomatch hx) hfX hkX hcellA (by rw [hhp, hT]; exact Nat.le_refl _)
    (g := { method := m, pc := pc + 4, locals := ls, stack := .ref T.heap.size :: .ref T.heap.size :: rest, locked := none }) rfl hsize rfl rfl (rest := rest) rfl
    (by rw [hb]; exact d4) (by rw [hb]; exact d7) hout hRframes (by simp only [List.map_cons, List.sum_cons, hcat]; omega) hlocks
  obtain ⟨f1, f2⟩ := vx_frame hsame
  rw [hhp] at f1 f2
  have hWs : s.WarmedH U.vm := State.WarmedH.trans hW0 hW
  have hcl : s.vm.findClass cls = some ce.cls := by
    have h9 := hO.cls
    rw [hvm] at h9
    exact h9
  have hall : s.sameButNew ({ U with vm := s.vm } : State) locs mc ms := by
    subst hA
    obtain ⟨e1, e2⟩ := hsame
    rw [State.setFrames_setFrames] at e1
    have h2 : (T.setVm s.vm).sameButNew ({ U with vm := s.vm } : State) [] (0 + 1) (0 + 6) := ⟨e1, e2⟩
    have h3 := X.same.trans h2
    rw [List.append_nil] at h3
    exact h3.mono hc hs
  refine ⟨U, ?_, .threw T.heap.size, hrun, hend, Or.inr ⟨T.heap.size, rfl, cls, ce, locs, hx U hWs.alike f1 (fun q hq => f2 q hq (fun z hz => nomatch hz)), hce, hO.vm, hcl, hWs, hall, hf⟩⟩
  refine st1 _ ?_
  show Steps p.tables e below (T1.setTop { method := m, pc := pc + 3, locals := ls, stack := .ref T.heap.size :: rest, locked := none }) _
  jvm_step X₁.here [X₁.here.top, hexec, d3', Value.category]
  exact hsteps
/-- 'throw new E("text")': new; dup; ldc; invokespecial; athrow -/
theorem vx_throwS {cc : ByteArray} {pc : Nat} (hexec : p.tables.exec = Jvm.exec) (hb : c.code = cc) (hl : l.stackTraces = false) {own cls text : String} {names : List String} {ik is ic mc ms sa : Nat} {A : Nat → Prop}
    (hown : s.vm.findClass own = some m.cls) (hcls : Bundle.fit cls = true) (hnames : ∀ n ∈ names, Bundle.fit n = true)
    (hk : (Cond.classLink own ik cls).before args s = true) (hini : (Cond.initialized cls).before args s = true) (hstr : vk_R own is text sa s) (hat : ∀ w ∈ vx_atS own ic cls names, w.before args s = true)
    (hgood : ∀ w ∈ Cond.classLink own ik cls :: Cond.initialized cls :: vx_atS own ic cls names, vx_ot w = true)
    (hU : vx_Zq Bundle.tN "UNASSIGNED_STACK" Bundle.steD A s s.heap) (hN : vx_Zq Bundle.tN "SUPPRESSED_SENTINEL" Bundle.listD A s s.heap) (hS : va_S A s.heap H locs) (hsize : ls.size = c.maxLocals)
    (d0 : decode cc pc = .ok (.new ik, 3)) (d3 : decode cc (pc + 3) = .ok (.dup, 1)) (d4 : decode cc (pc + 4) = .ok (.ldc is, 2)) (d6 : decode cc (pc + 6) = .ok (.invokespecial ic, 3)) (d9 : decode cc (pc + 9) = .ok (.athrow, 1))
    (hout : ∀ x ∈ c.exceptionTable.toList, covers x (pc + 9) = false)
    (hRframes : names.length + 3 < R.frames) (hRlocals : (rest.map fun v => v.category).sum + (13 * (names.length + 1) + 43) ≤ R.locals) (hRcells : cells + 1 ≤ R.cells) (hRslots : slots + 6 ≤ R.slots) (hlocks : meth.locks = false)
    (hx : ∀ t : State, s.vm.Alike t.vm → H.size ≤ t.heap.size → (∀ q : Nat, q < H.size → t.heap[q]? = H[q]?) → XC cls s t)
    (hf : ∀ z ∈ locs, free z.base) (hc : cells + 1 ≤ mc) (hs : slots + 6 ≤ ms) :
    W p l e R s m args below meth c H locs cells slots (vx_MQ below Qc XC args s mc ms free) (F0 m pc ls rest) := by
  intro T hT X
  have htr : e.platform.stackTraces = false := (show e.platform.stackTraces = l.stackTraces by rw [X.admits.platform]).trans hl
  have Y := vx_rebase X (R' := { frames := R.frames, locals := R.locals, cells := 1, slots := 6 }) (Nat.le_refl _) (Nat.le_refl _) hRcells hRslots
  obtain ⟨s', hA⟩ : ∃ z, z = (T.setVm s.vm).setFrames (.invoking m args :: below) := ⟨_, rfl⟩
  rw [← hA] at Y
  have hvm : s'.vm = s.vm := by rw [hA]; rfl
  have hhp : s'.heap = H := by rw [hA]; exact hT
  have hW0 : s.WarmedH s'.vm := by rw [hvm]; exact State.WarmedH.refl s
  have hat' : ∀ w ∈ vx_atS own ic cls names, w.before args s' = true := fun w hw => vx_ot_at hW0 hvm.symm (hgood w (List.mem_cons_of_mem _ (List.mem_cons_of_mem _ hw))) (hat w hw)
  have hk' : (Cond.classLink own ik cls).before args s' = true := vx_ot_at hW0 hvm.symm (hgood _ List.mem_cons_self) hk
  have hini' : (Cond.initialized cls).before args s' = true := vx_ot_at hW0 hvm.symm (hgood _ (List.mem_cons_of_mem _ List.mem_cons_self)) hini
  have hU' : vx_Zq Bundle.tN "UNASSIGNED_STACK" Bundle.steD A s' s'.heap := by rw [hhp]; exact vx_Zq.moved hW0.alike (hU.kept hS.2.1)
  have hN' : vx_Zq Bundle.tN "SUPPRESSED_SENTINEL" Bundle.listD A s' s'.heap := by rw [hhp]; exact vx_Zq.moved hW0.alike (hN.kept hS.2.1)
  have h : ∀ w ∈ Bundle.ownAtoms own ic cls names, w.before args s' = true := vx_own hat' (vx_isRefq hU'.1) (vx_isRefq hN'.1) hU'.2.word hN'.2.word
  have hown' : s'.vm.findClass own = some m.cls := by rw [hvm]; exact hown
  have hins : (Cond.instantiable cls 6).before args s' = true := h _ (by simp [Bundle.ownAtoms])
  obtain ⟨vm₁, cX, kX, hfX, hkX, -, -, X₁, st1⟩ := Y.newCold hexec (own := own) (C := cls) (index := ik) (n := 6) hown' hk' hins hini'
    (g := F0 m pc ls rest) rfl (by rw [hb]; exact d0) (Nat.le_refl _) (Nat.le_refl _)
  generalize hT1 : (T.setVm vm₁).pushCell { cls := cX, slots := kX.instanceTypes.map defaultValue, vm := .none } = T1 at X₁ st1
  have hcat : (Value.ref T.heap.size).category = 1 := rfl
  have hcellA : T1.heap[T.heap.size]? = some (freshCell cX kX) := by rw [← hT1]; exact State.heap_pushCell_size _ _
  have d3' : decode c.code (pc + 3) = .ok (.dup, 1) := by rw [hb]; exact d3
  have d4' : decode c.code (pc + 4) = .ok (.ldc is, 2) := by rw [hb]; exact d4
  have hstr' : vk_R own is text sa s' := vk_R.warm hW0 hstr
  obtain ⟨U, hsteps, hrun, hend, hW, hsame, ce, hce, hO⟩ := X₁.ctorThrowS hexec htr (own := own) (cls := cls) (names := names) (ic := ic) hown' hcls hnames h (fun x hx => nomatch hx) hfX hkX hcellA (by rw [hhp, hT]; exact Nat.le_refl _) (msg := .ref sa) rfl
    (g := { method := m, pc := pc + 6, locals := ls, stack := .ref sa :: .ref T.heap.size :: .ref T.heap.size :: rest, locked := none }) rfl hsize rfl rfl (rest := rest) rfl
    (by rw [hb]; exact d6) (by rw [hb]; exact d9) hout hRframes (by simp only [List.map_cons, List.sum_cons, hcat]; omega) hlocks
  obtain ⟨f1, f2⟩ := vx_frame hsame
  rw [hhp] at f1 f2
  have hWs : s.WarmedH U.vm := State.WarmedH.trans hW0 hW
  have hcl : s.vm.findClass cls = some ce.cls := by
    have h9 := hO.cls
    rw [hvm] at h9
    exact h9
  have hall : s.sameButNew ({ U with vm := s.vm } : State) locs mc ms := by
    subst hA
    obtain ⟨e1, e2⟩ := hsame
    rw [State.setFrames_setFrames] at e1
    have h2 : (T.setVm s.vm).sameButNew ({ U with vm := s.vm } : State) [] (0 + 1) (0 + 6) := ⟨e1, e2⟩
    have h3 := X.same.trans h2
    rw [List.append_nil] at h3
    exact h3.mono hc hs
  refine ⟨U, ?_, .threw T.heap.size, hrun, hend, Or.inr ⟨T.heap.size, rfl, cls, ce, locs, hx U hWs.alike f1 (fun q hq => f2 q hq (fun z hz => nomatch hz)), hce, hO.vm, hcl, hWs, hall, hf⟩⟩
  refine st1 _ ?_
  show Steps p.tables e below (T1.setTop { method := m, pc := pc + 3, locals := ls, stack := .ref T.heap.size :: rest, locked := none }) _
  jvm_step X₁.here [X₁.here.top, hexec, d3', Value.category]
  exact X₁.ldcString hexec (own := own) (text := text) (index := is) (a := sa) hown' hstr'.1 hstr'.2
    (g := { method := m, pc := pc + 4, locals := ls, stack := .ref T.heap.size :: .ref T.heap.size :: rest, locked := none }) rfl d4' _ hsteps
/-- 'throw new E("text")', the text by a wide index -/
theorem vx_throwSW {cc : ByteArray} {pc : Nat} (hexec : p.tables.exec = Jvm.exec) (hb : c.code = cc) (hl : l.stackTraces = false) {own cls text : String} {names : List String} {ik is ic mc ms sa : Nat} {A : Nat → Prop}
    (hown : s.vm.findClass own = some m.cls) (hcls : Bundle.fit cls = true) (hnames : ∀ n ∈ names, Bundle.fit n = true)
    (hk : (Cond.classLink own ik cls).before args s = true) (hini : (Cond.initialized cls).before args s = true) (hstr : vk_R own is text sa s) (hat : ∀ w ∈ vx_atS own ic cls names, w.before args s = true)
    (hgood : ∀ w ∈ Cond.classLink own ik cls :: Cond.initialized cls :: vx_atS own ic cls names, vx_ot w = true)
    (hU : vx_Zq Bundle.tN "UNASSIGNED_STACK" Bundle.steD A s s.heap) (hN : vx_Zq Bundle.tN "SUPPRESSED_SENTINEL" Bundle.listD A s s.heap) (hS : va_S A s.heap H locs) (hsize : ls.size = c.maxLocals)
    (d0 : decode cc pc = .ok (.new ik, 3)) (d3 : decode cc (pc + 3) = .ok (.dup, 1)) (d4 : decode cc (pc + 4) = .ok (.ldc_w is, 3)) (d7 : decode cc (pc + 7) = .ok (.invokespecial ic, 3)) (d10 : decode cc (pc + 10) = .ok (.athrow, 1))
    (hout : ∀ x ∈ c.exceptionTable.toList, covers x (pc + 10) = false)
    (hRframes : names.length + 3 < R.frames) (hRlocals : (rest.map fun v => v.category).sum + (13 * (names.length + 1) + 43) ≤ R.locals) (hRcells : cells + 1 ≤ R.cells) (hRslots : slots + 6 ≤ R.slots) (hlocks : meth.locks = false)
    (hx : ∀ t : State, s.vm.Alike t.vm → H.size ≤ t.heap.size → (∀ q : Nat, q < H.size → t.heap[q]? = H[q]?) → XC cls s t)
    (hf : ∀ z ∈ locs, free z.base) (hc : cells + 1 ≤ mc) (hs : slots + 6 ≤ ms) :
    W p l e R s m args below meth c H locs cells slots (vx_MQ below Qc XC args s mc ms free) (F0 m pc ls rest) := by
  intro T hT X
  have htr : e.platform.stackTraces = false := (show e.platform.stackTraces = l.stackTraces by rw [X.admits.platform]).trans hl
  have Y := vx_rebase X (R' := { frames := R.frames, locals := R.locals, cells := 1, slots := 6 }) (Nat.le_refl _) (Nat.le_refl _) hRcells hRslots
  obtain ⟨s', hA⟩ : ∃ z, z = (T.setVm s.vm).setFrames (.invoking m args :: below) := ⟨_, rfl⟩
  rw [← hA] at Y
  have hvm : s'.vm = s.vm := by rw [hA]; rfl
  have hhp : s'.heap = H := by rw [hA]; exact hT
  have hW0 : s.WarmedH s'.vm := by rw [hvm]; exact State.WarmedH.refl s
  have hat' : ∀ w ∈ vx_atS own ic cls names, w.before args s' = true := fun w hw => vx_ot_at hW0 hvm.symm (hgood w (List.mem_cons_of_mem _ (List.mem_cons_of_mem _ hw))) (hat w hw)
  have hk' : (Cond.classLink own ik cls).before args s' = true := vx_ot_at hW0 hvm.symm (hgood _ List.mem_cons_self) hk
  have hini' : (Cond.initialized cls).before args s' = true := vx_ot_at hW0 hvm.symm (hgood _ (List.mem_cons_of_mem _ List.mem_cons_self)) hini
  have hU' : vx_Zq Bundle.tN "UNASSIGNED_STACK" Bundle.steD A s' s'.heap := by rw [hhp]; exact vx_Zq.moved hW0.alike (hU.kept hS.2.1)
  have hN' : vx_Zq Bundle.tN "SUPPRESSED_SENTINEL" Bundle.listD A s' s'.heap := by rw [hhp]; exact vx_Zq.moved hW0.alike (hN.kept hS.2.1)
  have h : ∀ w ∈ Bundle.ownAtoms own ic cls names, w.before args s' = true := vx_own hat' (vx_isRefq hU'.1) (vx_isRefq hN'.1) hU'.2.word hN'.2.word
  have hown' : s'.vm.findClass own = some m.cls := by rw [hvm]; exact hown
  have hins : (Cond.instantiable cls 6).before args s' = true := h _ (by simp [Bundle.ownAtoms])
  obtain ⟨vm₁, cX, kX, hfX, hkX, -, -, X₁, st1⟩ := Y.newCold hexec (own := own) (C := cls) (index := ik) (n := 6) hown' hk' hins hini'
    (g := F0 m pc ls rest) rfl (by rw [hb]; exact d0) (Nat.le_refl _) (Nat.le_refl _)
  generalize hT1 : (T.setVm vm₁).pushCell { cls := cX, slots := kX.instanceTypes.map defaultValue, vm := .none } = T1 at X₁ st1
  have hcat : (Value.ref T.heap.size).category = 1 := rfl
  have hcellA : T1.heap[T.heap.size]? = some (freshCell cX kX) := by rw [← hT1]; exact State.heap_pushCell_size _ _
  have d3' : decode c.code (pc + 3) = .ok (.dup, 1) := by rw [hb]; exact d3
  have d4' : decode c.code (pc + 4) = .ok (.ldc_w is, 3) := by rw [hb]; exact d4
  have hstr' : vk_R own is text sa s' := vk_R.warm hW0 hstr
  obtain ⟨U, hsteps, hrun, hend, hW, hsame, ce, hce, hO⟩ := X₁.ctorThrowS hexec htr (own := own) (cls := cls) (names := names) (ic := ic) hown' hcls hnames h (fun x hx => nomatch hx) hfX hkX hcellA (by rw [hhp, hT]; exact Nat.le_refl _) (msg := .ref sa) rfl
    (g := { method := m, pc := pc + 7, locals := ls, stack := .ref sa :: .ref T.heap.size :: .ref T.heap.size :: rest, locked := none }) rfl hsize rfl rfl (rest := rest) rfl
    (by rw [hb]; exact d7) (by rw [hb]; exact d10) hout hRframes (by simp only [List.map_cons, List.sum_cons, hcat]; omega) hlocks
  obtain ⟨f1, f2⟩ := vx_frame hsame
  rw [hhp] at f1 f2
  have hWs : s.WarmedH U.vm := State.WarmedH.trans hW0 hW
  have hcl : s.vm.findClass cls = some ce.cls := by
    have h9 := hO.cls
    rw [hvm] at h9
    exact h9
  have hall : s.sameButNew ({ U with vm := s.vm } : State) locs mc ms := by
    subst hA
    obtain ⟨e1, e2⟩ := hsame
    rw [State.setFrames_setFrames] at e1
    have h2 : (T.setVm s.vm).sameButNew ({ U with vm := s.vm } : State) [] (0 + 1) (0 + 6) := ⟨e1, e2⟩
    have h3 := X.same.trans h2
    rw [List.append_nil] at h3
    exact h3.mono hc hs
  refine ⟨U, ?_, .threw T.heap.size, hrun, hend, Or.inr ⟨T.heap.size, rfl, cls, ce, locs, hx U hWs.alike f1 (fun q hq => f2 q hq (fun z hz => nomatch hz)), hce, hO.vm, hcl, hWs, hall, hf⟩⟩
  refine st1 _ ?_
  show Steps p.tables e below (T1.setTop { method := m, pc := pc + 3, locals := ls, stack := .ref T.heap.size :: rest, locked := none }) _
  jvm_step X₁.here [X₁.here.top, hexec, d3', Value.category]
  exact X₁.ldcStringW hexec (own := own) (text := text) (index := is) (a := sa) hown' hstr'.1 hstr'.2
    (g := { method := m, pc := pc + 4, locals := ls, stack := .ref T.heap.size :: .ref T.heap.size :: rest, locked := none }) rfl d4' _ hsteps
end Ends
section Bodies
variable {l : Launch}
theorem vx_ofW {y : MethodName} {ws ws' : List Cond} {rm : Room} {Pc : Array Value → State → Prop} {Qc : Array Value → State → Outcome → State → Prop} {XC : String → State → State → Prop} {mc ms : Nat} {free : Addr → Prop} {cc : ByteArray} {maxL : Nat} {ret : Option FieldType}
    (hy : plainName y.cls = true) (hw : ws = Cond.code y cc maxL ret :: ws')
    (body : ∀ p e s m args below meth c s₁, BodyLoose p l y (headSpec ws rm) cc maxL ret e s m args below meth c s₁ → c.maxLocals = maxL → (∀ x ∈ c.exceptionTable.toList, False) → Pc args s →
      W p l e (headSpec ws rm).room s m args below meth c s.heap [] 0 0 (vx_MQ below Qc XC args s mc ms free) (entryFrame m args maxL)) : vx_Met l y ws rm Pc Qc XC mc ms free := by
  refine MetFree.of_bodyS (code := cc) (maxLocals := maxL) (ret := ret) hy ?_ ?_
  · intro args s m h hn
    obtain ⟨meth, c, h1, h2, h3, h4, h5, h6, -, -⟩ := Cond.code_spec hn (atoms_spec (ws := ws) h _ (by rw [hw]; exact List.mem_cons_self))
    exact ⟨meth, c, h1, h2, h3, h4, h5, h6⟩
  · intro p e s m args below meth c s₁ B hml hP _
    have hh0 : s₁.heap = s.heap := by rw [B.state]; rfl
    have ht : ∀ x ∈ c.exceptionTable.toList, False := by
      obtain ⟨meth9, c9, h1, h2, -, -, -, -, h7, -⟩ := Cond.code_spec B.named (atoms_spec (ws := ws) B.pre _ (by rw [hw]; exact List.mem_cons_self))
      cases Option.some.inj (h1.symm.trans B.method)
      cases Option.some.inj (h2.symm.trans (Stand.of_body B).code)
      intro x hx
      rw [Array.isEmpty_iff.mp h7] at hx
      cases hx
    obtain ⟨t, a1, o, b1, b2, b3⟩ := body p e s m args below meth c s₁ B hml ht hP s₁ hh0 (Stand.of_body B)
    exact ⟨t, o, a1, b1, b2, b3⟩
/-- the table of a body with handlers -/
theorem vx_table {p : Program} {x y : MethodName} {S : Spec} {cc bytes : ByteArray} {maxL maxL' : Nat} {ret ret' : Option FieldType} {e : Env} {s s₁ : State} {m : MethodId} {args : Array Value} {below : List Frame} {meth : Method} {c : Code} {hh : List (Nat × Nat × Nat × Nat)}
    (B : BodyLoose p l y S cc maxL ret e s m args below meth c s₁) (h : (Cond.codeWith y bytes maxL' ret' hh).before args s = true) : c.exceptionTable.toList = tableOf hh := by
  obtain ⟨m9, meth9, c9, hn9, h1, h2, -, -, h6, -⟩ := Cond.codeWith_spec h
  cases Option.some.inj (hn9.symm.trans B.named)
  cases Option.some.inj (h1.symm.trans B.method)
  cases Option.some.inj (h2.symm.trans (Stand.of_body B).code)
  rw [← h6, table_eq]
end Bodies
end VXA
/-! ===== END ===== -/
/-! ===== BEGIN a static call of a method with an exception table ===== -/
section VXS
variable {p : Program} {l : Launch} {e : Env} {R : Room} {s : State} {m : MethodId} {args : Array Value} {below : List Frame} {meth : Method} {c : Code} {T : State} {H : Heap} {locs : List Loc} {cells slots : Nat}
abbrev vx_CSW (R : Room) (s : State) (args : Array Value) (own : String) (index : Nat) (y : MethodName) (bytes : ByteArray) (maxL : Nat) (ret : Option FieldType) (hh : List (Nat × Nat × Nat × Nat)) (ws : List Cond) (rm : Room) (mc ms n : Nat) : Prop :=
  (rm.cells = mc ∧ rm.slots = ms ∧ rm.frames + 1 ≤ R.frames ∧ 8 + (maxL + 11) + rm.locals ≤ R.locals ∧ (∀ w ∈ ws, ∀ (a' : Array Value) (U : State), s.WarmedH U.vm → w.before a' U = true) ∧ Cond.codeWith y bytes maxL ret hh ∈ ws) ∧
  (Cond.codeWith y bytes maxL ret hh).before args s = true ∧ (Cond.initialized y.cls).before args s = true ∧ (y.cls ≠ "java/lang/invoke/MethodHandle" ∧ y.cls ≠ "java/lang/invoke/VarHandle") ∧
  (∀ sig, parseMethodDescriptor y.desc = some sig → n = sig.parameters.length) ∧ (Cond.methodLink own index y).before args s = true ∧ (Cond.static y).before args s = true
theorem vx_cwSW {own : String} {index maxL mc ms : Nat} {y : MethodName} {bytes : ByteArray} {ret : Option FieldType} {hh : List (Nat × Nat × Nat × Nat)} {Ts ws ws' : List Cond} {rm : Room} (n : Nat) (ht : ∀ w ∈ Ts, w.before args s = true) (hT : GoodIn Ts (va_wsS own index y ws)) (hw : ws = Cond.codeWith y bytes maxL ret hh :: ws') (hrc : rm.cells = mc) (hrs : rm.slots = ms)
    (hd : y.cls ≠ "java/lang/invoke/MethodHandle" ∧ y.cls ≠ "java/lang/invoke/VarHandle" ∧ (parseMethodDescriptor y.desc).map (fun d => d.parameters.length) = some n) (hR : rm.frames + 1 ≤ R.frames ∧ 8 + (maxL + 11) + rm.locals ≤ R.locals) :
    vx_CSW R s args own index y bytes maxL ret hh ws rm mc ms n := by
  have ok : ∀ w ∈ va_wsS own index y ws, w.before args s = true := fun w h => ht w (hT w h).1
  have hG : GoodIn Ts ws := fun w h => hT w (by unfold va_wsS; exact List.mem_append_right _ h)
  have hc : Cond.codeWith y bytes maxL ret hh ∈ ws := by rw [hw]; exact List.mem_cons_self
  refine ⟨⟨hrc, hrs, hR.1, hR.2, pay_in ht hG, hc⟩, ht _ (hG _ hc).1, ok _ (by simp [va_wsS]), ⟨hd.1, hd.2.1⟩, fun sig h => ?_, ok _ (by simp [va_wsS]), ok _ (by simp [va_wsS])⟩
  have h2 := hd.2.2
  rw [h] at h2
  exact (Option.some.inj h2).symm
theorem vx_callSW (X : Stand p l e R s m args below meth c T locs cells slots) (hexec : p.tables.exec = Jvm.exec) {own : String} {index : Nat} {y : MethodName} {bytes : ByteArray} {maxL : Nat} {ret : Option FieldType} {hh : List (Nat × Nat × Nat × Nat)}
    (hown : s.vm.findClass own = some m.cls) (hlink : (Cond.methodLink own index y).before args s = true) (hstat : (Cond.static y).before args s = true) (hinit : (Cond.initialized y.cls).before args s = true)
    (hcode : (Cond.codeWith y bytes maxL ret hh).before args s = true) (hy : y.cls ≠ "java/lang/invoke/MethodHandle" ∧ y.cls ≠ "java/lang/invoke/VarHandle")
    {W9 : Nat} {Pre : Pt → Array Value → Prop} {Post : Pt → Array Value → Option Value → Pt → Prop} (hK : Back l R p e below s args y 3 W9 Pre Post)
    {g : JFrame} (hg : g.method = m) (hsize : g.locals.size = c.maxLocals) {argsL rest : List Value} (hlen : ∀ sig, parseMethodDescriptor y.desc = some sig → argsL.length = sig.parameters.length)
    (hstack : g.stack = argsL.reverse ++ rest) (hW : 2 * g.monitorRoom + (rest.map fun v => v.category).sum ≤ W9) (hdg : decode c.code g.pc = .ok (.invokestatic index, 3))
    (hpre : ∀ vm₁, s.WarmedH vm₁ → Pre ⟨T.setVm vm₁, locs, cells, slots⟩ argsL.toArray) :
    ∃ (v : Option Value) (vm₁ : Vm) (B : Pt), s.WarmedH vm₁ ∧ Stand p l e R s m args below meth c B.U B.locs B.cells B.slots ∧ Post ⟨T.setVm vm₁, locs, cells, slots⟩ argsL.toArray v B ∧
      ∀ target, Steps p.tables e below (B.U.setTop { g with pc := g.pc + 3, stack := v.toList ++ rest }) target → Steps p.tables e below (T.setTop g) target := by
  obtain ⟨mk, methM, cM, hnamed, hmethM, -, -, -, -, -, -, hsigM⟩ := Cond.codeWith_spec hcode
  have hstatic : methM.isStatic = true := Cond.static_spec hnamed hmethM hstat
  obtain ⟨kP, hkP, -⟩ := className_of_methodNamed hnamed
  have hinitP : kP.init = .initialized := Cond.initialized_spec (findClass_of_methodNamed hnamed) hkP hinit
  obtain ⟨vm₁, X₁, hstep₁⟩ := X.invokestatic hexec hown hlink hnamed hmethM hstatic hkP hinitP hy (g := g) hg (argsL := argsL) (rest := rest) (hlen _ hsigM) hstack hdg
  obtain ⟨v, B, X', hpost, hsteps⟩ := hK m meth c ⟨T.setVm vm₁, locs, cells, slots⟩ { g with stack := rest } (.invokestatic index) mk argsL.toArray X₁ hg hsize hdg hW (X₁.named hnamed) (hpre vm₁ X₁.warmed)
  exact ⟨v, vm₁, B, X₁.warmed, X', hpost, fun target h => hstep₁ _ fun acts => by rw [doInvoke_state]; exact hsteps.trans h⟩
theorem vx_runSW {y : MethodName} {bytes cc : ByteArray} {maxL nL mc ms n index : Nat} {ret : Option FieldType} {hh : List (Nat × Nat × Nat × Nat)} {ws : List Cond} {rm : Room} {Pc : Array Value → State → Prop} {Qc : Array Value → State → Outcome → State → Prop} {free : Addr → Prop} {Ts : List Cond} {own : String} {As rest : List Value} {g : JFrame}
    (S : CallFix p m c cc nL s args Ts own) (hM : Met l y ws rm Pc Qc mc ms free) (cw : vx_CSW R s args own index y bytes maxL ret hh ws rm mc ms n) (hp : PreS s H Pc As)
    (hg : g.method = m) (hn : As.length = n) (hsize : g.locals.size = nL) (hstack : g.stack = As.reverse ++ rest) (hW : 2 * g.monitorRoom + (rest.map fun v => v.category).sum ≤ 8) (hdg : decode cc g.pc = .ok (.invokestatic index, 3)) (hf : cells + mc ≤ R.cells ∧ slots + ms ≤ R.slots) :
    va_Run p l e R s m args below meth c H locs cells slots mc ms g rest (Qc As.toArray) (free) := by
  obtain ⟨⟨hrc, hrs, hfr, hlo, hws, hcw⟩, hcode, hini, hy, hlen, hl, hstt⟩ := cw
  have hK : Back l R p e below s args y 3 8 (PreOf R mc ms Pc) (PostOf Qc mc ms free) := va_backW (hh := hh) (bytes := bytes) (maxL := maxL) (ret := ret) hM hp.1 hrc hrs hfr hlo hws hcw (fun a' U hW => word_at hW (Or.inl (by first | rfl | simp [Cond.onTables, Cond.keeps, Cond.steady])) hini)
  obtain ⟨hx, hb, hml, ho, -⟩ := S
  intro T hT X
  obtain ⟨v, vm₁, ⟨U', l2, c2, s2⟩, hW₁, X', ⟨g', mk, t, L, e1, e2, hq, h1, hL, h2, h3⟩, st⟩ := vx_callSW X hx (hh := hh) (bytes := bytes) (maxL := maxL) (ret := ret) ho hl hstt hini hcode hy hK hg (hsize.trans hml.symm) (argsL := As) (rest := rest) (fun sig h => hn.trans (hlen sig h)) hstack hW (by rw [hb]; exact hdg)
    (fun vm₁ hW₁ => ⟨hf.1, hf.2, hp.2 (T.setVm vm₁) hT hW₁⟩)
  dsimp only [Pt.U, Pt.locs, Pt.cells, Pt.slots] at X' e1 e2 h1 h2 h3 st
  subst h1; subst h2; subst h3
  exact ⟨v, (T.setVm vm₁).calling g' mk As.toArray, t, U', L, hT, X', hL, e1, e2, hq, st⟩
/-- not caught here, past rows that name other classes: it goes on to the caller -/
theorem vx_outP {p : Program} {l : Launch} {e : Env} {R : Room} {s : State} {m : MethodId} {args : Array Value} {below : List Frame} {meth : Method} {c : Code} {H : Heap} {locs : List Loc} {cells slots : Nat} {free : Addr → Prop} {ls : Array Slot} {rest : List Value} {Qc : Array Value → State → Outcome → State → Prop} {XC : String → State → State → Prop}
    {pc : Nat} {own E : String} {ce : Cell} {q : Addr} {mc ms : Nat} (hown : s.vm.findClass own = some m.cls) (hlocks : meth.locks = false)
    (hpass : ∀ z ∈ c.exceptionTable.toList, covers z pc = false ∨ (z.catchType ≠ 0 ∧ ∃ nm : String, (Cond.classLink own z.catchType nm).before args s = true ∧ va_Nc E nm s)) (hcell : H[q]? = some ce) (hv : ce.vm = .none) (hcl : s.vm.findClass E = some ce.cls)
    (hx : ∀ t : State, t.heap = H → s.vm.Alike t.vm → XC E s t) (hf : ∀ z ∈ locs, free z.base) (hc : cells ≤ mc) (hs : slots ≤ ms) :
    vx_W p l e R s m args below meth c H locs cells slots (vx_MQ below Qc XC args s mc ms free) (F0 m pc ls rest) q := by
  intro T hT X
  have hpl : e.platform.magicAccessors = ({} : Platform).magicAccessors := by rw [X.admits.platform]
  obtain ⟨vm', hW', X', st⟩ := X.outThrough hlocks q (g := F0 m pc ls rest) rfl rfl rfl (cell := ce) (by rw [hT]; exact hcell) (by rw [hv]; rfl)
    (by obtain ⟨k9, h9, -⟩ := Vm.findClass_spec hcl; exact ⟨k9, h9⟩) (fun z hz => by
      rcases hpass z hz with h | ⟨hz0, nm, hl1, hn1⟩
      · exact Or.inl h
      · obtain ⟨c6, hc6, hcl6⟩ := Cond.classLink_spec hown hl1 e.platform hpl
        obtain ⟨a8, b8, h1, h2, h3⟩ := hn1
        cases Option.some.inj (h1.symm.trans hcl)
        cases Option.some.inj (h2.symm.trans hc6)
        exact Or.inr ⟨hz0, _, hcl6, h3⟩)
  obtain ⟨g₀, hfr⟩ := X'.frames_eq
  have hcell9 : ((T.setVm vm').setFrames (.throwing q :: below)).heap[q]? = some ce := by
    show T.heap[q]? = some ce
    rw [hT]; exact hcell
  have hend : Ended ((T.setVm vm').setFrames (.throwing q :: below)) below (.threw q) := State.frames_setFrames _ (State.cur_lt_of_frames hfr)
  refine ⟨(T.setVm vm').setFrames (.throwing q :: below), ?_, .threw q, X'.here.running, hend, Or.inr ⟨q, rfl, E, ce, locs, hx _ hT (X'.ends _).1.alike, hcell9, hv, hcl, (X'.ends _).1, (X'.ends _).2.mono hc hs, hf⟩⟩
  rw [X.pushThrowing_eq]
  exact st
/-- a thing of a world lies in the heap -/
theorem vx_lt {D : va_G} {cl : List vw_C} {ws : va_W} {H1 : Heap} (h : va_P D cl ws H1) {k : Nat} {q : Nat × va_E} (hk : ws[k]? = some q) : q.1 < H1.size := (h k q hk).lt
end VXS
/-! ===== END ===== -/
/-! ===== BEGIN methods with a table of their own: called by a name, returning or throwing ===== -/
section VXH
/-! vx_backW, vx_callVX, vx_callSX, vx_callVW, vx_runVW, vx_runVX, vx_runSX, vx_ofWH follow the same proofs as their sisters above (Free/Laws.lean, Shelf42/LK1.lean); vx_outP calls Shelf42/NT130.lean (outThrough). -/
section
variable {l : Launch} {R : Room} {p : Program} {e : Env} {below : List Frame} {s : State} {sargs : Array Value} {y : MethodName} {len W9 : Nat}
theorem vx_backW {ws : List Cond} {rm : Room} {Pc : Array Value → State → Prop} {Qc : Array Value → State → Outcome → State → Prop} {XC : String → State → State → Prop} {mc ms : Nat} {free : Addr → Prop} {bytes : ByteArray} {maxL : Nat} {ret : Option FieldType} {hh : List (Nat × Nat × Nat × Nat)}
    (hM : vx_Met l y ws rm Pc Qc XC mc ms free) (hblind : FrameBlind Pc) (hrc : rm.cells = mc) (hrs : rm.slots = ms)
    (hframes : rm.frames + 1 ≤ R.frames) (hlocals : W9 + (maxL + 11) + rm.locals ≤ R.locals)
    (hws : ∀ w ∈ ws, ∀ a' U, s.WarmedH U.vm → w.before a' U = true) (hcode : Cond.codeWith y bytes maxL ret hh ∈ ws) (hinit : ∀ a' U, s.WarmedH U.vm → (Cond.initialized y.cls).before a' U = true) :
    vx_Back l R p e below s sargs y len W9 (PreOf R mc ms Pc) (PostOf Qc mc ms free) (vx_Post XC mc ms free) := by
  intro m meth c A g ig mk a X hg hsize hdg hW hn hp
  have h1 : (headSpec ws rm).pre.before a A.U = true := atoms_intro fun w hw => hws w hw _ _ X.warmed
  have h2 : (Cond.codeWith y bytes maxL ret hh).before a A.U = true := hws _ hcode _ _ X.warmed
  have h3 : (Cond.initialized y.cls).before a A.U = true := hinit _ _ X.warmed
  have h4 : A.cells + (headSpec ws rm).room.cells ≤ R.cells := by rw [show (headSpec ws rm).room.cells = mc from hrc]; exact hp.1
  have h5 : A.slots + (headSpec ws rm).room.slots ≤ R.slots := by rw [show (headSpec ws rm).room.slots = ms from hrs]; exact hp.2.1
  have hPc : Pc a (A.U.calling g mk a) := hblind _ _ _ _ hp.2.2
  obtain ⟨U, Ls, c0, s0⟩ := A
  dsimp only [Pt.U, Pt.locs, Pt.cells, Pt.slots] at h1 h2 h3 h4 h5 X hn hPc ⊢
  obtain ⟨m9, methY, cY, hn9, hmY, hcY, -, hlY, -⟩ := Cond.codeWith_spec h2
  cases Option.some.inj (hn9.symm.trans hn)
  obtain ⟨kY, hkY, -⟩ := className_of_methodNamed hn
  have hinitY : kY.init = .initialized := Cond.initialized_spec (findClass_of_methodNamed hn) hkY h3
  have h : At U g.method c below := by rw [hg]; exact X.here
  have hlocals9 : W9 + (maxL + 11) + (headSpec ws rm).room.locals ≤ R.locals := hlocals
  have happ : (headSpec ws rm).appliesLoose y e.platform (U.calling g mk a) = true :=
    Spec.appliesLoose_calling (g := g) h hdg hn hkY hinitY
      (X.room_calling (g := g) (R' := (headSpec ws rm).room) hsize hmY hcY hframes (by rw [hlY]; omega) h4 h5) h1
  obtain ⟨mid, hmid⟩ := h.above
  have hfr : (U.setTop g).frames = (.java g :: mid) ++ below := by rw [State.frames_setTop' g h.top, hmid]; rfl
  obtain ⟨o, s₂, hsteps, -, hend, hq⟩ := Steps.callFree hM p X.admits X.cas X.clock (acts := []) hfr happ hPc trivial
  have hq' : vx_Q Qc XC mc ms free a (U.calling g mk a) o s₂ := hq
  rw [State.frames_setTop' g h.top] at hend
  obtain ⟨g₀, hg0⟩ := Option.isSome_iff_exists.mp h.top
  obtain ⟨r, hr⟩ := State.topJava?_eq_some.mp hg0
  have hr' : (({ U with heap := s₂.heap, slotsUsed := s₂.slotsUsed } : State).setVm s₂.vm).frames = .java g₀ :: r := hr
  rcases hq' with ⟨hqc, L, hfe, hL⟩ | ⟨q, rfl, E, ce, L, hx, hce, hcv, hcl, hW₂, hsm, hL⟩
  · obtain ⟨⟨v, rfl⟩, hW₂, e2, q2, q3, q4, q5, q6⟩ := id hfe
    have e3 : s₂ = ({ (U.calling g mk a).setFrames s₂.frames with heap := s₂.heap, slotsUsed := s₂.slotsUsed } : State).setVm s₂.vm := by
      have : s₂ = ({ s₂ with vm := (U.calling g mk a).vm } : State).setVm s₂.vm := rfl
      rw [e2] at this
      exact this
    obtain ⟨c₂, i₂, len₂, hc₂, hd₂, hf₂⟩ := hend
    have hW' : U.WarmedH s₂.vm := hW₂
    have hcc : c₂ = c := by
      have h1 : s₂.code? g.method = U.code? g.method := by
        rw [State.code?_eq, State.code?_eq, hW'.alike.method?]
      exact Option.some.inj (hc₂.symm.trans (h1.trans h.code))
    subst hcc
    have hlen : len₂ = len := by rw [hdg] at hd₂; cases hd₂; rfl
    subst hlen
    have hs₂ : s₂ = (({ U with heap := s₂.heap, slotsUsed := s₂.slotsUsed } : State).setVm s₂.vm).setTop { g with pc := g.pc + len₂, stack := v.toList ++ g.stack } := by
      refine e3.trans ?_
      rw [hf₂, State.calling_eq h.top, State.setFrames_setFrames, State.setTop_of_frames _ hr', hr]
      rfl
    have hsame : U.sameButNew ({ U with heap := s₂.heap, slotsUsed := s₂.slotsUsed } : State) L mc ms := by
      refine ⟨?_, q2, q3, q4, q5, q6⟩
      obtain ⟨t, ht, -⟩ := State.frames_cons hr
      show ({ U with heap := s₂.heap, slotsUsed := s₂.slotsUsed } : State) = { U.setFrames U.frames with heap := s₂.heap, slotsUsed := s₂.slotsUsed }
      rw [State.setFrames_self ht]
    subst hg
    refine Or.inl ⟨v, ⟨(({ U with heap := s₂.heap, slotsUsed := s₂.slotsUsed } : State).setVm s₂.vm), Ls ++ L, c0 + mc, s0 + ms⟩,
      ⟨X.admits, X.cas, X.clock, X.frames, X.room, X.hears, X.method, X.code, (X.here.setHeapUsed s₂.heap s₂.slotsUsed).setVm hW'.alike, X.tail, State.WarmedH.trans X.warmed hW', X.limits, X.bytes, X.same.trans (hsame.setVm s.vm)⟩,
      ⟨g, mk, s₂, L, rfl, rfl, hqc, rfl, hL, rfl, rfl⟩, ?_⟩
    show Steps p.tables e below _ ((({ U with heap := s₂.heap, slotsUsed := s₂.slotsUsed } : State).setVm s₂.vm).setTop { g with pc := g.pc + len₂, stack := v.toList ++ g.stack })
    rw [← hs₂]
    exact hsteps
  · obtain ⟨e2, q2, q3, q4, q5, q6⟩ := id hsm
    have e3 : s₂ = ({ (U.calling g mk a).setFrames s₂.frames with heap := s₂.heap, slotsUsed := s₂.slotsUsed } : State).setVm s₂.vm := by
      have : s₂ = ({ s₂ with vm := (U.calling g mk a).vm } : State).setVm s₂.vm := rfl
      rw [e2] at this
      exact this
    have hf₂ : s₂.frames = .throwing q :: .java g :: U.frames.tail := hend
    have hW' : U.WarmedH s₂.vm := hW₂
    have hs₂ : s₂ = ((({ U with heap := s₂.heap, slotsUsed := s₂.slotsUsed } : State).setVm s₂.vm).setTop g).pushFrame (.throwing q) := by
      refine e3.trans ?_
      rw [hf₂, State.calling_eq h.top, State.setFrames_setFrames, State.pushFrame, State.frames_setTop _ hr', State.setTop_of_frames _ hr', State.setFrames_setFrames, hr]
      rfl
    have hsame : U.sameButNew ({ U with heap := s₂.heap, slotsUsed := s₂.slotsUsed } : State) L mc ms := by
      refine ⟨?_, q2, q3, q4, q5, q6⟩
      obtain ⟨t, ht, -⟩ := State.frames_cons hr
      show ({ U with heap := s₂.heap, slotsUsed := s₂.slotsUsed } : State) = { U.setFrames U.frames with heap := s₂.heap, slotsUsed := s₂.slotsUsed }
      rw [State.setFrames_self ht]
    subst hg
    refine Or.inr ⟨q, ⟨(({ U with heap := s₂.heap, slotsUsed := s₂.slotsUsed } : State).setVm s₂.vm), Ls ++ L, c0 + mc, s0 + ms⟩,
      ⟨X.admits, X.cas, X.clock, X.frames, X.room, X.hears, X.method, X.code, (X.here.setHeapUsed s₂.heap s₂.slotsUsed).setVm hW'.alike, X.tail, State.WarmedH.trans X.warmed hW', X.limits, X.bytes, X.same.trans (hsame.setVm s.vm)⟩,
      ⟨g, mk, s₂, L, E, ce, rfl, rfl, hx, hce, hcv, hcl, rfl, hL, rfl, rfl⟩, ?_⟩
    show Steps p.tables e below _ (((({ U with heap := s₂.heap, slotsUsed := s₂.slotsUsed } : State).setVm s₂.vm).setTop g).pushFrame (.throwing q))
    rw [← hs₂]
    exact hsteps
end
variable {p : Program} {l : Launch} {e : Env} {R : Room} {s : State} {m : MethodId} {args : Array Value} {below : List Frame} {meth : Method} {c : Code} {T : State} {H : Heap} {locs : List Loc} {cells slots : Nat}
theorem vx_callVX (X : Stand p l e R s m args below meth c T locs cells slots) (hexec : p.tables.exec = Jvm.exec) {own C : String} {index : Nat} {y : MethodName} {bytes : ByteArray} {maxL : Nat} {ret : Option FieldType} {hh : List (Nat × Nat × Nat × Nat)}
    (hown : s.vm.findClass own = some m.cls) (hlink : (Cond.methodLink own index y).before args s = true) (hinst : (Cond.instanceMethod y).before args s = true) (hsel : (Cond.selects C y y).before args s = true)
    (hcode : (Cond.codeWith y bytes maxL ret hh).before args s = true) (hy : y.cls ≠ "java/lang/invoke/MethodHandle" ∧ y.cls ≠ "java/lang/invoke/VarHandle")
    {W9 : Nat} {Pre : Pt → Array Value → Prop} {Post : Pt → Array Value → Option Value → Pt → Prop} {PostX : Pt → Array Value → Addr → Pt → Prop} (hK : vx_Back l R p e below s args y 3 W9 Pre Post PostX)
    {b : Addr} {cellB : Cell} (hcell : T.heap[b]? = some cellB) (hobj : cellB.vm.isStatics = false) (hcls : s.vm.findClass C = some cellB.cls)
    {g : JFrame} (hg : g.method = m) (hsize : g.locals.size = c.maxLocals) {argsL rest : List Value} (hlen : ∀ sig, parseMethodDescriptor y.desc = some sig → argsL.length = sig.parameters.length)
    (hstack : g.stack = argsL.reverse ++ .ref b :: rest) (hW : 2 * g.monitorRoom + (rest.map fun v => v.category).sum ≤ W9) (hdg : decode c.code g.pc = .ok (.invokevirtual index, 3))
    (hpre : ∀ vm₁, s.WarmedH vm₁ → Pre ⟨T.setVm vm₁, locs, cells, slots⟩ (Value.ref b :: argsL).toArray) :
    (∃ (v : Option Value) (vm₁ : Vm) (B : Pt), s.WarmedH vm₁ ∧ Stand p l e R s m args below meth c B.U B.locs B.cells B.slots ∧ Post ⟨T.setVm vm₁, locs, cells, slots⟩ (Value.ref b :: argsL).toArray v B ∧
      ∀ target, Steps p.tables e below (B.U.setTop { g with pc := g.pc + 3, stack := v.toList ++ rest }) target → Steps p.tables e below (T.setTop g) target) ∨
    (∃ (q : Addr) (vm₁ : Vm) (B : Pt), s.WarmedH vm₁ ∧ Stand p l e R s m args below meth c B.U B.locs B.cells B.slots ∧ PostX ⟨T.setVm vm₁, locs, cells, slots⟩ (Value.ref b :: argsL).toArray q B ∧
      Steps p.tables e below (T.setTop g) ((B.U.setTop { g with stack := rest }).pushFrame (.throwing q))) := by
  obtain ⟨mk, methM, hnamed, hmethM, hstM, habM⟩ := Cond.instanceMethod_spec hinst
  obtain ⟨m8, methM', cM, hn8, hmethM', -, -, -, -, -, -, hsigM⟩ := Cond.codeWith_spec hcode
  cases Option.some.inj (hn8.symm.trans hnamed)
  cases hmethM.symm.trans hmethM'
  obtain ⟨c2, r2, m2, q1, q2, q3, q4, kP, hkP, hkPi⟩ := Cond.selects_spec hsel
  cases hcls.symm.trans q1
  cases (State.methodFound?_of_named hnamed hy).symm.trans q2
  cases hnamed.symm.trans q3
  have hselP : selectMethod e.platform s.vm cellB.cls mk = .method mk := by rw [Launch.admits_selectMethod X.admits]; exact q4
  obtain ⟨vm₁, X₁, hstep₁⟩ := X.invokevirtual hexec hown hlink hnamed hmethM hstM hkP hkPi hy (a := b) (cell := cellB) hcell
    (fun z h => by rw [h] at hobj; cases hobj) hselP hmethM habM hkP hkPi (g := g) hg (argsL := argsL) (rest := rest) (hlen _ hsigM) hstack hdg
  rcases hK m meth c ⟨T.setVm vm₁, locs, cells, slots⟩ { g with stack := rest } (.invokevirtual index) mk (Value.ref b :: argsL).toArray X₁ hg hsize hdg hW (X₁.named hnamed) (hpre vm₁ X₁.warmed) with ⟨v, B, X', hpost, hsteps⟩ | ⟨q, B, X', hpost, hsteps⟩
  · exact Or.inl ⟨v, vm₁, B, X₁.warmed, X', hpost, fun target h => hstep₁ _ fun acts => by rw [doInvoke_state]; exact hsteps.trans h⟩
  · exact Or.inr ⟨q, vm₁, B, X₁.warmed, X', hpost, hstep₁ _ fun acts => by rw [doInvoke_state]; exact hsteps⟩
theorem vx_callSX (X : Stand p l e R s m args below meth c T locs cells slots) (hexec : p.tables.exec = Jvm.exec) {own : String} {index : Nat} {y : MethodName} {bytes : ByteArray} {maxL : Nat} {ret : Option FieldType} {hh : List (Nat × Nat × Nat × Nat)}
    (hown : s.vm.findClass own = some m.cls) (hlink : (Cond.methodLink own index y).before args s = true) (hstat : (Cond.static y).before args s = true) (hinit : (Cond.initialized y.cls).before args s = true)
    (hcode : (Cond.codeWith y bytes maxL ret hh).before args s = true) (hy : y.cls ≠ "java/lang/invoke/MethodHandle" ∧ y.cls ≠ "java/lang/invoke/VarHandle")
    {W9 : Nat} {Pre : Pt → Array Value → Prop} {Post : Pt → Array Value → Option Value → Pt → Prop} {PostX : Pt → Array Value → Addr → Pt → Prop} (hK : vx_Back l R p e below s args y 3 W9 Pre Post PostX)
    {g : JFrame} (hg : g.method = m) (hsize : g.locals.size = c.maxLocals) {argsL rest : List Value} (hlen : ∀ sig, parseMethodDescriptor y.desc = some sig → argsL.length = sig.parameters.length)
    (hstack : g.stack = argsL.reverse ++ rest) (hW : 2 * g.monitorRoom + (rest.map fun v => v.category).sum ≤ W9) (hdg : decode c.code g.pc = .ok (.invokestatic index, 3))
    (hpre : ∀ vm₁, s.WarmedH vm₁ → Pre ⟨T.setVm vm₁, locs, cells, slots⟩ argsL.toArray) :
    (∃ (v : Option Value) (vm₁ : Vm) (B : Pt), s.WarmedH vm₁ ∧ Stand p l e R s m args below meth c B.U B.locs B.cells B.slots ∧ Post ⟨T.setVm vm₁, locs, cells, slots⟩ argsL.toArray v B ∧
      ∀ target, Steps p.tables e below (B.U.setTop { g with pc := g.pc + 3, stack := v.toList ++ rest }) target → Steps p.tables e below (T.setTop g) target) ∨
    (∃ (q : Addr) (vm₁ : Vm) (B : Pt), s.WarmedH vm₁ ∧ Stand p l e R s m args below meth c B.U B.locs B.cells B.slots ∧ PostX ⟨T.setVm vm₁, locs, cells, slots⟩ argsL.toArray q B ∧
      Steps p.tables e below (T.setTop g) ((B.U.setTop { g with stack := rest }).pushFrame (.throwing q))) := by
  obtain ⟨mk, methM, cM, hnamed, hmethM, -, -, -, -, -, -, hsigM⟩ := Cond.codeWith_spec hcode
  have hstatic : methM.isStatic = true := Cond.static_spec hnamed hmethM hstat
  obtain ⟨kP, hkP, -⟩ := className_of_methodNamed hnamed
  have hinitP : kP.init = .initialized := Cond.initialized_spec (findClass_of_methodNamed hnamed) hkP hinit
  obtain ⟨vm₁, X₁, hstep₁⟩ := X.invokestatic hexec hown hlink hnamed hmethM hstatic hkP hinitP hy (g := g) hg (argsL := argsL) (rest := rest) (hlen _ hsigM) hstack hdg
  rcases hK m meth c ⟨T.setVm vm₁, locs, cells, slots⟩ { g with stack := rest } (.invokestatic index) mk argsL.toArray X₁ hg hsize hdg hW (X₁.named hnamed) (hpre vm₁ X₁.warmed) with ⟨v, B, X', hpost, hsteps⟩ | ⟨q, B, X', hpost, hsteps⟩
  · exact Or.inl ⟨v, vm₁, B, X₁.warmed, X', hpost, fun target h => hstep₁ _ fun acts => by rw [doInvoke_state]; exact hsteps.trans h⟩
  · exact Or.inr ⟨q, vm₁, B, X₁.warmed, X', hpost, hstep₁ _ fun acts => by rw [doInvoke_state]; exact hsteps⟩
theorem vx_callVW (X : Stand p l e R s m args below meth c T locs cells slots) (hexec : p.tables.exec = Jvm.exec) {own C : String} {index : Nat} {y : MethodName} {bytes : ByteArray} {maxL : Nat} {ret : Option FieldType} {hh : List (Nat × Nat × Nat × Nat)}
    (hown : s.vm.findClass own = some m.cls) (hlink : (Cond.methodLink own index y).before args s = true) (hinst : (Cond.instanceMethod y).before args s = true) (hsel : (Cond.selects C y y).before args s = true)
    (hcode : (Cond.codeWith y bytes maxL ret hh).before args s = true) (hy : y.cls ≠ "java/lang/invoke/MethodHandle" ∧ y.cls ≠ "java/lang/invoke/VarHandle")
    {W9 : Nat} {Pre : Pt → Array Value → Prop} {Post : Pt → Array Value → Option Value → Pt → Prop} (hK : Back l R p e below s args y 3 W9 Pre Post)
    {b : Addr} {cellB : Cell} (hcell : T.heap[b]? = some cellB) (hobj : cellB.vm.isStatics = false) (hcls : s.vm.findClass C = some cellB.cls)
    {g : JFrame} (hg : g.method = m) (hsize : g.locals.size = c.maxLocals) {argsL rest : List Value} (hlen : ∀ sig, parseMethodDescriptor y.desc = some sig → argsL.length = sig.parameters.length)
    (hstack : g.stack = argsL.reverse ++ .ref b :: rest) (hW : 2 * g.monitorRoom + (rest.map fun v => v.category).sum ≤ W9) (hdg : decode c.code g.pc = .ok (.invokevirtual index, 3))
    (hpre : ∀ vm₁, s.WarmedH vm₁ → Pre ⟨T.setVm vm₁, locs, cells, slots⟩ (Value.ref b :: argsL).toArray) :
    ∃ (v : Option Value) (vm₁ : Vm) (B : Pt), s.WarmedH vm₁ ∧ Stand p l e R s m args below meth c B.U B.locs B.cells B.slots ∧ Post ⟨T.setVm vm₁, locs, cells, slots⟩ (Value.ref b :: argsL).toArray v B ∧
      ∀ target, Steps p.tables e below (B.U.setTop { g with pc := g.pc + 3, stack := v.toList ++ rest }) target → Steps p.tables e below (T.setTop g) target := by
  obtain ⟨mk, methM, hnamed, hmethM, hstM, habM⟩ := Cond.instanceMethod_spec hinst
  obtain ⟨m8, methM', cM, hn8, hmethM', -, -, -, -, -, -, hsigM⟩ := Cond.codeWith_spec hcode
  cases Option.some.inj (hn8.symm.trans hnamed)
  cases hmethM.symm.trans hmethM'
  obtain ⟨c2, r2, m2, q1, q2, q3, q4, kP, hkP, hkPi⟩ := Cond.selects_spec hsel
  cases hcls.symm.trans q1
  cases (State.methodFound?_of_named hnamed hy).symm.trans q2
  cases hnamed.symm.trans q3
  have hselP : selectMethod e.platform s.vm cellB.cls mk = .method mk := by rw [Launch.admits_selectMethod X.admits]; exact q4
  obtain ⟨vm₁, X₁, hstep₁⟩ := X.invokevirtual hexec hown hlink hnamed hmethM hstM hkP hkPi hy (a := b) (cell := cellB) hcell
    (fun z h => by rw [h] at hobj; cases hobj) hselP hmethM habM hkP hkPi (g := g) hg (argsL := argsL) (rest := rest) (hlen _ hsigM) hstack hdg
  obtain ⟨v, B, X', hpost, hsteps⟩ := hK m meth c ⟨T.setVm vm₁, locs, cells, slots⟩ { g with stack := rest } (.invokevirtual index) mk (Value.ref b :: argsL).toArray X₁ hg hsize hdg hW (X₁.named hnamed) (hpre vm₁ X₁.warmed)
  exact ⟨v, vm₁, B, X₁.warmed, X', hpost, fun target h => hstep₁ _ fun acts => by rw [doInvoke_state]; exact hsteps.trans h⟩
abbrev vx_CVW (R : Room) (s : State) (args : Array Value) (own C : String) (index : Nat) (y : MethodName) (bytes : ByteArray) (maxL : Nat) (ret : Option FieldType) (hh : List (Nat × Nat × Nat × Nat)) (ws : List Cond) (rm : Room) (mc ms n : Nat) : Prop :=
  (rm.cells = mc ∧ rm.slots = ms ∧ rm.frames + 1 ≤ R.frames ∧ 8 + (maxL + 11) + rm.locals ≤ R.locals ∧ (∀ w ∈ ws, ∀ (a' : Array Value) (U : State), s.WarmedH U.vm → w.before a' U = true) ∧ Cond.codeWith y bytes maxL ret hh ∈ ws) ∧
  (Cond.codeWith y bytes maxL ret hh).before args s = true ∧ (Cond.initialized y.cls).before args s = true ∧ (y.cls ≠ "java/lang/invoke/MethodHandle" ∧ y.cls ≠ "java/lang/invoke/VarHandle") ∧
  (∀ sig, parseMethodDescriptor y.desc = some sig → n = sig.parameters.length) ∧ (Cond.methodLink own index y).before args s = true ∧ (Cond.instanceMethod y).before args s = true ∧ (Cond.selects C y y).before args s = true
theorem vx_cwVW {own C : String} {index maxL mc ms : Nat} {y : MethodName} {bytes : ByteArray} {ret : Option FieldType} {hh : List (Nat × Nat × Nat × Nat)} {Ts ws ws' : List Cond} {rm : Room} (n : Nat) (ht : ∀ w ∈ Ts, w.before args s = true) (hT : GoodIn Ts (wsV own index C y ws)) (hw : ws = Cond.codeWith y bytes maxL ret hh :: ws') (hrc : rm.cells = mc) (hrs : rm.slots = ms)
    (hd : y.cls = C ∧ y.cls ≠ "java/lang/invoke/MethodHandle" ∧ y.cls ≠ "java/lang/invoke/VarHandle" ∧ (parseMethodDescriptor y.desc).map (fun d => d.parameters.length) = some n) (hR : rm.frames + 1 ≤ R.frames ∧ 8 + (maxL + 11) + rm.locals ≤ R.locals) :
    vx_CVW R s args own C index y bytes maxL ret hh ws rm mc ms n := by
  obtain ⟨hC, hd⟩ := hd
  subst hC
  have ok : ∀ w ∈ wsV own index y.cls y ws, w.before args s = true := fun w h => ht w (hT w h).1
  have hG : GoodIn Ts ws := fun w h => hT w (by unfold wsV; exact List.mem_append_right _ h)
  have hc : Cond.codeWith y bytes maxL ret hh ∈ ws := by rw [hw]; exact List.mem_cons_self
  refine ⟨⟨hrc, hrs, hR.1, hR.2, pay_in ht hG, hc⟩, ht _ (hG _ hc).1, ok _ (by simp [wsV]), ⟨hd.1, hd.2.1⟩, fun sig h => ?_, ok _ (by simp [wsV]), ok _ (by simp [wsV]), ok _ (by simp [wsV])⟩
  have h2 := hd.2.2
  rw [h] at h2
  exact (Option.some.inj h2).symm
theorem vx_runVW {y : MethodName} {bytes cc : ByteArray} {maxL nL mc ms n index : Nat} {ret : Option FieldType} {hh : List (Nat × Nat × Nat × Nat)} {ws : List Cond} {rm : Room} {Pc : Array Value → State → Prop} {Qc : Array Value → State → Outcome → State → Prop} {free : Addr → Prop} {Ts : List Cond} {own C : String} {b : Addr} {As rest : List Value} {g : JFrame}
    (S : CallFix p m c cc nL s args Ts own) (hM : Met l y ws rm Pc Qc mc ms free) (cw : vx_CVW R s args own C index y bytes maxL ret hh ws rm mc ms n) (hp : PreV s H C b Pc As)
    (hg : g.method = m) (hn : As.length = n) (hsize : g.locals.size = nL) (hstack : g.stack = As.reverse ++ .ref b :: rest) (hW : 2 * g.monitorRoom + (rest.map fun v => v.category).sum ≤ 8) (hdg : decode cc g.pc = .ok (.invokevirtual index, 3)) (hf : cells + mc ≤ R.cells ∧ slots + ms ≤ R.slots) :
    va_Run p l e R s m args below meth c H locs cells slots mc ms g rest (Qc (Value.ref b :: As).toArray) free := by
  obtain ⟨⟨hrc, hrs, hfr, hlo, hws, hcw⟩, hcode, hini, hy, hlen, hl, hin, hse⟩ := cw
  have hK : Back l R p e below s args y 3 8 (PreOf R mc ms Pc) (PostOf Qc mc ms free) := va_backW (hh := hh) (bytes := bytes) (maxL := maxL) (ret := ret) hM hp.1 hrc hrs hfr hlo hws hcw (fun a' U hW => word_at hW (Or.inl (by first | rfl | simp [Cond.onTables, Cond.keeps, Cond.steady])) hini)
  obtain ⟨hx, hb, hml, ho, -⟩ := S
  obtain ⟨-, ⟨cellB, hcB, hoB, hclB⟩, hPc⟩ := hp
  intro T hT X
  obtain ⟨v, vm₁, ⟨U', l2, c2, s2⟩, hW₁, X', ⟨g', mk, t, L, e1, e2, hq, h1, hL, h2, h3⟩, st⟩ := vx_callVW X hx (C := C) (hh := hh) (bytes := bytes) (maxL := maxL) (ret := ret) ho hl hin hse hcode hy hK (by rw [hT]; exact hcB) hoB hclB hg (hsize.trans hml.symm) (argsL := As) (rest := rest) (fun sig h => hn.trans (hlen sig h)) hstack hW (by rw [hb]; exact hdg)
    (fun vm₁ hW₁ => ⟨hf.1, hf.2, hPc (T.setVm vm₁) hT hW₁⟩)
  dsimp only [Pt.U, Pt.locs, Pt.cells, Pt.slots] at X' e1 e2 h1 h2 h3 st
  subst h1; subst h2; subst h3
  exact ⟨v, (T.setVm vm₁).calling g' mk (Value.ref b :: As).toArray, t, U', L, hT, X', hL, e1, e2, hq, st⟩
section
variable {y : MethodName} {bytes cc : ByteArray} {maxL nL mc ms n index : Nat} {ret : Option FieldType} {ws : List Cond} {rm : Room} {Pc : Array Value → State → Prop} {Qc : Array Value → State → Outcome → State → Prop} {XC : String → State → State → Prop} {free : Addr → Prop} {Ts : List Cond} {own C : String} {b : Addr} {As rest : List Value} {g : JFrame}
theorem vx_runVX {hh : List (Nat × Nat × Nat × Nat)} (S : CallFix p m c cc nL s args Ts own) (hM : vx_Met l y ws rm Pc Qc XC mc ms free) (cw : vx_CVW R s args own C index y bytes maxL ret hh ws rm mc ms n) (hp : PreV s H C b Pc As)
    (hg : g.method = m) (hn : As.length = n) (hsize : g.locals.size = nL) (hstack : g.stack = As.reverse ++ .ref b :: rest) (hW : 2 * g.monitorRoom + (rest.map fun v => v.category).sum ≤ 8) (hdg : decode cc g.pc = .ok (.invokevirtual index, 3)) (hf : cells + mc ≤ R.cells ∧ slots + ms ≤ R.slots) :
    vx_Run p l e R s m args below meth c H locs cells slots mc ms g rest (Qc (Value.ref b :: As).toArray) XC free := by
  obtain ⟨⟨hrc, hrs, hfr, hlo, hws, hcw⟩, hcode, hini, hy, hlen, hl, hin, hse⟩ := cw
  have hK : vx_Back l R p e below s args y 3 8 (PreOf R mc ms Pc) (PostOf Qc mc ms free) (vx_Post XC mc ms free) := vx_backW (hh := hh) (bytes := bytes) (maxL := maxL) (ret := ret) hM hp.1 hrc hrs hfr hlo hws hcw (fun a' U hW => word_at hW (Or.inl (by first | rfl | simp [Cond.onTables, Cond.keeps, Cond.steady])) hini)
  obtain ⟨hx, hb, hml, ho, -⟩ := S
  obtain ⟨-, ⟨cellB, hcB, hoB, hclB⟩, hPc⟩ := hp
  intro T hT X
  rcases vx_callVX X hx (C := C) (hh := hh) (bytes := bytes) (maxL := maxL) (ret := ret) ho hl hin hse hcode hy hK (by rw [hT]; exact hcB) hoB hclB hg (hsize.trans hml.symm) (argsL := As) (rest := rest) (fun sig h => hn.trans (hlen sig h)) hstack hW (by rw [hb]; exact hdg)
    (fun vm₁ hW₁ => ⟨hf.1, hf.2, hPc (T.setVm vm₁) hT hW₁⟩) with ⟨v, vm₁, ⟨U', l2, c2, s2⟩, hW₁, X', ⟨g', mk, t, L, e1, e2, hq, h1, hL, h2, h3⟩, st⟩ | ⟨q, vm₁, ⟨U', l2, c2, s2⟩, hW₁, X', ⟨g', mk, t, L, E, ce, e1, e2, hq, hce, hcv, hcl, h1, hL, h2, h3⟩, st⟩
  · dsimp only [Pt.U, Pt.locs, Pt.cells, Pt.slots] at X' e1 e2 h1 h2 h3 st
    subst h1; subst h2; subst h3
    exact Or.inl ⟨v, (T.setVm vm₁).calling g' mk (Value.ref b :: As).toArray, t, U', L, hT, X', hL, e1, e2, hq, st⟩
  · dsimp only [Pt.U, Pt.locs, Pt.cells, Pt.slots] at X' e1 e2 h1 h2 h3 st hcl
    subst h1; subst h2; subst h3
    exact Or.inr ⟨q, (T.setVm vm₁).calling g' mk (Value.ref b :: As).toArray, t, U', L, E, ce, hT, X', hL, e1, e2, hq, hce, hcv, vx_cls hW₁ hcl, st⟩
theorem vx_runSX {hh : List (Nat × Nat × Nat × Nat)} (S : CallFix p m c cc nL s args Ts own) (hM : vx_Met l y ws rm Pc Qc XC mc ms free) (cw : vx_CSW R s args own index y bytes maxL ret hh ws rm mc ms n) (hp : PreS s H Pc As)
    (hg : g.method = m) (hn : As.length = n) (hsize : g.locals.size = nL) (hstack : g.stack = As.reverse ++ rest) (hW : 2 * g.monitorRoom + (rest.map fun v => v.category).sum ≤ 8) (hdg : decode cc g.pc = .ok (.invokestatic index, 3)) (hf : cells + mc ≤ R.cells ∧ slots + ms ≤ R.slots) :
    vx_Run p l e R s m args below meth c H locs cells slots mc ms g rest (Qc As.toArray) XC free := by
  obtain ⟨⟨hrc, hrs, hfr, hlo, hws, hcw⟩, hcode, hini, hy, hlen, hl, hstt⟩ := cw
  have hK : vx_Back l R p e below s args y 3 8 (PreOf R mc ms Pc) (PostOf Qc mc ms free) (vx_Post XC mc ms free) := vx_backW (hh := hh) (bytes := bytes) (maxL := maxL) (ret := ret) hM hp.1 hrc hrs hfr hlo hws hcw (fun a' U hW => word_at hW (Or.inl (by first | rfl | simp [Cond.onTables, Cond.keeps, Cond.steady])) hini)
  obtain ⟨hx, hb, hml, ho, -⟩ := S
  intro T hT X
  rcases vx_callSX X hx (hh := hh) (bytes := bytes) (maxL := maxL) (ret := ret) ho hl hstt hini hcode hy hK hg (hsize.trans hml.symm) (argsL := As) (rest := rest) (fun sig h => hn.trans (hlen sig h)) hstack hW (by rw [hb]; exact hdg)
    (fun vm₁ hW₁ => ⟨hf.1, hf.2, hp.2 (T.setVm vm₁) hT hW₁⟩) with ⟨v, vm₁, ⟨U', l2, c2, s2⟩, hW₁, X', ⟨g', mk, t, L, e1, e2, hq, h1, hL, h2, h3⟩, st⟩ | ⟨q, vm₁, ⟨U', l2, c2, s2⟩, hW₁, X', ⟨g', mk, t, L, E, ce, e1, e2, hq, hce, hcv, hcl, h1, hL, h2, h3⟩, st⟩
  · dsimp only [Pt.U, Pt.locs, Pt.cells, Pt.slots] at X' e1 e2 h1 h2 h3 st
    subst h1; subst h2; subst h3
    exact Or.inl ⟨v, (T.setVm vm₁).calling g' mk As.toArray, t, U', L, hT, X', hL, e1, e2, hq, st⟩
  · dsimp only [Pt.U, Pt.locs, Pt.cells, Pt.slots] at X' e1 e2 h1 h2 h3 st hcl
    subst h1; subst h2; subst h3
    exact Or.inr ⟨q, (T.setVm vm₁).calling g' mk As.toArray, t, U', L, E, ce, hT, X', hL, e1, e2, hq, hce, hcv, vx_cls hW₁ hcl, st⟩
end
end VXH
theorem vx_ofWH {l : Launch} {y : MethodName} {ws ws' : List Cond} {rm : Room} {Pc : Array Value → State → Prop} {Qc : Array Value → State → Outcome → State → Prop} {XC : String → State → State → Prop} {mc ms : Nat} {free : Addr → Prop} {cc : ByteArray} {maxL : Nat} {ret : Option FieldType} {hh : List (Nat × Nat × Nat × Nat)}
    (hy : plainName y.cls = true) (hw : ws = Cond.codeWith y cc maxL ret hh :: ws')
    (body : ∀ p e s m args below meth c s₁, BodyLoose p l y (headSpec ws rm) cc maxL ret e s m args below meth c s₁ → c.maxLocals = maxL → Pc args s →
      W p l e (headSpec ws rm).room s m args below meth c s.heap [] 0 0 (vx_MQ below Qc XC args s mc ms free) (entryFrame m args maxL)) : vx_Met l y ws rm Pc Qc XC mc ms free := by
  refine MetFree.of_bodyS (code := cc) (maxLocals := maxL) (ret := ret) hy ?_ ?_
  · intro args s m h hn
    obtain ⟨m9, meth, c, hn9, h1, h2, h3, h4, -, h5, h6, -⟩ := Cond.codeWith_spec (atoms_spec (ws := ws) h _ (by rw [hw]; exact List.mem_cons_self))
    cases hn.symm.trans hn9
    exact ⟨meth, c, h1, h2, h3, h4, h5, h6⟩
  · intro p e s m args below meth c s₁ B hml hP _
    have hh0 : s₁.heap = s.heap := by rw [B.state]; rfl
    obtain ⟨t, a1, o, b1, b2, b3⟩ := body p e s m args below meth c s₁ B hml hP s₁ hh0 (Stand.of_body B)
    exact ⟨t, o, a1, b1, b2, b3⟩
/-! ===== END ===== -/
end
section
/-! ===== BEGIN printed: names, fields, word lists, decode rows ===== -/
def RX0 : String := "CanyonEchoes$Canyon"
def TX0 : u_T := fun k => match k with
  | 0 => ("CanyonEchoes$Canyon", "beatCount", "I", false)
  | 1 => ("CanyonEchoes$Canyon", "wallCount", "I", false)
  | 2 => ("CanyonEchoes$Canyon", "shoutCount", "I", false)
  | 3 => ("CanyonEchoes$Canyon", "underWayCount", "I", false)
  | 4 => ("CanyonEchoes$Canyon", "overlapCount", "I", false)
  | 5 => ("CanyonEchoes$Canyon", "inheritedCount", "I", false)
  | 6 => ("CanyonEchoes$Canyon", "snow", "[I", true)
  | 7 => ("CanyonEchoes$Canyon", "wallAt", "[I", true)
  | 8 => ("CanyonEchoes$Canyon", "shoutAt", "[I", true)
  | 9 => ("CanyonEchoes$Canyon", "wallStone", "[I", true)
  | 10 => ("CanyonEchoes$Canyon", "wallOwner", "[I", true)
  | 11 => ("CanyonEchoes$Canyon", "wallSoaks", "[I", true)
  | 12 => ("CanyonEchoes$Canyon", "wallThrows", "[I", true)
  | 13 => ("CanyonEchoes$Canyon", "coins", "[I", true)
  | 14 => ("CanyonEchoes$Canyon", "silence", "[I", true)
  | 15 => ("CanyonEchoes$Canyon", "loud", "[I", true)
  | 16 => ("CanyonEchoes$Canyon", "place", "[I", true)
  | 17 => ("CanyonEchoes$Canyon", "step", "[I", true)
  | _ => ("CanyonEchoes$Canyon", "turns", "[I", true)
def tyX0 : Nat → FieldType := fun k => match k with
  | 0 => .int
  | 1 => .int
  | 2 => .int
  | 3 => .int
  | 4 => .int
  | 5 => .int
  | 6 => .array .int
  | 7 => .array .int
  | 8 => .array .int
  | 9 => .array .int
  | 10 => .array .int
  | 11 => .array .int
  | 12 => .array .int
  | 13 => .array .int
  | 14 => .array .int
  | 15 => .array .int
  | 16 => .array .int
  | 17 => .array .int
  | _ => .array .int
abbrev wsX00 : List Cond := u_ws RX0 TX0 19
theorem nmX0 : ∀ a, a < 19 → ∀ b, b < 19 → a ≠ b → (TX0 a).2.1 ≠ (TX0 b).2.1 := by decide +kernel
theorem tyX0_ok : ∀ k, k < 19 → parseFieldDescriptor (TX0 k).2.2.1 = some (tyX0 k) := by decide +kernel
abbrev cX0_init : ByteArray := prog_2_method_1_code
def yX0_init : MethodName := ⟨RX0, "<init>", "()V"⟩
abbrev cX0_copyFrom : ByteArray := prog_2_method_2_code
def yX0_copyFrom : MethodName := ⟨RX0, "copyFrom", "(LCanyonEchoes$Canyon;)V"⟩
abbrev cX0_build : ByteArray := prog_2_method_3_code
def yX0_build : MethodName := ⟨RX0, "build", "(III)I"⟩
abbrev cX0_start : ByteArray := prog_2_method_4_code
def yX0_start : MethodName := ⟨RX0, "start", "(IZI)I"⟩
abbrev cX0_startAlone : ByteArray := prog_2_method_5_code
def yX0_startAlone : MethodName := ⟨RX0, "startAlone", "(IZI)V"⟩
abbrev cX0_loudAt : ByteArray := prog_2_method_6_code
def yX0_loudAt : MethodName := ⟨RX0, "loudAt", "(I)I"⟩
abbrev cX0_goOn : ByteArray := prog_2_method_7_code
def yX0_goOn : MethodName := ⟨RX0, "goOn", "()V"⟩
abbrev cX0_move : ByteArray := prog_2_method_8_code
def yX0_move : MethodName := ⟨RX0, "move", "(I)V"⟩
abbrev cX0_turnAt : ByteArray := prog_2_method_9_code
def yX0_turnAt : MethodName := ⟨RX0, "turnAt", "(II)V"⟩
abbrev cX0_hush : ByteArray := prog_2_method_10_code
def yX0_hush : MethodName := ⟨RX0, "hush", "(I)V"⟩
abbrev cX0_meet : ByteArray := prog_2_method_11_code
def yX0_meet : MethodName := ⟨RX0, "meet", "()V"⟩
abbrev cX0_settle : ByteArray := prog_2_method_12_code
def yX0_settle : MethodName := ⟨RX0, "settle", "(I)V"⟩
abbrev cX0_listen : ByteArray := prog_2_method_13_code
def yX0_listen : MethodName := ⟨RX0, "listen", "(IZ)V"⟩
abbrev cX0_loseWall : ByteArray := prog_2_method_14_code
def yX0_loseWall : MethodName := ⟨RX0, "loseWall", "(I)V"⟩
def RX1 : String := "CanyonEchoes"
def TX1 : u_T := fun k => match k with
  | 0 => ("CanyonEchoes", "now", "LCanyonEchoes$Canyon;", true)
  | _ => ("CanyonEchoes", "ahead", "LCanyonEchoes$Canyon;", true)
def tyX1 : Nat → FieldType := fun k => match k with
  | 0 => .object "CanyonEchoes$Canyon"
  | _ => .object "CanyonEchoes$Canyon"
abbrev wsX10 : List Cond := u_ws RX1 TX1 2
theorem nmX1 : ∀ a, a < 2 → ∀ b, b < 2 → a ≠ b → (TX1 a).2.1 ≠ (TX1 b).2.1 := by decide +kernel
theorem tyX1_ok : ∀ k, k < 2 → parseFieldDescriptor (TX1 k).2.2.1 = some (tyX1 k) := by decide +kernel
abbrev cX1_init : ByteArray := prog_1_method_1_code
def yX1_init : MethodName := ⟨RX1, "<init>", "()V"⟩
abbrev cX1_addWall : ByteArray := prog_1_method_2_code
def yX1_addWall : MethodName := ⟨RX1, "addWall", "(III)I"⟩
abbrev cX1_hand : ByteArray := prog_1_method_3_code
def yX1_hand : MethodName := ⟨RX1, "hand", "(I)I"⟩
abbrev cX1_setSnow : ByteArray := prog_1_method_4_code
def yX1_setSnow : MethodName := ⟨RX1, "setSnow", "(II)I"⟩
abbrev cX1_shout : ByteArray := prog_1_method_5_code
def yX1_shout : MethodName := ⟨RX1, "shout", "(IZI)I"⟩
abbrev cX1_pass : ByteArray := prog_1_method_6_code
def yX1_pass : MethodName := ⟨RX1, "pass", "(I)I"⟩
abbrev cX1_beat : ByteArray := prog_1_method_7_code
def yX1_beat : MethodName := ⟨RX1, "beat", "()I"⟩
abbrev cX1_walls : ByteArray := prog_1_method_8_code
def yX1_walls : MethodName := ⟨RX1, "walls", "()I"⟩
abbrev cX1_shouts : ByteArray := prog_1_method_9_code
def yX1_shouts : MethodName := ⟨RX1, "shouts", "()I"⟩
abbrev cX1_underWay : ByteArray := prog_1_method_10_code
def yX1_underWay : MethodName := ⟨RX1, "underWay", "()I"⟩
abbrev cX1_overlaps : ByteArray := prog_1_method_11_code
def yX1_overlaps : MethodName := ⟨RX1, "overlaps", "()I"⟩
abbrev cX1_snowOn : ByteArray := prog_1_method_12_code
def yX1_snowOn : MethodName := ⟨RX1, "snowOn", "(I)I"⟩
abbrev cX1_wallOn : ByteArray := prog_1_method_13_code
def yX1_wallOn : MethodName := ⟨RX1, "wallOn", "(I)I"⟩
abbrev cX1_loudOn : ByteArray := prog_1_method_14_code
def yX1_loudOn : MethodName := ⟨RX1, "loudOn", "(I)I"⟩
abbrev cX1_stoneOf : ByteArray := prog_1_method_15_code
def yX1_stoneOf : MethodName := ⟨RX1, "stoneOf", "(I)I"⟩
abbrev cX1_ownerOf : ByteArray := prog_1_method_16_code
def yX1_ownerOf : MethodName := ⟨RX1, "ownerOf", "(I)I"⟩
abbrev cX1_thrownBack : ByteArray := prog_1_method_17_code
def yX1_thrownBack : MethodName := ⟨RX1, "thrownBack", "(I)I"⟩
abbrev cX1_coinsOf : ByteArray := prog_1_method_18_code
def yX1_coinsOf : MethodName := ⟨RX1, "coinsOf", "(I)I"⟩
abbrev cX1_wallsOf : ByteArray := prog_1_method_19_code
def yX1_wallsOf : MethodName := ⟨RX1, "wallsOf", "(I)I"⟩
abbrev cX1_silentFor : ByteArray := prog_1_method_20_code
def yX1_silentFor : MethodName := ⟨RX1, "silentFor", "(I)I"⟩
abbrev cX1_inherited : ByteArray := prog_1_method_21_code
def yX1_inherited : MethodName := ⟨RX1, "inherited", "()I"⟩
abbrev cX1_loudnessOf : ByteArray := prog_1_method_22_code
def yX1_loudnessOf : MethodName := ⟨RX1, "loudnessOf", "(I)I"⟩
abbrev cX1_placeOf : ByteArray := prog_1_method_23_code
def yX1_placeOf : MethodName := ⟨RX1, "placeOf", "(I)I"⟩
abbrev cX1_goesRight : ByteArray := prog_1_method_24_code
def yX1_goesRight : MethodName := ⟨RX1, "goesRight", "(I)Z"⟩
abbrev cX1_turnsOf : ByteArray := prog_1_method_25_code
def yX1_turnsOf : MethodName := ⟨RX1, "turnsOf", "(I)I"⟩
abbrev cX1_nextWall : ByteArray := prog_1_method_26_code
def yX1_nextWall : MethodName := ⟨RX1, "nextWall", "(IZ)I"⟩
abbrev cX1_beatsUntilGone : ByteArray := prog_1_method_27_code
def yX1_beatsUntilGone : MethodName := ⟨RX1, "beatsUntilGone", "(I)I"⟩
abbrev cX1_beatsUntilQuiet : ByteArray := prog_1_method_28_code
def yX1_beatsUntilQuiet : MethodName := ⟨RX1, "beatsUntilQuiet", "()I"⟩
abbrev cX1_coinsIn : ByteArray := prog_1_method_29_code
def yX1_coinsIn : MethodName := ⟨RX1, "coinsIn", "(II)I"⟩
abbrev cX1_loudestOn : ByteArray := prog_1_method_30_code
def yX1_loudestOn : MethodName := ⟨RX1, "loudestOn", "(II)I"⟩
abbrev cX1_loudnessWanted : ByteArray := prog_1_method_31_code
def yX1_loudnessWanted : MethodName := ⟨RX1, "loudnessWanted", "(IZI)I"⟩
abbrev cX1_bestStone : ByteArray := prog_1_method_32_code
def yX1_bestStone : MethodName := ⟨RX1, "bestStone", "(I)I"⟩
abbrev cX1_meanLoudness : ByteArray := prog_1_method_33_code
def yX1_meanLoudness : MethodName := ⟨RX1, "meanLoudness", "()D"⟩
abbrev cX1_digest : ByteArray := prog_1_method_34_code
def yX1_digest : MethodName := ⟨RX1, "digest", "()J"⟩
abbrev cX1_digestCounts : ByteArray := prog_1_method_35_code
def yX1_digestCounts : MethodName := ⟨RX1, "digestCounts", "(J)J"⟩
abbrev cX1_digestEchoes : ByteArray := prog_1_method_36_code
def yX1_digestEchoes : MethodName := ⟨RX1, "digestEchoes", "(J)J"⟩
abbrev cX1_digestWalls : ByteArray := prog_1_method_37_code
def yX1_digestWalls : MethodName := ⟨RX1, "digestWalls", "(J)J"⟩
abbrev cX1_digestShouts : ByteArray := prog_1_method_38_code
def yX1_digestShouts : MethodName := ⟨RX1, "digestShouts", "(J)J"⟩
abbrev cX1_digestStones : ByteArray := prog_1_method_39_code
def yX1_digestStones : MethodName := ⟨RX1, "digestStones", "(J)J"⟩
abbrev cX1_mix : ByteArray := prog_1_method_40_code
def yX1_mix : MethodName := ⟨RX1, "mix", "(JI)J"⟩
abbrev cX1_turnsAlone : ByteArray := prog_1_method_41_code
def yX1_turnsAlone : MethodName := ⟨RX1, "turnsAlone", "(II)I"⟩
abbrev cX1_isStone : ByteArray := prog_1_method_42_code
def yX1_isStone : MethodName := ⟨RX1, "isStone", "(I)Z"⟩
abbrev cX1_otherEcho : ByteArray := prog_1_method_43_code
def yX1_otherEcho : MethodName := ⟨RX1, "otherEcho", "(I)I"⟩
abbrev cX1_needStone : ByteArray := prog_1_method_44_code
def yX1_needStone : MethodName := ⟨RX1, "needStone", "(I)V"⟩
abbrev cX1_needEcho : ByteArray := prog_1_method_45_code
def yX1_needEcho : MethodName := ⟨RX1, "needEcho", "(I)V"⟩
abbrev cX1_needWall : ByteArray := prog_1_method_46_code
def yX1_needWall : MethodName := ⟨RX1, "needWall", "(I)V"⟩
abbrev cX1_needShout : ByteArray := prog_1_method_47_code
def yX1_needShout : MethodName := ⟨RX1, "needShout", "(I)V"⟩
abbrev cX1_needLoud : ByteArray := prog_1_method_48_code
def yX1_needLoud : MethodName := ⟨RX1, "needLoud", "(I)V"⟩
abbrev cX1_needBeats : ByteArray := prog_1_method_49_code
def yX1_needBeats : MethodName := ⟨RX1, "needBeats", "(I)V"⟩
def RX2 : String := "CanyonEchoesLaw$Sim"
def TX2 : u_T := fun k => match k with
  | 0 => ("CanyonEchoesLaw$Sim", "snow", "[I", false)
  | 1 => ("CanyonEchoesLaw$Sim", "walls", "[[I", false)
  | 2 => ("CanyonEchoesLaw$Sim", "shouts", "[[I", false)
  | 3 => ("CanyonEchoesLaw$Sim", "coins", "[I", false)
  | 4 => ("CanyonEchoesLaw$Sim", "silent", "[I", false)
  | 5 => ("CanyonEchoesLaw$Sim", "beat", "I", false)
  | 6 => ("CanyonEchoesLaw$Sim", "overlaps", "I", false)
  | _ => ("CanyonEchoesLaw$Sim", "lost", "I", false)
def tyX2 : Nat → FieldType := fun k => match k with
  | 0 => .array .int
  | 1 => .array (.array .int)
  | 2 => .array (.array .int)
  | 3 => .array .int
  | 4 => .array .int
  | 5 => .int
  | 6 => .int
  | _ => .int
abbrev wsX20 : List Cond := u_ws RX2 TX2 8
theorem nmX2 : ∀ a, a < 8 → ∀ b, b < 8 → a ≠ b → (TX2 a).2.1 ≠ (TX2 b).2.1 := by decide +kernel
theorem tyX2_ok : ∀ k, k < 8 → parseFieldDescriptor (TX2 k).2.2.1 = some (tyX2 k) := by decide +kernel
abbrev cX2_init : ByteArray := prog_4_method_1_code
def yX2_init : MethodName := ⟨RX2, "<init>", "()V"⟩
abbrev cX2_with : ByteArray := prog_4_method_2_code
def yX2_with : MethodName := ⟨RX2, "with", "([[I[I)[[I"⟩
abbrev cX2_copy : ByteArray := prog_4_method_3_code
def yX2_copy : MethodName := ⟨RX2, "copy", "()LCanyonEchoesLaw$Sim;"⟩
abbrev cX2_wallOn : ByteArray := prog_4_method_4_code
def yX2_wallOn : MethodName := ⟨RX2, "wallOn", "(I)I"⟩
abbrev cX2_loudestOn : ByteArray := prog_4_method_5_code
def yX2_loudestOn : MethodName := ⟨RX2, "loudestOn", "(I)I"⟩
abbrev cX2_underWay : ByteArray := prog_4_method_6_code
def yX2_underWay : MethodName := ⟨RX2, "underWay", "()I"⟩
abbrev cX2_pass : ByteArray := prog_4_method_7_code
def yX2_pass : MethodName := ⟨RX2, "pass", "()I"⟩
abbrev cX2_pass_ : ByteArray := prog_4_method_8_code
def yX2_pass_ : MethodName := ⟨RX2, "pass", "(I)I"⟩
abbrev cX2_alone : ByteArray := prog_4_method_9_code
def yX2_alone : MethodName := ⟨RX2, "alone", "(III)LCanyonEchoesLaw$Sim;"⟩
abbrev cX2_turns : ByteArray := prog_4_method_10_code
def yX2_turns : MethodName := ⟨RX2, "turns", "(II)I"⟩
abbrev cX2_isSame : ByteArray := prog_4_method_12_code
def yX2_isSame : MethodName := ⟨RX2, "isSame", "(LCanyonEchoes;)Z"⟩
def RX3 : String := "CanyonEchoesModel"
def TX3 : u_T := fun k => match k with
  | _ => ("", "", "", false)
def tyX3 : Nat → FieldType := fun k => match k with
  | _ => .int
abbrev wsX30 : List Cond := u_ws RX3 TX3 0
theorem nmX3 : ∀ a, a < 0 → ∀ b, b < 0 → a ≠ b → (TX3 a).2.1 ≠ (TX3 b).2.1 := by decide +kernel
theorem tyX3_ok : ∀ k, k < 0 → parseFieldDescriptor (TX3 k).2.2.1 = some (tyX3 k) := by decide +kernel
def RJx145de : String := "java/io/Serializable"
def TJx145de : u_T := fun k => match k with
  | _ => ("", "", "", false)
def tyJx145de : Nat → FieldType := fun k => match k with
  | _ => .int
abbrev wsJx145de0 : List Cond := u_ws RJx145de TJx145de 0
theorem nmJx145de : ∀ a, a < 0 → ∀ b, b < 0 → a ≠ b → (TJx145de a).2.1 ≠ (TJx145de b).2.1 := by decide +kernel
theorem tyJx145de_ok : ∀ k, k < 0 → parseFieldDescriptor (TJx145de k).2.2.1 = some (tyJx145de k) := by decide +kernel
def RJx8e188 : String := "java/lang/Cloneable"
def TJx8e188 : u_T := fun k => match k with
  | _ => ("", "", "", false)
def tyJx8e188 : Nat → FieldType := fun k => match k with
  | _ => .int
abbrev wsJx8e1880 : List Cond := u_ws RJx8e188 TJx8e188 0
theorem nmJx8e188 : ∀ a, a < 0 → ∀ b, b < 0 → a ≠ b → (TJx8e188 a).2.1 ≠ (TJx8e188 b).2.1 := by decide +kernel
theorem tyJx8e188_ok : ∀ k, k < 0 → parseFieldDescriptor (TJx8e188 k).2.2.1 = some (tyJx8e188 k) := by decide +kernel
def RJ9 : String := "java/lang/Math"
def TJ9 : u_T := fun k => match k with
  | _ => ("", "", "", false)
def tyJ9 : Nat → FieldType := fun k => match k with
  | _ => .int
abbrev wsJ90 : List Cond := u_ws RJ9 TJ9 0
theorem nmJ9 : ∀ a, a < 0 → ∀ b, b < 0 → a ≠ b → (TJ9 a).2.1 ≠ (TJ9 b).2.1 := by decide +kernel
theorem tyJ9_ok : ∀ k, k < 0 → parseFieldDescriptor (TJ9 k).2.2.1 = some (tyJ9 k) := by decide +kernel
abbrev cJ9_max_7cf53 : ByteArray := prog_11_method_65_code
def yJ9_max_7cf53 : MethodName := ⟨RJ9, "max", "(II)I"⟩
def RJ0 : String := "java/lang/String"
def TJ0 : u_T := fun k => match k with
  | _ => ("", "", "", false)
def tyJ0 : Nat → FieldType := fun k => match k with
  | _ => .int
abbrev wsJ00 : List Cond := u_ws RJ0 TJ0 0
theorem nmJ0 : ∀ a, a < 0 → ∀ b, b < 0 → a ≠ b → (TJ0 a).2.1 ≠ (TJ0 b).2.1 := by decide +kernel
theorem tyJ0_ok : ∀ k, k < 0 → parseFieldDescriptor (TJ0 k).2.2.1 = some (tyJ0 k) := by decide +kernel
def RJ10 : String := "java/lang/System"
def TJ10 : u_T := fun k => match k with
  | _ => ("", "", "", false)
def tyJ10 : Nat → FieldType := fun k => match k with
  | _ => .int
abbrev wsJ100 : List Cond := u_ws RJ10 TJ10 0
theorem nmJ10 : ∀ a, a < 0 → ∀ b, b < 0 → a ≠ b → (TJ10 a).2.1 ≠ (TJ10 b).2.1 := by decide +kernel
theorem tyJ10_ok : ∀ k, k < 0 → parseFieldDescriptor (TJ10 k).2.2.1 = some (tyJ10 k) := by decide +kernel
def RJ7 : String := "java/util/Arrays"
def TJ7 : u_T := fun k => match k with
  | _ => ("", "", "", false)
def tyJ7 : Nat → FieldType := fun k => match k with
  | _ => .int
abbrev wsJ70 : List Cond := u_ws RJ7 TJ7 0
theorem nmJ7 : ∀ a, a < 0 → ∀ b, b < 0 → a ≠ b → (TJ7 a).2.1 ≠ (TJ7 b).2.1 := by decide +kernel
theorem tyJ7_ok : ∀ k, k < 0 → parseFieldDescriptor (TJ7 k).2.2.1 = some (tyJ7 k) := by decide +kernel
abbrev cJ7_fill_53178 : ByteArray := prog_16_method_103_code
def yJ7_fill_53178 : MethodName := ⟨RJ7, "fill", "([II)V"⟩
def RL : String := "CanyonEchoesLaw"
abbrev cL_below : ByteArray := method_2_code
def yL_below : MethodName := ⟨RL, "below", "(II)I"⟩
abbrev cL_cell : ByteArray := method_3_code
def yL_cell : MethodName := ⟨RL, "cell", "([II)I"⟩
abbrev cL_act : ByteArray := method_4_code
def yL_act : MethodName := ⟨RL, "act", "(LCanyonEchoes;LCanyonEchoesLaw$Sim;I)Z"⟩
abbrev cL_build : ByteArray := method_5_code
def yL_build : MethodName := ⟨RL, "build", "(LCanyonEchoes;[I)LCanyonEchoesLaw$Sim;"⟩
abbrev cL_law : ByteArray := code
def yL_law : MethodName := ⟨RL, "law", "([I)Z"⟩
abbrev cL_comes : ByteArray := method_7_code
def yL_comes : MethodName := ⟨RL, "comes", "(LCanyonEchoesLaw$Sim;IZII)Z"⟩
theorem inX0 : ∀ w ∈ wsX00, w ∈ lw_tbl := by decide +kernel
theorem inX1 : ∀ w ∈ wsX10, w ∈ lw_tbl := by decide +kernel
theorem inX2 : ∀ w ∈ wsX20, w ∈ lw_tbl := by decide +kernel
abbrev vwCl : List vw_C := [(RX0, TX0, 19), (RX1, TX1, 2), (RX2, TX2, 8)]
end
section
theorem dX0_init_0 : decode cX0_init 0 = .ok (.aload_n 0, 1) := by decide +kernel
theorem dX0_init_1 : decode cX0_init 1 = .ok (.invokespecial 3, 3) := by decide +kernel
theorem dX0_init_4 : decode cX0_init 4 = .ok (.aload_n 0, 1) := by decide +kernel
theorem dX0_init_5 : decode cX0_init 5 = .ok (.bipush 32, 2) := by decide +kernel
theorem dX0_init_7 : decode cX0_init 7 = .ok (.newarray .int, 2) := by decide +kernel
theorem dX0_init_9 : decode cX0_init 9 = .ok (.putfield 9, 3) := by decide +kernel
theorem dX0_init_12 : decode cX0_init 12 = .ok (.aload_n 0, 1) := by decide +kernel
theorem dX0_init_13 : decode cX0_init 13 = .ok (.bipush 32, 2) := by decide +kernel
theorem dX0_init_15 : decode cX0_init 15 = .ok (.newarray .int, 2) := by decide +kernel
theorem dX0_init_17 : decode cX0_init 17 = .ok (.putfield 15, 3) := by decide +kernel
theorem dX0_init_20 : decode cX0_init 20 = .ok (.aload_n 0, 1) := by decide +kernel
theorem dX0_init_21 : decode cX0_init 21 = .ok (.bipush 32, 2) := by decide +kernel
theorem dX0_init_23 : decode cX0_init 23 = .ok (.newarray .int, 2) := by decide +kernel
theorem dX0_init_25 : decode cX0_init 25 = .ok (.putfield 18, 3) := by decide +kernel
theorem dX0_init_28 : decode cX0_init 28 = .ok (.aload_n 0, 1) := by decide +kernel
theorem dX0_init_29 : decode cX0_init 29 = .ok (.bipush 10, 2) := by decide +kernel
theorem dX0_init_31 : decode cX0_init 31 = .ok (.newarray .int, 2) := by decide +kernel
theorem dX0_init_33 : decode cX0_init 33 = .ok (.putfield 21, 3) := by decide +kernel
theorem dX0_init_36 : decode cX0_init 36 = .ok (.aload_n 0, 1) := by decide +kernel
theorem dX0_init_37 : decode cX0_init 37 = .ok (.bipush 10, 2) := by decide +kernel
theorem dX0_init_39 : decode cX0_init 39 = .ok (.newarray .int, 2) := by decide +kernel
theorem dX0_init_41 : decode cX0_init 41 = .ok (.putfield 24, 3) := by decide +kernel
theorem dX0_init_44 : decode cX0_init 44 = .ok (.aload_n 0, 1) := by decide +kernel
theorem dX0_init_45 : decode cX0_init 45 = .ok (.bipush 10, 2) := by decide +kernel
theorem dX0_init_47 : decode cX0_init 47 = .ok (.newarray .int, 2) := by decide +kernel
theorem dX0_init_49 : decode cX0_init 49 = .ok (.putfield 27, 3) := by decide +kernel
theorem dX0_init_52 : decode cX0_init 52 = .ok (.aload_n 0, 1) := by decide +kernel
theorem dX0_init_53 : decode cX0_init 53 = .ok (.bipush 10, 2) := by decide +kernel
theorem dX0_init_55 : decode cX0_init 55 = .ok (.newarray .int, 2) := by decide +kernel
theorem dX0_init_57 : decode cX0_init 57 = .ok (.putfield 30, 3) := by decide +kernel
theorem dX0_init_60 : decode cX0_init 60 = .ok (.aload_n 0, 1) := by decide +kernel
theorem dX0_init_61 : decode cX0_init 61 = .ok (.iconst 2, 1) := by decide +kernel
theorem dX0_init_62 : decode cX0_init 62 = .ok (.newarray .int, 2) := by decide +kernel
theorem dX0_init_64 : decode cX0_init 64 = .ok (.putfield 33, 3) := by decide +kernel
theorem dX0_init_67 : decode cX0_init 67 = .ok (.aload_n 0, 1) := by decide +kernel
theorem dX0_init_68 : decode cX0_init 68 = .ok (.iconst 2, 1) := by decide +kernel
theorem dX0_init_69 : decode cX0_init 69 = .ok (.newarray .int, 2) := by decide +kernel
theorem dX0_init_71 : decode cX0_init 71 = .ok (.putfield 36, 3) := by decide +kernel
theorem dX0_init_74 : decode cX0_init 74 = .ok (.aload_n 0, 1) := by decide +kernel
theorem dX0_init_75 : decode cX0_init 75 = .ok (.bipush 40, 2) := by decide +kernel
theorem dX0_init_77 : decode cX0_init 77 = .ok (.newarray .int, 2) := by decide +kernel
theorem dX0_init_79 : decode cX0_init 79 = .ok (.putfield 39, 3) := by decide +kernel
theorem dX0_init_82 : decode cX0_init 82 = .ok (.aload_n 0, 1) := by decide +kernel
theorem dX0_init_83 : decode cX0_init 83 = .ok (.bipush 40, 2) := by decide +kernel
theorem dX0_init_85 : decode cX0_init 85 = .ok (.newarray .int, 2) := by decide +kernel
theorem dX0_init_87 : decode cX0_init 87 = .ok (.putfield 42, 3) := by decide +kernel
theorem dX0_init_90 : decode cX0_init 90 = .ok (.aload_n 0, 1) := by decide +kernel
theorem dX0_init_91 : decode cX0_init 91 = .ok (.bipush 40, 2) := by decide +kernel
theorem dX0_init_93 : decode cX0_init 93 = .ok (.newarray .int, 2) := by decide +kernel
theorem dX0_init_95 : decode cX0_init 95 = .ok (.putfield 45, 3) := by decide +kernel
theorem dX0_init_98 : decode cX0_init 98 = .ok (.aload_n 0, 1) := by decide +kernel
theorem dX0_init_99 : decode cX0_init 99 = .ok (.bipush 40, 2) := by decide +kernel
theorem dX0_init_101 : decode cX0_init 101 = .ok (.newarray .int, 2) := by decide +kernel
theorem dX0_init_103 : decode cX0_init 103 = .ok (.putfield 48, 3) := by decide +kernel
theorem dX0_init_106 : decode cX0_init 106 = .ok (.aload_n 0, 1) := by decide +kernel
theorem dX0_init_107 : decode cX0_init 107 = .ok (.getfield 15, 3) := by decide +kernel
theorem dX0_init_110 : decode cX0_init 110 = .ok (.iconst (-1), 1) := by decide +kernel
theorem dX0_init_111 : decode cX0_init 111 = .ok (.invokestatic 51, 3) := by decide +kernel
theorem dX0_init_114 : decode cX0_init 114 = .ok (.aload_n 0, 1) := by decide +kernel
theorem dX0_init_115 : decode cX0_init 115 = .ok (.getfield 18, 3) := by decide +kernel
theorem dX0_init_118 : decode cX0_init 118 = .ok (.iconst (-1), 1) := by decide +kernel
theorem dX0_init_119 : decode cX0_init 119 = .ok (.invokestatic 51, 3) := by decide +kernel
theorem dX0_init_122 : decode cX0_init 122 = .ok (.return_, 1) := by decide +kernel
theorem dX0_copyFrom_0 : decode cX0_copyFrom 0 = .ok (.aload_n 0, 1) := by decide +kernel
theorem dX0_copyFrom_1 : decode cX0_copyFrom 1 = .ok (.aload_n 1, 1) := by decide +kernel
theorem dX0_copyFrom_2 : decode cX0_copyFrom 2 = .ok (.getfield 57, 3) := by decide +kernel
theorem dX0_copyFrom_5 : decode cX0_copyFrom 5 = .ok (.putfield 57, 3) := by decide +kernel
theorem dX0_copyFrom_8 : decode cX0_copyFrom 8 = .ok (.aload_n 0, 1) := by decide +kernel
theorem dX0_copyFrom_9 : decode cX0_copyFrom 9 = .ok (.aload_n 1, 1) := by decide +kernel
theorem dX0_copyFrom_10 : decode cX0_copyFrom 10 = .ok (.getfield 61, 3) := by decide +kernel
theorem dX0_copyFrom_13 : decode cX0_copyFrom 13 = .ok (.putfield 61, 3) := by decide +kernel
theorem dX0_copyFrom_16 : decode cX0_copyFrom 16 = .ok (.aload_n 0, 1) := by decide +kernel
theorem dX0_copyFrom_17 : decode cX0_copyFrom 17 = .ok (.aload_n 1, 1) := by decide +kernel
theorem dX0_copyFrom_18 : decode cX0_copyFrom 18 = .ok (.getfield 64, 3) := by decide +kernel
theorem dX0_copyFrom_21 : decode cX0_copyFrom 21 = .ok (.putfield 64, 3) := by decide +kernel
theorem dX0_copyFrom_24 : decode cX0_copyFrom 24 = .ok (.aload_n 0, 1) := by decide +kernel
theorem dX0_copyFrom_25 : decode cX0_copyFrom 25 = .ok (.aload_n 1, 1) := by decide +kernel
theorem dX0_copyFrom_26 : decode cX0_copyFrom 26 = .ok (.getfield 67, 3) := by decide +kernel
theorem dX0_copyFrom_29 : decode cX0_copyFrom 29 = .ok (.putfield 67, 3) := by decide +kernel
theorem dX0_copyFrom_32 : decode cX0_copyFrom 32 = .ok (.aload_n 0, 1) := by decide +kernel
theorem dX0_copyFrom_33 : decode cX0_copyFrom 33 = .ok (.aload_n 1, 1) := by decide +kernel
theorem dX0_copyFrom_34 : decode cX0_copyFrom 34 = .ok (.getfield 70, 3) := by decide +kernel
theorem dX0_copyFrom_37 : decode cX0_copyFrom 37 = .ok (.putfield 70, 3) := by decide +kernel
theorem dX0_copyFrom_40 : decode cX0_copyFrom 40 = .ok (.aload_n 0, 1) := by decide +kernel
theorem dX0_copyFrom_41 : decode cX0_copyFrom 41 = .ok (.aload_n 1, 1) := by decide +kernel
theorem dX0_copyFrom_42 : decode cX0_copyFrom 42 = .ok (.getfield 73, 3) := by decide +kernel
theorem dX0_copyFrom_45 : decode cX0_copyFrom 45 = .ok (.putfield 73, 3) := by decide +kernel
theorem dX0_copyFrom_48 : decode cX0_copyFrom 48 = .ok (.aload_n 1, 1) := by decide +kernel
theorem dX0_copyFrom_49 : decode cX0_copyFrom 49 = .ok (.getfield 9, 3) := by decide +kernel
theorem dX0_copyFrom_52 : decode cX0_copyFrom 52 = .ok (.iconst 0, 1) := by decide +kernel
theorem dX0_copyFrom_53 : decode cX0_copyFrom 53 = .ok (.aload_n 0, 1) := by decide +kernel
theorem dX0_copyFrom_54 : decode cX0_copyFrom 54 = .ok (.getfield 9, 3) := by decide +kernel
theorem dX0_copyFrom_57 : decode cX0_copyFrom 57 = .ok (.iconst 0, 1) := by decide +kernel
theorem dX0_copyFrom_58 : decode cX0_copyFrom 58 = .ok (.bipush 32, 2) := by decide +kernel
theorem dX0_copyFrom_60 : decode cX0_copyFrom 60 = .ok (.invokestatic 76, 3) := by decide +kernel
theorem dX0_copyFrom_63 : decode cX0_copyFrom 63 = .ok (.aload_n 1, 1) := by decide +kernel
theorem dX0_copyFrom_64 : decode cX0_copyFrom 64 = .ok (.getfield 15, 3) := by decide +kernel
theorem dX0_copyFrom_67 : decode cX0_copyFrom 67 = .ok (.iconst 0, 1) := by decide +kernel
theorem dX0_copyFrom_68 : decode cX0_copyFrom 68 = .ok (.aload_n 0, 1) := by decide +kernel
theorem dX0_copyFrom_69 : decode cX0_copyFrom 69 = .ok (.getfield 15, 3) := by decide +kernel
theorem dX0_copyFrom_72 : decode cX0_copyFrom 72 = .ok (.iconst 0, 1) := by decide +kernel
theorem dX0_copyFrom_73 : decode cX0_copyFrom 73 = .ok (.bipush 32, 2) := by decide +kernel
theorem dX0_copyFrom_75 : decode cX0_copyFrom 75 = .ok (.invokestatic 76, 3) := by decide +kernel
theorem dX0_copyFrom_78 : decode cX0_copyFrom 78 = .ok (.aload_n 1, 1) := by decide +kernel
theorem dX0_copyFrom_79 : decode cX0_copyFrom 79 = .ok (.getfield 18, 3) := by decide +kernel
theorem dX0_copyFrom_82 : decode cX0_copyFrom 82 = .ok (.iconst 0, 1) := by decide +kernel
theorem dX0_copyFrom_83 : decode cX0_copyFrom 83 = .ok (.aload_n 0, 1) := by decide +kernel
theorem dX0_copyFrom_84 : decode cX0_copyFrom 84 = .ok (.getfield 18, 3) := by decide +kernel
theorem dX0_copyFrom_87 : decode cX0_copyFrom 87 = .ok (.iconst 0, 1) := by decide +kernel
theorem dX0_copyFrom_88 : decode cX0_copyFrom 88 = .ok (.bipush 32, 2) := by decide +kernel
theorem dX0_copyFrom_90 : decode cX0_copyFrom 90 = .ok (.invokestatic 76, 3) := by decide +kernel
theorem dX0_copyFrom_93 : decode cX0_copyFrom 93 = .ok (.aload_n 1, 1) := by decide +kernel
theorem dX0_copyFrom_94 : decode cX0_copyFrom 94 = .ok (.getfield 21, 3) := by decide +kernel
theorem dX0_copyFrom_97 : decode cX0_copyFrom 97 = .ok (.iconst 0, 1) := by decide +kernel
theorem dX0_copyFrom_98 : decode cX0_copyFrom 98 = .ok (.aload_n 0, 1) := by decide +kernel
theorem dX0_copyFrom_99 : decode cX0_copyFrom 99 = .ok (.getfield 21, 3) := by decide +kernel
theorem dX0_copyFrom_102 : decode cX0_copyFrom 102 = .ok (.iconst 0, 1) := by decide +kernel
theorem dX0_copyFrom_103 : decode cX0_copyFrom 103 = .ok (.bipush 10, 2) := by decide +kernel
theorem dX0_copyFrom_105 : decode cX0_copyFrom 105 = .ok (.invokestatic 76, 3) := by decide +kernel
theorem dX0_copyFrom_108 : decode cX0_copyFrom 108 = .ok (.aload_n 1, 1) := by decide +kernel
theorem dX0_copyFrom_109 : decode cX0_copyFrom 109 = .ok (.getfield 24, 3) := by decide +kernel
theorem dX0_copyFrom_112 : decode cX0_copyFrom 112 = .ok (.iconst 0, 1) := by decide +kernel
theorem dX0_copyFrom_113 : decode cX0_copyFrom 113 = .ok (.aload_n 0, 1) := by decide +kernel
theorem dX0_copyFrom_114 : decode cX0_copyFrom 114 = .ok (.getfield 24, 3) := by decide +kernel
theorem dX0_copyFrom_117 : decode cX0_copyFrom 117 = .ok (.iconst 0, 1) := by decide +kernel
theorem dX0_copyFrom_118 : decode cX0_copyFrom 118 = .ok (.bipush 10, 2) := by decide +kernel
theorem dX0_copyFrom_120 : decode cX0_copyFrom 120 = .ok (.invokestatic 76, 3) := by decide +kernel
theorem dX0_copyFrom_123 : decode cX0_copyFrom 123 = .ok (.aload_n 1, 1) := by decide +kernel
theorem dX0_copyFrom_124 : decode cX0_copyFrom 124 = .ok (.getfield 27, 3) := by decide +kernel
theorem dX0_copyFrom_127 : decode cX0_copyFrom 127 = .ok (.iconst 0, 1) := by decide +kernel
theorem dX0_copyFrom_128 : decode cX0_copyFrom 128 = .ok (.aload_n 0, 1) := by decide +kernel
theorem dX0_copyFrom_129 : decode cX0_copyFrom 129 = .ok (.getfield 27, 3) := by decide +kernel
theorem dX0_copyFrom_132 : decode cX0_copyFrom 132 = .ok (.iconst 0, 1) := by decide +kernel
theorem dX0_copyFrom_133 : decode cX0_copyFrom 133 = .ok (.bipush 10, 2) := by decide +kernel
theorem dX0_copyFrom_135 : decode cX0_copyFrom 135 = .ok (.invokestatic 76, 3) := by decide +kernel
theorem dX0_copyFrom_138 : decode cX0_copyFrom 138 = .ok (.aload_n 1, 1) := by decide +kernel
theorem dX0_copyFrom_139 : decode cX0_copyFrom 139 = .ok (.getfield 30, 3) := by decide +kernel
theorem dX0_copyFrom_142 : decode cX0_copyFrom 142 = .ok (.iconst 0, 1) := by decide +kernel
theorem dX0_copyFrom_143 : decode cX0_copyFrom 143 = .ok (.aload_n 0, 1) := by decide +kernel
theorem dX0_copyFrom_144 : decode cX0_copyFrom 144 = .ok (.getfield 30, 3) := by decide +kernel
theorem dX0_copyFrom_147 : decode cX0_copyFrom 147 = .ok (.iconst 0, 1) := by decide +kernel
theorem dX0_copyFrom_148 : decode cX0_copyFrom 148 = .ok (.bipush 10, 2) := by decide +kernel
theorem dX0_copyFrom_150 : decode cX0_copyFrom 150 = .ok (.invokestatic 76, 3) := by decide +kernel
theorem dX0_copyFrom_153 : decode cX0_copyFrom 153 = .ok (.aload_n 1, 1) := by decide +kernel
theorem dX0_copyFrom_154 : decode cX0_copyFrom 154 = .ok (.getfield 33, 3) := by decide +kernel
theorem dX0_copyFrom_157 : decode cX0_copyFrom 157 = .ok (.iconst 0, 1) := by decide +kernel
theorem dX0_copyFrom_158 : decode cX0_copyFrom 158 = .ok (.aload_n 0, 1) := by decide +kernel
theorem dX0_copyFrom_159 : decode cX0_copyFrom 159 = .ok (.getfield 33, 3) := by decide +kernel
theorem dX0_copyFrom_162 : decode cX0_copyFrom 162 = .ok (.iconst 0, 1) := by decide +kernel
theorem dX0_copyFrom_163 : decode cX0_copyFrom 163 = .ok (.iconst 2, 1) := by decide +kernel
theorem dX0_copyFrom_164 : decode cX0_copyFrom 164 = .ok (.invokestatic 76, 3) := by decide +kernel
theorem dX0_copyFrom_167 : decode cX0_copyFrom 167 = .ok (.aload_n 1, 1) := by decide +kernel
theorem dX0_copyFrom_168 : decode cX0_copyFrom 168 = .ok (.getfield 36, 3) := by decide +kernel
theorem dX0_copyFrom_171 : decode cX0_copyFrom 171 = .ok (.iconst 0, 1) := by decide +kernel
theorem dX0_copyFrom_172 : decode cX0_copyFrom 172 = .ok (.aload_n 0, 1) := by decide +kernel
theorem dX0_copyFrom_173 : decode cX0_copyFrom 173 = .ok (.getfield 36, 3) := by decide +kernel
theorem dX0_copyFrom_176 : decode cX0_copyFrom 176 = .ok (.iconst 0, 1) := by decide +kernel
theorem dX0_copyFrom_177 : decode cX0_copyFrom 177 = .ok (.iconst 2, 1) := by decide +kernel
theorem dX0_copyFrom_178 : decode cX0_copyFrom 178 = .ok (.invokestatic 76, 3) := by decide +kernel
theorem dX0_copyFrom_181 : decode cX0_copyFrom 181 = .ok (.aload_n 1, 1) := by decide +kernel
theorem dX0_copyFrom_182 : decode cX0_copyFrom 182 = .ok (.getfield 39, 3) := by decide +kernel
theorem dX0_copyFrom_185 : decode cX0_copyFrom 185 = .ok (.iconst 0, 1) := by decide +kernel
theorem dX0_copyFrom_186 : decode cX0_copyFrom 186 = .ok (.aload_n 0, 1) := by decide +kernel
theorem dX0_copyFrom_187 : decode cX0_copyFrom 187 = .ok (.getfield 39, 3) := by decide +kernel
theorem dX0_copyFrom_190 : decode cX0_copyFrom 190 = .ok (.iconst 0, 1) := by decide +kernel
theorem dX0_copyFrom_191 : decode cX0_copyFrom 191 = .ok (.bipush 40, 2) := by decide +kernel
theorem dX0_copyFrom_193 : decode cX0_copyFrom 193 = .ok (.invokestatic 76, 3) := by decide +kernel
theorem dX0_copyFrom_196 : decode cX0_copyFrom 196 = .ok (.aload_n 1, 1) := by decide +kernel
theorem dX0_copyFrom_197 : decode cX0_copyFrom 197 = .ok (.getfield 42, 3) := by decide +kernel
theorem dX0_copyFrom_200 : decode cX0_copyFrom 200 = .ok (.iconst 0, 1) := by decide +kernel
theorem dX0_copyFrom_201 : decode cX0_copyFrom 201 = .ok (.aload_n 0, 1) := by decide +kernel
theorem dX0_copyFrom_202 : decode cX0_copyFrom 202 = .ok (.getfield 42, 3) := by decide +kernel
theorem dX0_copyFrom_205 : decode cX0_copyFrom 205 = .ok (.iconst 0, 1) := by decide +kernel
theorem dX0_copyFrom_206 : decode cX0_copyFrom 206 = .ok (.bipush 40, 2) := by decide +kernel
theorem dX0_copyFrom_208 : decode cX0_copyFrom 208 = .ok (.invokestatic 76, 3) := by decide +kernel
theorem dX0_copyFrom_211 : decode cX0_copyFrom 211 = .ok (.aload_n 1, 1) := by decide +kernel
theorem dX0_copyFrom_212 : decode cX0_copyFrom 212 = .ok (.getfield 45, 3) := by decide +kernel
theorem dX0_copyFrom_215 : decode cX0_copyFrom 215 = .ok (.iconst 0, 1) := by decide +kernel
theorem dX0_copyFrom_216 : decode cX0_copyFrom 216 = .ok (.aload_n 0, 1) := by decide +kernel
theorem dX0_copyFrom_217 : decode cX0_copyFrom 217 = .ok (.getfield 45, 3) := by decide +kernel
theorem dX0_copyFrom_220 : decode cX0_copyFrom 220 = .ok (.iconst 0, 1) := by decide +kernel
theorem dX0_copyFrom_221 : decode cX0_copyFrom 221 = .ok (.bipush 40, 2) := by decide +kernel
theorem dX0_copyFrom_223 : decode cX0_copyFrom 223 = .ok (.invokestatic 76, 3) := by decide +kernel
theorem dX0_copyFrom_226 : decode cX0_copyFrom 226 = .ok (.aload_n 1, 1) := by decide +kernel
theorem dX0_copyFrom_227 : decode cX0_copyFrom 227 = .ok (.getfield 48, 3) := by decide +kernel
theorem dX0_copyFrom_230 : decode cX0_copyFrom 230 = .ok (.iconst 0, 1) := by decide +kernel
theorem dX0_copyFrom_231 : decode cX0_copyFrom 231 = .ok (.aload_n 0, 1) := by decide +kernel
theorem dX0_copyFrom_232 : decode cX0_copyFrom 232 = .ok (.getfield 48, 3) := by decide +kernel
theorem dX0_copyFrom_235 : decode cX0_copyFrom 235 = .ok (.iconst 0, 1) := by decide +kernel
theorem dX0_copyFrom_236 : decode cX0_copyFrom 236 = .ok (.bipush 40, 2) := by decide +kernel
theorem dX0_copyFrom_238 : decode cX0_copyFrom 238 = .ok (.invokestatic 76, 3) := by decide +kernel
theorem dX0_copyFrom_241 : decode cX0_copyFrom 241 = .ok (.return_, 1) := by decide +kernel
theorem dX0_build_0 : decode cX0_build 0 = .ok (.aload_n 0, 1) := by decide +kernel
theorem dX0_build_1 : decode cX0_build 1 = .ok (.getfield 61, 3) := by decide +kernel
theorem dX0_build_4 : decode cX0_build 4 = .ok (.istore 4, 2) := by decide +kernel
theorem dX0_build_6 : decode cX0_build 6 = .ok (.aload_n 0, 1) := by decide +kernel
theorem dX0_build_7 : decode cX0_build 7 = .ok (.getfield 21, 3) := by decide +kernel
theorem dX0_build_10 : decode cX0_build 10 = .ok (.iload 4, 2) := by decide +kernel
theorem dX0_build_12 : decode cX0_build 12 = .ok (.iload_n 1, 1) := by decide +kernel
theorem dX0_build_13 : decode cX0_build 13 = .ok (.iastore, 1) := by decide +kernel
theorem dX0_build_14 : decode cX0_build 14 = .ok (.aload_n 0, 1) := by decide +kernel
theorem dX0_build_15 : decode cX0_build 15 = .ok (.getfield 24, 3) := by decide +kernel
theorem dX0_build_18 : decode cX0_build 18 = .ok (.iload 4, 2) := by decide +kernel
theorem dX0_build_20 : decode cX0_build 20 = .ok (.iload_n 2, 1) := by decide +kernel
theorem dX0_build_21 : decode cX0_build 21 = .ok (.iastore, 1) := by decide +kernel
theorem dX0_build_22 : decode cX0_build 22 = .ok (.aload_n 0, 1) := by decide +kernel
theorem dX0_build_23 : decode cX0_build 23 = .ok (.getfield 27, 3) := by decide +kernel
theorem dX0_build_26 : decode cX0_build 26 = .ok (.iload 4, 2) := by decide +kernel
theorem dX0_build_28 : decode cX0_build 28 = .ok (.iload_n 3, 1) := by decide +kernel
theorem dX0_build_29 : decode cX0_build 29 = .ok (.iastore, 1) := by decide +kernel
theorem dX0_build_30 : decode cX0_build 30 = .ok (.aload_n 0, 1) := by decide +kernel
theorem dX0_build_31 : decode cX0_build 31 = .ok (.getfield 30, 3) := by decide +kernel
theorem dX0_build_34 : decode cX0_build 34 = .ok (.iload 4, 2) := by decide +kernel
theorem dX0_build_36 : decode cX0_build 36 = .ok (.iconst 0, 1) := by decide +kernel
theorem dX0_build_37 : decode cX0_build 37 = .ok (.iastore, 1) := by decide +kernel
theorem dX0_build_38 : decode cX0_build 38 = .ok (.aload_n 0, 1) := by decide +kernel
theorem dX0_build_39 : decode cX0_build 39 = .ok (.getfield 15, 3) := by decide +kernel
theorem dX0_build_42 : decode cX0_build 42 = .ok (.iload_n 1, 1) := by decide +kernel
theorem dX0_build_43 : decode cX0_build 43 = .ok (.iload 4, 2) := by decide +kernel
theorem dX0_build_45 : decode cX0_build 45 = .ok (.iastore, 1) := by decide +kernel
theorem dX0_build_46 : decode cX0_build 46 = .ok (.aload_n 0, 1) := by decide +kernel
theorem dX0_build_47 : decode cX0_build 47 = .ok (.dup, 1) := by decide +kernel
theorem dX0_build_48 : decode cX0_build 48 = .ok (.getfield 61, 3) := by decide +kernel
theorem dX0_build_51 : decode cX0_build 51 = .ok (.iconst 1, 1) := by decide +kernel
theorem dX0_build_52 : decode cX0_build 52 = .ok (.iadd, 1) := by decide +kernel
theorem dX0_build_53 : decode cX0_build 53 = .ok (.putfield 61, 3) := by decide +kernel
theorem dX0_build_56 : decode cX0_build 56 = .ok (.iload 4, 2) := by decide +kernel
theorem dX0_build_58 : decode cX0_build 58 = .ok (.ireturn, 1) := by decide +kernel
theorem dX0_start_0 : decode cX0_start 0 = .ok (.aload_n 0, 1) := by decide +kernel
theorem dX0_start_1 : decode cX0_start 1 = .ok (.getfield 64, 3) := by decide +kernel
theorem dX0_start_4 : decode cX0_start 4 = .ok (.istore 4, 2) := by decide +kernel
theorem dX0_start_6 : decode cX0_start 6 = .ok (.aload_n 0, 1) := by decide +kernel
theorem dX0_start_7 : decode cX0_start 7 = .ok (.getfield 39, 3) := by decide +kernel
theorem dX0_start_10 : decode cX0_start 10 = .ok (.iload 4, 2) := by decide +kernel
theorem dX0_start_12 : decode cX0_start 12 = .ok (.iload_n 3, 1) := by decide +kernel
theorem dX0_start_13 : decode cX0_start 13 = .ok (.iastore, 1) := by decide +kernel
theorem dX0_start_14 : decode cX0_start 14 = .ok (.aload_n 0, 1) := by decide +kernel
theorem dX0_start_15 : decode cX0_start 15 = .ok (.getfield 42, 3) := by decide +kernel
theorem dX0_start_18 : decode cX0_start 18 = .ok (.iload 4, 2) := by decide +kernel
theorem dX0_start_20 : decode cX0_start 20 = .ok (.iload_n 1, 1) := by decide +kernel
theorem dX0_start_21 : decode cX0_start 21 = .ok (.iastore, 1) := by decide +kernel
theorem dX0_start_22 : decode cX0_start 22 = .ok (.aload_n 0, 1) := by decide +kernel
theorem dX0_start_23 : decode cX0_start 23 = .ok (.getfield 45, 3) := by decide +kernel
theorem dX0_start_26 : decode cX0_start 26 = .ok (.iload 4, 2) := by decide +kernel
theorem dX0_start_28 : decode cX0_start 28 = .ok (.iload_n 2, 1) := by decide +kernel
theorem dX0_start_29 : decode cX0_start 29 = .ok (.ifCond .eq 7, 3) := by decide +kernel
theorem dX0_start_32 : decode cX0_start 32 = .ok (.iconst 1, 1) := by decide +kernel
theorem dX0_start_33 : decode cX0_start 33 = .ok (.goto 4, 3) := by decide +kernel
theorem dX0_start_36 : decode cX0_start 36 = .ok (.iconst (-1), 1) := by decide +kernel
theorem dX0_start_37 : decode cX0_start 37 = .ok (.iastore, 1) := by decide +kernel
theorem dX0_start_38 : decode cX0_start 38 = .ok (.aload_n 0, 1) := by decide +kernel
theorem dX0_start_39 : decode cX0_start 39 = .ok (.getfield 48, 3) := by decide +kernel
theorem dX0_start_42 : decode cX0_start 42 = .ok (.iload 4, 2) := by decide +kernel
theorem dX0_start_44 : decode cX0_start 44 = .ok (.iconst 0, 1) := by decide +kernel
theorem dX0_start_45 : decode cX0_start 45 = .ok (.iastore, 1) := by decide +kernel
theorem dX0_start_46 : decode cX0_start 46 = .ok (.aload_n 0, 1) := by decide +kernel
theorem dX0_start_47 : decode cX0_start 47 = .ok (.getfield 18, 3) := by decide +kernel
theorem dX0_start_50 : decode cX0_start 50 = .ok (.iload_n 1, 1) := by decide +kernel
theorem dX0_start_51 : decode cX0_start 51 = .ok (.iload 4, 2) := by decide +kernel
theorem dX0_start_53 : decode cX0_start 53 = .ok (.iastore, 1) := by decide +kernel
theorem dX0_start_54 : decode cX0_start 54 = .ok (.aload_n 0, 1) := by decide +kernel
theorem dX0_start_55 : decode cX0_start 55 = .ok (.dup, 1) := by decide +kernel
theorem dX0_start_56 : decode cX0_start 56 = .ok (.getfield 64, 3) := by decide +kernel
theorem dX0_start_59 : decode cX0_start 59 = .ok (.iconst 1, 1) := by decide +kernel
theorem dX0_start_60 : decode cX0_start 60 = .ok (.iadd, 1) := by decide +kernel
theorem dX0_start_61 : decode cX0_start 61 = .ok (.putfield 64, 3) := by decide +kernel
theorem dX0_start_64 : decode cX0_start 64 = .ok (.aload_n 0, 1) := by decide +kernel
theorem dX0_start_65 : decode cX0_start 65 = .ok (.dup, 1) := by decide +kernel
theorem dX0_start_66 : decode cX0_start 66 = .ok (.getfield 67, 3) := by decide +kernel
theorem dX0_start_69 : decode cX0_start 69 = .ok (.iconst 1, 1) := by decide +kernel
theorem dX0_start_70 : decode cX0_start 70 = .ok (.iadd, 1) := by decide +kernel
theorem dX0_start_71 : decode cX0_start 71 = .ok (.putfield 67, 3) := by decide +kernel
theorem dX0_start_74 : decode cX0_start 74 = .ok (.iload 4, 2) := by decide +kernel
theorem dX0_start_76 : decode cX0_start 76 = .ok (.ireturn, 1) := by decide +kernel
theorem dX0_startAlone_0 : decode cX0_startAlone 0 = .ok (.aload_n 0, 1) := by decide +kernel
theorem dX0_startAlone_1 : decode cX0_startAlone 1 = .ok (.iconst 0, 1) := by decide +kernel
theorem dX0_startAlone_2 : decode cX0_startAlone 2 = .ok (.putfield 64, 3) := by decide +kernel
theorem dX0_startAlone_5 : decode cX0_startAlone 5 = .ok (.aload_n 0, 1) := by decide +kernel
theorem dX0_startAlone_6 : decode cX0_startAlone 6 = .ok (.iconst 0, 1) := by decide +kernel
theorem dX0_startAlone_7 : decode cX0_startAlone 7 = .ok (.putfield 67, 3) := by decide +kernel
theorem dX0_startAlone_10 : decode cX0_startAlone 10 = .ok (.aload_n 0, 1) := by decide +kernel
theorem dX0_startAlone_11 : decode cX0_startAlone 11 = .ok (.getfield 18, 3) := by decide +kernel
theorem dX0_startAlone_14 : decode cX0_startAlone 14 = .ok (.iconst (-1), 1) := by decide +kernel
theorem dX0_startAlone_15 : decode cX0_startAlone 15 = .ok (.invokestatic 51, 3) := by decide +kernel
theorem dX0_startAlone_18 : decode cX0_startAlone 18 = .ok (.aload_n 0, 1) := by decide +kernel
theorem dX0_startAlone_19 : decode cX0_startAlone 19 = .ok (.iload_n 1, 1) := by decide +kernel
theorem dX0_startAlone_20 : decode cX0_startAlone 20 = .ok (.iload_n 2, 1) := by decide +kernel
theorem dX0_startAlone_21 : decode cX0_startAlone 21 = .ok (.iload_n 3, 1) := by decide +kernel
theorem dX0_startAlone_22 : decode cX0_startAlone 22 = .ok (.invokevirtual 82, 3) := by decide +kernel
theorem dX0_startAlone_25 : decode cX0_startAlone 25 = .ok (.pop, 1) := by decide +kernel
theorem dX0_startAlone_26 : decode cX0_startAlone 26 = .ok (.return_, 1) := by decide +kernel
theorem dX0_loudAt_0 : decode cX0_loudAt 0 = .ok (.aload_n 0, 1) := by decide +kernel
theorem dX0_loudAt_1 : decode cX0_loudAt 1 = .ok (.getfield 18, 3) := by decide +kernel
theorem dX0_loudAt_4 : decode cX0_loudAt 4 = .ok (.iload_n 1, 1) := by decide +kernel
theorem dX0_loudAt_5 : decode cX0_loudAt 5 = .ok (.iaload, 1) := by decide +kernel
theorem dX0_loudAt_6 : decode cX0_loudAt 6 = .ok (.istore_n 2, 1) := by decide +kernel
theorem dX0_loudAt_7 : decode cX0_loudAt 7 = .ok (.iload_n 2, 1) := by decide +kernel
theorem dX0_loudAt_8 : decode cX0_loudAt 8 = .ok (.iconst (-1), 1) := by decide +kernel
theorem dX0_loudAt_9 : decode cX0_loudAt 9 = .ok (.if_icmp .ne 7, 3) := by decide +kernel
theorem dX0_loudAt_12 : decode cX0_loudAt 12 = .ok (.iconst 0, 1) := by decide +kernel
theorem dX0_loudAt_13 : decode cX0_loudAt 13 = .ok (.goto 9, 3) := by decide +kernel
theorem dX0_loudAt_16 : decode cX0_loudAt 16 = .ok (.aload_n 0, 1) := by decide +kernel
theorem dX0_loudAt_17 : decode cX0_loudAt 17 = .ok (.getfield 39, 3) := by decide +kernel
theorem dX0_loudAt_20 : decode cX0_loudAt 20 = .ok (.iload_n 2, 1) := by decide +kernel
theorem dX0_loudAt_21 : decode cX0_loudAt 21 = .ok (.iaload, 1) := by decide +kernel
theorem dX0_loudAt_22 : decode cX0_loudAt 22 = .ok (.ireturn, 1) := by decide +kernel
theorem dX0_goOn_0 : decode cX0_goOn 0 = .ok (.aload_n 0, 1) := by decide +kernel
theorem dX0_goOn_1 : decode cX0_goOn 1 = .ok (.getfield 33, 3) := by decide +kernel
theorem dX0_goOn_4 : decode cX0_goOn 4 = .ok (.iconst 0, 1) := by decide +kernel
theorem dX0_goOn_5 : decode cX0_goOn 5 = .ok (.iaload, 1) := by decide +kernel
theorem dX0_goOn_6 : decode cX0_goOn 6 = .ok (.istore_n 1, 1) := by decide +kernel
theorem dX0_goOn_7 : decode cX0_goOn 7 = .ok (.aload_n 0, 1) := by decide +kernel
theorem dX0_goOn_8 : decode cX0_goOn 8 = .ok (.getfield 33, 3) := by decide +kernel
theorem dX0_goOn_11 : decode cX0_goOn 11 = .ok (.iconst 1, 1) := by decide +kernel
theorem dX0_goOn_12 : decode cX0_goOn 12 = .ok (.iaload, 1) := by decide +kernel
theorem dX0_goOn_13 : decode cX0_goOn 13 = .ok (.istore_n 2, 1) := by decide +kernel
theorem dX0_goOn_14 : decode cX0_goOn 14 = .ok (.iconst 0, 1) := by decide +kernel
theorem dX0_goOn_15 : decode cX0_goOn 15 = .ok (.istore_n 3, 1) := by decide +kernel
theorem dX0_goOn_16 : decode cX0_goOn 16 = .ok (.iload_n 3, 1) := by decide +kernel
theorem dX0_goOn_17 : decode cX0_goOn 17 = .ok (.aload_n 0, 1) := by decide +kernel
theorem dX0_goOn_18 : decode cX0_goOn 18 = .ok (.getfield 64, 3) := by decide +kernel
theorem dX0_goOn_21 : decode cX0_goOn 21 = .ok (.if_icmp .ge 23, 3) := by decide +kernel
theorem dX0_goOn_24 : decode cX0_goOn 24 = .ok (.aload_n 0, 1) := by decide +kernel
theorem dX0_goOn_25 : decode cX0_goOn 25 = .ok (.getfield 39, 3) := by decide +kernel
theorem dX0_goOn_28 : decode cX0_goOn 28 = .ok (.iload_n 3, 1) := by decide +kernel
theorem dX0_goOn_29 : decode cX0_goOn 29 = .ok (.iaload, 1) := by decide +kernel
theorem dX0_goOn_30 : decode cX0_goOn 30 = .ok (.ifCond .le 8, 3) := by decide +kernel
theorem dX0_goOn_33 : decode cX0_goOn 33 = .ok (.aload_n 0, 1) := by decide +kernel
theorem dX0_goOn_34 : decode cX0_goOn 34 = .ok (.iload_n 3, 1) := by decide +kernel
theorem dX0_goOn_35 : decode cX0_goOn 35 = .ok (.invokevirtual 86, 3) := by decide +kernel
theorem dX0_goOn_38 : decode cX0_goOn 38 = .ok (.iinc 3 1, 3) := by decide +kernel
theorem dX0_goOn_41 : decode cX0_goOn 41 = .ok (.goto (-25), 3) := by decide +kernel
theorem dX0_goOn_44 : decode cX0_goOn 44 = .ok (.aload_n 0, 1) := by decide +kernel
theorem dX0_goOn_45 : decode cX0_goOn 45 = .ok (.invokevirtual 90, 3) := by decide +kernel
theorem dX0_goOn_48 : decode cX0_goOn 48 = .ok (.aload_n 0, 1) := by decide +kernel
theorem dX0_goOn_49 : decode cX0_goOn 49 = .ok (.iconst 0, 1) := by decide +kernel
theorem dX0_goOn_50 : decode cX0_goOn 50 = .ok (.aload_n 0, 1) := by decide +kernel
theorem dX0_goOn_51 : decode cX0_goOn 51 = .ok (.getfield 33, 3) := by decide +kernel
theorem dX0_goOn_54 : decode cX0_goOn 54 = .ok (.iconst 0, 1) := by decide +kernel
theorem dX0_goOn_55 : decode cX0_goOn 55 = .ok (.iaload, 1) := by decide +kernel
theorem dX0_goOn_56 : decode cX0_goOn 56 = .ok (.iload_n 1, 1) := by decide +kernel
theorem dX0_goOn_57 : decode cX0_goOn 57 = .ok (.if_icmp .le 7, 3) := by decide +kernel
theorem dX0_goOn_60 : decode cX0_goOn 60 = .ok (.iconst 1, 1) := by decide +kernel
theorem dX0_goOn_61 : decode cX0_goOn 61 = .ok (.goto 4, 3) := by decide +kernel
theorem dX0_goOn_64 : decode cX0_goOn 64 = .ok (.iconst 0, 1) := by decide +kernel
theorem dX0_goOn_65 : decode cX0_goOn 65 = .ok (.invokevirtual 93, 3) := by decide +kernel
theorem dX0_goOn_68 : decode cX0_goOn 68 = .ok (.aload_n 0, 1) := by decide +kernel
theorem dX0_goOn_69 : decode cX0_goOn 69 = .ok (.iconst 1, 1) := by decide +kernel
theorem dX0_goOn_70 : decode cX0_goOn 70 = .ok (.aload_n 0, 1) := by decide +kernel
theorem dX0_goOn_71 : decode cX0_goOn 71 = .ok (.getfield 33, 3) := by decide +kernel
theorem dX0_goOn_74 : decode cX0_goOn 74 = .ok (.iconst 1, 1) := by decide +kernel
theorem dX0_goOn_75 : decode cX0_goOn 75 = .ok (.iaload, 1) := by decide +kernel
theorem dX0_goOn_76 : decode cX0_goOn 76 = .ok (.iload_n 2, 1) := by decide +kernel
theorem dX0_goOn_77 : decode cX0_goOn 77 = .ok (.if_icmp .le 7, 3) := by decide +kernel
theorem dX0_goOn_80 : decode cX0_goOn 80 = .ok (.iconst 1, 1) := by decide +kernel
theorem dX0_goOn_81 : decode cX0_goOn 81 = .ok (.goto 4, 3) := by decide +kernel
theorem dX0_goOn_84 : decode cX0_goOn 84 = .ok (.iconst 0, 1) := by decide +kernel
theorem dX0_goOn_85 : decode cX0_goOn 85 = .ok (.invokevirtual 93, 3) := by decide +kernel
theorem dX0_goOn_88 : decode cX0_goOn 88 = .ok (.aload_n 0, 1) := by decide +kernel
theorem dX0_goOn_89 : decode cX0_goOn 89 = .ok (.dup, 1) := by decide +kernel
theorem dX0_goOn_90 : decode cX0_goOn 90 = .ok (.getfield 57, 3) := by decide +kernel
theorem dX0_goOn_93 : decode cX0_goOn 93 = .ok (.iconst 1, 1) := by decide +kernel
theorem dX0_goOn_94 : decode cX0_goOn 94 = .ok (.iadd, 1) := by decide +kernel
theorem dX0_goOn_95 : decode cX0_goOn 95 = .ok (.putfield 57, 3) := by decide +kernel
theorem dX0_goOn_98 : decode cX0_goOn 98 = .ok (.return_, 1) := by decide +kernel
theorem dX0_move_0 : decode cX0_move 0 = .ok (.aload_n 0, 1) := by decide +kernel
theorem dX0_move_1 : decode cX0_move 1 = .ok (.getfield 42, 3) := by decide +kernel
theorem dX0_move_4 : decode cX0_move 4 = .ok (.iload_n 1, 1) := by decide +kernel
theorem dX0_move_5 : decode cX0_move 5 = .ok (.iaload, 1) := by decide +kernel
theorem dX0_move_6 : decode cX0_move 6 = .ok (.aload_n 0, 1) := by decide +kernel
theorem dX0_move_7 : decode cX0_move 7 = .ok (.getfield 45, 3) := by decide +kernel
theorem dX0_move_10 : decode cX0_move 10 = .ok (.iload_n 1, 1) := by decide +kernel
theorem dX0_move_11 : decode cX0_move 11 = .ok (.iaload, 1) := by decide +kernel
theorem dX0_move_12 : decode cX0_move 12 = .ok (.iadd, 1) := by decide +kernel
theorem dX0_move_13 : decode cX0_move 13 = .ok (.istore_n 2, 1) := by decide +kernel
theorem dX0_move_14 : decode cX0_move 14 = .ok (.iload_n 2, 1) := by decide +kernel
theorem dX0_move_15 : decode cX0_move 15 = .ok (.invokestatic 97, 3) := by decide +kernel
theorem dX0_move_18 : decode cX0_move 18 = .ok (.ifCond .ne 9, 3) := by decide +kernel
theorem dX0_move_21 : decode cX0_move 21 = .ok (.aload_n 0, 1) := by decide +kernel
theorem dX0_move_22 : decode cX0_move 22 = .ok (.iload_n 1, 1) := by decide +kernel
theorem dX0_move_23 : decode cX0_move 23 = .ok (.invokevirtual 101, 3) := by decide +kernel
theorem dX0_move_26 : decode cX0_move 26 = .ok (.return_, 1) := by decide +kernel
theorem dX0_move_27 : decode cX0_move 27 = .ok (.aload_n 0, 1) := by decide +kernel
theorem dX0_move_28 : decode cX0_move 28 = .ok (.getfield 42, 3) := by decide +kernel
theorem dX0_move_31 : decode cX0_move 31 = .ok (.iload_n 1, 1) := by decide +kernel
theorem dX0_move_32 : decode cX0_move 32 = .ok (.iload_n 2, 1) := by decide +kernel
theorem dX0_move_33 : decode cX0_move 33 = .ok (.iastore, 1) := by decide +kernel
theorem dX0_move_34 : decode cX0_move 34 = .ok (.aload_n 0, 1) := by decide +kernel
theorem dX0_move_35 : decode cX0_move 35 = .ok (.getfield 39, 3) := by decide +kernel
theorem dX0_move_38 : decode cX0_move 38 = .ok (.iload_n 1, 1) := by decide +kernel
theorem dX0_move_39 : decode cX0_move 39 = .ok (.dup2, 1) := by decide +kernel
theorem dX0_move_40 : decode cX0_move 40 = .ok (.iaload, 1) := by decide +kernel
theorem dX0_move_41 : decode cX0_move 41 = .ok (.iconst 1, 1) := by decide +kernel
theorem dX0_move_42 : decode cX0_move 42 = .ok (.aload_n 0, 1) := by decide +kernel
theorem dX0_move_43 : decode cX0_move 43 = .ok (.getfield 9, 3) := by decide +kernel
theorem dX0_move_46 : decode cX0_move 46 = .ok (.iload_n 2, 1) := by decide +kernel
theorem dX0_move_47 : decode cX0_move 47 = .ok (.iaload, 1) := by decide +kernel
theorem dX0_move_48 : decode cX0_move 48 = .ok (.iadd, 1) := by decide +kernel
theorem dX0_move_49 : decode cX0_move 49 = .ok (.isub, 1) := by decide +kernel
theorem dX0_move_50 : decode cX0_move 50 = .ok (.iastore, 1) := by decide +kernel
theorem dX0_move_51 : decode cX0_move 51 = .ok (.aload_n 0, 1) := by decide +kernel
theorem dX0_move_52 : decode cX0_move 52 = .ok (.getfield 15, 3) := by decide +kernel
theorem dX0_move_55 : decode cX0_move 55 = .ok (.iload_n 2, 1) := by decide +kernel
theorem dX0_move_56 : decode cX0_move 56 = .ok (.iaload, 1) := by decide +kernel
theorem dX0_move_57 : decode cX0_move 57 = .ok (.istore_n 3, 1) := by decide +kernel
theorem dX0_move_58 : decode cX0_move 58 = .ok (.aload_n 0, 1) := by decide +kernel
theorem dX0_move_59 : decode cX0_move 59 = .ok (.getfield 39, 3) := by decide +kernel
theorem dX0_move_62 : decode cX0_move 62 = .ok (.iload_n 1, 1) := by decide +kernel
theorem dX0_move_63 : decode cX0_move 63 = .ok (.iaload, 1) := by decide +kernel
theorem dX0_move_64 : decode cX0_move 64 = .ok (.ifCond .le 14, 3) := by decide +kernel
theorem dX0_move_67 : decode cX0_move 67 = .ok (.iload_n 3, 1) := by decide +kernel
theorem dX0_move_68 : decode cX0_move 68 = .ok (.iconst (-1), 1) := by decide +kernel
theorem dX0_move_69 : decode cX0_move 69 = .ok (.if_icmp .eq 9, 3) := by decide +kernel
theorem dX0_move_72 : decode cX0_move 72 = .ok (.aload_n 0, 1) := by decide +kernel
theorem dX0_move_73 : decode cX0_move 73 = .ok (.iload_n 3, 1) := by decide +kernel
theorem dX0_move_74 : decode cX0_move 74 = .ok (.iload_n 1, 1) := by decide +kernel
theorem dX0_move_75 : decode cX0_move 75 = .ok (.invokevirtual 104, 3) := by decide +kernel
theorem dX0_move_78 : decode cX0_move 78 = .ok (.aload_n 0, 1) := by decide +kernel
theorem dX0_move_79 : decode cX0_move 79 = .ok (.getfield 39, 3) := by decide +kernel
theorem dX0_move_82 : decode cX0_move 82 = .ok (.iload_n 1, 1) := by decide +kernel
theorem dX0_move_83 : decode cX0_move 83 = .ok (.iaload, 1) := by decide +kernel
theorem dX0_move_84 : decode cX0_move 84 = .ok (.ifCond .gt 8, 3) := by decide +kernel
theorem dX0_move_87 : decode cX0_move 87 = .ok (.aload_n 0, 1) := by decide +kernel
theorem dX0_move_88 : decode cX0_move 88 = .ok (.iload_n 1, 1) := by decide +kernel
theorem dX0_move_89 : decode cX0_move 89 = .ok (.invokevirtual 101, 3) := by decide +kernel
theorem dX0_move_92 : decode cX0_move 92 = .ok (.return_, 1) := by decide +kernel
theorem dX0_turnAt_0 : decode cX0_turnAt 0 = .ok (.aload_n 0, 1) := by decide +kernel
theorem dX0_turnAt_1 : decode cX0_turnAt 1 = .ok (.getfield 33, 3) := by decide +kernel
theorem dX0_turnAt_4 : decode cX0_turnAt 4 = .ok (.aload_n 0, 1) := by decide +kernel
theorem dX0_turnAt_5 : decode cX0_turnAt 5 = .ok (.getfield 24, 3) := by decide +kernel
theorem dX0_turnAt_8 : decode cX0_turnAt 8 = .ok (.iload_n 1, 1) := by decide +kernel
theorem dX0_turnAt_9 : decode cX0_turnAt 9 = .ok (.iaload, 1) := by decide +kernel
theorem dX0_turnAt_10 : decode cX0_turnAt 10 = .ok (.dup2, 1) := by decide +kernel
theorem dX0_turnAt_11 : decode cX0_turnAt 11 = .ok (.iaload, 1) := by decide +kernel
theorem dX0_turnAt_12 : decode cX0_turnAt 12 = .ok (.iconst 1, 1) := by decide +kernel
theorem dX0_turnAt_13 : decode cX0_turnAt 13 = .ok (.iadd, 1) := by decide +kernel
theorem dX0_turnAt_14 : decode cX0_turnAt 14 = .ok (.iastore, 1) := by decide +kernel
theorem dX0_turnAt_15 : decode cX0_turnAt 15 = .ok (.aload_n 0, 1) := by decide +kernel
theorem dX0_turnAt_16 : decode cX0_turnAt 16 = .ok (.getfield 30, 3) := by decide +kernel
theorem dX0_turnAt_19 : decode cX0_turnAt 19 = .ok (.iload_n 1, 1) := by decide +kernel
theorem dX0_turnAt_20 : decode cX0_turnAt 20 = .ok (.dup2, 1) := by decide +kernel
theorem dX0_turnAt_21 : decode cX0_turnAt 21 = .ok (.iaload, 1) := by decide +kernel
theorem dX0_turnAt_22 : decode cX0_turnAt 22 = .ok (.iconst 1, 1) := by decide +kernel
theorem dX0_turnAt_23 : decode cX0_turnAt 23 = .ok (.iadd, 1) := by decide +kernel
theorem dX0_turnAt_24 : decode cX0_turnAt 24 = .ok (.iastore, 1) := by decide +kernel
theorem dX0_turnAt_25 : decode cX0_turnAt 25 = .ok (.aload_n 0, 1) := by decide +kernel
theorem dX0_turnAt_26 : decode cX0_turnAt 26 = .ok (.getfield 48, 3) := by decide +kernel
theorem dX0_turnAt_29 : decode cX0_turnAt 29 = .ok (.iload_n 2, 1) := by decide +kernel
theorem dX0_turnAt_30 : decode cX0_turnAt 30 = .ok (.dup2, 1) := by decide +kernel
theorem dX0_turnAt_31 : decode cX0_turnAt 31 = .ok (.iaload, 1) := by decide +kernel
theorem dX0_turnAt_32 : decode cX0_turnAt 32 = .ok (.iconst 1, 1) := by decide +kernel
theorem dX0_turnAt_33 : decode cX0_turnAt 33 = .ok (.iadd, 1) := by decide +kernel
theorem dX0_turnAt_34 : decode cX0_turnAt 34 = .ok (.iastore, 1) := by decide +kernel
theorem dX0_turnAt_35 : decode cX0_turnAt 35 = .ok (.aload_n 0, 1) := by decide +kernel
theorem dX0_turnAt_36 : decode cX0_turnAt 36 = .ok (.getfield 39, 3) := by decide +kernel
theorem dX0_turnAt_39 : decode cX0_turnAt 39 = .ok (.iload_n 2, 1) := by decide +kernel
theorem dX0_turnAt_40 : decode cX0_turnAt 40 = .ok (.dup2, 1) := by decide +kernel
theorem dX0_turnAt_41 : decode cX0_turnAt 41 = .ok (.iaload, 1) := by decide +kernel
theorem dX0_turnAt_42 : decode cX0_turnAt 42 = .ok (.aload_n 0, 1) := by decide +kernel
theorem dX0_turnAt_43 : decode cX0_turnAt 43 = .ok (.getfield 27, 3) := by decide +kernel
theorem dX0_turnAt_46 : decode cX0_turnAt 46 = .ok (.iload_n 1, 1) := by decide +kernel
theorem dX0_turnAt_47 : decode cX0_turnAt 47 = .ok (.iaload, 1) := by decide +kernel
theorem dX0_turnAt_48 : decode cX0_turnAt 48 = .ok (.isub, 1) := by decide +kernel
theorem dX0_turnAt_49 : decode cX0_turnAt 49 = .ok (.iastore, 1) := by decide +kernel
theorem dX0_turnAt_50 : decode cX0_turnAt 50 = .ok (.aload_n 0, 1) := by decide +kernel
theorem dX0_turnAt_51 : decode cX0_turnAt 51 = .ok (.getfield 45, 3) := by decide +kernel
theorem dX0_turnAt_54 : decode cX0_turnAt 54 = .ok (.iload_n 2, 1) := by decide +kernel
theorem dX0_turnAt_55 : decode cX0_turnAt 55 = .ok (.aload_n 0, 1) := by decide +kernel
theorem dX0_turnAt_56 : decode cX0_turnAt 56 = .ok (.getfield 45, 3) := by decide +kernel
theorem dX0_turnAt_59 : decode cX0_turnAt 59 = .ok (.iload_n 2, 1) := by decide +kernel
theorem dX0_turnAt_60 : decode cX0_turnAt 60 = .ok (.iaload, 1) := by decide +kernel
theorem dX0_turnAt_61 : decode cX0_turnAt 61 = .ok (.ineg, 1) := by decide +kernel
theorem dX0_turnAt_62 : decode cX0_turnAt 62 = .ok (.iastore, 1) := by decide +kernel
theorem dX0_turnAt_63 : decode cX0_turnAt 63 = .ok (.return_, 1) := by decide +kernel
theorem dX0_hush_0 : decode cX0_hush 0 = .ok (.aload_n 0, 1) := by decide +kernel
theorem dX0_hush_1 : decode cX0_hush 1 = .ok (.getfield 39, 3) := by decide +kernel
theorem dX0_hush_4 : decode cX0_hush 4 = .ok (.iload_n 1, 1) := by decide +kernel
theorem dX0_hush_5 : decode cX0_hush 5 = .ok (.iconst 0, 1) := by decide +kernel
theorem dX0_hush_6 : decode cX0_hush 6 = .ok (.iastore, 1) := by decide +kernel
theorem dX0_hush_7 : decode cX0_hush 7 = .ok (.aload_n 0, 1) := by decide +kernel
theorem dX0_hush_8 : decode cX0_hush 8 = .ok (.getfield 42, 3) := by decide +kernel
theorem dX0_hush_11 : decode cX0_hush 11 = .ok (.iload_n 1, 1) := by decide +kernel
theorem dX0_hush_12 : decode cX0_hush 12 = .ok (.iconst (-1), 1) := by decide +kernel
theorem dX0_hush_13 : decode cX0_hush 13 = .ok (.iastore, 1) := by decide +kernel
theorem dX0_hush_14 : decode cX0_hush 14 = .ok (.aload_n 0, 1) := by decide +kernel
theorem dX0_hush_15 : decode cX0_hush 15 = .ok (.getfield 45, 3) := by decide +kernel
theorem dX0_hush_18 : decode cX0_hush 18 = .ok (.iload_n 1, 1) := by decide +kernel
theorem dX0_hush_19 : decode cX0_hush 19 = .ok (.iconst 0, 1) := by decide +kernel
theorem dX0_hush_20 : decode cX0_hush 20 = .ok (.iastore, 1) := by decide +kernel
theorem dX0_hush_21 : decode cX0_hush 21 = .ok (.aload_n 0, 1) := by decide +kernel
theorem dX0_hush_22 : decode cX0_hush 22 = .ok (.dup, 1) := by decide +kernel
theorem dX0_hush_23 : decode cX0_hush 23 = .ok (.getfield 67, 3) := by decide +kernel
theorem dX0_hush_26 : decode cX0_hush 26 = .ok (.iconst 1, 1) := by decide +kernel
theorem dX0_hush_27 : decode cX0_hush 27 = .ok (.isub, 1) := by decide +kernel
theorem dX0_hush_28 : decode cX0_hush 28 = .ok (.putfield 67, 3) := by decide +kernel
theorem dX0_hush_31 : decode cX0_hush 31 = .ok (.return_, 1) := by decide +kernel
theorem dX0_meet_0 : decode cX0_meet 0 = .ok (.aload_n 0, 1) := by decide +kernel
theorem dX0_meet_1 : decode cX0_meet 1 = .ok (.getfield 18, 3) := by decide +kernel
theorem dX0_meet_4 : decode cX0_meet 4 = .ok (.iconst (-1), 1) := by decide +kernel
theorem dX0_meet_5 : decode cX0_meet 5 = .ok (.invokestatic 51, 3) := by decide +kernel
theorem dX0_meet_8 : decode cX0_meet 8 = .ok (.iconst 0, 1) := by decide +kernel
theorem dX0_meet_9 : decode cX0_meet 9 = .ok (.istore_n 1, 1) := by decide +kernel
theorem dX0_meet_10 : decode cX0_meet 10 = .ok (.iload_n 1, 1) := by decide +kernel
theorem dX0_meet_11 : decode cX0_meet 11 = .ok (.aload_n 0, 1) := by decide +kernel
theorem dX0_meet_12 : decode cX0_meet 12 = .ok (.getfield 64, 3) := by decide +kernel
theorem dX0_meet_15 : decode cX0_meet 15 = .ok (.if_icmp .ge 23, 3) := by decide +kernel
theorem dX0_meet_18 : decode cX0_meet 18 = .ok (.aload_n 0, 1) := by decide +kernel
theorem dX0_meet_19 : decode cX0_meet 19 = .ok (.getfield 39, 3) := by decide +kernel
theorem dX0_meet_22 : decode cX0_meet 22 = .ok (.iload_n 1, 1) := by decide +kernel
theorem dX0_meet_23 : decode cX0_meet 23 = .ok (.iaload, 1) := by decide +kernel
theorem dX0_meet_24 : decode cX0_meet 24 = .ok (.ifCond .le 8, 3) := by decide +kernel
theorem dX0_meet_27 : decode cX0_meet 27 = .ok (.aload_n 0, 1) := by decide +kernel
theorem dX0_meet_28 : decode cX0_meet 28 = .ok (.iload_n 1, 1) := by decide +kernel
theorem dX0_meet_29 : decode cX0_meet 29 = .ok (.invokevirtual 108, 3) := by decide +kernel
theorem dX0_meet_32 : decode cX0_meet 32 = .ok (.iinc 1 1, 3) := by decide +kernel
theorem dX0_meet_35 : decode cX0_meet 35 = .ok (.goto (-25), 3) := by decide +kernel
theorem dX0_meet_38 : decode cX0_meet 38 = .ok (.return_, 1) := by decide +kernel
theorem dX0_settle_0 : decode cX0_settle 0 = .ok (.aload_n 0, 1) := by decide +kernel
theorem dX0_settle_1 : decode cX0_settle 1 = .ok (.getfield 42, 3) := by decide +kernel
theorem dX0_settle_4 : decode cX0_settle 4 = .ok (.iload_n 1, 1) := by decide +kernel
theorem dX0_settle_5 : decode cX0_settle 5 = .ok (.iaload, 1) := by decide +kernel
theorem dX0_settle_6 : decode cX0_settle 6 = .ok (.istore_n 2, 1) := by decide +kernel
theorem dX0_settle_7 : decode cX0_settle 7 = .ok (.aload_n 0, 1) := by decide +kernel
theorem dX0_settle_8 : decode cX0_settle 8 = .ok (.getfield 18, 3) := by decide +kernel
theorem dX0_settle_11 : decode cX0_settle 11 = .ok (.iload_n 2, 1) := by decide +kernel
theorem dX0_settle_12 : decode cX0_settle 12 = .ok (.iaload, 1) := by decide +kernel
theorem dX0_settle_13 : decode cX0_settle 13 = .ok (.istore_n 3, 1) := by decide +kernel
theorem dX0_settle_14 : decode cX0_settle 14 = .ok (.iload_n 3, 1) := by decide +kernel
theorem dX0_settle_15 : decode cX0_settle 15 = .ok (.iconst (-1), 1) := by decide +kernel
theorem dX0_settle_16 : decode cX0_settle 16 = .ok (.if_icmp .ne 11, 3) := by decide +kernel
theorem dX0_settle_19 : decode cX0_settle 19 = .ok (.aload_n 0, 1) := by decide +kernel
theorem dX0_settle_20 : decode cX0_settle 20 = .ok (.getfield 18, 3) := by decide +kernel
theorem dX0_settle_23 : decode cX0_settle 23 = .ok (.iload_n 2, 1) := by decide +kernel
theorem dX0_settle_24 : decode cX0_settle 24 = .ok (.iload_n 1, 1) := by decide +kernel
theorem dX0_settle_25 : decode cX0_settle 25 = .ok (.iastore, 1) := by decide +kernel
theorem dX0_settle_26 : decode cX0_settle 26 = .ok (.return_, 1) := by decide +kernel
theorem dX0_settle_27 : decode cX0_settle 27 = .ok (.aload_n 0, 1) := by decide +kernel
theorem dX0_settle_28 : decode cX0_settle 28 = .ok (.dup, 1) := by decide +kernel
theorem dX0_settle_29 : decode cX0_settle 29 = .ok (.getfield 70, 3) := by decide +kernel
theorem dX0_settle_32 : decode cX0_settle 32 = .ok (.iconst 1, 1) := by decide +kernel
theorem dX0_settle_33 : decode cX0_settle 33 = .ok (.iadd, 1) := by decide +kernel
theorem dX0_settle_34 : decode cX0_settle 34 = .ok (.putfield 70, 3) := by decide +kernel
theorem dX0_settle_37 : decode cX0_settle 37 = .ok (.aload_n 0, 1) := by decide +kernel
theorem dX0_settle_38 : decode cX0_settle 38 = .ok (.getfield 39, 3) := by decide +kernel
theorem dX0_settle_41 : decode cX0_settle 41 = .ok (.iload_n 1, 1) := by decide +kernel
theorem dX0_settle_42 : decode cX0_settle 42 = .ok (.iaload, 1) := by decide +kernel
theorem dX0_settle_43 : decode cX0_settle 43 = .ok (.aload_n 0, 1) := by decide +kernel
theorem dX0_settle_44 : decode cX0_settle 44 = .ok (.getfield 39, 3) := by decide +kernel
theorem dX0_settle_47 : decode cX0_settle 47 = .ok (.iload_n 3, 1) := by decide +kernel
theorem dX0_settle_48 : decode cX0_settle 48 = .ok (.iaload, 1) := by decide +kernel
theorem dX0_settle_49 : decode cX0_settle 49 = .ok (.if_icmp .le 18, 3) := by decide +kernel
theorem dX0_settle_52 : decode cX0_settle 52 = .ok (.aload_n 0, 1) := by decide +kernel
theorem dX0_settle_53 : decode cX0_settle 53 = .ok (.iload_n 3, 1) := by decide +kernel
theorem dX0_settle_54 : decode cX0_settle 54 = .ok (.invokevirtual 101, 3) := by decide +kernel
theorem dX0_settle_57 : decode cX0_settle 57 = .ok (.aload_n 0, 1) := by decide +kernel
theorem dX0_settle_58 : decode cX0_settle 58 = .ok (.getfield 18, 3) := by decide +kernel
theorem dX0_settle_61 : decode cX0_settle 61 = .ok (.iload_n 2, 1) := by decide +kernel
theorem dX0_settle_62 : decode cX0_settle 62 = .ok (.iload_n 1, 1) := by decide +kernel
theorem dX0_settle_63 : decode cX0_settle 63 = .ok (.iastore, 1) := by decide +kernel
theorem dX0_settle_64 : decode cX0_settle 64 = .ok (.goto 8, 3) := by decide +kernel
theorem dX0_settle_67 : decode cX0_settle 67 = .ok (.aload_n 0, 1) := by decide +kernel
theorem dX0_settle_68 : decode cX0_settle 68 = .ok (.iload_n 1, 1) := by decide +kernel
theorem dX0_settle_69 : decode cX0_settle 69 = .ok (.invokevirtual 101, 3) := by decide +kernel
theorem dX0_settle_72 : decode cX0_settle 72 = .ok (.return_, 1) := by decide +kernel
theorem dX0_listen_0 : decode cX0_listen 0 = .ok (.aload_n 0, 1) := by decide +kernel
theorem dX0_listen_1 : decode cX0_listen 1 = .ok (.getfield 36, 3) := by decide +kernel
theorem dX0_listen_4 : decode cX0_listen 4 = .ok (.iload_n 1, 1) := by decide +kernel
theorem dX0_listen_5 : decode cX0_listen 5 = .ok (.iload_n 2, 1) := by decide +kernel
theorem dX0_listen_6 : decode cX0_listen 6 = .ok (.ifCond .eq 7, 3) := by decide +kernel
theorem dX0_listen_9 : decode cX0_listen 9 = .ok (.iconst 0, 1) := by decide +kernel
theorem dX0_listen_10 : decode cX0_listen 10 = .ok (.goto 11, 3) := by decide +kernel
theorem dX0_listen_13 : decode cX0_listen 13 = .ok (.aload_n 0, 1) := by decide +kernel
theorem dX0_listen_14 : decode cX0_listen 14 = .ok (.getfield 36, 3) := by decide +kernel
theorem dX0_listen_17 : decode cX0_listen 17 = .ok (.iload_n 1, 1) := by decide +kernel
theorem dX0_listen_18 : decode cX0_listen 18 = .ok (.iaload, 1) := by decide +kernel
theorem dX0_listen_19 : decode cX0_listen 19 = .ok (.iconst 1, 1) := by decide +kernel
theorem dX0_listen_20 : decode cX0_listen 20 = .ok (.iadd, 1) := by decide +kernel
theorem dX0_listen_21 : decode cX0_listen 21 = .ok (.iastore, 1) := by decide +kernel
theorem dX0_listen_22 : decode cX0_listen 22 = .ok (.aload_n 0, 1) := by decide +kernel
theorem dX0_listen_23 : decode cX0_listen 23 = .ok (.getfield 36, 3) := by decide +kernel
theorem dX0_listen_26 : decode cX0_listen 26 = .ok (.iload_n 1, 1) := by decide +kernel
theorem dX0_listen_27 : decode cX0_listen 27 = .ok (.iaload, 1) := by decide +kernel
theorem dX0_listen_28 : decode cX0_listen 28 = .ok (.bipush 12, 2) := by decide +kernel
theorem dX0_listen_30 : decode cX0_listen 30 = .ok (.if_icmp .ne 15, 3) := by decide +kernel
theorem dX0_listen_33 : decode cX0_listen 33 = .ok (.aload_n 0, 1) := by decide +kernel
theorem dX0_listen_34 : decode cX0_listen 34 = .ok (.getfield 36, 3) := by decide +kernel
theorem dX0_listen_37 : decode cX0_listen 37 = .ok (.iload_n 1, 1) := by decide +kernel
theorem dX0_listen_38 : decode cX0_listen 38 = .ok (.iconst 0, 1) := by decide +kernel
theorem dX0_listen_39 : decode cX0_listen 39 = .ok (.iastore, 1) := by decide +kernel
theorem dX0_listen_40 : decode cX0_listen 40 = .ok (.aload_n 0, 1) := by decide +kernel
theorem dX0_listen_41 : decode cX0_listen 41 = .ok (.iload_n 1, 1) := by decide +kernel
theorem dX0_listen_42 : decode cX0_listen 42 = .ok (.invokevirtual 111, 3) := by decide +kernel
theorem dX0_listen_45 : decode cX0_listen 45 = .ok (.return_, 1) := by decide +kernel
theorem dX0_loseWall_0 : decode cX0_loseWall 0 = .ok (.iconst 0, 1) := by decide +kernel
theorem dX0_loseWall_1 : decode cX0_loseWall 1 = .ok (.istore_n 2, 1) := by decide +kernel
theorem dX0_loseWall_2 : decode cX0_loseWall 2 = .ok (.iload_n 2, 1) := by decide +kernel
theorem dX0_loseWall_3 : decode cX0_loseWall 3 = .ok (.aload_n 0, 1) := by decide +kernel
theorem dX0_loseWall_4 : decode cX0_loseWall 4 = .ok (.getfield 61, 3) := by decide +kernel
theorem dX0_loseWall_7 : decode cX0_loseWall 7 = .ok (.if_icmp .ge 40, 3) := by decide +kernel
theorem dX0_loseWall_10 : decode cX0_loseWall 10 = .ok (.aload_n 0, 1) := by decide +kernel
theorem dX0_loseWall_11 : decode cX0_loseWall 11 = .ok (.getfield 24, 3) := by decide +kernel
theorem dX0_loseWall_14 : decode cX0_loseWall 14 = .ok (.iload_n 2, 1) := by decide +kernel
theorem dX0_loseWall_15 : decode cX0_loseWall 15 = .ok (.iaload, 1) := by decide +kernel
theorem dX0_loseWall_16 : decode cX0_loseWall 16 = .ok (.iload_n 1, 1) := by decide +kernel
theorem dX0_loseWall_17 : decode cX0_loseWall 17 = .ok (.if_icmp .ne 24, 3) := by decide +kernel
theorem dX0_loseWall_20 : decode cX0_loseWall 20 = .ok (.aload_n 0, 1) := by decide +kernel
theorem dX0_loseWall_21 : decode cX0_loseWall 21 = .ok (.getfield 24, 3) := by decide +kernel
theorem dX0_loseWall_24 : decode cX0_loseWall 24 = .ok (.iload_n 2, 1) := by decide +kernel
theorem dX0_loseWall_25 : decode cX0_loseWall 25 = .ok (.iload_n 1, 1) := by decide +kernel
theorem dX0_loseWall_26 : decode cX0_loseWall 26 = .ok (.invokestatic 114, 3) := by decide +kernel
theorem dX0_loseWall_29 : decode cX0_loseWall 29 = .ok (.iastore, 1) := by decide +kernel
theorem dX0_loseWall_30 : decode cX0_loseWall 30 = .ok (.aload_n 0, 1) := by decide +kernel
theorem dX0_loseWall_31 : decode cX0_loseWall 31 = .ok (.dup, 1) := by decide +kernel
theorem dX0_loseWall_32 : decode cX0_loseWall 32 = .ok (.getfield 73, 3) := by decide +kernel
theorem dX0_loseWall_35 : decode cX0_loseWall 35 = .ok (.iconst 1, 1) := by decide +kernel
theorem dX0_loseWall_36 : decode cX0_loseWall 36 = .ok (.iadd, 1) := by decide +kernel
theorem dX0_loseWall_37 : decode cX0_loseWall 37 = .ok (.putfield 73, 3) := by decide +kernel
theorem dX0_loseWall_40 : decode cX0_loseWall 40 = .ok (.return_, 1) := by decide +kernel
theorem dX0_loseWall_41 : decode cX0_loseWall 41 = .ok (.iinc 2 1, 3) := by decide +kernel
theorem dX0_loseWall_44 : decode cX0_loseWall 44 = .ok (.goto (-42), 3) := by decide +kernel
theorem dX0_loseWall_47 : decode cX0_loseWall 47 = .ok (.return_, 1) := by decide +kernel
theorem dJ9_max_7cf53_0 : decode cJ9_max_7cf53 0 = .ok (.iload_n 0, 1) := by decide +kernel
theorem dJ9_max_7cf53_1 : decode cJ9_max_7cf53 1 = .ok (.iload_n 1, 1) := by decide +kernel
theorem dJ9_max_7cf53_2 : decode cJ9_max_7cf53 2 = .ok (.if_icmp .lt 7, 3) := by decide +kernel
theorem dJ9_max_7cf53_5 : decode cJ9_max_7cf53 5 = .ok (.iload_n 0, 1) := by decide +kernel
theorem dJ9_max_7cf53_6 : decode cJ9_max_7cf53 6 = .ok (.goto 4, 3) := by decide +kernel
theorem dJ9_max_7cf53_9 : decode cJ9_max_7cf53 9 = .ok (.iload_n 1, 1) := by decide +kernel
theorem dJ9_max_7cf53_10 : decode cJ9_max_7cf53 10 = .ok (.ireturn, 1) := by decide +kernel
theorem dJ7_fill_53178_0 : decode cJ7_fill_53178 0 = .ok (.iconst 0, 1) := by decide +kernel
theorem dJ7_fill_53178_1 : decode cJ7_fill_53178 1 = .ok (.istore_n 2, 1) := by decide +kernel
theorem dJ7_fill_53178_2 : decode cJ7_fill_53178 2 = .ok (.aload_n 0, 1) := by decide +kernel
theorem dJ7_fill_53178_3 : decode cJ7_fill_53178 3 = .ok (.arraylength, 1) := by decide +kernel
theorem dJ7_fill_53178_4 : decode cJ7_fill_53178 4 = .ok (.istore_n 3, 1) := by decide +kernel
theorem dJ7_fill_53178_5 : decode cJ7_fill_53178 5 = .ok (.iload_n 2, 1) := by decide +kernel
theorem dJ7_fill_53178_6 : decode cJ7_fill_53178 6 = .ok (.iload_n 3, 1) := by decide +kernel
theorem dJ7_fill_53178_7 : decode cJ7_fill_53178 7 = .ok (.if_icmp .ge 13, 3) := by decide +kernel
theorem dJ7_fill_53178_10 : decode cJ7_fill_53178 10 = .ok (.aload_n 0, 1) := by decide +kernel
theorem dJ7_fill_53178_11 : decode cJ7_fill_53178 11 = .ok (.iload_n 2, 1) := by decide +kernel
theorem dJ7_fill_53178_12 : decode cJ7_fill_53178 12 = .ok (.iload_n 1, 1) := by decide +kernel
theorem dJ7_fill_53178_13 : decode cJ7_fill_53178 13 = .ok (.iastore, 1) := by decide +kernel
theorem dJ7_fill_53178_14 : decode cJ7_fill_53178 14 = .ok (.iinc 2 1, 3) := by decide +kernel
theorem dJ7_fill_53178_17 : decode cJ7_fill_53178 17 = .ok (.goto (-12), 3) := by decide +kernel
theorem dJ7_fill_53178_20 : decode cJ7_fill_53178 20 = .ok (.return_, 1) := by decide +kernel
end
section
theorem dX1_init_0 : decode cX1_init 0 = .ok (.aload_n 0, 1) := by decide +kernel
theorem dX1_init_1 : decode cX1_init 1 = .ok (.invokespecial 1, 3) := by decide +kernel
theorem dX1_init_4 : decode cX1_init 4 = .ok (.aload_n 0, 1) := by decide +kernel
theorem dX1_init_5 : decode cX1_init 5 = .ok (.new 7, 3) := by decide +kernel
theorem dX1_init_8 : decode cX1_init 8 = .ok (.dup, 1) := by decide +kernel
theorem dX1_init_9 : decode cX1_init 9 = .ok (.invokespecial 9, 3) := by decide +kernel
theorem dX1_init_12 : decode cX1_init 12 = .ok (.putfield 10, 3) := by decide +kernel
theorem dX1_init_15 : decode cX1_init 15 = .ok (.aload_n 0, 1) := by decide +kernel
theorem dX1_init_16 : decode cX1_init 16 = .ok (.new 7, 3) := by decide +kernel
theorem dX1_init_19 : decode cX1_init 19 = .ok (.dup, 1) := by decide +kernel
theorem dX1_init_20 : decode cX1_init 20 = .ok (.invokespecial 9, 3) := by decide +kernel
theorem dX1_init_23 : decode cX1_init 23 = .ok (.putfield 16, 3) := by decide +kernel
theorem dX1_init_26 : decode cX1_init 26 = .ok (.return_, 1) := by decide +kernel
theorem dX1_addWall_0 : decode cX1_addWall 0 = .ok (.iload_n 1, 1) := by decide +kernel
theorem dX1_addWall_1 : decode cX1_addWall 1 = .ok (.invokestatic 19, 3) := by decide +kernel
theorem dX1_addWall_4 : decode cX1_addWall 4 = .ok (.iload_n 2, 1) := by decide +kernel
theorem dX1_addWall_5 : decode cX1_addWall 5 = .ok (.invokestatic 23, 3) := by decide +kernel
theorem dX1_addWall_8 : decode cX1_addWall 8 = .ok (.iload_n 3, 1) := by decide +kernel
theorem dX1_addWall_9 : decode cX1_addWall 9 = .ok (.ifCond .lt 8, 3) := by decide +kernel
theorem dX1_addWall_12 : decode cX1_addWall 12 = .ok (.iload_n 3, 1) := by decide +kernel
theorem dX1_addWall_13 : decode cX1_addWall 13 = .ok (.iconst 5, 1) := by decide +kernel
theorem dX1_addWall_14 : decode cX1_addWall 14 = .ok (.if_icmp .le 13, 3) := by decide +kernel
theorem dX1_addWall_17 : decode cX1_addWall 17 = .ok (.new 26, 3) := by decide +kernel
theorem dX1_addWall_20 : decode cX1_addWall 20 = .ok (.dup, 1) := by decide +kernel
theorem dX1_addWall_21 : decode cX1_addWall 21 = .ok (.ldc 28, 2) := by decide +kernel
theorem dX1_addWall_23 : decode cX1_addWall 23 = .ok (.invokespecial 30, 3) := by decide +kernel
theorem dX1_addWall_26 : decode cX1_addWall 26 = .ok (.athrow, 1) := by decide +kernel
theorem dX1_addWall_27 : decode cX1_addWall 27 = .ok (.aload_n 0, 1) := by decide +kernel
theorem dX1_addWall_28 : decode cX1_addWall 28 = .ok (.getfield 10, 3) := by decide +kernel
theorem dX1_addWall_31 : decode cX1_addWall 31 = .ok (.getfield 33, 3) := by decide +kernel
theorem dX1_addWall_34 : decode cX1_addWall 34 = .ok (.bipush 10, 2) := by decide +kernel
theorem dX1_addWall_36 : decode cX1_addWall 36 = .ok (.if_icmp .ge 16, 3) := by decide +kernel
theorem dX1_addWall_39 : decode cX1_addWall 39 = .ok (.aload_n 0, 1) := by decide +kernel
theorem dX1_addWall_40 : decode cX1_addWall 40 = .ok (.getfield 10, 3) := by decide +kernel
theorem dX1_addWall_43 : decode cX1_addWall 43 = .ok (.getfield 37, 3) := by decide +kernel
theorem dX1_addWall_46 : decode cX1_addWall 46 = .ok (.iload_n 1, 1) := by decide +kernel
theorem dX1_addWall_47 : decode cX1_addWall 47 = .ok (.iaload, 1) := by decide +kernel
theorem dX1_addWall_48 : decode cX1_addWall 48 = .ok (.iconst (-1), 1) := by decide +kernel
theorem dX1_addWall_49 : decode cX1_addWall 49 = .ok (.if_icmp .eq 13, 3) := by decide +kernel
theorem dX1_addWall_52 : decode cX1_addWall 52 = .ok (.new 41, 3) := by decide +kernel
theorem dX1_addWall_55 : decode cX1_addWall 55 = .ok (.dup, 1) := by decide +kernel
theorem dX1_addWall_56 : decode cX1_addWall 56 = .ok (.ldc 43, 2) := by decide +kernel
theorem dX1_addWall_58 : decode cX1_addWall 58 = .ok (.invokespecial 45, 3) := by decide +kernel
theorem dX1_addWall_61 : decode cX1_addWall 61 = .ok (.athrow, 1) := by decide +kernel
theorem dX1_addWall_62 : decode cX1_addWall 62 = .ok (.aload_n 0, 1) := by decide +kernel
theorem dX1_addWall_63 : decode cX1_addWall 63 = .ok (.getfield 10, 3) := by decide +kernel
theorem dX1_addWall_66 : decode cX1_addWall 66 = .ok (.iload_n 1, 1) := by decide +kernel
theorem dX1_addWall_67 : decode cX1_addWall 67 = .ok (.iload_n 2, 1) := by decide +kernel
theorem dX1_addWall_68 : decode cX1_addWall 68 = .ok (.iload_n 3, 1) := by decide +kernel
theorem dX1_addWall_69 : decode cX1_addWall 69 = .ok (.invokevirtual 46, 3) := by decide +kernel
theorem dX1_addWall_72 : decode cX1_addWall 72 = .ok (.ireturn, 1) := by decide +kernel
theorem dX1_hand_0 : decode cX1_hand 0 = .ok (.aload_n 0, 1) := by decide +kernel
theorem dX1_hand_1 : decode cX1_hand 1 = .ok (.iload_n 1, 1) := by decide +kernel
theorem dX1_hand_2 : decode cX1_hand 2 = .ok (.invokevirtual 50, 3) := by decide +kernel
theorem dX1_hand_5 : decode cX1_hand 5 = .ok (.aload_n 0, 1) := by decide +kernel
theorem dX1_hand_6 : decode cX1_hand 6 = .ok (.getfield 10, 3) := by decide +kernel
theorem dX1_hand_9 : decode cX1_hand 9 = .ok (.getfield 53, 3) := by decide +kernel
theorem dX1_hand_12 : decode cX1_hand 12 = .ok (.iload_n 1, 1) := by decide +kernel
theorem dX1_hand_13 : decode cX1_hand 13 = .ok (.aload_n 0, 1) := by decide +kernel
theorem dX1_hand_14 : decode cX1_hand 14 = .ok (.getfield 10, 3) := by decide +kernel
theorem dX1_hand_17 : decode cX1_hand 17 = .ok (.getfield 53, 3) := by decide +kernel
theorem dX1_hand_20 : decode cX1_hand 20 = .ok (.iload_n 1, 1) := by decide +kernel
theorem dX1_hand_21 : decode cX1_hand 21 = .ok (.iaload, 1) := by decide +kernel
theorem dX1_hand_22 : decode cX1_hand 22 = .ok (.invokestatic 56, 3) := by decide +kernel
theorem dX1_hand_25 : decode cX1_hand 25 = .ok (.iastore, 1) := by decide +kernel
theorem dX1_hand_26 : decode cX1_hand 26 = .ok (.aload_n 0, 1) := by decide +kernel
theorem dX1_hand_27 : decode cX1_hand 27 = .ok (.getfield 10, 3) := by decide +kernel
theorem dX1_hand_30 : decode cX1_hand 30 = .ok (.getfield 53, 3) := by decide +kernel
theorem dX1_hand_33 : decode cX1_hand 33 = .ok (.iload_n 1, 1) := by decide +kernel
theorem dX1_hand_34 : decode cX1_hand 34 = .ok (.iaload, 1) := by decide +kernel
theorem dX1_hand_35 : decode cX1_hand 35 = .ok (.ireturn, 1) := by decide +kernel
theorem dX1_setSnow_0 : decode cX1_setSnow 0 = .ok (.iload_n 1, 1) := by decide +kernel
theorem dX1_setSnow_1 : decode cX1_setSnow 1 = .ok (.invokestatic 19, 3) := by decide +kernel
theorem dX1_setSnow_4 : decode cX1_setSnow 4 = .ok (.iload_n 2, 1) := by decide +kernel
theorem dX1_setSnow_5 : decode cX1_setSnow 5 = .ok (.ifCond .lt 8, 3) := by decide +kernel
theorem dX1_setSnow_8 : decode cX1_setSnow 8 = .ok (.iload_n 2, 1) := by decide +kernel
theorem dX1_setSnow_9 : decode cX1_setSnow 9 = .ok (.iconst 5, 1) := by decide +kernel
theorem dX1_setSnow_10 : decode cX1_setSnow 10 = .ok (.if_icmp .le 13, 3) := by decide +kernel
theorem dX1_setSnow_13 : decode cX1_setSnow 13 = .ok (.new 26, 3) := by decide +kernel
theorem dX1_setSnow_16 : decode cX1_setSnow 16 = .ok (.dup, 1) := by decide +kernel
theorem dX1_setSnow_17 : decode cX1_setSnow 17 = .ok (.ldc 60, 2) := by decide +kernel
theorem dX1_setSnow_19 : decode cX1_setSnow 19 = .ok (.invokespecial 30, 3) := by decide +kernel
theorem dX1_setSnow_22 : decode cX1_setSnow 22 = .ok (.athrow, 1) := by decide +kernel
theorem dX1_setSnow_23 : decode cX1_setSnow 23 = .ok (.aload_n 0, 1) := by decide +kernel
theorem dX1_setSnow_24 : decode cX1_setSnow 24 = .ok (.getfield 10, 3) := by decide +kernel
theorem dX1_setSnow_27 : decode cX1_setSnow 27 = .ok (.getfield 62, 3) := by decide +kernel
theorem dX1_setSnow_30 : decode cX1_setSnow 30 = .ok (.iload_n 1, 1) := by decide +kernel
theorem dX1_setSnow_31 : decode cX1_setSnow 31 = .ok (.iaload, 1) := by decide +kernel
theorem dX1_setSnow_32 : decode cX1_setSnow 32 = .ok (.istore_n 3, 1) := by decide +kernel
theorem dX1_setSnow_33 : decode cX1_setSnow 33 = .ok (.aload_n 0, 1) := by decide +kernel
theorem dX1_setSnow_34 : decode cX1_setSnow 34 = .ok (.getfield 10, 3) := by decide +kernel
theorem dX1_setSnow_37 : decode cX1_setSnow 37 = .ok (.getfield 62, 3) := by decide +kernel
theorem dX1_setSnow_40 : decode cX1_setSnow 40 = .ok (.iload_n 1, 1) := by decide +kernel
theorem dX1_setSnow_41 : decode cX1_setSnow 41 = .ok (.iload_n 2, 1) := by decide +kernel
theorem dX1_setSnow_42 : decode cX1_setSnow 42 = .ok (.iastore, 1) := by decide +kernel
theorem dX1_setSnow_43 : decode cX1_setSnow 43 = .ok (.iload_n 3, 1) := by decide +kernel
theorem dX1_setSnow_44 : decode cX1_setSnow 44 = .ok (.ireturn, 1) := by decide +kernel
theorem dX1_shout_0 : decode cX1_shout 0 = .ok (.iload_n 1, 1) := by decide +kernel
theorem dX1_shout_1 : decode cX1_shout 1 = .ok (.invokestatic 19, 3) := by decide +kernel
theorem dX1_shout_4 : decode cX1_shout 4 = .ok (.iload_n 3, 1) := by decide +kernel
theorem dX1_shout_5 : decode cX1_shout 5 = .ok (.invokestatic 65, 3) := by decide +kernel
theorem dX1_shout_8 : decode cX1_shout 8 = .ok (.aload_n 0, 1) := by decide +kernel
theorem dX1_shout_9 : decode cX1_shout 9 = .ok (.getfield 10, 3) := by decide +kernel
theorem dX1_shout_12 : decode cX1_shout 12 = .ok (.getfield 68, 3) := by decide +kernel
theorem dX1_shout_15 : decode cX1_shout 15 = .ok (.bipush 40, 2) := by decide +kernel
theorem dX1_shout_17 : decode cX1_shout 17 = .ok (.if_icmp .ge 15, 3) := by decide +kernel
theorem dX1_shout_20 : decode cX1_shout 20 = .ok (.aload_n 0, 1) := by decide +kernel
theorem dX1_shout_21 : decode cX1_shout 21 = .ok (.getfield 10, 3) := by decide +kernel
theorem dX1_shout_24 : decode cX1_shout 24 = .ok (.getfield 71, 3) := by decide +kernel
theorem dX1_shout_27 : decode cX1_shout 27 = .ok (.bipush 8, 2) := by decide +kernel
theorem dX1_shout_29 : decode cX1_shout 29 = .ok (.if_icmp .lt 13, 3) := by decide +kernel
theorem dX1_shout_32 : decode cX1_shout 32 = .ok (.new 41, 3) := by decide +kernel
theorem dX1_shout_35 : decode cX1_shout 35 = .ok (.dup, 1) := by decide +kernel
theorem dX1_shout_36 : decode cX1_shout 36 = .ok (.ldc 74, 2) := by decide +kernel
theorem dX1_shout_38 : decode cX1_shout 38 = .ok (.invokespecial 45, 3) := by decide +kernel
theorem dX1_shout_41 : decode cX1_shout 41 = .ok (.athrow, 1) := by decide +kernel
theorem dX1_shout_42 : decode cX1_shout 42 = .ok (.aload_n 0, 1) := by decide +kernel
theorem dX1_shout_43 : decode cX1_shout 43 = .ok (.getfield 10, 3) := by decide +kernel
theorem dX1_shout_46 : decode cX1_shout 46 = .ok (.getfield 76, 3) := by decide +kernel
theorem dX1_shout_49 : decode cX1_shout 49 = .ok (.iload_n 1, 1) := by decide +kernel
theorem dX1_shout_50 : decode cX1_shout 50 = .ok (.iaload, 1) := by decide +kernel
theorem dX1_shout_51 : decode cX1_shout 51 = .ok (.iconst (-1), 1) := by decide +kernel
theorem dX1_shout_52 : decode cX1_shout 52 = .ok (.if_icmp .eq 13, 3) := by decide +kernel
theorem dX1_shout_55 : decode cX1_shout 55 = .ok (.new 41, 3) := by decide +kernel
theorem dX1_shout_58 : decode cX1_shout 58 = .ok (.dup, 1) := by decide +kernel
theorem dX1_shout_59 : decode cX1_shout 59 = .ok (.ldc 79, 2) := by decide +kernel
theorem dX1_shout_61 : decode cX1_shout 61 = .ok (.invokespecial 45, 3) := by decide +kernel
theorem dX1_shout_64 : decode cX1_shout 64 = .ok (.athrow, 1) := by decide +kernel
theorem dX1_shout_65 : decode cX1_shout 65 = .ok (.aload_n 0, 1) := by decide +kernel
theorem dX1_shout_66 : decode cX1_shout 66 = .ok (.getfield 10, 3) := by decide +kernel
theorem dX1_shout_69 : decode cX1_shout 69 = .ok (.iload_n 1, 1) := by decide +kernel
theorem dX1_shout_70 : decode cX1_shout 70 = .ok (.iload_n 2, 1) := by decide +kernel
theorem dX1_shout_71 : decode cX1_shout 71 = .ok (.iload_n 3, 1) := by decide +kernel
theorem dX1_shout_72 : decode cX1_shout 72 = .ok (.invokevirtual 81, 3) := by decide +kernel
theorem dX1_shout_75 : decode cX1_shout 75 = .ok (.ireturn, 1) := by decide +kernel
theorem dX1_pass_0 : decode cX1_pass 0 = .ok (.iload_n 1, 1) := by decide +kernel
theorem dX1_pass_1 : decode cX1_pass 1 = .ok (.invokestatic 85, 3) := by decide +kernel
theorem dX1_pass_4 : decode cX1_pass 4 = .ok (.aload_n 0, 1) := by decide +kernel
theorem dX1_pass_5 : decode cX1_pass 5 = .ok (.getfield 10, 3) := by decide +kernel
theorem dX1_pass_8 : decode cX1_pass 8 = .ok (.getfield 88, 3) := by decide +kernel
theorem dX1_pass_11 : decode cX1_pass 11 = .ok (.iconst 0, 1) := by decide +kernel
theorem dX1_pass_12 : decode cX1_pass 12 = .ok (.iaload, 1) := by decide +kernel
theorem dX1_pass_13 : decode cX1_pass 13 = .ok (.aload_n 0, 1) := by decide +kernel
theorem dX1_pass_14 : decode cX1_pass 14 = .ok (.getfield 10, 3) := by decide +kernel
theorem dX1_pass_17 : decode cX1_pass 17 = .ok (.getfield 88, 3) := by decide +kernel
theorem dX1_pass_20 : decode cX1_pass 20 = .ok (.iconst 1, 1) := by decide +kernel
theorem dX1_pass_21 : decode cX1_pass 21 = .ok (.iaload, 1) := by decide +kernel
theorem dX1_pass_22 : decode cX1_pass 22 = .ok (.iadd, 1) := by decide +kernel
theorem dX1_pass_23 : decode cX1_pass 23 = .ok (.istore_n 2, 1) := by decide +kernel
theorem dX1_pass_24 : decode cX1_pass 24 = .ok (.iconst 0, 1) := by decide +kernel
theorem dX1_pass_25 : decode cX1_pass 25 = .ok (.istore_n 3, 1) := by decide +kernel
theorem dX1_pass_26 : decode cX1_pass 26 = .ok (.iload_n 3, 1) := by decide +kernel
theorem dX1_pass_27 : decode cX1_pass 27 = .ok (.iload_n 1, 1) := by decide +kernel
theorem dX1_pass_28 : decode cX1_pass 28 = .ok (.if_icmp .ge 16, 3) := by decide +kernel
theorem dX1_pass_31 : decode cX1_pass 31 = .ok (.aload_n 0, 1) := by decide +kernel
theorem dX1_pass_32 : decode cX1_pass 32 = .ok (.getfield 10, 3) := by decide +kernel
theorem dX1_pass_35 : decode cX1_pass 35 = .ok (.invokevirtual 91, 3) := by decide +kernel
theorem dX1_pass_38 : decode cX1_pass 38 = .ok (.iinc 3 1, 3) := by decide +kernel
theorem dX1_pass_41 : decode cX1_pass 41 = .ok (.goto (-15), 3) := by decide +kernel
theorem dX1_pass_44 : decode cX1_pass 44 = .ok (.aload_n 0, 1) := by decide +kernel
theorem dX1_pass_45 : decode cX1_pass 45 = .ok (.getfield 10, 3) := by decide +kernel
theorem dX1_pass_48 : decode cX1_pass 48 = .ok (.getfield 88, 3) := by decide +kernel
theorem dX1_pass_51 : decode cX1_pass 51 = .ok (.iconst 0, 1) := by decide +kernel
theorem dX1_pass_52 : decode cX1_pass 52 = .ok (.iaload, 1) := by decide +kernel
theorem dX1_pass_53 : decode cX1_pass 53 = .ok (.aload_n 0, 1) := by decide +kernel
theorem dX1_pass_54 : decode cX1_pass 54 = .ok (.getfield 10, 3) := by decide +kernel
theorem dX1_pass_57 : decode cX1_pass 57 = .ok (.getfield 88, 3) := by decide +kernel
theorem dX1_pass_60 : decode cX1_pass 60 = .ok (.iconst 1, 1) := by decide +kernel
theorem dX1_pass_61 : decode cX1_pass 61 = .ok (.iaload, 1) := by decide +kernel
theorem dX1_pass_62 : decode cX1_pass 62 = .ok (.iadd, 1) := by decide +kernel
theorem dX1_pass_63 : decode cX1_pass 63 = .ok (.iload_n 2, 1) := by decide +kernel
theorem dX1_pass_64 : decode cX1_pass 64 = .ok (.isub, 1) := by decide +kernel
theorem dX1_pass_65 : decode cX1_pass 65 = .ok (.ireturn, 1) := by decide +kernel
theorem dX1_beat_0 : decode cX1_beat 0 = .ok (.aload_n 0, 1) := by decide +kernel
theorem dX1_beat_1 : decode cX1_beat 1 = .ok (.getfield 10, 3) := by decide +kernel
theorem dX1_beat_4 : decode cX1_beat 4 = .ok (.getfield 94, 3) := by decide +kernel
theorem dX1_beat_7 : decode cX1_beat 7 = .ok (.ireturn, 1) := by decide +kernel
theorem dX1_walls_0 : decode cX1_walls 0 = .ok (.aload_n 0, 1) := by decide +kernel
theorem dX1_walls_1 : decode cX1_walls 1 = .ok (.getfield 10, 3) := by decide +kernel
theorem dX1_walls_4 : decode cX1_walls 4 = .ok (.getfield 33, 3) := by decide +kernel
theorem dX1_walls_7 : decode cX1_walls 7 = .ok (.ireturn, 1) := by decide +kernel
theorem dX1_shouts_0 : decode cX1_shouts 0 = .ok (.aload_n 0, 1) := by decide +kernel
theorem dX1_shouts_1 : decode cX1_shouts 1 = .ok (.getfield 10, 3) := by decide +kernel
theorem dX1_shouts_4 : decode cX1_shouts 4 = .ok (.getfield 68, 3) := by decide +kernel
theorem dX1_shouts_7 : decode cX1_shouts 7 = .ok (.ireturn, 1) := by decide +kernel
theorem dX1_underWay_0 : decode cX1_underWay 0 = .ok (.aload_n 0, 1) := by decide +kernel
theorem dX1_underWay_1 : decode cX1_underWay 1 = .ok (.getfield 10, 3) := by decide +kernel
theorem dX1_underWay_4 : decode cX1_underWay 4 = .ok (.getfield 71, 3) := by decide +kernel
theorem dX1_underWay_7 : decode cX1_underWay 7 = .ok (.ireturn, 1) := by decide +kernel
theorem dX1_overlaps_0 : decode cX1_overlaps 0 = .ok (.aload_n 0, 1) := by decide +kernel
theorem dX1_overlaps_1 : decode cX1_overlaps 1 = .ok (.getfield 10, 3) := by decide +kernel
theorem dX1_overlaps_4 : decode cX1_overlaps 4 = .ok (.getfield 97, 3) := by decide +kernel
theorem dX1_overlaps_7 : decode cX1_overlaps 7 = .ok (.ireturn, 1) := by decide +kernel
theorem dX1_snowOn_0 : decode cX1_snowOn 0 = .ok (.iload_n 1, 1) := by decide +kernel
theorem dX1_snowOn_1 : decode cX1_snowOn 1 = .ok (.invokestatic 19, 3) := by decide +kernel
theorem dX1_snowOn_4 : decode cX1_snowOn 4 = .ok (.aload_n 0, 1) := by decide +kernel
theorem dX1_snowOn_5 : decode cX1_snowOn 5 = .ok (.getfield 10, 3) := by decide +kernel
theorem dX1_snowOn_8 : decode cX1_snowOn 8 = .ok (.getfield 62, 3) := by decide +kernel
theorem dX1_snowOn_11 : decode cX1_snowOn 11 = .ok (.iload_n 1, 1) := by decide +kernel
theorem dX1_snowOn_12 : decode cX1_snowOn 12 = .ok (.iaload, 1) := by decide +kernel
theorem dX1_snowOn_13 : decode cX1_snowOn 13 = .ok (.ireturn, 1) := by decide +kernel
theorem dX1_wallOn_0 : decode cX1_wallOn 0 = .ok (.iload_n 1, 1) := by decide +kernel
theorem dX1_wallOn_1 : decode cX1_wallOn 1 = .ok (.invokestatic 19, 3) := by decide +kernel
theorem dX1_wallOn_4 : decode cX1_wallOn 4 = .ok (.aload_n 0, 1) := by decide +kernel
theorem dX1_wallOn_5 : decode cX1_wallOn 5 = .ok (.getfield 10, 3) := by decide +kernel
theorem dX1_wallOn_8 : decode cX1_wallOn 8 = .ok (.getfield 37, 3) := by decide +kernel
theorem dX1_wallOn_11 : decode cX1_wallOn 11 = .ok (.iload_n 1, 1) := by decide +kernel
theorem dX1_wallOn_12 : decode cX1_wallOn 12 = .ok (.iaload, 1) := by decide +kernel
theorem dX1_wallOn_13 : decode cX1_wallOn 13 = .ok (.ireturn, 1) := by decide +kernel
theorem dX1_loudOn_0 : decode cX1_loudOn 0 = .ok (.iload_n 1, 1) := by decide +kernel
theorem dX1_loudOn_1 : decode cX1_loudOn 1 = .ok (.invokestatic 19, 3) := by decide +kernel
theorem dX1_loudOn_4 : decode cX1_loudOn 4 = .ok (.aload_n 0, 1) := by decide +kernel
theorem dX1_loudOn_5 : decode cX1_loudOn 5 = .ok (.getfield 10, 3) := by decide +kernel
theorem dX1_loudOn_8 : decode cX1_loudOn 8 = .ok (.iload_n 1, 1) := by decide +kernel
theorem dX1_loudOn_9 : decode cX1_loudOn 9 = .ok (.invokevirtual 100, 3) := by decide +kernel
theorem dX1_loudOn_12 : decode cX1_loudOn 12 = .ok (.ireturn, 1) := by decide +kernel
theorem dX1_stoneOf_0 : decode cX1_stoneOf 0 = .ok (.aload_n 0, 1) := by decide +kernel
theorem dX1_stoneOf_1 : decode cX1_stoneOf 1 = .ok (.iload_n 1, 1) := by decide +kernel
theorem dX1_stoneOf_2 : decode cX1_stoneOf 2 = .ok (.invokevirtual 50, 3) := by decide +kernel
theorem dX1_stoneOf_5 : decode cX1_stoneOf 5 = .ok (.aload_n 0, 1) := by decide +kernel
theorem dX1_stoneOf_6 : decode cX1_stoneOf 6 = .ok (.getfield 10, 3) := by decide +kernel
theorem dX1_stoneOf_9 : decode cX1_stoneOf 9 = .ok (.getfield 103, 3) := by decide +kernel
theorem dX1_stoneOf_12 : decode cX1_stoneOf 12 = .ok (.iload_n 1, 1) := by decide +kernel
theorem dX1_stoneOf_13 : decode cX1_stoneOf 13 = .ok (.iaload, 1) := by decide +kernel
theorem dX1_stoneOf_14 : decode cX1_stoneOf 14 = .ok (.ireturn, 1) := by decide +kernel
theorem dX1_ownerOf_0 : decode cX1_ownerOf 0 = .ok (.aload_n 0, 1) := by decide +kernel
theorem dX1_ownerOf_1 : decode cX1_ownerOf 1 = .ok (.iload_n 1, 1) := by decide +kernel
theorem dX1_ownerOf_2 : decode cX1_ownerOf 2 = .ok (.invokevirtual 50, 3) := by decide +kernel
theorem dX1_ownerOf_5 : decode cX1_ownerOf 5 = .ok (.aload_n 0, 1) := by decide +kernel
theorem dX1_ownerOf_6 : decode cX1_ownerOf 6 = .ok (.getfield 10, 3) := by decide +kernel
theorem dX1_ownerOf_9 : decode cX1_ownerOf 9 = .ok (.getfield 53, 3) := by decide +kernel
theorem dX1_ownerOf_12 : decode cX1_ownerOf 12 = .ok (.iload_n 1, 1) := by decide +kernel
theorem dX1_ownerOf_13 : decode cX1_ownerOf 13 = .ok (.iaload, 1) := by decide +kernel
theorem dX1_ownerOf_14 : decode cX1_ownerOf 14 = .ok (.ireturn, 1) := by decide +kernel
theorem dX1_thrownBack_0 : decode cX1_thrownBack 0 = .ok (.aload_n 0, 1) := by decide +kernel
theorem dX1_thrownBack_1 : decode cX1_thrownBack 1 = .ok (.iload_n 1, 1) := by decide +kernel
theorem dX1_thrownBack_2 : decode cX1_thrownBack 2 = .ok (.invokevirtual 50, 3) := by decide +kernel
theorem dX1_thrownBack_5 : decode cX1_thrownBack 5 = .ok (.aload_n 0, 1) := by decide +kernel
theorem dX1_thrownBack_6 : decode cX1_thrownBack 6 = .ok (.getfield 10, 3) := by decide +kernel
theorem dX1_thrownBack_9 : decode cX1_thrownBack 9 = .ok (.getfield 106, 3) := by decide +kernel
theorem dX1_thrownBack_12 : decode cX1_thrownBack 12 = .ok (.iload_n 1, 1) := by decide +kernel
theorem dX1_thrownBack_13 : decode cX1_thrownBack 13 = .ok (.iaload, 1) := by decide +kernel
theorem dX1_thrownBack_14 : decode cX1_thrownBack 14 = .ok (.ireturn, 1) := by decide +kernel
theorem dX1_coinsOf_0 : decode cX1_coinsOf 0 = .ok (.iload_n 1, 1) := by decide +kernel
theorem dX1_coinsOf_1 : decode cX1_coinsOf 1 = .ok (.invokestatic 23, 3) := by decide +kernel
theorem dX1_coinsOf_4 : decode cX1_coinsOf 4 = .ok (.aload_n 0, 1) := by decide +kernel
theorem dX1_coinsOf_5 : decode cX1_coinsOf 5 = .ok (.getfield 10, 3) := by decide +kernel
theorem dX1_coinsOf_8 : decode cX1_coinsOf 8 = .ok (.getfield 88, 3) := by decide +kernel
theorem dX1_coinsOf_11 : decode cX1_coinsOf 11 = .ok (.iload_n 1, 1) := by decide +kernel
theorem dX1_coinsOf_12 : decode cX1_coinsOf 12 = .ok (.iaload, 1) := by decide +kernel
theorem dX1_coinsOf_13 : decode cX1_coinsOf 13 = .ok (.ireturn, 1) := by decide +kernel
theorem dX1_wallsOf_0 : decode cX1_wallsOf 0 = .ok (.iload_n 1, 1) := by decide +kernel
theorem dX1_wallsOf_1 : decode cX1_wallsOf 1 = .ok (.invokestatic 23, 3) := by decide +kernel
theorem dX1_wallsOf_4 : decode cX1_wallsOf 4 = .ok (.iconst 0, 1) := by decide +kernel
theorem dX1_wallsOf_5 : decode cX1_wallsOf 5 = .ok (.istore_n 2, 1) := by decide +kernel
theorem dX1_wallsOf_6 : decode cX1_wallsOf 6 = .ok (.iconst 0, 1) := by decide +kernel
theorem dX1_wallsOf_7 : decode cX1_wallsOf 7 = .ok (.istore_n 3, 1) := by decide +kernel
theorem dX1_wallsOf_8 : decode cX1_wallsOf 8 = .ok (.iload_n 3, 1) := by decide +kernel
theorem dX1_wallsOf_9 : decode cX1_wallsOf 9 = .ok (.aload_n 0, 1) := by decide +kernel
theorem dX1_wallsOf_10 : decode cX1_wallsOf 10 = .ok (.getfield 10, 3) := by decide +kernel
theorem dX1_wallsOf_13 : decode cX1_wallsOf 13 = .ok (.getfield 33, 3) := by decide +kernel
theorem dX1_wallsOf_16 : decode cX1_wallsOf 16 = .ok (.if_icmp .ge 25, 3) := by decide +kernel
theorem dX1_wallsOf_19 : decode cX1_wallsOf 19 = .ok (.aload_n 0, 1) := by decide +kernel
theorem dX1_wallsOf_20 : decode cX1_wallsOf 20 = .ok (.getfield 10, 3) := by decide +kernel
theorem dX1_wallsOf_23 : decode cX1_wallsOf 23 = .ok (.getfield 53, 3) := by decide +kernel
theorem dX1_wallsOf_26 : decode cX1_wallsOf 26 = .ok (.iload_n 3, 1) := by decide +kernel
theorem dX1_wallsOf_27 : decode cX1_wallsOf 27 = .ok (.iaload, 1) := by decide +kernel
theorem dX1_wallsOf_28 : decode cX1_wallsOf 28 = .ok (.iload_n 1, 1) := by decide +kernel
theorem dX1_wallsOf_29 : decode cX1_wallsOf 29 = .ok (.if_icmp .ne 6, 3) := by decide +kernel
theorem dX1_wallsOf_32 : decode cX1_wallsOf 32 = .ok (.iinc 2 1, 3) := by decide +kernel
theorem dX1_wallsOf_35 : decode cX1_wallsOf 35 = .ok (.iinc 3 1, 3) := by decide +kernel
theorem dX1_wallsOf_38 : decode cX1_wallsOf 38 = .ok (.goto (-30), 3) := by decide +kernel
theorem dX1_wallsOf_41 : decode cX1_wallsOf 41 = .ok (.iload_n 2, 1) := by decide +kernel
theorem dX1_wallsOf_42 : decode cX1_wallsOf 42 = .ok (.ireturn, 1) := by decide +kernel
theorem dX1_silentFor_0 : decode cX1_silentFor 0 = .ok (.iload_n 1, 1) := by decide +kernel
theorem dX1_silentFor_1 : decode cX1_silentFor 1 = .ok (.invokestatic 23, 3) := by decide +kernel
theorem dX1_silentFor_4 : decode cX1_silentFor 4 = .ok (.aload_n 0, 1) := by decide +kernel
theorem dX1_silentFor_5 : decode cX1_silentFor 5 = .ok (.getfield 10, 3) := by decide +kernel
theorem dX1_silentFor_8 : decode cX1_silentFor 8 = .ok (.getfield 109, 3) := by decide +kernel
theorem dX1_silentFor_11 : decode cX1_silentFor 11 = .ok (.iload_n 1, 1) := by decide +kernel
theorem dX1_silentFor_12 : decode cX1_silentFor 12 = .ok (.iaload, 1) := by decide +kernel
theorem dX1_silentFor_13 : decode cX1_silentFor 13 = .ok (.ireturn, 1) := by decide +kernel
theorem dX1_inherited_0 : decode cX1_inherited 0 = .ok (.aload_n 0, 1) := by decide +kernel
theorem dX1_inherited_1 : decode cX1_inherited 1 = .ok (.getfield 10, 3) := by decide +kernel
theorem dX1_inherited_4 : decode cX1_inherited 4 = .ok (.getfield 112, 3) := by decide +kernel
theorem dX1_inherited_7 : decode cX1_inherited 7 = .ok (.ireturn, 1) := by decide +kernel
theorem dX1_loudnessOf_0 : decode cX1_loudnessOf 0 = .ok (.aload_n 0, 1) := by decide +kernel
theorem dX1_loudnessOf_1 : decode cX1_loudnessOf 1 = .ok (.iload_n 1, 1) := by decide +kernel
theorem dX1_loudnessOf_2 : decode cX1_loudnessOf 2 = .ok (.invokevirtual 115, 3) := by decide +kernel
theorem dX1_loudnessOf_5 : decode cX1_loudnessOf 5 = .ok (.aload_n 0, 1) := by decide +kernel
theorem dX1_loudnessOf_6 : decode cX1_loudnessOf 6 = .ok (.getfield 10, 3) := by decide +kernel
theorem dX1_loudnessOf_9 : decode cX1_loudnessOf 9 = .ok (.getfield 118, 3) := by decide +kernel
theorem dX1_loudnessOf_12 : decode cX1_loudnessOf 12 = .ok (.iload_n 1, 1) := by decide +kernel
theorem dX1_loudnessOf_13 : decode cX1_loudnessOf 13 = .ok (.iaload, 1) := by decide +kernel
theorem dX1_loudnessOf_14 : decode cX1_loudnessOf 14 = .ok (.ireturn, 1) := by decide +kernel
theorem dX1_placeOf_0 : decode cX1_placeOf 0 = .ok (.aload_n 0, 1) := by decide +kernel
theorem dX1_placeOf_1 : decode cX1_placeOf 1 = .ok (.iload_n 1, 1) := by decide +kernel
theorem dX1_placeOf_2 : decode cX1_placeOf 2 = .ok (.invokevirtual 115, 3) := by decide +kernel
theorem dX1_placeOf_5 : decode cX1_placeOf 5 = .ok (.aload_n 0, 1) := by decide +kernel
theorem dX1_placeOf_6 : decode cX1_placeOf 6 = .ok (.getfield 10, 3) := by decide +kernel
theorem dX1_placeOf_9 : decode cX1_placeOf 9 = .ok (.getfield 121, 3) := by decide +kernel
theorem dX1_placeOf_12 : decode cX1_placeOf 12 = .ok (.iload_n 1, 1) := by decide +kernel
theorem dX1_placeOf_13 : decode cX1_placeOf 13 = .ok (.iaload, 1) := by decide +kernel
theorem dX1_placeOf_14 : decode cX1_placeOf 14 = .ok (.ireturn, 1) := by decide +kernel
theorem dX1_goesRight_0 : decode cX1_goesRight 0 = .ok (.aload_n 0, 1) := by decide +kernel
theorem dX1_goesRight_1 : decode cX1_goesRight 1 = .ok (.iload_n 1, 1) := by decide +kernel
theorem dX1_goesRight_2 : decode cX1_goesRight 2 = .ok (.invokevirtual 115, 3) := by decide +kernel
theorem dX1_goesRight_5 : decode cX1_goesRight 5 = .ok (.aload_n 0, 1) := by decide +kernel
theorem dX1_goesRight_6 : decode cX1_goesRight 6 = .ok (.getfield 10, 3) := by decide +kernel
theorem dX1_goesRight_9 : decode cX1_goesRight 9 = .ok (.getfield 124, 3) := by decide +kernel
theorem dX1_goesRight_12 : decode cX1_goesRight 12 = .ok (.iload_n 1, 1) := by decide +kernel
theorem dX1_goesRight_13 : decode cX1_goesRight 13 = .ok (.iaload, 1) := by decide +kernel
theorem dX1_goesRight_14 : decode cX1_goesRight 14 = .ok (.ifCond .le 7, 3) := by decide +kernel
theorem dX1_goesRight_17 : decode cX1_goesRight 17 = .ok (.iconst 1, 1) := by decide +kernel
theorem dX1_goesRight_18 : decode cX1_goesRight 18 = .ok (.goto 4, 3) := by decide +kernel
theorem dX1_goesRight_21 : decode cX1_goesRight 21 = .ok (.iconst 0, 1) := by decide +kernel
theorem dX1_goesRight_22 : decode cX1_goesRight 22 = .ok (.ireturn, 1) := by decide +kernel
theorem dX1_turnsOf_0 : decode cX1_turnsOf 0 = .ok (.aload_n 0, 1) := by decide +kernel
theorem dX1_turnsOf_1 : decode cX1_turnsOf 1 = .ok (.iload_n 1, 1) := by decide +kernel
theorem dX1_turnsOf_2 : decode cX1_turnsOf 2 = .ok (.invokevirtual 115, 3) := by decide +kernel
theorem dX1_turnsOf_5 : decode cX1_turnsOf 5 = .ok (.aload_n 0, 1) := by decide +kernel
theorem dX1_turnsOf_6 : decode cX1_turnsOf 6 = .ok (.getfield 10, 3) := by decide +kernel
theorem dX1_turnsOf_9 : decode cX1_turnsOf 9 = .ok (.getfield 127, 3) := by decide +kernel
theorem dX1_turnsOf_12 : decode cX1_turnsOf 12 = .ok (.iload_n 1, 1) := by decide +kernel
theorem dX1_turnsOf_13 : decode cX1_turnsOf 13 = .ok (.iaload, 1) := by decide +kernel
theorem dX1_turnsOf_14 : decode cX1_turnsOf 14 = .ok (.ireturn, 1) := by decide +kernel
theorem dX1_nextWall_0 : decode cX1_nextWall 0 = .ok (.iload_n 1, 1) := by decide +kernel
theorem dX1_nextWall_1 : decode cX1_nextWall 1 = .ok (.invokestatic 19, 3) := by decide +kernel
theorem dX1_nextWall_4 : decode cX1_nextWall 4 = .ok (.iload_n 2, 1) := by decide +kernel
theorem dX1_nextWall_5 : decode cX1_nextWall 5 = .ok (.ifCond .eq 7, 3) := by decide +kernel
theorem dX1_nextWall_8 : decode cX1_nextWall 8 = .ok (.iconst 1, 1) := by decide +kernel
theorem dX1_nextWall_9 : decode cX1_nextWall 9 = .ok (.goto 4, 3) := by decide +kernel
theorem dX1_nextWall_12 : decode cX1_nextWall 12 = .ok (.iconst (-1), 1) := by decide +kernel
theorem dX1_nextWall_13 : decode cX1_nextWall 13 = .ok (.istore_n 3, 1) := by decide +kernel
theorem dX1_nextWall_14 : decode cX1_nextWall 14 = .ok (.iload_n 1, 1) := by decide +kernel
theorem dX1_nextWall_15 : decode cX1_nextWall 15 = .ok (.iload_n 3, 1) := by decide +kernel
theorem dX1_nextWall_16 : decode cX1_nextWall 16 = .ok (.iadd, 1) := by decide +kernel
theorem dX1_nextWall_17 : decode cX1_nextWall 17 = .ok (.istore 4, 2) := by decide +kernel
theorem dX1_nextWall_19 : decode cX1_nextWall 19 = .ok (.iload 4, 2) := by decide +kernel
theorem dX1_nextWall_21 : decode cX1_nextWall 21 = .ok (.ifCond .lt 36, 3) := by decide +kernel
theorem dX1_nextWall_24 : decode cX1_nextWall 24 = .ok (.iload 4, 2) := by decide +kernel
theorem dX1_nextWall_26 : decode cX1_nextWall 26 = .ok (.bipush 32, 2) := by decide +kernel
theorem dX1_nextWall_28 : decode cX1_nextWall 28 = .ok (.if_icmp .ge 29, 3) := by decide +kernel
theorem dX1_nextWall_31 : decode cX1_nextWall 31 = .ok (.aload_n 0, 1) := by decide +kernel
theorem dX1_nextWall_32 : decode cX1_nextWall 32 = .ok (.getfield 10, 3) := by decide +kernel
theorem dX1_nextWall_35 : decode cX1_nextWall 35 = .ok (.getfield 37, 3) := by decide +kernel
theorem dX1_nextWall_38 : decode cX1_nextWall 38 = .ok (.iload 4, 2) := by decide +kernel
theorem dX1_nextWall_40 : decode cX1_nextWall 40 = .ok (.iaload, 1) := by decide +kernel
theorem dX1_nextWall_41 : decode cX1_nextWall 41 = .ok (.iconst (-1), 1) := by decide +kernel
theorem dX1_nextWall_42 : decode cX1_nextWall 42 = .ok (.if_icmp .eq 6, 3) := by decide +kernel
theorem dX1_nextWall_45 : decode cX1_nextWall 45 = .ok (.iload 4, 2) := by decide +kernel
theorem dX1_nextWall_47 : decode cX1_nextWall 47 = .ok (.ireturn, 1) := by decide +kernel
theorem dX1_nextWall_48 : decode cX1_nextWall 48 = .ok (.iload 4, 2) := by decide +kernel
theorem dX1_nextWall_50 : decode cX1_nextWall 50 = .ok (.iload_n 3, 1) := by decide +kernel
theorem dX1_nextWall_51 : decode cX1_nextWall 51 = .ok (.iadd, 1) := by decide +kernel
theorem dX1_nextWall_52 : decode cX1_nextWall 52 = .ok (.istore 4, 2) := by decide +kernel
theorem dX1_nextWall_54 : decode cX1_nextWall 54 = .ok (.goto (-35), 3) := by decide +kernel
theorem dX1_nextWall_57 : decode cX1_nextWall 57 = .ok (.iconst (-1), 1) := by decide +kernel
theorem dX1_nextWall_58 : decode cX1_nextWall 58 = .ok (.ireturn, 1) := by decide +kernel
theorem dX1_beatsUntilGone_0 : decode cX1_beatsUntilGone 0 = .ok (.aload_n 0, 1) := by decide +kernel
theorem dX1_beatsUntilGone_1 : decode cX1_beatsUntilGone 1 = .ok (.iload_n 1, 1) := by decide +kernel
theorem dX1_beatsUntilGone_2 : decode cX1_beatsUntilGone 2 = .ok (.invokevirtual 115, 3) := by decide +kernel
theorem dX1_beatsUntilGone_5 : decode cX1_beatsUntilGone 5 = .ok (.aload_n 0, 1) := by decide +kernel
theorem dX1_beatsUntilGone_6 : decode cX1_beatsUntilGone 6 = .ok (.getfield 16, 3) := by decide +kernel
theorem dX1_beatsUntilGone_9 : decode cX1_beatsUntilGone 9 = .ok (.aload_n 0, 1) := by decide +kernel
theorem dX1_beatsUntilGone_10 : decode cX1_beatsUntilGone 10 = .ok (.getfield 10, 3) := by decide +kernel
theorem dX1_beatsUntilGone_13 : decode cX1_beatsUntilGone 13 = .ok (.invokevirtual 130, 3) := by decide +kernel
theorem dX1_beatsUntilGone_16 : decode cX1_beatsUntilGone 16 = .ok (.iconst 0, 1) := by decide +kernel
theorem dX1_beatsUntilGone_17 : decode cX1_beatsUntilGone 17 = .ok (.istore_n 2, 1) := by decide +kernel
theorem dX1_beatsUntilGone_18 : decode cX1_beatsUntilGone 18 = .ok (.iload_n 2, 1) := by decide +kernel
theorem dX1_beatsUntilGone_19 : decode cX1_beatsUntilGone 19 = .ok (.bipush 99, 2) := by decide +kernel
theorem dX1_beatsUntilGone_21 : decode cX1_beatsUntilGone 21 = .ok (.if_icmp .ge 28, 3) := by decide +kernel
theorem dX1_beatsUntilGone_24 : decode cX1_beatsUntilGone 24 = .ok (.aload_n 0, 1) := by decide +kernel
theorem dX1_beatsUntilGone_25 : decode cX1_beatsUntilGone 25 = .ok (.getfield 16, 3) := by decide +kernel
theorem dX1_beatsUntilGone_28 : decode cX1_beatsUntilGone 28 = .ok (.getfield 118, 3) := by decide +kernel
theorem dX1_beatsUntilGone_31 : decode cX1_beatsUntilGone 31 = .ok (.iload_n 1, 1) := by decide +kernel
theorem dX1_beatsUntilGone_32 : decode cX1_beatsUntilGone 32 = .ok (.iaload, 1) := by decide +kernel
theorem dX1_beatsUntilGone_33 : decode cX1_beatsUntilGone 33 = .ok (.ifCond .le 16, 3) := by decide +kernel
theorem dX1_beatsUntilGone_36 : decode cX1_beatsUntilGone 36 = .ok (.aload_n 0, 1) := by decide +kernel
theorem dX1_beatsUntilGone_37 : decode cX1_beatsUntilGone 37 = .ok (.getfield 16, 3) := by decide +kernel
theorem dX1_beatsUntilGone_40 : decode cX1_beatsUntilGone 40 = .ok (.invokevirtual 91, 3) := by decide +kernel
theorem dX1_beatsUntilGone_43 : decode cX1_beatsUntilGone 43 = .ok (.iinc 2 1, 3) := by decide +kernel
theorem dX1_beatsUntilGone_46 : decode cX1_beatsUntilGone 46 = .ok (.goto (-28), 3) := by decide +kernel
theorem dX1_beatsUntilGone_49 : decode cX1_beatsUntilGone 49 = .ok (.iload_n 2, 1) := by decide +kernel
theorem dX1_beatsUntilGone_50 : decode cX1_beatsUntilGone 50 = .ok (.ireturn, 1) := by decide +kernel
theorem dX1_beatsUntilQuiet_0 : decode cX1_beatsUntilQuiet 0 = .ok (.aload_n 0, 1) := by decide +kernel
theorem dX1_beatsUntilQuiet_1 : decode cX1_beatsUntilQuiet 1 = .ok (.getfield 16, 3) := by decide +kernel
theorem dX1_beatsUntilQuiet_4 : decode cX1_beatsUntilQuiet 4 = .ok (.aload_n 0, 1) := by decide +kernel
theorem dX1_beatsUntilQuiet_5 : decode cX1_beatsUntilQuiet 5 = .ok (.getfield 10, 3) := by decide +kernel
theorem dX1_beatsUntilQuiet_8 : decode cX1_beatsUntilQuiet 8 = .ok (.invokevirtual 130, 3) := by decide +kernel
theorem dX1_beatsUntilQuiet_11 : decode cX1_beatsUntilQuiet 11 = .ok (.iconst 0, 1) := by decide +kernel
theorem dX1_beatsUntilQuiet_12 : decode cX1_beatsUntilQuiet 12 = .ok (.istore_n 1, 1) := by decide +kernel
theorem dX1_beatsUntilQuiet_13 : decode cX1_beatsUntilQuiet 13 = .ok (.iload_n 1, 1) := by decide +kernel
theorem dX1_beatsUntilQuiet_14 : decode cX1_beatsUntilQuiet 14 = .ok (.bipush 99, 2) := by decide +kernel
theorem dX1_beatsUntilQuiet_16 : decode cX1_beatsUntilQuiet 16 = .ok (.if_icmp .ge 26, 3) := by decide +kernel
theorem dX1_beatsUntilQuiet_19 : decode cX1_beatsUntilQuiet 19 = .ok (.aload_n 0, 1) := by decide +kernel
theorem dX1_beatsUntilQuiet_20 : decode cX1_beatsUntilQuiet 20 = .ok (.getfield 16, 3) := by decide +kernel
theorem dX1_beatsUntilQuiet_23 : decode cX1_beatsUntilQuiet 23 = .ok (.getfield 71, 3) := by decide +kernel
theorem dX1_beatsUntilQuiet_26 : decode cX1_beatsUntilQuiet 26 = .ok (.ifCond .le 16, 3) := by decide +kernel
theorem dX1_beatsUntilQuiet_29 : decode cX1_beatsUntilQuiet 29 = .ok (.aload_n 0, 1) := by decide +kernel
theorem dX1_beatsUntilQuiet_30 : decode cX1_beatsUntilQuiet 30 = .ok (.getfield 16, 3) := by decide +kernel
theorem dX1_beatsUntilQuiet_33 : decode cX1_beatsUntilQuiet 33 = .ok (.invokevirtual 91, 3) := by decide +kernel
theorem dX1_beatsUntilQuiet_36 : decode cX1_beatsUntilQuiet 36 = .ok (.iinc 1 1, 3) := by decide +kernel
theorem dX1_beatsUntilQuiet_39 : decode cX1_beatsUntilQuiet 39 = .ok (.goto (-26), 3) := by decide +kernel
theorem dX1_beatsUntilQuiet_42 : decode cX1_beatsUntilQuiet 42 = .ok (.iload_n 1, 1) := by decide +kernel
theorem dX1_beatsUntilQuiet_43 : decode cX1_beatsUntilQuiet 43 = .ok (.ireturn, 1) := by decide +kernel
theorem dX1_coinsIn_0 : decode cX1_coinsIn 0 = .ok (.iload_n 1, 1) := by decide +kernel
theorem dX1_coinsIn_1 : decode cX1_coinsIn 1 = .ok (.invokestatic 23, 3) := by decide +kernel
theorem dX1_coinsIn_4 : decode cX1_coinsIn 4 = .ok (.iload_n 2, 1) := by decide +kernel
theorem dX1_coinsIn_5 : decode cX1_coinsIn 5 = .ok (.invokestatic 85, 3) := by decide +kernel
theorem dX1_coinsIn_8 : decode cX1_coinsIn 8 = .ok (.aload_n 0, 1) := by decide +kernel
theorem dX1_coinsIn_9 : decode cX1_coinsIn 9 = .ok (.getfield 16, 3) := by decide +kernel
theorem dX1_coinsIn_12 : decode cX1_coinsIn 12 = .ok (.aload_n 0, 1) := by decide +kernel
theorem dX1_coinsIn_13 : decode cX1_coinsIn 13 = .ok (.getfield 10, 3) := by decide +kernel
theorem dX1_coinsIn_16 : decode cX1_coinsIn 16 = .ok (.invokevirtual 130, 3) := by decide +kernel
theorem dX1_coinsIn_19 : decode cX1_coinsIn 19 = .ok (.iconst 0, 1) := by decide +kernel
theorem dX1_coinsIn_20 : decode cX1_coinsIn 20 = .ok (.istore_n 3, 1) := by decide +kernel
theorem dX1_coinsIn_21 : decode cX1_coinsIn 21 = .ok (.iload_n 3, 1) := by decide +kernel
theorem dX1_coinsIn_22 : decode cX1_coinsIn 22 = .ok (.iload_n 2, 1) := by decide +kernel
theorem dX1_coinsIn_23 : decode cX1_coinsIn 23 = .ok (.if_icmp .ge 26, 3) := by decide +kernel
theorem dX1_coinsIn_26 : decode cX1_coinsIn 26 = .ok (.aload_n 0, 1) := by decide +kernel
theorem dX1_coinsIn_27 : decode cX1_coinsIn 27 = .ok (.getfield 16, 3) := by decide +kernel
theorem dX1_coinsIn_30 : decode cX1_coinsIn 30 = .ok (.getfield 71, 3) := by decide +kernel
theorem dX1_coinsIn_33 : decode cX1_coinsIn 33 = .ok (.ifCond .le 16, 3) := by decide +kernel
theorem dX1_coinsIn_36 : decode cX1_coinsIn 36 = .ok (.aload_n 0, 1) := by decide +kernel
theorem dX1_coinsIn_37 : decode cX1_coinsIn 37 = .ok (.getfield 16, 3) := by decide +kernel
theorem dX1_coinsIn_40 : decode cX1_coinsIn 40 = .ok (.invokevirtual 91, 3) := by decide +kernel
theorem dX1_coinsIn_43 : decode cX1_coinsIn 43 = .ok (.iinc 3 1, 3) := by decide +kernel
theorem dX1_coinsIn_46 : decode cX1_coinsIn 46 = .ok (.goto (-25), 3) := by decide +kernel
theorem dX1_coinsIn_49 : decode cX1_coinsIn 49 = .ok (.aload_n 0, 1) := by decide +kernel
theorem dX1_coinsIn_50 : decode cX1_coinsIn 50 = .ok (.getfield 16, 3) := by decide +kernel
theorem dX1_coinsIn_53 : decode cX1_coinsIn 53 = .ok (.getfield 88, 3) := by decide +kernel
theorem dX1_coinsIn_56 : decode cX1_coinsIn 56 = .ok (.iload_n 1, 1) := by decide +kernel
theorem dX1_coinsIn_57 : decode cX1_coinsIn 57 = .ok (.iaload, 1) := by decide +kernel
theorem dX1_coinsIn_58 : decode cX1_coinsIn 58 = .ok (.aload_n 0, 1) := by decide +kernel
theorem dX1_coinsIn_59 : decode cX1_coinsIn 59 = .ok (.getfield 10, 3) := by decide +kernel
theorem dX1_coinsIn_62 : decode cX1_coinsIn 62 = .ok (.getfield 88, 3) := by decide +kernel
theorem dX1_coinsIn_65 : decode cX1_coinsIn 65 = .ok (.iload_n 1, 1) := by decide +kernel
theorem dX1_coinsIn_66 : decode cX1_coinsIn 66 = .ok (.iaload, 1) := by decide +kernel
theorem dX1_coinsIn_67 : decode cX1_coinsIn 67 = .ok (.isub, 1) := by decide +kernel
theorem dX1_coinsIn_68 : decode cX1_coinsIn 68 = .ok (.ireturn, 1) := by decide +kernel
theorem dX1_loudestOn_0 : decode cX1_loudestOn 0 = .ok (.iload_n 1, 1) := by decide +kernel
theorem dX1_loudestOn_1 : decode cX1_loudestOn 1 = .ok (.invokestatic 19, 3) := by decide +kernel
theorem dX1_loudestOn_4 : decode cX1_loudestOn 4 = .ok (.iload_n 2, 1) := by decide +kernel
theorem dX1_loudestOn_5 : decode cX1_loudestOn 5 = .ok (.invokestatic 85, 3) := by decide +kernel
theorem dX1_loudestOn_8 : decode cX1_loudestOn 8 = .ok (.aload_n 0, 1) := by decide +kernel
theorem dX1_loudestOn_9 : decode cX1_loudestOn 9 = .ok (.getfield 16, 3) := by decide +kernel
theorem dX1_loudestOn_12 : decode cX1_loudestOn 12 = .ok (.aload_n 0, 1) := by decide +kernel
theorem dX1_loudestOn_13 : decode cX1_loudestOn 13 = .ok (.getfield 10, 3) := by decide +kernel
theorem dX1_loudestOn_16 : decode cX1_loudestOn 16 = .ok (.invokevirtual 130, 3) := by decide +kernel
theorem dX1_loudestOn_19 : decode cX1_loudestOn 19 = .ok (.iconst 0, 1) := by decide +kernel
theorem dX1_loudestOn_20 : decode cX1_loudestOn 20 = .ok (.istore_n 3, 1) := by decide +kernel
theorem dX1_loudestOn_21 : decode cX1_loudestOn 21 = .ok (.iconst 0, 1) := by decide +kernel
theorem dX1_loudestOn_22 : decode cX1_loudestOn 22 = .ok (.istore 4, 2) := by decide +kernel
theorem dX1_loudestOn_24 : decode cX1_loudestOn 24 = .ok (.iload 4, 2) := by decide +kernel
theorem dX1_loudestOn_26 : decode cX1_loudestOn 26 = .ok (.iload_n 2, 1) := by decide +kernel
theorem dX1_loudestOn_27 : decode cX1_loudestOn 27 = .ok (.if_icmp .ge 39, 3) := by decide +kernel
theorem dX1_loudestOn_30 : decode cX1_loudestOn 30 = .ok (.aload_n 0, 1) := by decide +kernel
theorem dX1_loudestOn_31 : decode cX1_loudestOn 31 = .ok (.getfield 16, 3) := by decide +kernel
theorem dX1_loudestOn_34 : decode cX1_loudestOn 34 = .ok (.getfield 71, 3) := by decide +kernel
theorem dX1_loudestOn_37 : decode cX1_loudestOn 37 = .ok (.ifCond .le 29, 3) := by decide +kernel
theorem dX1_loudestOn_40 : decode cX1_loudestOn 40 = .ok (.aload_n 0, 1) := by decide +kernel
theorem dX1_loudestOn_41 : decode cX1_loudestOn 41 = .ok (.getfield 16, 3) := by decide +kernel
theorem dX1_loudestOn_44 : decode cX1_loudestOn 44 = .ok (.invokevirtual 91, 3) := by decide +kernel
theorem dX1_loudestOn_47 : decode cX1_loudestOn 47 = .ok (.iload_n 3, 1) := by decide +kernel
theorem dX1_loudestOn_48 : decode cX1_loudestOn 48 = .ok (.aload_n 0, 1) := by decide +kernel
theorem dX1_loudestOn_49 : decode cX1_loudestOn 49 = .ok (.getfield 16, 3) := by decide +kernel
theorem dX1_loudestOn_52 : decode cX1_loudestOn 52 = .ok (.iload_n 1, 1) := by decide +kernel
theorem dX1_loudestOn_53 : decode cX1_loudestOn 53 = .ok (.invokevirtual 100, 3) := by decide +kernel
theorem dX1_loudestOn_56 : decode cX1_loudestOn 56 = .ok (.invokestatic 134, 3) := by decide +kernel
theorem dX1_loudestOn_59 : decode cX1_loudestOn 59 = .ok (.istore_n 3, 1) := by decide +kernel
theorem dX1_loudestOn_60 : decode cX1_loudestOn 60 = .ok (.iinc 4 1, 3) := by decide +kernel
theorem dX1_loudestOn_63 : decode cX1_loudestOn 63 = .ok (.goto (-39), 3) := by decide +kernel
theorem dX1_loudestOn_66 : decode cX1_loudestOn 66 = .ok (.iload_n 3, 1) := by decide +kernel
theorem dX1_loudestOn_67 : decode cX1_loudestOn 67 = .ok (.ireturn, 1) := by decide +kernel
theorem dX1_loudnessWanted_0 : decode cX1_loudnessWanted 0 = .ok (.iload_n 1, 1) := by decide +kernel
theorem dX1_loudnessWanted_1 : decode cX1_loudnessWanted 1 = .ok (.invokestatic 19, 3) := by decide +kernel
theorem dX1_loudnessWanted_4 : decode cX1_loudnessWanted 4 = .ok (.iload_n 3, 1) := by decide +kernel
theorem dX1_loudnessWanted_5 : decode cX1_loudnessWanted 5 = .ok (.invokestatic 19, 3) := by decide +kernel
theorem dX1_loudnessWanted_8 : decode cX1_loudnessWanted 8 = .ok (.aload_n 0, 1) := by decide +kernel
theorem dX1_loudnessWanted_9 : decode cX1_loudnessWanted 9 = .ok (.getfield 16, 3) := by decide +kernel
theorem dX1_loudnessWanted_12 : decode cX1_loudnessWanted 12 = .ok (.aload_n 0, 1) := by decide +kernel
theorem dX1_loudnessWanted_13 : decode cX1_loudnessWanted 13 = .ok (.getfield 10, 3) := by decide +kernel
theorem dX1_loudnessWanted_16 : decode cX1_loudnessWanted 16 = .ok (.invokevirtual 130, 3) := by decide +kernel
theorem dX1_loudnessWanted_19 : decode cX1_loudnessWanted 19 = .ok (.aload_n 0, 1) := by decide +kernel
theorem dX1_loudnessWanted_20 : decode cX1_loudnessWanted 20 = .ok (.getfield 16, 3) := by decide +kernel
theorem dX1_loudnessWanted_23 : decode cX1_loudnessWanted 23 = .ok (.iload_n 1, 1) := by decide +kernel
theorem dX1_loudnessWanted_24 : decode cX1_loudnessWanted 24 = .ok (.iload_n 2, 1) := by decide +kernel
theorem dX1_loudnessWanted_25 : decode cX1_loudnessWanted 25 = .ok (.bipush 99, 2) := by decide +kernel
theorem dX1_loudnessWanted_27 : decode cX1_loudnessWanted 27 = .ok (.invokevirtual 140, 3) := by decide +kernel
theorem dX1_loudnessWanted_30 : decode cX1_loudnessWanted 30 = .ok (.iconst 0, 1) := by decide +kernel
theorem dX1_loudnessWanted_31 : decode cX1_loudnessWanted 31 = .ok (.istore 4, 2) := by decide +kernel
theorem dX1_loudnessWanted_33 : decode cX1_loudnessWanted 33 = .ok (.iload 4, 2) := by decide +kernel
theorem dX1_loudnessWanted_35 : decode cX1_loudnessWanted 35 = .ok (.bipush 99, 2) := by decide +kernel
theorem dX1_loudnessWanted_37 : decode cX1_loudnessWanted 37 = .ok (.if_icmp .ge 57, 3) := by decide +kernel
theorem dX1_loudnessWanted_40 : decode cX1_loudnessWanted 40 = .ok (.aload_n 0, 1) := by decide +kernel
theorem dX1_loudnessWanted_41 : decode cX1_loudnessWanted 41 = .ok (.getfield 16, 3) := by decide +kernel
theorem dX1_loudnessWanted_44 : decode cX1_loudnessWanted 44 = .ok (.getfield 118, 3) := by decide +kernel
theorem dX1_loudnessWanted_47 : decode cX1_loudnessWanted 47 = .ok (.iconst 0, 1) := by decide +kernel
theorem dX1_loudnessWanted_48 : decode cX1_loudnessWanted 48 = .ok (.iaload, 1) := by decide +kernel
theorem dX1_loudnessWanted_49 : decode cX1_loudnessWanted 49 = .ok (.ifCond .le 45, 3) := by decide +kernel
theorem dX1_loudnessWanted_52 : decode cX1_loudnessWanted 52 = .ok (.aload_n 0, 1) := by decide +kernel
theorem dX1_loudnessWanted_53 : decode cX1_loudnessWanted 53 = .ok (.getfield 16, 3) := by decide +kernel
theorem dX1_loudnessWanted_56 : decode cX1_loudnessWanted 56 = .ok (.iconst 0, 1) := by decide +kernel
theorem dX1_loudnessWanted_57 : decode cX1_loudnessWanted 57 = .ok (.invokevirtual 144, 3) := by decide +kernel
theorem dX1_loudnessWanted_60 : decode cX1_loudnessWanted 60 = .ok (.aload_n 0, 1) := by decide +kernel
theorem dX1_loudnessWanted_61 : decode cX1_loudnessWanted 61 = .ok (.getfield 16, 3) := by decide +kernel
theorem dX1_loudnessWanted_64 : decode cX1_loudnessWanted 64 = .ok (.getfield 121, 3) := by decide +kernel
theorem dX1_loudnessWanted_67 : decode cX1_loudnessWanted 67 = .ok (.iconst 0, 1) := by decide +kernel
theorem dX1_loudnessWanted_68 : decode cX1_loudnessWanted 68 = .ok (.iaload, 1) := by decide +kernel
theorem dX1_loudnessWanted_69 : decode cX1_loudnessWanted 69 = .ok (.iload_n 3, 1) := by decide +kernel
theorem dX1_loudnessWanted_70 : decode cX1_loudnessWanted 70 = .ok (.if_icmp .ne 18, 3) := by decide +kernel
theorem dX1_loudnessWanted_73 : decode cX1_loudnessWanted 73 = .ok (.bipush 99, 2) := by decide +kernel
theorem dX1_loudnessWanted_75 : decode cX1_loudnessWanted 75 = .ok (.aload_n 0, 1) := by decide +kernel
theorem dX1_loudnessWanted_76 : decode cX1_loudnessWanted 76 = .ok (.getfield 16, 3) := by decide +kernel
theorem dX1_loudnessWanted_79 : decode cX1_loudnessWanted 79 = .ok (.getfield 118, 3) := by decide +kernel
theorem dX1_loudnessWanted_82 : decode cX1_loudnessWanted 82 = .ok (.iconst 0, 1) := by decide +kernel
theorem dX1_loudnessWanted_83 : decode cX1_loudnessWanted 83 = .ok (.iaload, 1) := by decide +kernel
theorem dX1_loudnessWanted_84 : decode cX1_loudnessWanted 84 = .ok (.isub, 1) := by decide +kernel
theorem dX1_loudnessWanted_85 : decode cX1_loudnessWanted 85 = .ok (.iconst 1, 1) := by decide +kernel
theorem dX1_loudnessWanted_86 : decode cX1_loudnessWanted 86 = .ok (.iadd, 1) := by decide +kernel
theorem dX1_loudnessWanted_87 : decode cX1_loudnessWanted 87 = .ok (.ireturn, 1) := by decide +kernel
theorem dX1_loudnessWanted_88 : decode cX1_loudnessWanted 88 = .ok (.iinc 4 1, 3) := by decide +kernel
theorem dX1_loudnessWanted_91 : decode cX1_loudnessWanted 91 = .ok (.goto (-58), 3) := by decide +kernel
theorem dX1_loudnessWanted_94 : decode cX1_loudnessWanted 94 = .ok (.iconst (-1), 1) := by decide +kernel
theorem dX1_loudnessWanted_95 : decode cX1_loudnessWanted 95 = .ok (.ireturn, 1) := by decide +kernel
theorem dX1_bestStone_0 : decode cX1_bestStone 0 = .ok (.iload_n 1, 1) := by decide +kernel
theorem dX1_bestStone_1 : decode cX1_bestStone 1 = .ok (.invokestatic 65, 3) := by decide +kernel
theorem dX1_bestStone_4 : decode cX1_bestStone 4 = .ok (.aload_n 0, 1) := by decide +kernel
theorem dX1_bestStone_5 : decode cX1_bestStone 5 = .ok (.getfield 16, 3) := by decide +kernel
theorem dX1_bestStone_8 : decode cX1_bestStone 8 = .ok (.aload_n 0, 1) := by decide +kernel
theorem dX1_bestStone_9 : decode cX1_bestStone 9 = .ok (.getfield 10, 3) := by decide +kernel
theorem dX1_bestStone_12 : decode cX1_bestStone 12 = .ok (.invokevirtual 130, 3) := by decide +kernel
theorem dX1_bestStone_15 : decode cX1_bestStone 15 = .ok (.iconst 0, 1) := by decide +kernel
theorem dX1_bestStone_16 : decode cX1_bestStone 16 = .ok (.istore_n 2, 1) := by decide +kernel
theorem dX1_bestStone_17 : decode cX1_bestStone 17 = .ok (.iconst 0, 1) := by decide +kernel
theorem dX1_bestStone_18 : decode cX1_bestStone 18 = .ok (.istore_n 3, 1) := by decide +kernel
theorem dX1_bestStone_19 : decode cX1_bestStone 19 = .ok (.iconst 0, 1) := by decide +kernel
theorem dX1_bestStone_20 : decode cX1_bestStone 20 = .ok (.istore 4, 2) := by decide +kernel
theorem dX1_bestStone_22 : decode cX1_bestStone 22 = .ok (.iload 4, 2) := by decide +kernel
theorem dX1_bestStone_24 : decode cX1_bestStone 24 = .ok (.bipush 32, 2) := by decide +kernel
theorem dX1_bestStone_26 : decode cX1_bestStone 26 = .ok (.if_icmp .ge 30, 3) := by decide +kernel
theorem dX1_bestStone_29 : decode cX1_bestStone 29 = .ok (.aload_n 0, 1) := by decide +kernel
theorem dX1_bestStone_30 : decode cX1_bestStone 30 = .ok (.iload 4, 2) := by decide +kernel
theorem dX1_bestStone_32 : decode cX1_bestStone 32 = .ok (.iload_n 1, 1) := by decide +kernel
theorem dX1_bestStone_33 : decode cX1_bestStone 33 = .ok (.invokevirtual 147, 3) := by decide +kernel
theorem dX1_bestStone_36 : decode cX1_bestStone 36 = .ok (.istore 5, 2) := by decide +kernel
theorem dX1_bestStone_38 : decode cX1_bestStone 38 = .ok (.iload 5, 2) := by decide +kernel
theorem dX1_bestStone_40 : decode cX1_bestStone 40 = .ok (.iload_n 3, 1) := by decide +kernel
theorem dX1_bestStone_41 : decode cX1_bestStone 41 = .ok (.if_icmp .le 9, 3) := by decide +kernel
theorem dX1_bestStone_44 : decode cX1_bestStone 44 = .ok (.iload 5, 2) := by decide +kernel
theorem dX1_bestStone_46 : decode cX1_bestStone 46 = .ok (.istore_n 3, 1) := by decide +kernel
theorem dX1_bestStone_47 : decode cX1_bestStone 47 = .ok (.iload 4, 2) := by decide +kernel
theorem dX1_bestStone_49 : decode cX1_bestStone 49 = .ok (.istore_n 2, 1) := by decide +kernel
theorem dX1_bestStone_50 : decode cX1_bestStone 50 = .ok (.iinc 4 1, 3) := by decide +kernel
theorem dX1_bestStone_53 : decode cX1_bestStone 53 = .ok (.goto (-31), 3) := by decide +kernel
theorem dX1_bestStone_56 : decode cX1_bestStone 56 = .ok (.iload_n 2, 1) := by decide +kernel
theorem dX1_bestStone_57 : decode cX1_bestStone 57 = .ok (.ireturn, 1) := by decide +kernel
theorem dX1_meanLoudness_0 : decode cX1_meanLoudness 0 = .ok (.iconst 0, 1) := by decide +kernel
theorem dX1_meanLoudness_1 : decode cX1_meanLoudness 1 = .ok (.istore_n 1, 1) := by decide +kernel
theorem dX1_meanLoudness_2 : decode cX1_meanLoudness 2 = .ok (.iconst 0, 1) := by decide +kernel
theorem dX1_meanLoudness_3 : decode cX1_meanLoudness 3 = .ok (.istore_n 2, 1) := by decide +kernel
theorem dX1_meanLoudness_4 : decode cX1_meanLoudness 4 = .ok (.iload_n 2, 1) := by decide +kernel
theorem dX1_meanLoudness_5 : decode cX1_meanLoudness 5 = .ok (.aload_n 0, 1) := by decide +kernel
theorem dX1_meanLoudness_6 : decode cX1_meanLoudness 6 = .ok (.getfield 10, 3) := by decide +kernel
theorem dX1_meanLoudness_9 : decode cX1_meanLoudness 9 = .ok (.getfield 68, 3) := by decide +kernel
theorem dX1_meanLoudness_12 : decode cX1_meanLoudness 12 = .ok (.if_icmp .ge 21, 3) := by decide +kernel
theorem dX1_meanLoudness_15 : decode cX1_meanLoudness 15 = .ok (.iload_n 1, 1) := by decide +kernel
theorem dX1_meanLoudness_16 : decode cX1_meanLoudness 16 = .ok (.aload_n 0, 1) := by decide +kernel
theorem dX1_meanLoudness_17 : decode cX1_meanLoudness 17 = .ok (.getfield 10, 3) := by decide +kernel
theorem dX1_meanLoudness_20 : decode cX1_meanLoudness 20 = .ok (.getfield 118, 3) := by decide +kernel
theorem dX1_meanLoudness_23 : decode cX1_meanLoudness 23 = .ok (.iload_n 2, 1) := by decide +kernel
theorem dX1_meanLoudness_24 : decode cX1_meanLoudness 24 = .ok (.iaload, 1) := by decide +kernel
theorem dX1_meanLoudness_25 : decode cX1_meanLoudness 25 = .ok (.iadd, 1) := by decide +kernel
theorem dX1_meanLoudness_26 : decode cX1_meanLoudness 26 = .ok (.istore_n 1, 1) := by decide +kernel
theorem dX1_meanLoudness_27 : decode cX1_meanLoudness 27 = .ok (.iinc 2 1, 3) := by decide +kernel
theorem dX1_meanLoudness_30 : decode cX1_meanLoudness 30 = .ok (.goto (-26), 3) := by decide +kernel
theorem dX1_meanLoudness_33 : decode cX1_meanLoudness 33 = .ok (.aload_n 0, 1) := by decide +kernel
theorem dX1_meanLoudness_34 : decode cX1_meanLoudness 34 = .ok (.getfield 10, 3) := by decide +kernel
theorem dX1_meanLoudness_37 : decode cX1_meanLoudness 37 = .ok (.getfield 71, 3) := by decide +kernel
theorem dX1_meanLoudness_40 : decode cX1_meanLoudness 40 = .ok (.ifCond .ne 7, 3) := by decide +kernel
theorem dX1_meanLoudness_43 : decode cX1_meanLoudness 43 = .ok (.dconst 0, 1) := by decide +kernel
theorem dX1_meanLoudness_44 : decode cX1_meanLoudness 44 = .ok (.goto 14, 3) := by decide +kernel
theorem dX1_meanLoudness_47 : decode cX1_meanLoudness 47 = .ok (.iload_n 1, 1) := by decide +kernel
theorem dX1_meanLoudness_48 : decode cX1_meanLoudness 48 = .ok (.i2d, 1) := by decide +kernel
theorem dX1_meanLoudness_49 : decode cX1_meanLoudness 49 = .ok (.aload_n 0, 1) := by decide +kernel
theorem dX1_meanLoudness_50 : decode cX1_meanLoudness 50 = .ok (.getfield 10, 3) := by decide +kernel
theorem dX1_meanLoudness_53 : decode cX1_meanLoudness 53 = .ok (.getfield 71, 3) := by decide +kernel
theorem dX1_meanLoudness_56 : decode cX1_meanLoudness 56 = .ok (.i2d, 1) := by decide +kernel
theorem dX1_meanLoudness_57 : decode cX1_meanLoudness 57 = .ok (.ddiv, 1) := by decide +kernel
theorem dX1_meanLoudness_58 : decode cX1_meanLoudness 58 = .ok (.dreturn, 1) := by decide +kernel
theorem dX1_digest_0 : decode cX1_digest 0 = .ok (.aload_n 0, 1) := by decide +kernel
theorem dX1_digest_1 : decode cX1_digest 1 = .ok (.ldc2_w 150, 3) := by decide +kernel
theorem dX1_digest_4 : decode cX1_digest 4 = .ok (.invokevirtual 152, 3) := by decide +kernel
theorem dX1_digest_7 : decode cX1_digest 7 = .ok (.lstore_n 1, 1) := by decide +kernel
theorem dX1_digest_8 : decode cX1_digest 8 = .ok (.aload_n 0, 1) := by decide +kernel
theorem dX1_digest_9 : decode cX1_digest 9 = .ok (.lload_n 1, 1) := by decide +kernel
theorem dX1_digest_10 : decode cX1_digest 10 = .ok (.invokevirtual 156, 3) := by decide +kernel
theorem dX1_digest_13 : decode cX1_digest 13 = .ok (.lstore_n 1, 1) := by decide +kernel
theorem dX1_digest_14 : decode cX1_digest 14 = .ok (.aload_n 0, 1) := by decide +kernel
theorem dX1_digest_15 : decode cX1_digest 15 = .ok (.lload_n 1, 1) := by decide +kernel
theorem dX1_digest_16 : decode cX1_digest 16 = .ok (.invokevirtual 159, 3) := by decide +kernel
theorem dX1_digest_19 : decode cX1_digest 19 = .ok (.lstore_n 1, 1) := by decide +kernel
theorem dX1_digest_20 : decode cX1_digest 20 = .ok (.aload_n 0, 1) := by decide +kernel
theorem dX1_digest_21 : decode cX1_digest 21 = .ok (.lload_n 1, 1) := by decide +kernel
theorem dX1_digest_22 : decode cX1_digest 22 = .ok (.invokevirtual 162, 3) := by decide +kernel
theorem dX1_digest_25 : decode cX1_digest 25 = .ok (.lstore_n 1, 1) := by decide +kernel
theorem dX1_digest_26 : decode cX1_digest 26 = .ok (.aload_n 0, 1) := by decide +kernel
theorem dX1_digest_27 : decode cX1_digest 27 = .ok (.lload_n 1, 1) := by decide +kernel
theorem dX1_digest_28 : decode cX1_digest 28 = .ok (.invokevirtual 165, 3) := by decide +kernel
theorem dX1_digest_31 : decode cX1_digest 31 = .ok (.lreturn, 1) := by decide +kernel
theorem dX1_digestCounts_0 : decode cX1_digestCounts 0 = .ok (.lload_n 1, 1) := by decide +kernel
theorem dX1_digestCounts_1 : decode cX1_digestCounts 1 = .ok (.aload_n 0, 1) := by decide +kernel
theorem dX1_digestCounts_2 : decode cX1_digestCounts 2 = .ok (.invokevirtual 168, 3) := by decide +kernel
theorem dX1_digestCounts_5 : decode cX1_digestCounts 5 = .ok (.invokestatic 172, 3) := by decide +kernel
theorem dX1_digestCounts_8 : decode cX1_digestCounts 8 = .ok (.lstore_n 3, 1) := by decide +kernel
theorem dX1_digestCounts_9 : decode cX1_digestCounts 9 = .ok (.lload_n 3, 1) := by decide +kernel
theorem dX1_digestCounts_10 : decode cX1_digestCounts 10 = .ok (.aload_n 0, 1) := by decide +kernel
theorem dX1_digestCounts_11 : decode cX1_digestCounts 11 = .ok (.invokevirtual 176, 3) := by decide +kernel
theorem dX1_digestCounts_14 : decode cX1_digestCounts 14 = .ok (.invokestatic 172, 3) := by decide +kernel
theorem dX1_digestCounts_17 : decode cX1_digestCounts 17 = .ok (.lstore_n 3, 1) := by decide +kernel
theorem dX1_digestCounts_18 : decode cX1_digestCounts 18 = .ok (.lload_n 3, 1) := by decide +kernel
theorem dX1_digestCounts_19 : decode cX1_digestCounts 19 = .ok (.aload_n 0, 1) := by decide +kernel
theorem dX1_digestCounts_20 : decode cX1_digestCounts 20 = .ok (.invokevirtual 179, 3) := by decide +kernel
theorem dX1_digestCounts_23 : decode cX1_digestCounts 23 = .ok (.invokestatic 172, 3) := by decide +kernel
theorem dX1_digestCounts_26 : decode cX1_digestCounts 26 = .ok (.lstore_n 3, 1) := by decide +kernel
theorem dX1_digestCounts_27 : decode cX1_digestCounts 27 = .ok (.lload_n 3, 1) := by decide +kernel
theorem dX1_digestCounts_28 : decode cX1_digestCounts 28 = .ok (.aload_n 0, 1) := by decide +kernel
theorem dX1_digestCounts_29 : decode cX1_digestCounts 29 = .ok (.invokevirtual 182, 3) := by decide +kernel
theorem dX1_digestCounts_32 : decode cX1_digestCounts 32 = .ok (.invokestatic 172, 3) := by decide +kernel
theorem dX1_digestCounts_35 : decode cX1_digestCounts 35 = .ok (.lstore_n 3, 1) := by decide +kernel
theorem dX1_digestCounts_36 : decode cX1_digestCounts 36 = .ok (.lload_n 3, 1) := by decide +kernel
theorem dX1_digestCounts_37 : decode cX1_digestCounts 37 = .ok (.aload_n 0, 1) := by decide +kernel
theorem dX1_digestCounts_38 : decode cX1_digestCounts 38 = .ok (.invokevirtual 185, 3) := by decide +kernel
theorem dX1_digestCounts_41 : decode cX1_digestCounts 41 = .ok (.invokestatic 172, 3) := by decide +kernel
theorem dX1_digestCounts_44 : decode cX1_digestCounts 44 = .ok (.lstore_n 3, 1) := by decide +kernel
theorem dX1_digestCounts_45 : decode cX1_digestCounts 45 = .ok (.lload_n 3, 1) := by decide +kernel
theorem dX1_digestCounts_46 : decode cX1_digestCounts 46 = .ok (.aload_n 0, 1) := by decide +kernel
theorem dX1_digestCounts_47 : decode cX1_digestCounts 47 = .ok (.invokevirtual 188, 3) := by decide +kernel
theorem dX1_digestCounts_50 : decode cX1_digestCounts 50 = .ok (.invokestatic 172, 3) := by decide +kernel
theorem dX1_digestCounts_53 : decode cX1_digestCounts 53 = .ok (.lstore_n 3, 1) := by decide +kernel
theorem dX1_digestCounts_54 : decode cX1_digestCounts 54 = .ok (.lload_n 3, 1) := by decide +kernel
theorem dX1_digestCounts_55 : decode cX1_digestCounts 55 = .ok (.aload_n 0, 1) := by decide +kernel
theorem dX1_digestCounts_56 : decode cX1_digestCounts 56 = .ok (.invokevirtual 191, 3) := by decide +kernel
theorem dX1_digestCounts_59 : decode cX1_digestCounts 59 = .ok (.invokestatic 172, 3) := by decide +kernel
theorem dX1_digestCounts_62 : decode cX1_digestCounts 62 = .ok (.lstore_n 3, 1) := by decide +kernel
theorem dX1_digestCounts_63 : decode cX1_digestCounts 63 = .ok (.lload_n 3, 1) := by decide +kernel
theorem dX1_digestCounts_64 : decode cX1_digestCounts 64 = .ok (.aload_n 0, 1) := by decide +kernel
theorem dX1_digestCounts_65 : decode cX1_digestCounts 65 = .ok (.bipush 30, 2) := by decide +kernel
theorem dX1_digestCounts_67 : decode cX1_digestCounts 67 = .ok (.invokevirtual 194, 3) := by decide +kernel
theorem dX1_digestCounts_70 : decode cX1_digestCounts 70 = .ok (.invokestatic 172, 3) := by decide +kernel
theorem dX1_digestCounts_73 : decode cX1_digestCounts 73 = .ok (.lreturn, 1) := by decide +kernel
theorem dX1_digestEchoes_0 : decode cX1_digestEchoes 0 = .ok (.lload_n 1, 1) := by decide +kernel
theorem dX1_digestEchoes_1 : decode cX1_digestEchoes 1 = .ok (.lstore_n 3, 1) := by decide +kernel
theorem dX1_digestEchoes_2 : decode cX1_digestEchoes 2 = .ok (.iconst 0, 1) := by decide +kernel
theorem dX1_digestEchoes_3 : decode cX1_digestEchoes 3 = .ok (.istore 5, 2) := by decide +kernel
theorem dX1_digestEchoes_5 : decode cX1_digestEchoes 5 = .ok (.iload 5, 2) := by decide +kernel
theorem dX1_digestEchoes_7 : decode cX1_digestEchoes 7 = .ok (.iconst 2, 1) := by decide +kernel
theorem dX1_digestEchoes_8 : decode cX1_digestEchoes 8 = .ok (.if_icmp .ge 55, 3) := by decide +kernel
theorem dX1_digestEchoes_11 : decode cX1_digestEchoes 11 = .ok (.lload_n 3, 1) := by decide +kernel
theorem dX1_digestEchoes_12 : decode cX1_digestEchoes 12 = .ok (.aload_n 0, 1) := by decide +kernel
theorem dX1_digestEchoes_13 : decode cX1_digestEchoes 13 = .ok (.iload 5, 2) := by decide +kernel
theorem dX1_digestEchoes_15 : decode cX1_digestEchoes 15 = .ok (.invokevirtual 197, 3) := by decide +kernel
theorem dX1_digestEchoes_18 : decode cX1_digestEchoes 18 = .ok (.invokestatic 172, 3) := by decide +kernel
theorem dX1_digestEchoes_21 : decode cX1_digestEchoes 21 = .ok (.lstore_n 3, 1) := by decide +kernel
theorem dX1_digestEchoes_22 : decode cX1_digestEchoes 22 = .ok (.lload_n 3, 1) := by decide +kernel
theorem dX1_digestEchoes_23 : decode cX1_digestEchoes 23 = .ok (.aload_n 0, 1) := by decide +kernel
theorem dX1_digestEchoes_24 : decode cX1_digestEchoes 24 = .ok (.iload 5, 2) := by decide +kernel
theorem dX1_digestEchoes_26 : decode cX1_digestEchoes 26 = .ok (.invokevirtual 200, 3) := by decide +kernel
theorem dX1_digestEchoes_29 : decode cX1_digestEchoes 29 = .ok (.invokestatic 172, 3) := by decide +kernel
theorem dX1_digestEchoes_32 : decode cX1_digestEchoes 32 = .ok (.lstore_n 3, 1) := by decide +kernel
theorem dX1_digestEchoes_33 : decode cX1_digestEchoes 33 = .ok (.lload_n 3, 1) := by decide +kernel
theorem dX1_digestEchoes_34 : decode cX1_digestEchoes 34 = .ok (.aload_n 0, 1) := by decide +kernel
theorem dX1_digestEchoes_35 : decode cX1_digestEchoes 35 = .ok (.iload 5, 2) := by decide +kernel
theorem dX1_digestEchoes_37 : decode cX1_digestEchoes 37 = .ok (.invokevirtual 203, 3) := by decide +kernel
theorem dX1_digestEchoes_40 : decode cX1_digestEchoes 40 = .ok (.invokestatic 172, 3) := by decide +kernel
theorem dX1_digestEchoes_43 : decode cX1_digestEchoes 43 = .ok (.lstore_n 3, 1) := by decide +kernel
theorem dX1_digestEchoes_44 : decode cX1_digestEchoes 44 = .ok (.lload_n 3, 1) := by decide +kernel
theorem dX1_digestEchoes_45 : decode cX1_digestEchoes 45 = .ok (.aload_n 0, 1) := by decide +kernel
theorem dX1_digestEchoes_46 : decode cX1_digestEchoes 46 = .ok (.iload 5, 2) := by decide +kernel
theorem dX1_digestEchoes_48 : decode cX1_digestEchoes 48 = .ok (.bipush 20, 2) := by decide +kernel
theorem dX1_digestEchoes_50 : decode cX1_digestEchoes 50 = .ok (.invokevirtual 206, 3) := by decide +kernel
theorem dX1_digestEchoes_53 : decode cX1_digestEchoes 53 = .ok (.invokestatic 172, 3) := by decide +kernel
theorem dX1_digestEchoes_56 : decode cX1_digestEchoes 56 = .ok (.lstore_n 3, 1) := by decide +kernel
theorem dX1_digestEchoes_57 : decode cX1_digestEchoes 57 = .ok (.iinc 5 1, 3) := by decide +kernel
theorem dX1_digestEchoes_60 : decode cX1_digestEchoes 60 = .ok (.goto (-55), 3) := by decide +kernel
theorem dX1_digestEchoes_63 : decode cX1_digestEchoes 63 = .ok (.lload_n 3, 1) := by decide +kernel
theorem dX1_digestEchoes_64 : decode cX1_digestEchoes 64 = .ok (.lreturn, 1) := by decide +kernel
theorem dX1_digestWalls_0 : decode cX1_digestWalls 0 = .ok (.lload_n 1, 1) := by decide +kernel
theorem dX1_digestWalls_1 : decode cX1_digestWalls 1 = .ok (.lstore_n 3, 1) := by decide +kernel
theorem dX1_digestWalls_2 : decode cX1_digestWalls 2 = .ok (.iconst 0, 1) := by decide +kernel
theorem dX1_digestWalls_3 : decode cX1_digestWalls 3 = .ok (.istore 5, 2) := by decide +kernel
theorem dX1_digestWalls_5 : decode cX1_digestWalls 5 = .ok (.iload 5, 2) := by decide +kernel
theorem dX1_digestWalls_7 : decode cX1_digestWalls 7 = .ok (.aload_n 0, 1) := by decide +kernel
theorem dX1_digestWalls_8 : decode cX1_digestWalls 8 = .ok (.getfield 10, 3) := by decide +kernel
theorem dX1_digestWalls_11 : decode cX1_digestWalls 11 = .ok (.getfield 33, 3) := by decide +kernel
theorem dX1_digestWalls_14 : decode cX1_digestWalls 14 = .ok (.if_icmp .ge 42, 3) := by decide +kernel
theorem dX1_digestWalls_17 : decode cX1_digestWalls 17 = .ok (.lload_n 3, 1) := by decide +kernel
theorem dX1_digestWalls_18 : decode cX1_digestWalls 18 = .ok (.aload_n 0, 1) := by decide +kernel
theorem dX1_digestWalls_19 : decode cX1_digestWalls 19 = .ok (.iload 5, 2) := by decide +kernel
theorem dX1_digestWalls_21 : decode cX1_digestWalls 21 = .ok (.invokevirtual 209, 3) := by decide +kernel
theorem dX1_digestWalls_24 : decode cX1_digestWalls 24 = .ok (.invokestatic 172, 3) := by decide +kernel
theorem dX1_digestWalls_27 : decode cX1_digestWalls 27 = .ok (.lstore_n 3, 1) := by decide +kernel
theorem dX1_digestWalls_28 : decode cX1_digestWalls 28 = .ok (.lload_n 3, 1) := by decide +kernel
theorem dX1_digestWalls_29 : decode cX1_digestWalls 29 = .ok (.aload_n 0, 1) := by decide +kernel
theorem dX1_digestWalls_30 : decode cX1_digestWalls 30 = .ok (.iload 5, 2) := by decide +kernel
theorem dX1_digestWalls_32 : decode cX1_digestWalls 32 = .ok (.invokevirtual 212, 3) := by decide +kernel
theorem dX1_digestWalls_35 : decode cX1_digestWalls 35 = .ok (.invokestatic 172, 3) := by decide +kernel
theorem dX1_digestWalls_38 : decode cX1_digestWalls 38 = .ok (.lstore_n 3, 1) := by decide +kernel
theorem dX1_digestWalls_39 : decode cX1_digestWalls 39 = .ok (.lload_n 3, 1) := by decide +kernel
theorem dX1_digestWalls_40 : decode cX1_digestWalls 40 = .ok (.aload_n 0, 1) := by decide +kernel
theorem dX1_digestWalls_41 : decode cX1_digestWalls 41 = .ok (.iload 5, 2) := by decide +kernel
theorem dX1_digestWalls_43 : decode cX1_digestWalls 43 = .ok (.invokevirtual 215, 3) := by decide +kernel
theorem dX1_digestWalls_46 : decode cX1_digestWalls 46 = .ok (.invokestatic 172, 3) := by decide +kernel
theorem dX1_digestWalls_49 : decode cX1_digestWalls 49 = .ok (.lstore_n 3, 1) := by decide +kernel
theorem dX1_digestWalls_50 : decode cX1_digestWalls 50 = .ok (.iinc 5 1, 3) := by decide +kernel
theorem dX1_digestWalls_53 : decode cX1_digestWalls 53 = .ok (.goto (-48), 3) := by decide +kernel
theorem dX1_digestWalls_56 : decode cX1_digestWalls 56 = .ok (.lload_n 3, 1) := by decide +kernel
theorem dX1_digestWalls_57 : decode cX1_digestWalls 57 = .ok (.lreturn, 1) := by decide +kernel
theorem dX1_digestShouts_0 : decode cX1_digestShouts 0 = .ok (.lload_n 1, 1) := by decide +kernel
theorem dX1_digestShouts_1 : decode cX1_digestShouts 1 = .ok (.lstore_n 3, 1) := by decide +kernel
theorem dX1_digestShouts_2 : decode cX1_digestShouts 2 = .ok (.iconst 0, 1) := by decide +kernel
theorem dX1_digestShouts_3 : decode cX1_digestShouts 3 = .ok (.istore 5, 2) := by decide +kernel
theorem dX1_digestShouts_5 : decode cX1_digestShouts 5 = .ok (.iload 5, 2) := by decide +kernel
theorem dX1_digestShouts_7 : decode cX1_digestShouts 7 = .ok (.aload_n 0, 1) := by decide +kernel
theorem dX1_digestShouts_8 : decode cX1_digestShouts 8 = .ok (.getfield 10, 3) := by decide +kernel
theorem dX1_digestShouts_11 : decode cX1_digestShouts 11 = .ok (.getfield 68, 3) := by decide +kernel
theorem dX1_digestShouts_14 : decode cX1_digestShouts 14 = .ok (.if_icmp .ge 61, 3) := by decide +kernel
theorem dX1_digestShouts_17 : decode cX1_digestShouts 17 = .ok (.lload_n 3, 1) := by decide +kernel
theorem dX1_digestShouts_18 : decode cX1_digestShouts 18 = .ok (.aload_n 0, 1) := by decide +kernel
theorem dX1_digestShouts_19 : decode cX1_digestShouts 19 = .ok (.iload 5, 2) := by decide +kernel
theorem dX1_digestShouts_21 : decode cX1_digestShouts 21 = .ok (.invokevirtual 218, 3) := by decide +kernel
theorem dX1_digestShouts_24 : decode cX1_digestShouts 24 = .ok (.invokestatic 172, 3) := by decide +kernel
theorem dX1_digestShouts_27 : decode cX1_digestShouts 27 = .ok (.lstore_n 3, 1) := by decide +kernel
theorem dX1_digestShouts_28 : decode cX1_digestShouts 28 = .ok (.lload_n 3, 1) := by decide +kernel
theorem dX1_digestShouts_29 : decode cX1_digestShouts 29 = .ok (.aload_n 0, 1) := by decide +kernel
theorem dX1_digestShouts_30 : decode cX1_digestShouts 30 = .ok (.iload 5, 2) := by decide +kernel
theorem dX1_digestShouts_32 : decode cX1_digestShouts 32 = .ok (.invokevirtual 221, 3) := by decide +kernel
theorem dX1_digestShouts_35 : decode cX1_digestShouts 35 = .ok (.invokestatic 172, 3) := by decide +kernel
theorem dX1_digestShouts_38 : decode cX1_digestShouts 38 = .ok (.lstore_n 3, 1) := by decide +kernel
theorem dX1_digestShouts_39 : decode cX1_digestShouts 39 = .ok (.lload_n 3, 1) := by decide +kernel
theorem dX1_digestShouts_40 : decode cX1_digestShouts 40 = .ok (.aload_n 0, 1) := by decide +kernel
theorem dX1_digestShouts_41 : decode cX1_digestShouts 41 = .ok (.iload 5, 2) := by decide +kernel
theorem dX1_digestShouts_43 : decode cX1_digestShouts 43 = .ok (.invokevirtual 224, 3) := by decide +kernel
theorem dX1_digestShouts_46 : decode cX1_digestShouts 46 = .ok (.ifCond .eq 7, 3) := by decide +kernel
theorem dX1_digestShouts_49 : decode cX1_digestShouts 49 = .ok (.iconst 1, 1) := by decide +kernel
theorem dX1_digestShouts_50 : decode cX1_digestShouts 50 = .ok (.goto 4, 3) := by decide +kernel
theorem dX1_digestShouts_53 : decode cX1_digestShouts 53 = .ok (.iconst 0, 1) := by decide +kernel
theorem dX1_digestShouts_54 : decode cX1_digestShouts 54 = .ok (.invokestatic 172, 3) := by decide +kernel
theorem dX1_digestShouts_57 : decode cX1_digestShouts 57 = .ok (.lstore_n 3, 1) := by decide +kernel
theorem dX1_digestShouts_58 : decode cX1_digestShouts 58 = .ok (.lload_n 3, 1) := by decide +kernel
theorem dX1_digestShouts_59 : decode cX1_digestShouts 59 = .ok (.aload_n 0, 1) := by decide +kernel
theorem dX1_digestShouts_60 : decode cX1_digestShouts 60 = .ok (.iload 5, 2) := by decide +kernel
theorem dX1_digestShouts_62 : decode cX1_digestShouts 62 = .ok (.invokevirtual 228, 3) := by decide +kernel
theorem dX1_digestShouts_65 : decode cX1_digestShouts 65 = .ok (.invokestatic 172, 3) := by decide +kernel
theorem dX1_digestShouts_68 : decode cX1_digestShouts 68 = .ok (.lstore_n 3, 1) := by decide +kernel
theorem dX1_digestShouts_69 : decode cX1_digestShouts 69 = .ok (.iinc 5 1, 3) := by decide +kernel
theorem dX1_digestShouts_72 : decode cX1_digestShouts 72 = .ok (.goto (-67), 3) := by decide +kernel
theorem dX1_digestShouts_75 : decode cX1_digestShouts 75 = .ok (.lload_n 3, 1) := by decide +kernel
theorem dX1_digestShouts_76 : decode cX1_digestShouts 76 = .ok (.lreturn, 1) := by decide +kernel
theorem dX1_digestStones_0 : decode cX1_digestStones 0 = .ok (.lload_n 1, 1) := by decide +kernel
theorem dX1_digestStones_1 : decode cX1_digestStones 1 = .ok (.lstore_n 3, 1) := by decide +kernel
theorem dX1_digestStones_2 : decode cX1_digestStones 2 = .ok (.iconst 0, 1) := by decide +kernel
theorem dX1_digestStones_3 : decode cX1_digestStones 3 = .ok (.istore 5, 2) := by decide +kernel
theorem dX1_digestStones_5 : decode cX1_digestStones 5 = .ok (.iload 5, 2) := by decide +kernel
theorem dX1_digestStones_7 : decode cX1_digestStones 7 = .ok (.bipush 32, 2) := by decide +kernel
theorem dX1_digestStones_9 : decode cX1_digestStones 9 = .ok (.if_icmp .ge 43, 3) := by decide +kernel
theorem dX1_digestStones_12 : decode cX1_digestStones 12 = .ok (.lload_n 3, 1) := by decide +kernel
theorem dX1_digestStones_13 : decode cX1_digestStones 13 = .ok (.aload_n 0, 1) := by decide +kernel
theorem dX1_digestStones_14 : decode cX1_digestStones 14 = .ok (.iload 5, 2) := by decide +kernel
theorem dX1_digestStones_16 : decode cX1_digestStones 16 = .ok (.invokevirtual 231, 3) := by decide +kernel
theorem dX1_digestStones_19 : decode cX1_digestStones 19 = .ok (.invokestatic 172, 3) := by decide +kernel
theorem dX1_digestStones_22 : decode cX1_digestStones 22 = .ok (.lstore_n 3, 1) := by decide +kernel
theorem dX1_digestStones_23 : decode cX1_digestStones 23 = .ok (.lload_n 3, 1) := by decide +kernel
theorem dX1_digestStones_24 : decode cX1_digestStones 24 = .ok (.aload_n 0, 1) := by decide +kernel
theorem dX1_digestStones_25 : decode cX1_digestStones 25 = .ok (.iload 5, 2) := by decide +kernel
theorem dX1_digestStones_27 : decode cX1_digestStones 27 = .ok (.invokevirtual 234, 3) := by decide +kernel
theorem dX1_digestStones_30 : decode cX1_digestStones 30 = .ok (.invokestatic 172, 3) := by decide +kernel
theorem dX1_digestStones_33 : decode cX1_digestStones 33 = .ok (.lstore_n 3, 1) := by decide +kernel
theorem dX1_digestStones_34 : decode cX1_digestStones 34 = .ok (.lload_n 3, 1) := by decide +kernel
theorem dX1_digestStones_35 : decode cX1_digestStones 35 = .ok (.aload_n 0, 1) := by decide +kernel
theorem dX1_digestStones_36 : decode cX1_digestStones 36 = .ok (.iload 5, 2) := by decide +kernel
theorem dX1_digestStones_38 : decode cX1_digestStones 38 = .ok (.iconst 1, 1) := by decide +kernel
theorem dX1_digestStones_39 : decode cX1_digestStones 39 = .ok (.invokevirtual 237, 3) := by decide +kernel
theorem dX1_digestStones_42 : decode cX1_digestStones 42 = .ok (.invokestatic 172, 3) := by decide +kernel
theorem dX1_digestStones_45 : decode cX1_digestStones 45 = .ok (.lstore_n 3, 1) := by decide +kernel
theorem dX1_digestStones_46 : decode cX1_digestStones 46 = .ok (.iinc 5 1, 3) := by decide +kernel
theorem dX1_digestStones_49 : decode cX1_digestStones 49 = .ok (.goto (-44), 3) := by decide +kernel
theorem dX1_digestStones_52 : decode cX1_digestStones 52 = .ok (.lload_n 3, 1) := by decide +kernel
theorem dX1_digestStones_53 : decode cX1_digestStones 53 = .ok (.lreturn, 1) := by decide +kernel
theorem dX1_mix_0 : decode cX1_mix 0 = .ok (.lload_n 0, 1) := by decide +kernel
theorem dX1_mix_1 : decode cX1_mix 1 = .ok (.ldc2_w 241, 3) := by decide +kernel
theorem dX1_mix_4 : decode cX1_mix 4 = .ok (.lmul, 1) := by decide +kernel
theorem dX1_mix_5 : decode cX1_mix 5 = .ok (.iload_n 2, 1) := by decide +kernel
theorem dX1_mix_6 : decode cX1_mix 6 = .ok (.i2l, 1) := by decide +kernel
theorem dX1_mix_7 : decode cX1_mix 7 = .ok (.ladd, 1) := by decide +kernel
theorem dX1_mix_8 : decode cX1_mix 8 = .ok (.lreturn, 1) := by decide +kernel
theorem dX1_turnsAlone_0 : decode cX1_turnsAlone 0 = .ok (.aload_n 0, 1) := by decide +kernel
theorem dX1_turnsAlone_1 : decode cX1_turnsAlone 1 = .ok (.getfield 16, 3) := by decide +kernel
theorem dX1_turnsAlone_4 : decode cX1_turnsAlone 4 = .ok (.iload_n 1, 1) := by decide +kernel
theorem dX1_turnsAlone_5 : decode cX1_turnsAlone 5 = .ok (.iconst 1, 1) := by decide +kernel
theorem dX1_turnsAlone_6 : decode cX1_turnsAlone 6 = .ok (.iload_n 2, 1) := by decide +kernel
theorem dX1_turnsAlone_7 : decode cX1_turnsAlone 7 = .ok (.invokevirtual 140, 3) := by decide +kernel
theorem dX1_turnsAlone_10 : decode cX1_turnsAlone 10 = .ok (.iconst 0, 1) := by decide +kernel
theorem dX1_turnsAlone_11 : decode cX1_turnsAlone 11 = .ok (.istore_n 3, 1) := by decide +kernel
theorem dX1_turnsAlone_12 : decode cX1_turnsAlone 12 = .ok (.iload_n 3, 1) := by decide +kernel
theorem dX1_turnsAlone_13 : decode cX1_turnsAlone 13 = .ok (.bipush 99, 2) := by decide +kernel
theorem dX1_turnsAlone_15 : decode cX1_turnsAlone 15 = .ok (.if_icmp .ge 29, 3) := by decide +kernel
theorem dX1_turnsAlone_18 : decode cX1_turnsAlone 18 = .ok (.aload_n 0, 1) := by decide +kernel
theorem dX1_turnsAlone_19 : decode cX1_turnsAlone 19 = .ok (.getfield 16, 3) := by decide +kernel
theorem dX1_turnsAlone_22 : decode cX1_turnsAlone 22 = .ok (.getfield 118, 3) := by decide +kernel
theorem dX1_turnsAlone_25 : decode cX1_turnsAlone 25 = .ok (.iconst 0, 1) := by decide +kernel
theorem dX1_turnsAlone_26 : decode cX1_turnsAlone 26 = .ok (.iaload, 1) := by decide +kernel
theorem dX1_turnsAlone_27 : decode cX1_turnsAlone 27 = .ok (.ifCond .le 17, 3) := by decide +kernel
theorem dX1_turnsAlone_30 : decode cX1_turnsAlone 30 = .ok (.aload_n 0, 1) := by decide +kernel
theorem dX1_turnsAlone_31 : decode cX1_turnsAlone 31 = .ok (.getfield 16, 3) := by decide +kernel
theorem dX1_turnsAlone_34 : decode cX1_turnsAlone 34 = .ok (.iconst 0, 1) := by decide +kernel
theorem dX1_turnsAlone_35 : decode cX1_turnsAlone 35 = .ok (.invokevirtual 144, 3) := by decide +kernel
theorem dX1_turnsAlone_38 : decode cX1_turnsAlone 38 = .ok (.iinc 3 1, 3) := by decide +kernel
theorem dX1_turnsAlone_41 : decode cX1_turnsAlone 41 = .ok (.goto (-29), 3) := by decide +kernel
theorem dX1_turnsAlone_44 : decode cX1_turnsAlone 44 = .ok (.aload_n 0, 1) := by decide +kernel
theorem dX1_turnsAlone_45 : decode cX1_turnsAlone 45 = .ok (.getfield 16, 3) := by decide +kernel
theorem dX1_turnsAlone_48 : decode cX1_turnsAlone 48 = .ok (.getfield 127, 3) := by decide +kernel
theorem dX1_turnsAlone_51 : decode cX1_turnsAlone 51 = .ok (.iconst 0, 1) := by decide +kernel
theorem dX1_turnsAlone_52 : decode cX1_turnsAlone 52 = .ok (.iaload, 1) := by decide +kernel
theorem dX1_turnsAlone_53 : decode cX1_turnsAlone 53 = .ok (.ireturn, 1) := by decide +kernel
theorem dX1_isStone_0 : decode cX1_isStone 0 = .ok (.iload_n 0, 1) := by decide +kernel
theorem dX1_isStone_1 : decode cX1_isStone 1 = .ok (.ifCond .lt 13, 3) := by decide +kernel
theorem dX1_isStone_4 : decode cX1_isStone 4 = .ok (.iload_n 0, 1) := by decide +kernel
theorem dX1_isStone_5 : decode cX1_isStone 5 = .ok (.bipush 32, 2) := by decide +kernel
theorem dX1_isStone_7 : decode cX1_isStone 7 = .ok (.if_icmp .ge 7, 3) := by decide +kernel
theorem dX1_isStone_10 : decode cX1_isStone 10 = .ok (.iconst 1, 1) := by decide +kernel
theorem dX1_isStone_11 : decode cX1_isStone 11 = .ok (.goto 4, 3) := by decide +kernel
theorem dX1_isStone_14 : decode cX1_isStone 14 = .ok (.iconst 0, 1) := by decide +kernel
theorem dX1_isStone_15 : decode cX1_isStone 15 = .ok (.ireturn, 1) := by decide +kernel
theorem dX1_otherEcho_0 : decode cX1_otherEcho 0 = .ok (.iload_n 0, 1) := by decide +kernel
theorem dX1_otherEcho_1 : decode cX1_otherEcho 1 = .ok (.ifCond .ne 7, 3) := by decide +kernel
theorem dX1_otherEcho_4 : decode cX1_otherEcho 4 = .ok (.iconst 1, 1) := by decide +kernel
theorem dX1_otherEcho_5 : decode cX1_otherEcho 5 = .ok (.goto 4, 3) := by decide +kernel
theorem dX1_otherEcho_8 : decode cX1_otherEcho 8 = .ok (.iconst 0, 1) := by decide +kernel
theorem dX1_otherEcho_9 : decode cX1_otherEcho 9 = .ok (.ireturn, 1) := by decide +kernel
theorem dX1_needStone_0 : decode cX1_needStone 0 = .ok (.iload_n 0, 1) := by decide +kernel
theorem dX1_needStone_1 : decode cX1_needStone 1 = .ok (.invokestatic 243, 3) := by decide +kernel
theorem dX1_needStone_4 : decode cX1_needStone 4 = .ok (.ifCond .ne 13, 3) := by decide +kernel
theorem dX1_needStone_7 : decode cX1_needStone 7 = .ok (.new 246, 3) := by decide +kernel
theorem dX1_needStone_10 : decode cX1_needStone 10 = .ok (.dup, 1) := by decide +kernel
theorem dX1_needStone_11 : decode cX1_needStone 11 = .ok (.ldc 248, 2) := by decide +kernel
theorem dX1_needStone_13 : decode cX1_needStone 13 = .ok (.invokespecial 250, 3) := by decide +kernel
theorem dX1_needStone_16 : decode cX1_needStone 16 = .ok (.athrow, 1) := by decide +kernel
theorem dX1_needStone_17 : decode cX1_needStone 17 = .ok (.return_, 1) := by decide +kernel
theorem dX1_needEcho_0 : decode cX1_needEcho 0 = .ok (.iload_n 0, 1) := by decide +kernel
theorem dX1_needEcho_1 : decode cX1_needEcho 1 = .ok (.ifCond .lt 8, 3) := by decide +kernel
theorem dX1_needEcho_4 : decode cX1_needEcho 4 = .ok (.iload_n 0, 1) := by decide +kernel
theorem dX1_needEcho_5 : decode cX1_needEcho 5 = .ok (.iconst 2, 1) := by decide +kernel
theorem dX1_needEcho_6 : decode cX1_needEcho 6 = .ok (.if_icmp .lt 13, 3) := by decide +kernel
theorem dX1_needEcho_9 : decode cX1_needEcho 9 = .ok (.new 246, 3) := by decide +kernel
theorem dX1_needEcho_12 : decode cX1_needEcho 12 = .ok (.dup, 1) := by decide +kernel
theorem dX1_needEcho_13 : decode cX1_needEcho 13 = .ok (.ldc 251, 2) := by decide +kernel
theorem dX1_needEcho_15 : decode cX1_needEcho 15 = .ok (.invokespecial 250, 3) := by decide +kernel
theorem dX1_needEcho_18 : decode cX1_needEcho 18 = .ok (.athrow, 1) := by decide +kernel
theorem dX1_needEcho_19 : decode cX1_needEcho 19 = .ok (.return_, 1) := by decide +kernel
theorem dX1_needWall_0 : decode cX1_needWall 0 = .ok (.iload_n 1, 1) := by decide +kernel
theorem dX1_needWall_1 : decode cX1_needWall 1 = .ok (.ifCond .lt 14, 3) := by decide +kernel
theorem dX1_needWall_4 : decode cX1_needWall 4 = .ok (.iload_n 1, 1) := by decide +kernel
theorem dX1_needWall_5 : decode cX1_needWall 5 = .ok (.aload_n 0, 1) := by decide +kernel
theorem dX1_needWall_6 : decode cX1_needWall 6 = .ok (.getfield 10, 3) := by decide +kernel
theorem dX1_needWall_9 : decode cX1_needWall 9 = .ok (.getfield 33, 3) := by decide +kernel
theorem dX1_needWall_12 : decode cX1_needWall 12 = .ok (.if_icmp .lt 13, 3) := by decide +kernel
theorem dX1_needWall_15 : decode cX1_needWall 15 = .ok (.new 246, 3) := by decide +kernel
theorem dX1_needWall_18 : decode cX1_needWall 18 = .ok (.dup, 1) := by decide +kernel
theorem dX1_needWall_19 : decode cX1_needWall 19 = .ok (.ldc 253, 2) := by decide +kernel
theorem dX1_needWall_21 : decode cX1_needWall 21 = .ok (.invokespecial 250, 3) := by decide +kernel
theorem dX1_needWall_24 : decode cX1_needWall 24 = .ok (.athrow, 1) := by decide +kernel
theorem dX1_needWall_25 : decode cX1_needWall 25 = .ok (.return_, 1) := by decide +kernel
theorem dX1_needShout_0 : decode cX1_needShout 0 = .ok (.iload_n 1, 1) := by decide +kernel
theorem dX1_needShout_1 : decode cX1_needShout 1 = .ok (.ifCond .lt 14, 3) := by decide +kernel
theorem dX1_needShout_4 : decode cX1_needShout 4 = .ok (.iload_n 1, 1) := by decide +kernel
theorem dX1_needShout_5 : decode cX1_needShout 5 = .ok (.aload_n 0, 1) := by decide +kernel
theorem dX1_needShout_6 : decode cX1_needShout 6 = .ok (.getfield 10, 3) := by decide +kernel
theorem dX1_needShout_9 : decode cX1_needShout 9 = .ok (.getfield 68, 3) := by decide +kernel
theorem dX1_needShout_12 : decode cX1_needShout 12 = .ok (.if_icmp .lt 13, 3) := by decide +kernel
theorem dX1_needShout_15 : decode cX1_needShout 15 = .ok (.new 246, 3) := by decide +kernel
theorem dX1_needShout_18 : decode cX1_needShout 18 = .ok (.dup, 1) := by decide +kernel
theorem dX1_needShout_19 : decode cX1_needShout 19 = .ok (.ldc 255, 2) := by decide +kernel
theorem dX1_needShout_21 : decode cX1_needShout 21 = .ok (.invokespecial 250, 3) := by decide +kernel
theorem dX1_needShout_24 : decode cX1_needShout 24 = .ok (.athrow, 1) := by decide +kernel
theorem dX1_needShout_25 : decode cX1_needShout 25 = .ok (.return_, 1) := by decide +kernel
theorem dX1_needLoud_0 : decode cX1_needLoud 0 = .ok (.iload_n 0, 1) := by decide +kernel
theorem dX1_needLoud_1 : decode cX1_needLoud 1 = .ok (.iconst 1, 1) := by decide +kernel
theorem dX1_needLoud_2 : decode cX1_needLoud 2 = .ok (.if_icmp .lt 9, 3) := by decide +kernel
theorem dX1_needLoud_5 : decode cX1_needLoud 5 = .ok (.iload_n 0, 1) := by decide +kernel
theorem dX1_needLoud_6 : decode cX1_needLoud 6 = .ok (.bipush 99, 2) := by decide +kernel
theorem dX1_needLoud_8 : decode cX1_needLoud 8 = .ok (.if_icmp .le 14, 3) := by decide +kernel
theorem dX1_needLoud_11 : decode cX1_needLoud 11 = .ok (.new 26, 3) := by decide +kernel
theorem dX1_needLoud_14 : decode cX1_needLoud 14 = .ok (.dup, 1) := by decide +kernel
theorem dX1_needLoud_15 : decode cX1_needLoud 15 = .ok (.ldc_w 257, 3) := by decide +kernel
theorem dX1_needLoud_18 : decode cX1_needLoud 18 = .ok (.invokespecial 30, 3) := by decide +kernel
theorem dX1_needLoud_21 : decode cX1_needLoud 21 = .ok (.athrow, 1) := by decide +kernel
theorem dX1_needLoud_22 : decode cX1_needLoud 22 = .ok (.return_, 1) := by decide +kernel
theorem dX1_needBeats_0 : decode cX1_needBeats 0 = .ok (.iload_n 0, 1) := by decide +kernel
theorem dX1_needBeats_1 : decode cX1_needBeats 1 = .ok (.iconst 1, 1) := by decide +kernel
theorem dX1_needBeats_2 : decode cX1_needBeats 2 = .ok (.if_icmp .lt 9, 3) := by decide +kernel
theorem dX1_needBeats_5 : decode cX1_needBeats 5 = .ok (.iload_n 0, 1) := by decide +kernel
theorem dX1_needBeats_6 : decode cX1_needBeats 6 = .ok (.bipush 100, 2) := by decide +kernel
theorem dX1_needBeats_8 : decode cX1_needBeats 8 = .ok (.if_icmp .le 14, 3) := by decide +kernel
theorem dX1_needBeats_11 : decode cX1_needBeats 11 = .ok (.new 26, 3) := by decide +kernel
theorem dX1_needBeats_14 : decode cX1_needBeats 14 = .ok (.dup, 1) := by decide +kernel
theorem dX1_needBeats_15 : decode cX1_needBeats 15 = .ok (.ldc_w 259, 3) := by decide +kernel
theorem dX1_needBeats_18 : decode cX1_needBeats 18 = .ok (.invokespecial 30, 3) := by decide +kernel
theorem dX1_needBeats_21 : decode cX1_needBeats 21 = .ok (.athrow, 1) := by decide +kernel
theorem dX1_needBeats_22 : decode cX1_needBeats 22 = .ok (.return_, 1) := by decide +kernel
end
section
theorem dX2_init_0 : decode cX2_init 0 = .ok (.aload_n 0, 1) := by decide +kernel
theorem dX2_init_1 : decode cX2_init 1 = .ok (.invokespecial 1, 3) := by decide +kernel
theorem dX2_init_4 : decode cX2_init 4 = .ok (.aload_n 0, 1) := by decide +kernel
theorem dX2_init_5 : decode cX2_init 5 = .ok (.bipush 32, 2) := by decide +kernel
theorem dX2_init_7 : decode cX2_init 7 = .ok (.newarray .int, 2) := by decide +kernel
theorem dX2_init_9 : decode cX2_init 9 = .ok (.putfield 7, 3) := by decide +kernel
theorem dX2_init_12 : decode cX2_init 12 = .ok (.aload_n 0, 1) := by decide +kernel
theorem dX2_init_13 : decode cX2_init 13 = .ok (.iconst 0, 1) := by decide +kernel
theorem dX2_init_14 : decode cX2_init 14 = .ok (.anewarray 13, 3) := by decide +kernel
theorem dX2_init_17 : decode cX2_init 17 = .ok (.putfield 14, 3) := by decide +kernel
theorem dX2_init_20 : decode cX2_init 20 = .ok (.aload_n 0, 1) := by decide +kernel
theorem dX2_init_21 : decode cX2_init 21 = .ok (.iconst 0, 1) := by decide +kernel
theorem dX2_init_22 : decode cX2_init 22 = .ok (.anewarray 13, 3) := by decide +kernel
theorem dX2_init_25 : decode cX2_init 25 = .ok (.putfield 18, 3) := by decide +kernel
theorem dX2_init_28 : decode cX2_init 28 = .ok (.aload_n 0, 1) := by decide +kernel
theorem dX2_init_29 : decode cX2_init 29 = .ok (.iconst 2, 1) := by decide +kernel
theorem dX2_init_30 : decode cX2_init 30 = .ok (.newarray .int, 2) := by decide +kernel
theorem dX2_init_32 : decode cX2_init 32 = .ok (.dup, 1) := by decide +kernel
theorem dX2_init_33 : decode cX2_init 33 = .ok (.iconst 0, 1) := by decide +kernel
theorem dX2_init_34 : decode cX2_init 34 = .ok (.iconst 0, 1) := by decide +kernel
theorem dX2_init_35 : decode cX2_init 35 = .ok (.iastore, 1) := by decide +kernel
theorem dX2_init_36 : decode cX2_init 36 = .ok (.dup, 1) := by decide +kernel
theorem dX2_init_37 : decode cX2_init 37 = .ok (.iconst 1, 1) := by decide +kernel
theorem dX2_init_38 : decode cX2_init 38 = .ok (.iconst 0, 1) := by decide +kernel
theorem dX2_init_39 : decode cX2_init 39 = .ok (.iastore, 1) := by decide +kernel
theorem dX2_init_40 : decode cX2_init 40 = .ok (.putfield 21, 3) := by decide +kernel
theorem dX2_init_43 : decode cX2_init 43 = .ok (.aload_n 0, 1) := by decide +kernel
theorem dX2_init_44 : decode cX2_init 44 = .ok (.iconst 2, 1) := by decide +kernel
theorem dX2_init_45 : decode cX2_init 45 = .ok (.newarray .int, 2) := by decide +kernel
theorem dX2_init_47 : decode cX2_init 47 = .ok (.dup, 1) := by decide +kernel
theorem dX2_init_48 : decode cX2_init 48 = .ok (.iconst 0, 1) := by decide +kernel
theorem dX2_init_49 : decode cX2_init 49 = .ok (.iconst 0, 1) := by decide +kernel
theorem dX2_init_50 : decode cX2_init 50 = .ok (.iastore, 1) := by decide +kernel
theorem dX2_init_51 : decode cX2_init 51 = .ok (.dup, 1) := by decide +kernel
theorem dX2_init_52 : decode cX2_init 52 = .ok (.iconst 1, 1) := by decide +kernel
theorem dX2_init_53 : decode cX2_init 53 = .ok (.iconst 0, 1) := by decide +kernel
theorem dX2_init_54 : decode cX2_init 54 = .ok (.iastore, 1) := by decide +kernel
theorem dX2_init_55 : decode cX2_init 55 = .ok (.putfield 24, 3) := by decide +kernel
theorem dX2_init_58 : decode cX2_init 58 = .ok (.return_, 1) := by decide +kernel
theorem dX2_with_0 : decode cX2_with 0 = .ok (.aload_n 0, 1) := by decide +kernel
theorem dX2_with_1 : decode cX2_with 1 = .ok (.arraylength, 1) := by decide +kernel
theorem dX2_with_2 : decode cX2_with 2 = .ok (.iconst 1, 1) := by decide +kernel
theorem dX2_with_3 : decode cX2_with 3 = .ok (.iadd, 1) := by decide +kernel
theorem dX2_with_4 : decode cX2_with 4 = .ok (.anewarray 13, 3) := by decide +kernel
theorem dX2_with_7 : decode cX2_with 7 = .ok (.astore_n 2, 1) := by decide +kernel
theorem dX2_with_8 : decode cX2_with 8 = .ok (.iconst 0, 1) := by decide +kernel
theorem dX2_with_9 : decode cX2_with 9 = .ok (.istore_n 3, 1) := by decide +kernel
theorem dX2_with_10 : decode cX2_with 10 = .ok (.iload_n 3, 1) := by decide +kernel
theorem dX2_with_11 : decode cX2_with 11 = .ok (.aload_n 0, 1) := by decide +kernel
theorem dX2_with_12 : decode cX2_with 12 = .ok (.arraylength, 1) := by decide +kernel
theorem dX2_with_13 : decode cX2_with 13 = .ok (.if_icmp .ge 15, 3) := by decide +kernel
theorem dX2_with_16 : decode cX2_with 16 = .ok (.aload_n 2, 1) := by decide +kernel
theorem dX2_with_17 : decode cX2_with 17 = .ok (.iload_n 3, 1) := by decide +kernel
theorem dX2_with_18 : decode cX2_with 18 = .ok (.aload_n 0, 1) := by decide +kernel
theorem dX2_with_19 : decode cX2_with 19 = .ok (.iload_n 3, 1) := by decide +kernel
theorem dX2_with_20 : decode cX2_with 20 = .ok (.aaload, 1) := by decide +kernel
theorem dX2_with_21 : decode cX2_with 21 = .ok (.aastore, 1) := by decide +kernel
theorem dX2_with_22 : decode cX2_with 22 = .ok (.iinc 3 1, 3) := by decide +kernel
theorem dX2_with_25 : decode cX2_with 25 = .ok (.goto (-15), 3) := by decide +kernel
theorem dX2_with_28 : decode cX2_with 28 = .ok (.aload_n 2, 1) := by decide +kernel
theorem dX2_with_29 : decode cX2_with 29 = .ok (.aload_n 0, 1) := by decide +kernel
theorem dX2_with_30 : decode cX2_with 30 = .ok (.arraylength, 1) := by decide +kernel
theorem dX2_with_31 : decode cX2_with 31 = .ok (.aload_n 1, 1) := by decide +kernel
theorem dX2_with_32 : decode cX2_with 32 = .ok (.aastore, 1) := by decide +kernel
theorem dX2_with_33 : decode cX2_with 33 = .ok (.aload_n 2, 1) := by decide +kernel
theorem dX2_with_34 : decode cX2_with 34 = .ok (.areturn, 1) := by decide +kernel
theorem dX2_copy_0 : decode cX2_copy 0 = .ok (.new 8, 3) := by decide +kernel
theorem dX2_copy_3 : decode cX2_copy 3 = .ok (.dup, 1) := by decide +kernel
theorem dX2_copy_4 : decode cX2_copy 4 = .ok (.invokespecial 27, 3) := by decide +kernel
theorem dX2_copy_7 : decode cX2_copy 7 = .ok (.astore_n 1, 1) := by decide +kernel
theorem dX2_copy_8 : decode cX2_copy 8 = .ok (.aload_n 1, 1) := by decide +kernel
theorem dX2_copy_9 : decode cX2_copy 9 = .ok (.aload_n 0, 1) := by decide +kernel
theorem dX2_copy_10 : decode cX2_copy 10 = .ok (.getfield 7, 3) := by decide +kernel
theorem dX2_copy_13 : decode cX2_copy 13 = .ok (.putfield 7, 3) := by decide +kernel
theorem dX2_copy_16 : decode cX2_copy 16 = .ok (.aload_n 1, 1) := by decide +kernel
theorem dX2_copy_17 : decode cX2_copy 17 = .ok (.aload_n 0, 1) := by decide +kernel
theorem dX2_copy_18 : decode cX2_copy 18 = .ok (.getfield 14, 3) := by decide +kernel
theorem dX2_copy_21 : decode cX2_copy 21 = .ok (.arraylength, 1) := by decide +kernel
theorem dX2_copy_22 : decode cX2_copy 22 = .ok (.anewarray 13, 3) := by decide +kernel
theorem dX2_copy_25 : decode cX2_copy 25 = .ok (.putfield 14, 3) := by decide +kernel
theorem dX2_copy_28 : decode cX2_copy 28 = .ok (.iconst 0, 1) := by decide +kernel
theorem dX2_copy_29 : decode cX2_copy 29 = .ok (.istore_n 2, 1) := by decide +kernel
theorem dX2_copy_30 : decode cX2_copy 30 = .ok (.iload_n 2, 1) := by decide +kernel
theorem dX2_copy_31 : decode cX2_copy 31 = .ok (.aload_n 0, 1) := by decide +kernel
theorem dX2_copy_32 : decode cX2_copy 32 = .ok (.getfield 14, 3) := by decide +kernel
theorem dX2_copy_35 : decode cX2_copy 35 = .ok (.arraylength, 1) := by decide +kernel
theorem dX2_copy_36 : decode cX2_copy 36 = .ok (.if_icmp .ge 27, 3) := by decide +kernel
theorem dX2_copy_39 : decode cX2_copy 39 = .ok (.aload_n 1, 1) := by decide +kernel
theorem dX2_copy_40 : decode cX2_copy 40 = .ok (.getfield 14, 3) := by decide +kernel
theorem dX2_copy_43 : decode cX2_copy 43 = .ok (.iload_n 2, 1) := by decide +kernel
theorem dX2_copy_44 : decode cX2_copy 44 = .ok (.aload_n 0, 1) := by decide +kernel
theorem dX2_copy_45 : decode cX2_copy 45 = .ok (.getfield 14, 3) := by decide +kernel
theorem dX2_copy_48 : decode cX2_copy 48 = .ok (.iload_n 2, 1) := by decide +kernel
theorem dX2_copy_49 : decode cX2_copy 49 = .ok (.aaload, 1) := by decide +kernel
theorem dX2_copy_50 : decode cX2_copy 50 = .ok (.invokevirtual 28, 3) := by decide +kernel
theorem dX2_copy_53 : decode cX2_copy 53 = .ok (.checkcast 13, 3) := by decide +kernel
theorem dX2_copy_56 : decode cX2_copy 56 = .ok (.aastore, 1) := by decide +kernel
theorem dX2_copy_57 : decode cX2_copy 57 = .ok (.iinc 2 1, 3) := by decide +kernel
theorem dX2_copy_60 : decode cX2_copy 60 = .ok (.goto (-30), 3) := by decide +kernel
theorem dX2_copy_63 : decode cX2_copy 63 = .ok (.aload_n 1, 1) := by decide +kernel
theorem dX2_copy_64 : decode cX2_copy 64 = .ok (.aload_n 0, 1) := by decide +kernel
theorem dX2_copy_65 : decode cX2_copy 65 = .ok (.getfield 18, 3) := by decide +kernel
theorem dX2_copy_68 : decode cX2_copy 68 = .ok (.arraylength, 1) := by decide +kernel
theorem dX2_copy_69 : decode cX2_copy 69 = .ok (.anewarray 13, 3) := by decide +kernel
theorem dX2_copy_72 : decode cX2_copy 72 = .ok (.putfield 18, 3) := by decide +kernel
theorem dX2_copy_75 : decode cX2_copy 75 = .ok (.iconst 0, 1) := by decide +kernel
theorem dX2_copy_76 : decode cX2_copy 76 = .ok (.istore_n 2, 1) := by decide +kernel
theorem dX2_copy_77 : decode cX2_copy 77 = .ok (.iload_n 2, 1) := by decide +kernel
theorem dX2_copy_78 : decode cX2_copy 78 = .ok (.aload_n 0, 1) := by decide +kernel
theorem dX2_copy_79 : decode cX2_copy 79 = .ok (.getfield 18, 3) := by decide +kernel
theorem dX2_copy_82 : decode cX2_copy 82 = .ok (.arraylength, 1) := by decide +kernel
theorem dX2_copy_83 : decode cX2_copy 83 = .ok (.if_icmp .ge 27, 3) := by decide +kernel
theorem dX2_copy_86 : decode cX2_copy 86 = .ok (.aload_n 1, 1) := by decide +kernel
theorem dX2_copy_87 : decode cX2_copy 87 = .ok (.getfield 18, 3) := by decide +kernel
theorem dX2_copy_90 : decode cX2_copy 90 = .ok (.iload_n 2, 1) := by decide +kernel
theorem dX2_copy_91 : decode cX2_copy 91 = .ok (.aload_n 0, 1) := by decide +kernel
theorem dX2_copy_92 : decode cX2_copy 92 = .ok (.getfield 18, 3) := by decide +kernel
theorem dX2_copy_95 : decode cX2_copy 95 = .ok (.iload_n 2, 1) := by decide +kernel
theorem dX2_copy_96 : decode cX2_copy 96 = .ok (.aaload, 1) := by decide +kernel
theorem dX2_copy_97 : decode cX2_copy 97 = .ok (.invokevirtual 28, 3) := by decide +kernel
theorem dX2_copy_100 : decode cX2_copy 100 = .ok (.checkcast 13, 3) := by decide +kernel
theorem dX2_copy_103 : decode cX2_copy 103 = .ok (.aastore, 1) := by decide +kernel
theorem dX2_copy_104 : decode cX2_copy 104 = .ok (.iinc 2 1, 3) := by decide +kernel
theorem dX2_copy_107 : decode cX2_copy 107 = .ok (.goto (-30), 3) := by decide +kernel
theorem dX2_copy_110 : decode cX2_copy 110 = .ok (.aload_n 1, 1) := by decide +kernel
theorem dX2_copy_111 : decode cX2_copy 111 = .ok (.aload_n 0, 1) := by decide +kernel
theorem dX2_copy_112 : decode cX2_copy 112 = .ok (.getfield 21, 3) := by decide +kernel
theorem dX2_copy_115 : decode cX2_copy 115 = .ok (.invokevirtual 28, 3) := by decide +kernel
theorem dX2_copy_118 : decode cX2_copy 118 = .ok (.checkcast 13, 3) := by decide +kernel
theorem dX2_copy_121 : decode cX2_copy 121 = .ok (.putfield 21, 3) := by decide +kernel
theorem dX2_copy_124 : decode cX2_copy 124 = .ok (.aload_n 1, 1) := by decide +kernel
theorem dX2_copy_125 : decode cX2_copy 125 = .ok (.aload_n 0, 1) := by decide +kernel
theorem dX2_copy_126 : decode cX2_copy 126 = .ok (.getfield 24, 3) := by decide +kernel
theorem dX2_copy_129 : decode cX2_copy 129 = .ok (.invokevirtual 28, 3) := by decide +kernel
theorem dX2_copy_132 : decode cX2_copy 132 = .ok (.checkcast 13, 3) := by decide +kernel
theorem dX2_copy_135 : decode cX2_copy 135 = .ok (.putfield 24, 3) := by decide +kernel
theorem dX2_copy_138 : decode cX2_copy 138 = .ok (.aload_n 1, 1) := by decide +kernel
theorem dX2_copy_139 : decode cX2_copy 139 = .ok (.aload_n 0, 1) := by decide +kernel
theorem dX2_copy_140 : decode cX2_copy 140 = .ok (.getfield 32, 3) := by decide +kernel
theorem dX2_copy_143 : decode cX2_copy 143 = .ok (.putfield 32, 3) := by decide +kernel
theorem dX2_copy_146 : decode cX2_copy 146 = .ok (.aload_n 1, 1) := by decide +kernel
theorem dX2_copy_147 : decode cX2_copy 147 = .ok (.aload_n 0, 1) := by decide +kernel
theorem dX2_copy_148 : decode cX2_copy 148 = .ok (.getfield 36, 3) := by decide +kernel
theorem dX2_copy_151 : decode cX2_copy 151 = .ok (.putfield 36, 3) := by decide +kernel
theorem dX2_copy_154 : decode cX2_copy 154 = .ok (.aload_n 1, 1) := by decide +kernel
theorem dX2_copy_155 : decode cX2_copy 155 = .ok (.aload_n 0, 1) := by decide +kernel
theorem dX2_copy_156 : decode cX2_copy 156 = .ok (.getfield 39, 3) := by decide +kernel
theorem dX2_copy_159 : decode cX2_copy 159 = .ok (.putfield 39, 3) := by decide +kernel
theorem dX2_copy_162 : decode cX2_copy 162 = .ok (.aload_n 1, 1) := by decide +kernel
theorem dX2_copy_163 : decode cX2_copy 163 = .ok (.areturn, 1) := by decide +kernel
theorem dX2_wallOn_0 : decode cX2_wallOn 0 = .ok (.iconst 0, 1) := by decide +kernel
theorem dX2_wallOn_1 : decode cX2_wallOn 1 = .ok (.istore_n 2, 1) := by decide +kernel
theorem dX2_wallOn_2 : decode cX2_wallOn 2 = .ok (.iload_n 2, 1) := by decide +kernel
theorem dX2_wallOn_3 : decode cX2_wallOn 3 = .ok (.aload_n 0, 1) := by decide +kernel
theorem dX2_wallOn_4 : decode cX2_wallOn 4 = .ok (.getfield 14, 3) := by decide +kernel
theorem dX2_wallOn_7 : decode cX2_wallOn 7 = .ok (.arraylength, 1) := by decide +kernel
theorem dX2_wallOn_8 : decode cX2_wallOn 8 = .ok (.if_icmp .ge 23, 3) := by decide +kernel
theorem dX2_wallOn_11 : decode cX2_wallOn 11 = .ok (.aload_n 0, 1) := by decide +kernel
theorem dX2_wallOn_12 : decode cX2_wallOn 12 = .ok (.getfield 14, 3) := by decide +kernel
theorem dX2_wallOn_15 : decode cX2_wallOn 15 = .ok (.iload_n 2, 1) := by decide +kernel
theorem dX2_wallOn_16 : decode cX2_wallOn 16 = .ok (.aaload, 1) := by decide +kernel
theorem dX2_wallOn_17 : decode cX2_wallOn 17 = .ok (.iconst 0, 1) := by decide +kernel
theorem dX2_wallOn_18 : decode cX2_wallOn 18 = .ok (.iaload, 1) := by decide +kernel
theorem dX2_wallOn_19 : decode cX2_wallOn 19 = .ok (.iload_n 1, 1) := by decide +kernel
theorem dX2_wallOn_20 : decode cX2_wallOn 20 = .ok (.if_icmp .ne 5, 3) := by decide +kernel
theorem dX2_wallOn_23 : decode cX2_wallOn 23 = .ok (.iload_n 2, 1) := by decide +kernel
theorem dX2_wallOn_24 : decode cX2_wallOn 24 = .ok (.ireturn, 1) := by decide +kernel
theorem dX2_wallOn_25 : decode cX2_wallOn 25 = .ok (.iinc 2 1, 3) := by decide +kernel
theorem dX2_wallOn_28 : decode cX2_wallOn 28 = .ok (.goto (-26), 3) := by decide +kernel
theorem dX2_wallOn_31 : decode cX2_wallOn 31 = .ok (.iconst (-1), 1) := by decide +kernel
theorem dX2_wallOn_32 : decode cX2_wallOn 32 = .ok (.ireturn, 1) := by decide +kernel
theorem dX2_loudestOn_0 : decode cX2_loudestOn 0 = .ok (.iconst (-1), 1) := by decide +kernel
theorem dX2_loudestOn_1 : decode cX2_loudestOn 1 = .ok (.istore_n 2, 1) := by decide +kernel
theorem dX2_loudestOn_2 : decode cX2_loudestOn 2 = .ok (.aload_n 0, 1) := by decide +kernel
theorem dX2_loudestOn_3 : decode cX2_loudestOn 3 = .ok (.getfield 18, 3) := by decide +kernel
theorem dX2_loudestOn_6 : decode cX2_loudestOn 6 = .ok (.arraylength, 1) := by decide +kernel
theorem dX2_loudestOn_7 : decode cX2_loudestOn 7 = .ok (.iconst 1, 1) := by decide +kernel
theorem dX2_loudestOn_8 : decode cX2_loudestOn 8 = .ok (.isub, 1) := by decide +kernel
theorem dX2_loudestOn_9 : decode cX2_loudestOn 9 = .ok (.istore_n 3, 1) := by decide +kernel
theorem dX2_loudestOn_10 : decode cX2_loudestOn 10 = .ok (.iload_n 3, 1) := by decide +kernel
theorem dX2_loudestOn_11 : decode cX2_loudestOn 11 = .ok (.ifCond .lt 57, 3) := by decide +kernel
theorem dX2_loudestOn_14 : decode cX2_loudestOn 14 = .ok (.aload_n 0, 1) := by decide +kernel
theorem dX2_loudestOn_15 : decode cX2_loudestOn 15 = .ok (.getfield 18, 3) := by decide +kernel
theorem dX2_loudestOn_18 : decode cX2_loudestOn 18 = .ok (.iload_n 3, 1) := by decide +kernel
theorem dX2_loudestOn_19 : decode cX2_loudestOn 19 = .ok (.aaload, 1) := by decide +kernel
theorem dX2_loudestOn_20 : decode cX2_loudestOn 20 = .ok (.iconst 0, 1) := by decide +kernel
theorem dX2_loudestOn_21 : decode cX2_loudestOn 21 = .ok (.iaload, 1) := by decide +kernel
theorem dX2_loudestOn_22 : decode cX2_loudestOn 22 = .ok (.ifCond .le 40, 3) := by decide +kernel
theorem dX2_loudestOn_25 : decode cX2_loudestOn 25 = .ok (.aload_n 0, 1) := by decide +kernel
theorem dX2_loudestOn_26 : decode cX2_loudestOn 26 = .ok (.getfield 18, 3) := by decide +kernel
theorem dX2_loudestOn_29 : decode cX2_loudestOn 29 = .ok (.iload_n 3, 1) := by decide +kernel
theorem dX2_loudestOn_30 : decode cX2_loudestOn 30 = .ok (.aaload, 1) := by decide +kernel
theorem dX2_loudestOn_31 : decode cX2_loudestOn 31 = .ok (.iconst 1, 1) := by decide +kernel
theorem dX2_loudestOn_32 : decode cX2_loudestOn 32 = .ok (.iaload, 1) := by decide +kernel
theorem dX2_loudestOn_33 : decode cX2_loudestOn 33 = .ok (.iload_n 1, 1) := by decide +kernel
theorem dX2_loudestOn_34 : decode cX2_loudestOn 34 = .ok (.if_icmp .ne 28, 3) := by decide +kernel
theorem dX2_loudestOn_37 : decode cX2_loudestOn 37 = .ok (.iload_n 2, 1) := by decide +kernel
theorem dX2_loudestOn_38 : decode cX2_loudestOn 38 = .ok (.ifCond .lt 22, 3) := by decide +kernel
theorem dX2_loudestOn_41 : decode cX2_loudestOn 41 = .ok (.aload_n 0, 1) := by decide +kernel
theorem dX2_loudestOn_42 : decode cX2_loudestOn 42 = .ok (.getfield 18, 3) := by decide +kernel
theorem dX2_loudestOn_45 : decode cX2_loudestOn 45 = .ok (.iload_n 3, 1) := by decide +kernel
theorem dX2_loudestOn_46 : decode cX2_loudestOn 46 = .ok (.aaload, 1) := by decide +kernel
theorem dX2_loudestOn_47 : decode cX2_loudestOn 47 = .ok (.iconst 0, 1) := by decide +kernel
theorem dX2_loudestOn_48 : decode cX2_loudestOn 48 = .ok (.iaload, 1) := by decide +kernel
theorem dX2_loudestOn_49 : decode cX2_loudestOn 49 = .ok (.aload_n 0, 1) := by decide +kernel
theorem dX2_loudestOn_50 : decode cX2_loudestOn 50 = .ok (.getfield 18, 3) := by decide +kernel
theorem dX2_loudestOn_53 : decode cX2_loudestOn 53 = .ok (.iload_n 2, 1) := by decide +kernel
theorem dX2_loudestOn_54 : decode cX2_loudestOn 54 = .ok (.aaload, 1) := by decide +kernel
theorem dX2_loudestOn_55 : decode cX2_loudestOn 55 = .ok (.iconst 0, 1) := by decide +kernel
theorem dX2_loudestOn_56 : decode cX2_loudestOn 56 = .ok (.iaload, 1) := by decide +kernel
theorem dX2_loudestOn_57 : decode cX2_loudestOn 57 = .ok (.if_icmp .lt 5, 3) := by decide +kernel
theorem dX2_loudestOn_60 : decode cX2_loudestOn 60 = .ok (.iload_n 3, 1) := by decide +kernel
theorem dX2_loudestOn_61 : decode cX2_loudestOn 61 = .ok (.istore_n 2, 1) := by decide +kernel
theorem dX2_loudestOn_62 : decode cX2_loudestOn 62 = .ok (.iinc 3 (-1), 3) := by decide +kernel
theorem dX2_loudestOn_65 : decode cX2_loudestOn 65 = .ok (.goto (-55), 3) := by decide +kernel
theorem dX2_loudestOn_68 : decode cX2_loudestOn 68 = .ok (.iload_n 2, 1) := by decide +kernel
theorem dX2_loudestOn_69 : decode cX2_loudestOn 69 = .ok (.ireturn, 1) := by decide +kernel
theorem dX2_underWay_0 : decode cX2_underWay 0 = .ok (.iconst 0, 1) := by decide +kernel
theorem dX2_underWay_1 : decode cX2_underWay 1 = .ok (.istore_n 1, 1) := by decide +kernel
theorem dX2_underWay_2 : decode cX2_underWay 2 = .ok (.aload_n 0, 1) := by decide +kernel
theorem dX2_underWay_3 : decode cX2_underWay 3 = .ok (.getfield 18, 3) := by decide +kernel
theorem dX2_underWay_6 : decode cX2_underWay 6 = .ok (.astore_n 2, 1) := by decide +kernel
theorem dX2_underWay_7 : decode cX2_underWay 7 = .ok (.aload_n 2, 1) := by decide +kernel
theorem dX2_underWay_8 : decode cX2_underWay 8 = .ok (.arraylength, 1) := by decide +kernel
theorem dX2_underWay_9 : decode cX2_underWay 9 = .ok (.istore_n 3, 1) := by decide +kernel
theorem dX2_underWay_10 : decode cX2_underWay 10 = .ok (.iconst 0, 1) := by decide +kernel
theorem dX2_underWay_11 : decode cX2_underWay 11 = .ok (.istore 4, 2) := by decide +kernel
theorem dX2_underWay_13 : decode cX2_underWay 13 = .ok (.iload 4, 2) := by decide +kernel
theorem dX2_underWay_15 : decode cX2_underWay 15 = .ok (.iload_n 3, 1) := by decide +kernel
theorem dX2_underWay_16 : decode cX2_underWay 16 = .ok (.if_icmp .ge 30, 3) := by decide +kernel
theorem dX2_underWay_19 : decode cX2_underWay 19 = .ok (.aload_n 2, 1) := by decide +kernel
theorem dX2_underWay_20 : decode cX2_underWay 20 = .ok (.iload 4, 2) := by decide +kernel
theorem dX2_underWay_22 : decode cX2_underWay 22 = .ok (.aaload, 1) := by decide +kernel
theorem dX2_underWay_23 : decode cX2_underWay 23 = .ok (.astore 5, 2) := by decide +kernel
theorem dX2_underWay_25 : decode cX2_underWay 25 = .ok (.iload_n 1, 1) := by decide +kernel
theorem dX2_underWay_26 : decode cX2_underWay 26 = .ok (.aload 5, 2) := by decide +kernel
theorem dX2_underWay_28 : decode cX2_underWay 28 = .ok (.iconst 0, 1) := by decide +kernel
theorem dX2_underWay_29 : decode cX2_underWay 29 = .ok (.iaload, 1) := by decide +kernel
theorem dX2_underWay_30 : decode cX2_underWay 30 = .ok (.ifCond .le 7, 3) := by decide +kernel
theorem dX2_underWay_33 : decode cX2_underWay 33 = .ok (.iconst 1, 1) := by decide +kernel
theorem dX2_underWay_34 : decode cX2_underWay 34 = .ok (.goto 4, 3) := by decide +kernel
theorem dX2_underWay_37 : decode cX2_underWay 37 = .ok (.iconst 0, 1) := by decide +kernel
theorem dX2_underWay_38 : decode cX2_underWay 38 = .ok (.iadd, 1) := by decide +kernel
theorem dX2_underWay_39 : decode cX2_underWay 39 = .ok (.istore_n 1, 1) := by decide +kernel
theorem dX2_underWay_40 : decode cX2_underWay 40 = .ok (.iinc 4 1, 3) := by decide +kernel
theorem dX2_underWay_43 : decode cX2_underWay 43 = .ok (.goto (-30), 3) := by decide +kernel
theorem dX2_underWay_46 : decode cX2_underWay 46 = .ok (.iload_n 1, 1) := by decide +kernel
theorem dX2_underWay_47 : decode cX2_underWay 47 = .ok (.ireturn, 1) := by decide +kernel
theorem dX2_pass_0 : decode cX2_pass 0 = .ok (.iconst 2, 1) := by decide +kernel
theorem dX2_pass_1 : decode cX2_pass 1 = .ok (.newarray .int, 2) := by decide +kernel
theorem dX2_pass_3 : decode cX2_pass 3 = .ok (.dup, 1) := by decide +kernel
theorem dX2_pass_4 : decode cX2_pass 4 = .ok (.iconst 0, 1) := by decide +kernel
theorem dX2_pass_5 : decode cX2_pass 5 = .ok (.iconst 0, 1) := by decide +kernel
theorem dX2_pass_6 : decode cX2_pass 6 = .ok (.iastore, 1) := by decide +kernel
theorem dX2_pass_7 : decode cX2_pass 7 = .ok (.dup, 1) := by decide +kernel
theorem dX2_pass_8 : decode cX2_pass 8 = .ok (.iconst 1, 1) := by decide +kernel
theorem dX2_pass_9 : decode cX2_pass 9 = .ok (.iconst 0, 1) := by decide +kernel
theorem dX2_pass_10 : decode cX2_pass 10 = .ok (.iastore, 1) := by decide +kernel
theorem dX2_pass_11 : decode cX2_pass 11 = .ok (.astore_n 1, 1) := by decide +kernel
theorem dX2_pass_12 : decode cX2_pass 12 = .ok (.aload_n 0, 1) := by decide +kernel
theorem dX2_pass_13 : decode cX2_pass 13 = .ok (.getfield 18, 3) := by decide +kernel
theorem dX2_pass_16 : decode cX2_pass 16 = .ok (.astore_n 2, 1) := by decide +kernel
theorem dX2_pass_17 : decode cX2_pass 17 = .ok (.aload_n 2, 1) := by decide +kernel
theorem dX2_pass_18 : decode cX2_pass 18 = .ok (.arraylength, 1) := by decide +kernel
theorem dX2_pass_19 : decode cX2_pass 19 = .ok (.istore_n 3, 1) := by decide +kernel
theorem dX2_pass_20 : decode cX2_pass 20 = .ok (.iconst 0, 1) := by decide +kernel
theorem dX2_pass_21 : decode cX2_pass 21 = .ok (.istore 4, 2) := by decide +kernel
theorem dX2_pass_23 : decode cX2_pass 23 = .ok (.iload 4, 2) := by decide +kernel
theorem dX2_pass_25 : decode cX2_pass 25 = .ok (.iload_n 3, 1) := by decide +kernel
theorem dX2_pass_26 : decode cX2_pass 26 = .ok (.if_icmp .ge 176, 3) := by decide +kernel
theorem dX2_pass_29 : decode cX2_pass 29 = .ok (.aload_n 2, 1) := by decide +kernel
theorem dX2_pass_30 : decode cX2_pass 30 = .ok (.iload 4, 2) := by decide +kernel
theorem dX2_pass_32 : decode cX2_pass 32 = .ok (.aaload, 1) := by decide +kernel
theorem dX2_pass_33 : decode cX2_pass 33 = .ok (.astore 5, 2) := by decide +kernel
theorem dX2_pass_35 : decode cX2_pass 35 = .ok (.aload 5, 2) := by decide +kernel
theorem dX2_pass_37 : decode cX2_pass 37 = .ok (.iconst 0, 1) := by decide +kernel
theorem dX2_pass_38 : decode cX2_pass 38 = .ok (.iaload, 1) := by decide +kernel
theorem dX2_pass_39 : decode cX2_pass 39 = .ok (.ifCond .ne 6, 3) := by decide +kernel
theorem dX2_pass_42 : decode cX2_pass 42 = .ok (.goto 154, 3) := by decide +kernel
theorem dX2_pass_45 : decode cX2_pass 45 = .ok (.aload 5, 2) := by decide +kernel
theorem dX2_pass_47 : decode cX2_pass 47 = .ok (.iconst 1, 1) := by decide +kernel
theorem dX2_pass_48 : decode cX2_pass 48 = .ok (.dup2, 1) := by decide +kernel
theorem dX2_pass_49 : decode cX2_pass 49 = .ok (.iaload, 1) := by decide +kernel
theorem dX2_pass_50 : decode cX2_pass 50 = .ok (.aload 5, 2) := by decide +kernel
theorem dX2_pass_52 : decode cX2_pass 52 = .ok (.iconst 2, 1) := by decide +kernel
theorem dX2_pass_53 : decode cX2_pass 53 = .ok (.iaload, 1) := by decide +kernel
theorem dX2_pass_54 : decode cX2_pass 54 = .ok (.iadd, 1) := by decide +kernel
theorem dX2_pass_55 : decode cX2_pass 55 = .ok (.iastore, 1) := by decide +kernel
theorem dX2_pass_56 : decode cX2_pass 56 = .ok (.aload 5, 2) := by decide +kernel
theorem dX2_pass_58 : decode cX2_pass 58 = .ok (.iconst 1, 1) := by decide +kernel
theorem dX2_pass_59 : decode cX2_pass 59 = .ok (.iaload, 1) := by decide +kernel
theorem dX2_pass_60 : decode cX2_pass 60 = .ok (.ifCond .lt 12, 3) := by decide +kernel
theorem dX2_pass_63 : decode cX2_pass 63 = .ok (.aload 5, 2) := by decide +kernel
theorem dX2_pass_65 : decode cX2_pass 65 = .ok (.iconst 1, 1) := by decide +kernel
theorem dX2_pass_66 : decode cX2_pass 66 = .ok (.iaload, 1) := by decide +kernel
theorem dX2_pass_67 : decode cX2_pass 67 = .ok (.bipush 31, 2) := by decide +kernel
theorem dX2_pass_69 : decode cX2_pass 69 = .ok (.if_icmp .le 11, 3) := by decide +kernel
theorem dX2_pass_72 : decode cX2_pass 72 = .ok (.aload 5, 2) := by decide +kernel
theorem dX2_pass_74 : decode cX2_pass 74 = .ok (.iconst 0, 1) := by decide +kernel
theorem dX2_pass_75 : decode cX2_pass 75 = .ok (.iconst 0, 1) := by decide +kernel
theorem dX2_pass_76 : decode cX2_pass 76 = .ok (.iastore, 1) := by decide +kernel
theorem dX2_pass_77 : decode cX2_pass 77 = .ok (.goto 119, 3) := by decide +kernel
theorem dX2_pass_80 : decode cX2_pass 80 = .ok (.aload 5, 2) := by decide +kernel
theorem dX2_pass_82 : decode cX2_pass 82 = .ok (.iconst 0, 1) := by decide +kernel
theorem dX2_pass_83 : decode cX2_pass 83 = .ok (.iconst 0, 1) := by decide +kernel
theorem dX2_pass_84 : decode cX2_pass 84 = .ok (.aload 5, 2) := by decide +kernel
theorem dX2_pass_86 : decode cX2_pass 86 = .ok (.iconst 0, 1) := by decide +kernel
theorem dX2_pass_87 : decode cX2_pass 87 = .ok (.iaload, 1) := by decide +kernel
theorem dX2_pass_88 : decode cX2_pass 88 = .ok (.iconst 1, 1) := by decide +kernel
theorem dX2_pass_89 : decode cX2_pass 89 = .ok (.isub, 1) := by decide +kernel
theorem dX2_pass_90 : decode cX2_pass 90 = .ok (.aload_n 0, 1) := by decide +kernel
theorem dX2_pass_91 : decode cX2_pass 91 = .ok (.getfield 7, 3) := by decide +kernel
theorem dX2_pass_94 : decode cX2_pass 94 = .ok (.aload 5, 2) := by decide +kernel
theorem dX2_pass_96 : decode cX2_pass 96 = .ok (.iconst 1, 1) := by decide +kernel
theorem dX2_pass_97 : decode cX2_pass 97 = .ok (.iaload, 1) := by decide +kernel
theorem dX2_pass_98 : decode cX2_pass 98 = .ok (.iaload, 1) := by decide +kernel
theorem dX2_pass_99 : decode cX2_pass 99 = .ok (.isub, 1) := by decide +kernel
theorem dX2_pass_100 : decode cX2_pass 100 = .ok (.invokestatic 42, 3) := by decide +kernel
theorem dX2_pass_103 : decode cX2_pass 103 = .ok (.iastore, 1) := by decide +kernel
theorem dX2_pass_104 : decode cX2_pass 104 = .ok (.aload_n 0, 1) := by decide +kernel
theorem dX2_pass_105 : decode cX2_pass 105 = .ok (.aload 5, 2) := by decide +kernel
theorem dX2_pass_107 : decode cX2_pass 107 = .ok (.iconst 1, 1) := by decide +kernel
theorem dX2_pass_108 : decode cX2_pass 108 = .ok (.iaload, 1) := by decide +kernel
theorem dX2_pass_109 : decode cX2_pass 109 = .ok (.invokevirtual 48, 3) := by decide +kernel
theorem dX2_pass_112 : decode cX2_pass 112 = .ok (.istore 6, 2) := by decide +kernel
theorem dX2_pass_114 : decode cX2_pass 114 = .ok (.aload 5, 2) := by decide +kernel
theorem dX2_pass_116 : decode cX2_pass 116 = .ok (.iconst 0, 1) := by decide +kernel
theorem dX2_pass_117 : decode cX2_pass 117 = .ok (.iaload, 1) := by decide +kernel
theorem dX2_pass_118 : decode cX2_pass 118 = .ok (.ifCond .eq 78, 3) := by decide +kernel
theorem dX2_pass_121 : decode cX2_pass 121 = .ok (.iload 6, 2) := by decide +kernel
theorem dX2_pass_123 : decode cX2_pass 123 = .ok (.ifCond .ge 6, 3) := by decide +kernel
theorem dX2_pass_126 : decode cX2_pass 126 = .ok (.goto 70, 3) := by decide +kernel
theorem dX2_pass_129 : decode cX2_pass 129 = .ok (.aload_n 1, 1) := by decide +kernel
theorem dX2_pass_130 : decode cX2_pass 130 = .ok (.aload_n 0, 1) := by decide +kernel
theorem dX2_pass_131 : decode cX2_pass 131 = .ok (.getfield 14, 3) := by decide +kernel
theorem dX2_pass_134 : decode cX2_pass 134 = .ok (.iload 6, 2) := by decide +kernel
theorem dX2_pass_136 : decode cX2_pass 136 = .ok (.aaload, 1) := by decide +kernel
theorem dX2_pass_137 : decode cX2_pass 137 = .ok (.iconst 1, 1) := by decide +kernel
theorem dX2_pass_138 : decode cX2_pass 138 = .ok (.iaload, 1) := by decide +kernel
theorem dX2_pass_139 : decode cX2_pass 139 = .ok (.dup2, 1) := by decide +kernel
theorem dX2_pass_140 : decode cX2_pass 140 = .ok (.iaload, 1) := by decide +kernel
theorem dX2_pass_141 : decode cX2_pass 141 = .ok (.iconst 1, 1) := by decide +kernel
theorem dX2_pass_142 : decode cX2_pass 142 = .ok (.iadd, 1) := by decide +kernel
theorem dX2_pass_143 : decode cX2_pass 143 = .ok (.iastore, 1) := by decide +kernel
theorem dX2_pass_144 : decode cX2_pass 144 = .ok (.aload_n 0, 1) := by decide +kernel
theorem dX2_pass_145 : decode cX2_pass 145 = .ok (.getfield 14, 3) := by decide +kernel
theorem dX2_pass_148 : decode cX2_pass 148 = .ok (.iload 6, 2) := by decide +kernel
theorem dX2_pass_150 : decode cX2_pass 150 = .ok (.aaload, 1) := by decide +kernel
theorem dX2_pass_151 : decode cX2_pass 151 = .ok (.iconst 3, 1) := by decide +kernel
theorem dX2_pass_152 : decode cX2_pass 152 = .ok (.dup2, 1) := by decide +kernel
theorem dX2_pass_153 : decode cX2_pass 153 = .ok (.iaload, 1) := by decide +kernel
theorem dX2_pass_154 : decode cX2_pass 154 = .ok (.iconst 1, 1) := by decide +kernel
theorem dX2_pass_155 : decode cX2_pass 155 = .ok (.iadd, 1) := by decide +kernel
theorem dX2_pass_156 : decode cX2_pass 156 = .ok (.iastore, 1) := by decide +kernel
theorem dX2_pass_157 : decode cX2_pass 157 = .ok (.aload 5, 2) := by decide +kernel
theorem dX2_pass_159 : decode cX2_pass 159 = .ok (.iconst 3, 1) := by decide +kernel
theorem dX2_pass_160 : decode cX2_pass 160 = .ok (.dup2, 1) := by decide +kernel
theorem dX2_pass_161 : decode cX2_pass 161 = .ok (.iaload, 1) := by decide +kernel
theorem dX2_pass_162 : decode cX2_pass 162 = .ok (.iconst 1, 1) := by decide +kernel
theorem dX2_pass_163 : decode cX2_pass 163 = .ok (.iadd, 1) := by decide +kernel
theorem dX2_pass_164 : decode cX2_pass 164 = .ok (.iastore, 1) := by decide +kernel
theorem dX2_pass_165 : decode cX2_pass 165 = .ok (.aload 5, 2) := by decide +kernel
theorem dX2_pass_167 : decode cX2_pass 167 = .ok (.iconst 2, 1) := by decide +kernel
theorem dX2_pass_168 : decode cX2_pass 168 = .ok (.aload 5, 2) := by decide +kernel
theorem dX2_pass_170 : decode cX2_pass 170 = .ok (.iconst 2, 1) := by decide +kernel
theorem dX2_pass_171 : decode cX2_pass 171 = .ok (.iaload, 1) := by decide +kernel
theorem dX2_pass_172 : decode cX2_pass 172 = .ok (.ineg, 1) := by decide +kernel
theorem dX2_pass_173 : decode cX2_pass 173 = .ok (.iastore, 1) := by decide +kernel
theorem dX2_pass_174 : decode cX2_pass 174 = .ok (.aload 5, 2) := by decide +kernel
theorem dX2_pass_176 : decode cX2_pass 176 = .ok (.iconst 0, 1) := by decide +kernel
theorem dX2_pass_177 : decode cX2_pass 177 = .ok (.iconst 0, 1) := by decide +kernel
theorem dX2_pass_178 : decode cX2_pass 178 = .ok (.aload 5, 2) := by decide +kernel
theorem dX2_pass_180 : decode cX2_pass 180 = .ok (.iconst 0, 1) := by decide +kernel
theorem dX2_pass_181 : decode cX2_pass 181 = .ok (.iaload, 1) := by decide +kernel
theorem dX2_pass_182 : decode cX2_pass 182 = .ok (.aload_n 0, 1) := by decide +kernel
theorem dX2_pass_183 : decode cX2_pass 183 = .ok (.getfield 14, 3) := by decide +kernel
theorem dX2_pass_186 : decode cX2_pass 186 = .ok (.iload 6, 2) := by decide +kernel
theorem dX2_pass_188 : decode cX2_pass 188 = .ok (.aaload, 1) := by decide +kernel
theorem dX2_pass_189 : decode cX2_pass 189 = .ok (.iconst 2, 1) := by decide +kernel
theorem dX2_pass_190 : decode cX2_pass 190 = .ok (.iaload, 1) := by decide +kernel
theorem dX2_pass_191 : decode cX2_pass 191 = .ok (.isub, 1) := by decide +kernel
theorem dX2_pass_192 : decode cX2_pass 192 = .ok (.invokestatic 42, 3) := by decide +kernel
theorem dX2_pass_195 : decode cX2_pass 195 = .ok (.iastore, 1) := by decide +kernel
theorem dX2_pass_196 : decode cX2_pass 196 = .ok (.iinc 4 1, 3) := by decide +kernel
theorem dX2_pass_199 : decode cX2_pass 199 = .ok (.goto (-176), 3) := by decide +kernel
theorem dX2_pass_202 : decode cX2_pass 202 = .ok (.aload_n 0, 1) := by decide +kernel
theorem dX2_pass_203 : decode cX2_pass 203 = .ok (.getfield 18, 3) := by decide +kernel
theorem dX2_pass_206 : decode cX2_pass 206 = .ok (.arraylength, 1) := by decide +kernel
theorem dX2_pass_207 : decode cX2_pass 207 = .ok (.newarray .boolean, 2) := by decide +kernel
theorem dX2_pass_209 : decode cX2_pass 209 = .ok (.astore_n 2, 1) := by decide +kernel
theorem dX2_pass_210 : decode cX2_pass 210 = .ok (.iconst 0, 1) := by decide +kernel
theorem dX2_pass_211 : decode cX2_pass 211 = .ok (.istore_n 3, 1) := by decide +kernel
theorem dX2_pass_212 : decode cX2_pass 212 = .ok (.iload_n 3, 1) := by decide +kernel
theorem dX2_pass_213 : decode cX2_pass 213 = .ok (.bipush 32, 2) := by decide +kernel
theorem dX2_pass_215 : decode cX2_pass 215 = .ok (.if_icmp .ge 25, 3) := by decide +kernel
theorem dX2_pass_218 : decode cX2_pass 218 = .ok (.aload_n 0, 1) := by decide +kernel
theorem dX2_pass_219 : decode cX2_pass 219 = .ok (.iload_n 3, 1) := by decide +kernel
theorem dX2_pass_220 : decode cX2_pass 220 = .ok (.invokevirtual 52, 3) := by decide +kernel
theorem dX2_pass_223 : decode cX2_pass 223 = .ok (.ifCond .lt 11, 3) := by decide +kernel
theorem dX2_pass_226 : decode cX2_pass 226 = .ok (.aload_n 2, 1) := by decide +kernel
theorem dX2_pass_227 : decode cX2_pass 227 = .ok (.aload_n 0, 1) := by decide +kernel
theorem dX2_pass_228 : decode cX2_pass 228 = .ok (.iload_n 3, 1) := by decide +kernel
theorem dX2_pass_229 : decode cX2_pass 229 = .ok (.invokevirtual 52, 3) := by decide +kernel
theorem dX2_pass_232 : decode cX2_pass 232 = .ok (.iconst 1, 1) := by decide +kernel
theorem dX2_pass_233 : decode cX2_pass 233 = .ok (.bastore, 1) := by decide +kernel
theorem dX2_pass_234 : decode cX2_pass 234 = .ok (.iinc 3 1, 3) := by decide +kernel
theorem dX2_pass_237 : decode cX2_pass 237 = .ok (.goto (-25), 3) := by decide +kernel
theorem dX2_pass_240 : decode cX2_pass 240 = .ok (.iconst 0, 1) := by decide +kernel
theorem dX2_pass_241 : decode cX2_pass 241 = .ok (.istore_n 3, 1) := by decide +kernel
theorem dX2_pass_242 : decode cX2_pass 242 = .ok (.iload_n 3, 1) := by decide +kernel
theorem dX2_pass_243 : decode cX2_pass 243 = .ok (.aload_n 0, 1) := by decide +kernel
theorem dX2_pass_244 : decode cX2_pass 244 = .ok (.getfield 18, 3) := by decide +kernel
theorem dX2_pass_247 : decode cX2_pass 247 = .ok (.arraylength, 1) := by decide +kernel
theorem dX2_pass_248 : decode cX2_pass 248 = .ok (.if_icmp .ge 48, 3) := by decide +kernel
theorem dX2_pass_251 : decode cX2_pass 251 = .ok (.aload_n 2, 1) := by decide +kernel
theorem dX2_pass_252 : decode cX2_pass 252 = .ok (.iload_n 3, 1) := by decide +kernel
theorem dX2_pass_253 : decode cX2_pass 253 = .ok (.baload, 1) := by decide +kernel
theorem dX2_pass_254 : decode cX2_pass 254 = .ok (.ifCond .ne 36, 3) := by decide +kernel
theorem dX2_pass_257 : decode cX2_pass 257 = .ok (.aload_n 0, 1) := by decide +kernel
theorem dX2_pass_258 : decode cX2_pass 258 = .ok (.getfield 18, 3) := by decide +kernel
theorem dX2_pass_261 : decode cX2_pass 261 = .ok (.iload_n 3, 1) := by decide +kernel
theorem dX2_pass_262 : decode cX2_pass 262 = .ok (.aaload, 1) := by decide +kernel
theorem dX2_pass_263 : decode cX2_pass 263 = .ok (.iconst 0, 1) := by decide +kernel
theorem dX2_pass_264 : decode cX2_pass 264 = .ok (.iaload, 1) := by decide +kernel
theorem dX2_pass_265 : decode cX2_pass 265 = .ok (.ifCond .ne 6, 3) := by decide +kernel
theorem dX2_pass_268 : decode cX2_pass 268 = .ok (.goto 22, 3) := by decide +kernel
theorem dX2_pass_271 : decode cX2_pass 271 = .ok (.aload_n 0, 1) := by decide +kernel
theorem dX2_pass_272 : decode cX2_pass 272 = .ok (.getfield 18, 3) := by decide +kernel
theorem dX2_pass_275 : decode cX2_pass 275 = .ok (.iload_n 3, 1) := by decide +kernel
theorem dX2_pass_276 : decode cX2_pass 276 = .ok (.aaload, 1) := by decide +kernel
theorem dX2_pass_277 : decode cX2_pass 277 = .ok (.iconst 0, 1) := by decide +kernel
theorem dX2_pass_278 : decode cX2_pass 278 = .ok (.iconst 0, 1) := by decide +kernel
theorem dX2_pass_279 : decode cX2_pass 279 = .ok (.iastore, 1) := by decide +kernel
theorem dX2_pass_280 : decode cX2_pass 280 = .ok (.aload_n 0, 1) := by decide +kernel
theorem dX2_pass_281 : decode cX2_pass 281 = .ok (.dup, 1) := by decide +kernel
theorem dX2_pass_282 : decode cX2_pass 282 = .ok (.getfield 36, 3) := by decide +kernel
theorem dX2_pass_285 : decode cX2_pass 285 = .ok (.iconst 1, 1) := by decide +kernel
theorem dX2_pass_286 : decode cX2_pass 286 = .ok (.iadd, 1) := by decide +kernel
theorem dX2_pass_287 : decode cX2_pass 287 = .ok (.putfield 36, 3) := by decide +kernel
theorem dX2_pass_290 : decode cX2_pass 290 = .ok (.iinc 3 1, 3) := by decide +kernel
theorem dX2_pass_293 : decode cX2_pass 293 = .ok (.goto (-51), 3) := by decide +kernel
theorem dX2_pass_296 : decode cX2_pass 296 = .ok (.iconst 0, 1) := by decide +kernel
theorem dX2_pass_297 : decode cX2_pass 297 = .ok (.istore_n 3, 1) := by decide +kernel
theorem dX2_pass_298 : decode cX2_pass 298 = .ok (.iload_n 3, 1) := by decide +kernel
theorem dX2_pass_299 : decode cX2_pass 299 = .ok (.iconst 2, 1) := by decide +kernel
theorem dX2_pass_300 : decode cX2_pass 300 = .ok (.if_icmp .ge 133, 3) := by decide +kernel
theorem dX2_pass_303 : decode cX2_pass 303 = .ok (.aload_n 0, 1) := by decide +kernel
theorem dX2_pass_304 : decode cX2_pass 304 = .ok (.getfield 21, 3) := by decide +kernel
theorem dX2_pass_307 : decode cX2_pass 307 = .ok (.iload_n 3, 1) := by decide +kernel
theorem dX2_pass_308 : decode cX2_pass 308 = .ok (.dup2, 1) := by decide +kernel
theorem dX2_pass_309 : decode cX2_pass 309 = .ok (.iaload, 1) := by decide +kernel
theorem dX2_pass_310 : decode cX2_pass 310 = .ok (.aload_n 1, 1) := by decide +kernel
theorem dX2_pass_311 : decode cX2_pass 311 = .ok (.iload_n 3, 1) := by decide +kernel
theorem dX2_pass_312 : decode cX2_pass 312 = .ok (.iaload, 1) := by decide +kernel
theorem dX2_pass_313 : decode cX2_pass 313 = .ok (.iadd, 1) := by decide +kernel
theorem dX2_pass_314 : decode cX2_pass 314 = .ok (.iastore, 1) := by decide +kernel
theorem dX2_pass_315 : decode cX2_pass 315 = .ok (.aload_n 0, 1) := by decide +kernel
theorem dX2_pass_316 : decode cX2_pass 316 = .ok (.getfield 24, 3) := by decide +kernel
theorem dX2_pass_319 : decode cX2_pass 319 = .ok (.iload_n 3, 1) := by decide +kernel
theorem dX2_pass_320 : decode cX2_pass 320 = .ok (.aload_n 1, 1) := by decide +kernel
theorem dX2_pass_321 : decode cX2_pass 321 = .ok (.iload_n 3, 1) := by decide +kernel
theorem dX2_pass_322 : decode cX2_pass 322 = .ok (.iaload, 1) := by decide +kernel
theorem dX2_pass_323 : decode cX2_pass 323 = .ok (.ifCond .le 7, 3) := by decide +kernel
theorem dX2_pass_326 : decode cX2_pass 326 = .ok (.iconst 0, 1) := by decide +kernel
theorem dX2_pass_327 : decode cX2_pass 327 = .ok (.goto 11, 3) := by decide +kernel
theorem dX2_pass_330 : decode cX2_pass 330 = .ok (.aload_n 0, 1) := by decide +kernel
theorem dX2_pass_331 : decode cX2_pass 331 = .ok (.getfield 24, 3) := by decide +kernel
theorem dX2_pass_334 : decode cX2_pass 334 = .ok (.iload_n 3, 1) := by decide +kernel
theorem dX2_pass_335 : decode cX2_pass 335 = .ok (.iaload, 1) := by decide +kernel
theorem dX2_pass_336 : decode cX2_pass 336 = .ok (.iconst 1, 1) := by decide +kernel
theorem dX2_pass_337 : decode cX2_pass 337 = .ok (.iadd, 1) := by decide +kernel
theorem dX2_pass_338 : decode cX2_pass 338 = .ok (.iastore, 1) := by decide +kernel
theorem dX2_pass_339 : decode cX2_pass 339 = .ok (.aload_n 0, 1) := by decide +kernel
theorem dX2_pass_340 : decode cX2_pass 340 = .ok (.getfield 24, 3) := by decide +kernel
theorem dX2_pass_343 : decode cX2_pass 343 = .ok (.iload_n 3, 1) := by decide +kernel
theorem dX2_pass_344 : decode cX2_pass 344 = .ok (.iaload, 1) := by decide +kernel
theorem dX2_pass_345 : decode cX2_pass 345 = .ok (.bipush 12, 2) := by decide +kernel
theorem dX2_pass_347 : decode cX2_pass 347 = .ok (.if_icmp .ge 6, 3) := by decide +kernel
theorem dX2_pass_350 : decode cX2_pass 350 = .ok (.goto 77, 3) := by decide +kernel
theorem dX2_pass_353 : decode cX2_pass 353 = .ok (.aload_n 0, 1) := by decide +kernel
theorem dX2_pass_354 : decode cX2_pass 354 = .ok (.getfield 24, 3) := by decide +kernel
theorem dX2_pass_357 : decode cX2_pass 357 = .ok (.iload_n 3, 1) := by decide +kernel
theorem dX2_pass_358 : decode cX2_pass 358 = .ok (.iconst 0, 1) := by decide +kernel
theorem dX2_pass_359 : decode cX2_pass 359 = .ok (.iastore, 1) := by decide +kernel
theorem dX2_pass_360 : decode cX2_pass 360 = .ok (.iconst 0, 1) := by decide +kernel
theorem dX2_pass_361 : decode cX2_pass 361 = .ok (.istore 4, 2) := by decide +kernel
theorem dX2_pass_363 : decode cX2_pass 363 = .ok (.iload 4, 2) := by decide +kernel
theorem dX2_pass_365 : decode cX2_pass 365 = .ok (.aload_n 0, 1) := by decide +kernel
theorem dX2_pass_366 : decode cX2_pass 366 = .ok (.getfield 14, 3) := by decide +kernel
theorem dX2_pass_369 : decode cX2_pass 369 = .ok (.arraylength, 1) := by decide +kernel
theorem dX2_pass_370 : decode cX2_pass 370 = .ok (.if_icmp .ge 22, 3) := by decide +kernel
theorem dX2_pass_373 : decode cX2_pass 373 = .ok (.aload_n 0, 1) := by decide +kernel
theorem dX2_pass_374 : decode cX2_pass 374 = .ok (.getfield 14, 3) := by decide +kernel
theorem dX2_pass_377 : decode cX2_pass 377 = .ok (.iload 4, 2) := by decide +kernel
theorem dX2_pass_379 : decode cX2_pass 379 = .ok (.aaload, 1) := by decide +kernel
theorem dX2_pass_380 : decode cX2_pass 380 = .ok (.iconst 1, 1) := by decide +kernel
theorem dX2_pass_381 : decode cX2_pass 381 = .ok (.iaload, 1) := by decide +kernel
theorem dX2_pass_382 : decode cX2_pass 382 = .ok (.iload_n 3, 1) := by decide +kernel
theorem dX2_pass_383 : decode cX2_pass 383 = .ok (.if_icmp .eq 9, 3) := by decide +kernel
theorem dX2_pass_386 : decode cX2_pass 386 = .ok (.iinc 4 1, 3) := by decide +kernel
theorem dX2_pass_389 : decode cX2_pass 389 = .ok (.goto (-26), 3) := by decide +kernel
theorem dX2_pass_392 : decode cX2_pass 392 = .ok (.iload 4, 2) := by decide +kernel
theorem dX2_pass_394 : decode cX2_pass 394 = .ok (.aload_n 0, 1) := by decide +kernel
theorem dX2_pass_395 : decode cX2_pass 395 = .ok (.getfield 14, 3) := by decide +kernel
theorem dX2_pass_398 : decode cX2_pass 398 = .ok (.arraylength, 1) := by decide +kernel
theorem dX2_pass_399 : decode cX2_pass 399 = .ok (.if_icmp .ne 6, 3) := by decide +kernel
theorem dX2_pass_402 : decode cX2_pass 402 = .ok (.goto 25, 3) := by decide +kernel
theorem dX2_pass_405 : decode cX2_pass 405 = .ok (.aload_n 0, 1) := by decide +kernel
theorem dX2_pass_406 : decode cX2_pass 406 = .ok (.getfield 14, 3) := by decide +kernel
theorem dX2_pass_409 : decode cX2_pass 409 = .ok (.iload 4, 2) := by decide +kernel
theorem dX2_pass_411 : decode cX2_pass 411 = .ok (.aaload, 1) := by decide +kernel
theorem dX2_pass_412 : decode cX2_pass 412 = .ok (.iconst 1, 1) := by decide +kernel
theorem dX2_pass_413 : decode cX2_pass 413 = .ok (.iconst 1, 1) := by decide +kernel
theorem dX2_pass_414 : decode cX2_pass 414 = .ok (.iload_n 3, 1) := by decide +kernel
theorem dX2_pass_415 : decode cX2_pass 415 = .ok (.isub, 1) := by decide +kernel
theorem dX2_pass_416 : decode cX2_pass 416 = .ok (.iastore, 1) := by decide +kernel
theorem dX2_pass_417 : decode cX2_pass 417 = .ok (.aload_n 0, 1) := by decide +kernel
theorem dX2_pass_418 : decode cX2_pass 418 = .ok (.dup, 1) := by decide +kernel
theorem dX2_pass_419 : decode cX2_pass 419 = .ok (.getfield 39, 3) := by decide +kernel
theorem dX2_pass_422 : decode cX2_pass 422 = .ok (.iconst 1, 1) := by decide +kernel
theorem dX2_pass_423 : decode cX2_pass 423 = .ok (.iadd, 1) := by decide +kernel
theorem dX2_pass_424 : decode cX2_pass 424 = .ok (.putfield 39, 3) := by decide +kernel
theorem dX2_pass_427 : decode cX2_pass 427 = .ok (.iinc 3 1, 3) := by decide +kernel
theorem dX2_pass_430 : decode cX2_pass 430 = .ok (.goto (-132), 3) := by decide +kernel
theorem dX2_pass_433 : decode cX2_pass 433 = .ok (.aload_n 0, 1) := by decide +kernel
theorem dX2_pass_434 : decode cX2_pass 434 = .ok (.dup, 1) := by decide +kernel
theorem dX2_pass_435 : decode cX2_pass 435 = .ok (.getfield 32, 3) := by decide +kernel
theorem dX2_pass_438 : decode cX2_pass 438 = .ok (.iconst 1, 1) := by decide +kernel
theorem dX2_pass_439 : decode cX2_pass 439 = .ok (.iadd, 1) := by decide +kernel
theorem dX2_pass_440 : decode cX2_pass 440 = .ok (.putfield 32, 3) := by decide +kernel
theorem dX2_pass_443 : decode cX2_pass 443 = .ok (.aload_n 1, 1) := by decide +kernel
theorem dX2_pass_444 : decode cX2_pass 444 = .ok (.iconst 0, 1) := by decide +kernel
theorem dX2_pass_445 : decode cX2_pass 445 = .ok (.iaload, 1) := by decide +kernel
theorem dX2_pass_446 : decode cX2_pass 446 = .ok (.aload_n 1, 1) := by decide +kernel
theorem dX2_pass_447 : decode cX2_pass 447 = .ok (.iconst 1, 1) := by decide +kernel
theorem dX2_pass_448 : decode cX2_pass 448 = .ok (.iaload, 1) := by decide +kernel
theorem dX2_pass_449 : decode cX2_pass 449 = .ok (.iadd, 1) := by decide +kernel
theorem dX2_pass_450 : decode cX2_pass 450 = .ok (.ireturn, 1) := by decide +kernel
theorem dX2_pass__0 : decode cX2_pass_ 0 = .ok (.iconst 0, 1) := by decide +kernel
theorem dX2_pass__1 : decode cX2_pass_ 1 = .ok (.istore_n 2, 1) := by decide +kernel
theorem dX2_pass__2 : decode cX2_pass_ 2 = .ok (.iconst 0, 1) := by decide +kernel
theorem dX2_pass__3 : decode cX2_pass_ 3 = .ok (.istore_n 3, 1) := by decide +kernel
theorem dX2_pass__4 : decode cX2_pass_ 4 = .ok (.iload_n 3, 1) := by decide +kernel
theorem dX2_pass__5 : decode cX2_pass_ 5 = .ok (.iload_n 1, 1) := by decide +kernel
theorem dX2_pass__6 : decode cX2_pass_ 6 = .ok (.if_icmp .ge 16, 3) := by decide +kernel
theorem dX2_pass__9 : decode cX2_pass_ 9 = .ok (.iload_n 2, 1) := by decide +kernel
theorem dX2_pass__10 : decode cX2_pass_ 10 = .ok (.aload_n 0, 1) := by decide +kernel
theorem dX2_pass__11 : decode cX2_pass_ 11 = .ok (.invokevirtual 55, 3) := by decide +kernel
theorem dX2_pass__14 : decode cX2_pass_ 14 = .ok (.iadd, 1) := by decide +kernel
theorem dX2_pass__15 : decode cX2_pass_ 15 = .ok (.istore_n 2, 1) := by decide +kernel
theorem dX2_pass__16 : decode cX2_pass_ 16 = .ok (.iinc 3 1, 3) := by decide +kernel
theorem dX2_pass__19 : decode cX2_pass_ 19 = .ok (.goto (-15), 3) := by decide +kernel
theorem dX2_pass__22 : decode cX2_pass_ 22 = .ok (.iload_n 2, 1) := by decide +kernel
theorem dX2_pass__23 : decode cX2_pass_ 23 = .ok (.ireturn, 1) := by decide +kernel
theorem dX2_alone_0 : decode cX2_alone 0 = .ok (.aload_n 0, 1) := by decide +kernel
theorem dX2_alone_1 : decode cX2_alone 1 = .ok (.invokevirtual 59, 3) := by decide +kernel
theorem dX2_alone_4 : decode cX2_alone 4 = .ok (.astore 4, 2) := by decide +kernel
theorem dX2_alone_6 : decode cX2_alone 6 = .ok (.aload 4, 2) := by decide +kernel
theorem dX2_alone_8 : decode cX2_alone 8 = .ok (.iconst 1, 1) := by decide +kernel
theorem dX2_alone_9 : decode cX2_alone 9 = .ok (.anewarray 13, 3) := by decide +kernel
theorem dX2_alone_12 : decode cX2_alone 12 = .ok (.dup, 1) := by decide +kernel
theorem dX2_alone_13 : decode cX2_alone 13 = .ok (.iconst 0, 1) := by decide +kernel
theorem dX2_alone_14 : decode cX2_alone 14 = .ok (.iconst 4, 1) := by decide +kernel
theorem dX2_alone_15 : decode cX2_alone 15 = .ok (.newarray .int, 2) := by decide +kernel
theorem dX2_alone_17 : decode cX2_alone 17 = .ok (.dup, 1) := by decide +kernel
theorem dX2_alone_18 : decode cX2_alone 18 = .ok (.iconst 0, 1) := by decide +kernel
theorem dX2_alone_19 : decode cX2_alone 19 = .ok (.iload_n 3, 1) := by decide +kernel
theorem dX2_alone_20 : decode cX2_alone 20 = .ok (.iastore, 1) := by decide +kernel
theorem dX2_alone_21 : decode cX2_alone 21 = .ok (.dup, 1) := by decide +kernel
theorem dX2_alone_22 : decode cX2_alone 22 = .ok (.iconst 1, 1) := by decide +kernel
theorem dX2_alone_23 : decode cX2_alone 23 = .ok (.iload_n 1, 1) := by decide +kernel
theorem dX2_alone_24 : decode cX2_alone 24 = .ok (.iastore, 1) := by decide +kernel
theorem dX2_alone_25 : decode cX2_alone 25 = .ok (.dup, 1) := by decide +kernel
theorem dX2_alone_26 : decode cX2_alone 26 = .ok (.iconst 2, 1) := by decide +kernel
theorem dX2_alone_27 : decode cX2_alone 27 = .ok (.iload_n 2, 1) := by decide +kernel
theorem dX2_alone_28 : decode cX2_alone 28 = .ok (.iastore, 1) := by decide +kernel
theorem dX2_alone_29 : decode cX2_alone 29 = .ok (.dup, 1) := by decide +kernel
theorem dX2_alone_30 : decode cX2_alone 30 = .ok (.iconst 3, 1) := by decide +kernel
theorem dX2_alone_31 : decode cX2_alone 31 = .ok (.iconst 0, 1) := by decide +kernel
theorem dX2_alone_32 : decode cX2_alone 32 = .ok (.iastore, 1) := by decide +kernel
theorem dX2_alone_33 : decode cX2_alone 33 = .ok (.aastore, 1) := by decide +kernel
theorem dX2_alone_34 : decode cX2_alone 34 = .ok (.putfield 18, 3) := by decide +kernel
theorem dX2_alone_37 : decode cX2_alone 37 = .ok (.aload 4, 2) := by decide +kernel
theorem dX2_alone_39 : decode cX2_alone 39 = .ok (.areturn, 1) := by decide +kernel
theorem dX2_turns_0 : decode cX2_turns 0 = .ok (.aload_n 0, 1) := by decide +kernel
theorem dX2_turns_1 : decode cX2_turns 1 = .ok (.iload_n 1, 1) := by decide +kernel
theorem dX2_turns_2 : decode cX2_turns 2 = .ok (.iconst 1, 1) := by decide +kernel
theorem dX2_turns_3 : decode cX2_turns 3 = .ok (.iload_n 2, 1) := by decide +kernel
theorem dX2_turns_4 : decode cX2_turns 4 = .ok (.invokevirtual 63, 3) := by decide +kernel
theorem dX2_turns_7 : decode cX2_turns 7 = .ok (.astore_n 3, 1) := by decide +kernel
theorem dX2_turns_8 : decode cX2_turns 8 = .ok (.aload_n 3, 1) := by decide +kernel
theorem dX2_turns_9 : decode cX2_turns 9 = .ok (.getfield 18, 3) := by decide +kernel
theorem dX2_turns_12 : decode cX2_turns 12 = .ok (.iconst 0, 1) := by decide +kernel
theorem dX2_turns_13 : decode cX2_turns 13 = .ok (.aaload, 1) := by decide +kernel
theorem dX2_turns_14 : decode cX2_turns 14 = .ok (.iconst 0, 1) := by decide +kernel
theorem dX2_turns_15 : decode cX2_turns 15 = .ok (.iaload, 1) := by decide +kernel
theorem dX2_turns_16 : decode cX2_turns 16 = .ok (.ifCond .le 11, 3) := by decide +kernel
theorem dX2_turns_19 : decode cX2_turns 19 = .ok (.aload_n 3, 1) := by decide +kernel
theorem dX2_turns_20 : decode cX2_turns 20 = .ok (.invokevirtual 55, 3) := by decide +kernel
theorem dX2_turns_23 : decode cX2_turns 23 = .ok (.pop, 1) := by decide +kernel
theorem dX2_turns_24 : decode cX2_turns 24 = .ok (.goto (-16), 3) := by decide +kernel
theorem dX2_turns_27 : decode cX2_turns 27 = .ok (.aload_n 3, 1) := by decide +kernel
theorem dX2_turns_28 : decode cX2_turns 28 = .ok (.getfield 18, 3) := by decide +kernel
theorem dX2_turns_31 : decode cX2_turns 31 = .ok (.iconst 0, 1) := by decide +kernel
theorem dX2_turns_32 : decode cX2_turns 32 = .ok (.aaload, 1) := by decide +kernel
theorem dX2_turns_33 : decode cX2_turns 33 = .ok (.iconst 3, 1) := by decide +kernel
theorem dX2_turns_34 : decode cX2_turns 34 = .ok (.iaload, 1) := by decide +kernel
theorem dX2_turns_35 : decode cX2_turns 35 = .ok (.ireturn, 1) := by decide +kernel
theorem dX2_isSame_0 : decode cX2_isSame 0 = .ok (.iconst 0, 1) := by decide +kernel
theorem dX2_isSame_1 : decode cX2_isSame 1 = .ok (.istore_n 2, 1) := by decide +kernel
theorem dX2_isSame_2 : decode cX2_isSame 2 = .ok (.iconst 0, 1) := by decide +kernel
theorem dX2_isSame_3 : decode cX2_isSame 3 = .ok (.istore_n 3, 1) := by decide +kernel
theorem dX2_isSame_4 : decode cX2_isSame 4 = .ok (.iload_n 3, 1) := by decide +kernel
theorem dX2_isSame_5 : decode cX2_isSame 5 = .ok (.aload_n 0, 1) := by decide +kernel
theorem dX2_isSame_6 : decode cX2_isSame 6 = .ok (.getfield 14, 3) := by decide +kernel
theorem dX2_isSame_9 : decode cX2_isSame 9 = .ok (.arraylength, 1) := by decide +kernel
theorem dX2_isSame_10 : decode cX2_isSame 10 = .ok (.if_icmp .ge 59, 3) := by decide +kernel
theorem dX2_isSame_13 : decode cX2_isSame 13 = .ok (.aload_n 1, 1) := by decide +kernel
theorem dX2_isSame_14 : decode cX2_isSame 14 = .ok (.iload_n 3, 1) := by decide +kernel
theorem dX2_isSame_15 : decode cX2_isSame 15 = .ok (.invokevirtual 67, 3) := by decide +kernel
theorem dX2_isSame_18 : decode cX2_isSame 18 = .ok (.aload_n 0, 1) := by decide +kernel
theorem dX2_isSame_19 : decode cX2_isSame 19 = .ok (.getfield 14, 3) := by decide +kernel
theorem dX2_isSame_22 : decode cX2_isSame 22 = .ok (.iload_n 3, 1) := by decide +kernel
theorem dX2_isSame_23 : decode cX2_isSame 23 = .ok (.aaload, 1) := by decide +kernel
theorem dX2_isSame_24 : decode cX2_isSame 24 = .ok (.iconst 0, 1) := by decide +kernel
theorem dX2_isSame_25 : decode cX2_isSame 25 = .ok (.iaload, 1) := by decide +kernel
theorem dX2_isSame_26 : decode cX2_isSame 26 = .ok (.if_icmp .ne 35, 3) := by decide +kernel
theorem dX2_isSame_29 : decode cX2_isSame 29 = .ok (.aload_n 1, 1) := by decide +kernel
theorem dX2_isSame_30 : decode cX2_isSame 30 = .ok (.iload_n 3, 1) := by decide +kernel
theorem dX2_isSame_31 : decode cX2_isSame 31 = .ok (.invokevirtual 72, 3) := by decide +kernel
theorem dX2_isSame_34 : decode cX2_isSame 34 = .ok (.aload_n 0, 1) := by decide +kernel
theorem dX2_isSame_35 : decode cX2_isSame 35 = .ok (.getfield 14, 3) := by decide +kernel
theorem dX2_isSame_38 : decode cX2_isSame 38 = .ok (.iload_n 3, 1) := by decide +kernel
theorem dX2_isSame_39 : decode cX2_isSame 39 = .ok (.aaload, 1) := by decide +kernel
theorem dX2_isSame_40 : decode cX2_isSame 40 = .ok (.iconst 1, 1) := by decide +kernel
theorem dX2_isSame_41 : decode cX2_isSame 41 = .ok (.iaload, 1) := by decide +kernel
theorem dX2_isSame_42 : decode cX2_isSame 42 = .ok (.if_icmp .ne 19, 3) := by decide +kernel
theorem dX2_isSame_45 : decode cX2_isSame 45 = .ok (.aload_n 1, 1) := by decide +kernel
theorem dX2_isSame_46 : decode cX2_isSame 46 = .ok (.iload_n 3, 1) := by decide +kernel
theorem dX2_isSame_47 : decode cX2_isSame 47 = .ok (.invokevirtual 75, 3) := by decide +kernel
theorem dX2_isSame_50 : decode cX2_isSame 50 = .ok (.aload_n 0, 1) := by decide +kernel
theorem dX2_isSame_51 : decode cX2_isSame 51 = .ok (.getfield 14, 3) := by decide +kernel
theorem dX2_isSame_54 : decode cX2_isSame 54 = .ok (.iload_n 3, 1) := by decide +kernel
theorem dX2_isSame_55 : decode cX2_isSame 55 = .ok (.aaload, 1) := by decide +kernel
theorem dX2_isSame_56 : decode cX2_isSame 56 = .ok (.iconst 3, 1) := by decide +kernel
theorem dX2_isSame_57 : decode cX2_isSame 57 = .ok (.iaload, 1) := by decide +kernel
theorem dX2_isSame_58 : decode cX2_isSame 58 = .ok (.if_icmp .eq 5, 3) := by decide +kernel
theorem dX2_isSame_61 : decode cX2_isSame 61 = .ok (.iconst 0, 1) := by decide +kernel
theorem dX2_isSame_62 : decode cX2_isSame 62 = .ok (.ireturn, 1) := by decide +kernel
theorem dX2_isSame_63 : decode cX2_isSame 63 = .ok (.iinc 3 1, 3) := by decide +kernel
theorem dX2_isSame_66 : decode cX2_isSame 66 = .ok (.goto (-62), 3) := by decide +kernel
theorem dX2_isSame_69 : decode cX2_isSame 69 = .ok (.iconst 0, 1) := by decide +kernel
theorem dX2_isSame_70 : decode cX2_isSame 70 = .ok (.istore_n 3, 1) := by decide +kernel
theorem dX2_isSame_71 : decode cX2_isSame 71 = .ok (.iload_n 3, 1) := by decide +kernel
theorem dX2_isSame_72 : decode cX2_isSame 72 = .ok (.iconst 2, 1) := by decide +kernel
theorem dX2_isSame_73 : decode cX2_isSame 73 = .ok (.if_icmp .ge 104, 3) := by decide +kernel
theorem dX2_isSame_76 : decode cX2_isSame 76 = .ok (.iconst 0, 1) := by decide +kernel
theorem dX2_isSame_77 : decode cX2_isSame 77 = .ok (.istore 4, 2) := by decide +kernel
theorem dX2_isSame_79 : decode cX2_isSame 79 = .ok (.aload_n 0, 1) := by decide +kernel
theorem dX2_isSame_80 : decode cX2_isSame 80 = .ok (.getfield 14, 3) := by decide +kernel
theorem dX2_isSame_83 : decode cX2_isSame 83 = .ok (.astore 5, 2) := by decide +kernel
theorem dX2_isSame_85 : decode cX2_isSame 85 = .ok (.aload 5, 2) := by decide +kernel
theorem dX2_isSame_87 : decode cX2_isSame 87 = .ok (.arraylength, 1) := by decide +kernel
theorem dX2_isSame_88 : decode cX2_isSame 88 = .ok (.istore 6, 2) := by decide +kernel
theorem dX2_isSame_90 : decode cX2_isSame 90 = .ok (.iconst 0, 1) := by decide +kernel
theorem dX2_isSame_91 : decode cX2_isSame 91 = .ok (.istore 7, 2) := by decide +kernel
theorem dX2_isSame_93 : decode cX2_isSame 93 = .ok (.iload 7, 2) := by decide +kernel
theorem dX2_isSame_95 : decode cX2_isSame 95 = .ok (.iload 6, 2) := by decide +kernel
theorem dX2_isSame_97 : decode cX2_isSame 97 = .ok (.if_icmp .ge 34, 3) := by decide +kernel
theorem dX2_isSame_100 : decode cX2_isSame 100 = .ok (.aload 5, 2) := by decide +kernel
theorem dX2_isSame_102 : decode cX2_isSame 102 = .ok (.iload 7, 2) := by decide +kernel
theorem dX2_isSame_104 : decode cX2_isSame 104 = .ok (.aaload, 1) := by decide +kernel
theorem dX2_isSame_105 : decode cX2_isSame 105 = .ok (.astore 8, 2) := by decide +kernel
theorem dX2_isSame_107 : decode cX2_isSame 107 = .ok (.iload 4, 2) := by decide +kernel
theorem dX2_isSame_109 : decode cX2_isSame 109 = .ok (.aload 8, 2) := by decide +kernel
theorem dX2_isSame_111 : decode cX2_isSame 111 = .ok (.iconst 1, 1) := by decide +kernel
theorem dX2_isSame_112 : decode cX2_isSame 112 = .ok (.iaload, 1) := by decide +kernel
theorem dX2_isSame_113 : decode cX2_isSame 113 = .ok (.iload_n 3, 1) := by decide +kernel
theorem dX2_isSame_114 : decode cX2_isSame 114 = .ok (.if_icmp .ne 7, 3) := by decide +kernel
theorem dX2_isSame_117 : decode cX2_isSame 117 = .ok (.iconst 1, 1) := by decide +kernel
theorem dX2_isSame_118 : decode cX2_isSame 118 = .ok (.goto 4, 3) := by decide +kernel
theorem dX2_isSame_121 : decode cX2_isSame 121 = .ok (.iconst 0, 1) := by decide +kernel
theorem dX2_isSame_122 : decode cX2_isSame 122 = .ok (.iadd, 1) := by decide +kernel
theorem dX2_isSame_123 : decode cX2_isSame 123 = .ok (.istore 4, 2) := by decide +kernel
theorem dX2_isSame_125 : decode cX2_isSame 125 = .ok (.iinc 7 1, 3) := by decide +kernel
theorem dX2_isSame_128 : decode cX2_isSame 128 = .ok (.goto (-35), 3) := by decide +kernel
theorem dX2_isSame_131 : decode cX2_isSame 131 = .ok (.aload_n 1, 1) := by decide +kernel
theorem dX2_isSame_132 : decode cX2_isSame 132 = .ok (.iload_n 3, 1) := by decide +kernel
theorem dX2_isSame_133 : decode cX2_isSame 133 = .ok (.invokevirtual 78, 3) := by decide +kernel
theorem dX2_isSame_136 : decode cX2_isSame 136 = .ok (.aload_n 0, 1) := by decide +kernel
theorem dX2_isSame_137 : decode cX2_isSame 137 = .ok (.getfield 21, 3) := by decide +kernel
theorem dX2_isSame_140 : decode cX2_isSame 140 = .ok (.iload_n 3, 1) := by decide +kernel
theorem dX2_isSame_141 : decode cX2_isSame 141 = .ok (.iaload, 1) := by decide +kernel
theorem dX2_isSame_142 : decode cX2_isSame 142 = .ok (.if_icmp .ne 27, 3) := by decide +kernel
theorem dX2_isSame_145 : decode cX2_isSame 145 = .ok (.aload_n 1, 1) := by decide +kernel
theorem dX2_isSame_146 : decode cX2_isSame 146 = .ok (.iload_n 3, 1) := by decide +kernel
theorem dX2_isSame_147 : decode cX2_isSame 147 = .ok (.invokevirtual 81, 3) := by decide +kernel
theorem dX2_isSame_150 : decode cX2_isSame 150 = .ok (.iload 4, 2) := by decide +kernel
theorem dX2_isSame_152 : decode cX2_isSame 152 = .ok (.if_icmp .ne 17, 3) := by decide +kernel
theorem dX2_isSame_155 : decode cX2_isSame 155 = .ok (.aload_n 1, 1) := by decide +kernel
theorem dX2_isSame_156 : decode cX2_isSame 156 = .ok (.iload_n 3, 1) := by decide +kernel
theorem dX2_isSame_157 : decode cX2_isSame 157 = .ok (.invokevirtual 84, 3) := by decide +kernel
theorem dX2_isSame_160 : decode cX2_isSame 160 = .ok (.aload_n 0, 1) := by decide +kernel
theorem dX2_isSame_161 : decode cX2_isSame 161 = .ok (.getfield 24, 3) := by decide +kernel
theorem dX2_isSame_164 : decode cX2_isSame 164 = .ok (.iload_n 3, 1) := by decide +kernel
theorem dX2_isSame_165 : decode cX2_isSame 165 = .ok (.iaload, 1) := by decide +kernel
theorem dX2_isSame_166 : decode cX2_isSame 166 = .ok (.if_icmp .eq 5, 3) := by decide +kernel
theorem dX2_isSame_169 : decode cX2_isSame 169 = .ok (.iconst 0, 1) := by decide +kernel
theorem dX2_isSame_170 : decode cX2_isSame 170 = .ok (.ireturn, 1) := by decide +kernel
theorem dX2_isSame_171 : decode cX2_isSame 171 = .ok (.iinc 3 1, 3) := by decide +kernel
theorem dX2_isSame_174 : decode cX2_isSame 174 = .ok (.goto (-103), 3) := by decide +kernel
theorem dX2_isSame_177 : decode cX2_isSame 177 = .ok (.iconst 0, 1) := by decide +kernel
theorem dX2_isSame_178 : decode cX2_isSame 178 = .ok (.istore_n 3, 1) := by decide +kernel
theorem dX2_isSame_179 : decode cX2_isSame 179 = .ok (.iload_n 3, 1) := by decide +kernel
theorem dX2_isSame_180 : decode cX2_isSame 180 = .ok (.aload_n 0, 1) := by decide +kernel
theorem dX2_isSame_181 : decode cX2_isSame 181 = .ok (.getfield 18, 3) := by decide +kernel
theorem dX2_isSame_184 : decode cX2_isSame 184 = .ok (.arraylength, 1) := by decide +kernel
theorem dX2_isSame_185 : decode cX2_isSame 185 = .ok (.if_icmp .ge 100, 3) := by decide +kernel
theorem dX2_isSame_188 : decode cX2_isSame 188 = .ok (.aload_n 0, 1) := by decide +kernel
theorem dX2_isSame_189 : decode cX2_isSame 189 = .ok (.getfield 18, 3) := by decide +kernel
theorem dX2_isSame_192 : decode cX2_isSame 192 = .ok (.iload_n 3, 1) := by decide +kernel
theorem dX2_isSame_193 : decode cX2_isSame 193 = .ok (.aaload, 1) := by decide +kernel
theorem dX2_isSame_194 : decode cX2_isSame 194 = .ok (.astore 4, 2) := by decide +kernel
theorem dX2_isSame_196 : decode cX2_isSame 196 = .ok (.iload_n 2, 1) := by decide +kernel
theorem dX2_isSame_197 : decode cX2_isSame 197 = .ok (.aload 4, 2) := by decide +kernel
theorem dX2_isSame_199 : decode cX2_isSame 199 = .ok (.iconst 0, 1) := by decide +kernel
theorem dX2_isSame_200 : decode cX2_isSame 200 = .ok (.iaload, 1) := by decide +kernel
theorem dX2_isSame_201 : decode cX2_isSame 201 = .ok (.iadd, 1) := by decide +kernel
theorem dX2_isSame_202 : decode cX2_isSame 202 = .ok (.istore_n 2, 1) := by decide +kernel
theorem dX2_isSame_203 : decode cX2_isSame 203 = .ok (.aload_n 1, 1) := by decide +kernel
theorem dX2_isSame_204 : decode cX2_isSame 204 = .ok (.iload_n 3, 1) := by decide +kernel
theorem dX2_isSame_205 : decode cX2_isSame 205 = .ok (.invokevirtual 87, 3) := by decide +kernel
theorem dX2_isSame_208 : decode cX2_isSame 208 = .ok (.aload 4, 2) := by decide +kernel
theorem dX2_isSame_210 : decode cX2_isSame 210 = .ok (.iconst 0, 1) := by decide +kernel
theorem dX2_isSame_211 : decode cX2_isSame 211 = .ok (.iaload, 1) := by decide +kernel
theorem dX2_isSame_212 : decode cX2_isSame 212 = .ok (.if_icmp .ne 65, 3) := by decide +kernel
theorem dX2_isSame_215 : decode cX2_isSame 215 = .ok (.aload_n 1, 1) := by decide +kernel
theorem dX2_isSame_216 : decode cX2_isSame 216 = .ok (.iload_n 3, 1) := by decide +kernel
theorem dX2_isSame_217 : decode cX2_isSame 217 = .ok (.invokevirtual 90, 3) := by decide +kernel
theorem dX2_isSame_220 : decode cX2_isSame 220 = .ok (.aload 4, 2) := by decide +kernel
theorem dX2_isSame_222 : decode cX2_isSame 222 = .ok (.iconst 0, 1) := by decide +kernel
theorem dX2_isSame_223 : decode cX2_isSame 223 = .ok (.iaload, 1) := by decide +kernel
theorem dX2_isSame_224 : decode cX2_isSame 224 = .ok (.ifCond .le 10, 3) := by decide +kernel
theorem dX2_isSame_227 : decode cX2_isSame 227 = .ok (.aload 4, 2) := by decide +kernel
theorem dX2_isSame_229 : decode cX2_isSame 229 = .ok (.iconst 1, 1) := by decide +kernel
theorem dX2_isSame_230 : decode cX2_isSame 230 = .ok (.iaload, 1) := by decide +kernel
theorem dX2_isSame_231 : decode cX2_isSame 231 = .ok (.goto 4, 3) := by decide +kernel
theorem dX2_isSame_234 : decode cX2_isSame 234 = .ok (.iconst (-1), 1) := by decide +kernel
theorem dX2_isSame_235 : decode cX2_isSame 235 = .ok (.if_icmp .ne 42, 3) := by decide +kernel
theorem dX2_isSame_238 : decode cX2_isSame 238 = .ok (.aload_n 1, 1) := by decide +kernel
theorem dX2_isSame_239 : decode cX2_isSame 239 = .ok (.iload_n 3, 1) := by decide +kernel
theorem dX2_isSame_240 : decode cX2_isSame 240 = .ok (.invokevirtual 93, 3) := by decide +kernel
theorem dX2_isSame_243 : decode cX2_isSame 243 = .ok (.aload 4, 2) := by decide +kernel
theorem dX2_isSame_245 : decode cX2_isSame 245 = .ok (.iconst 0, 1) := by decide +kernel
theorem dX2_isSame_246 : decode cX2_isSame 246 = .ok (.iaload, 1) := by decide +kernel
theorem dX2_isSame_247 : decode cX2_isSame 247 = .ok (.ifCond .le 14, 3) := by decide +kernel
theorem dX2_isSame_250 : decode cX2_isSame 250 = .ok (.aload 4, 2) := by decide +kernel
theorem dX2_isSame_252 : decode cX2_isSame 252 = .ok (.iconst 2, 1) := by decide +kernel
theorem dX2_isSame_253 : decode cX2_isSame 253 = .ok (.iaload, 1) := by decide +kernel
theorem dX2_isSame_254 : decode cX2_isSame 254 = .ok (.ifCond .le 7, 3) := by decide +kernel
theorem dX2_isSame_257 : decode cX2_isSame 257 = .ok (.iconst 1, 1) := by decide +kernel
theorem dX2_isSame_258 : decode cX2_isSame 258 = .ok (.goto 4, 3) := by decide +kernel
theorem dX2_isSame_261 : decode cX2_isSame 261 = .ok (.iconst 0, 1) := by decide +kernel
theorem dX2_isSame_262 : decode cX2_isSame 262 = .ok (.if_icmp .ne 15, 3) := by decide +kernel
theorem dX2_isSame_265 : decode cX2_isSame 265 = .ok (.aload_n 1, 1) := by decide +kernel
theorem dX2_isSame_266 : decode cX2_isSame 266 = .ok (.iload_n 3, 1) := by decide +kernel
theorem dX2_isSame_267 : decode cX2_isSame 267 = .ok (.invokevirtual 97, 3) := by decide +kernel
theorem dX2_isSame_270 : decode cX2_isSame 270 = .ok (.aload 4, 2) := by decide +kernel
theorem dX2_isSame_272 : decode cX2_isSame 272 = .ok (.iconst 3, 1) := by decide +kernel
theorem dX2_isSame_273 : decode cX2_isSame 273 = .ok (.iaload, 1) := by decide +kernel
theorem dX2_isSame_274 : decode cX2_isSame 274 = .ok (.if_icmp .eq 5, 3) := by decide +kernel
theorem dX2_isSame_277 : decode cX2_isSame 277 = .ok (.iconst 0, 1) := by decide +kernel
theorem dX2_isSame_278 : decode cX2_isSame 278 = .ok (.ireturn, 1) := by decide +kernel
theorem dX2_isSame_279 : decode cX2_isSame 279 = .ok (.iinc 3 1, 3) := by decide +kernel
theorem dX2_isSame_282 : decode cX2_isSame 282 = .ok (.goto (-103), 3) := by decide +kernel
theorem dX2_isSame_285 : decode cX2_isSame 285 = .ok (.iconst 0, 1) := by decide +kernel
theorem dX2_isSame_286 : decode cX2_isSame 286 = .ok (.istore_n 3, 1) := by decide +kernel
theorem dX2_isSame_287 : decode cX2_isSame 287 = .ok (.iload_n 3, 1) := by decide +kernel
theorem dX2_isSame_288 : decode cX2_isSame 288 = .ok (.bipush 32, 2) := by decide +kernel
theorem dX2_isSame_290 : decode cX2_isSame 290 = .ok (.if_icmp .ge 156, 3) := by decide +kernel
theorem dX2_isSame_293 : decode cX2_isSame 293 = .ok (.aload_n 0, 1) := by decide +kernel
theorem dX2_isSame_294 : decode cX2_isSame 294 = .ok (.iload_n 3, 1) := by decide +kernel
theorem dX2_isSame_295 : decode cX2_isSame 295 = .ok (.invokevirtual 52, 3) := by decide +kernel
theorem dX2_isSame_298 : decode cX2_isSame 298 = .ok (.istore 4, 2) := by decide +kernel
theorem dX2_isSame_300 : decode cX2_isSame 300 = .ok (.iload_n 3, 1) := by decide +kernel
theorem dX2_isSame_301 : decode cX2_isSame 301 = .ok (.iconst 1, 1) := by decide +kernel
theorem dX2_isSame_302 : decode cX2_isSame 302 = .ok (.iadd, 1) := by decide +kernel
theorem dX2_isSame_303 : decode cX2_isSame 303 = .ok (.istore 5, 2) := by decide +kernel
theorem dX2_isSame_305 : decode cX2_isSame 305 = .ok (.iload 5, 2) := by decide +kernel
theorem dX2_isSame_307 : decode cX2_isSame 307 = .ok (.bipush 32, 2) := by decide +kernel
theorem dX2_isSame_309 : decode cX2_isSame 309 = .ok (.if_icmp .ge 18, 3) := by decide +kernel
theorem dX2_isSame_312 : decode cX2_isSame 312 = .ok (.aload_n 0, 1) := by decide +kernel
theorem dX2_isSame_313 : decode cX2_isSame 313 = .ok (.iload 5, 2) := by decide +kernel
theorem dX2_isSame_315 : decode cX2_isSame 315 = .ok (.invokevirtual 48, 3) := by decide +kernel
theorem dX2_isSame_318 : decode cX2_isSame 318 = .ok (.ifCond .ge 9, 3) := by decide +kernel
theorem dX2_isSame_321 : decode cX2_isSame 321 = .ok (.iinc 5 1, 3) := by decide +kernel
theorem dX2_isSame_324 : decode cX2_isSame 324 = .ok (.goto (-19), 3) := by decide +kernel
theorem dX2_isSame_327 : decode cX2_isSame 327 = .ok (.iload_n 3, 1) := by decide +kernel
theorem dX2_isSame_328 : decode cX2_isSame 328 = .ok (.iconst 1, 1) := by decide +kernel
theorem dX2_isSame_329 : decode cX2_isSame 329 = .ok (.isub, 1) := by decide +kernel
theorem dX2_isSame_330 : decode cX2_isSame 330 = .ok (.istore 6, 2) := by decide +kernel
theorem dX2_isSame_332 : decode cX2_isSame 332 = .ok (.iload 6, 2) := by decide +kernel
theorem dX2_isSame_334 : decode cX2_isSame 334 = .ok (.ifCond .lt 18, 3) := by decide +kernel
theorem dX2_isSame_337 : decode cX2_isSame 337 = .ok (.aload_n 0, 1) := by decide +kernel
theorem dX2_isSame_338 : decode cX2_isSame 338 = .ok (.iload 6, 2) := by decide +kernel
theorem dX2_isSame_340 : decode cX2_isSame 340 = .ok (.invokevirtual 48, 3) := by decide +kernel
theorem dX2_isSame_343 : decode cX2_isSame 343 = .ok (.ifCond .ge 9, 3) := by decide +kernel
theorem dX2_isSame_346 : decode cX2_isSame 346 = .ok (.iinc 6 (-1), 3) := by decide +kernel
theorem dX2_isSame_349 : decode cX2_isSame 349 = .ok (.goto (-17), 3) := by decide +kernel
theorem dX2_isSame_352 : decode cX2_isSame 352 = .ok (.aload_n 1, 1) := by decide +kernel
theorem dX2_isSame_353 : decode cX2_isSame 353 = .ok (.iload_n 3, 1) := by decide +kernel
theorem dX2_isSame_354 : decode cX2_isSame 354 = .ok (.invokevirtual 100, 3) := by decide +kernel
theorem dX2_isSame_357 : decode cX2_isSame 357 = .ok (.aload_n 0, 1) := by decide +kernel
theorem dX2_isSame_358 : decode cX2_isSame 358 = .ok (.getfield 7, 3) := by decide +kernel
theorem dX2_isSame_361 : decode cX2_isSame 361 = .ok (.iload_n 3, 1) := by decide +kernel
theorem dX2_isSame_362 : decode cX2_isSame 362 = .ok (.iaload, 1) := by decide +kernel
theorem dX2_isSame_363 : decode cX2_isSame 363 = .ok (.if_icmp .ne 75, 3) := by decide +kernel
theorem dX2_isSame_366 : decode cX2_isSame 366 = .ok (.aload_n 1, 1) := by decide +kernel
theorem dX2_isSame_367 : decode cX2_isSame 367 = .ok (.iload_n 3, 1) := by decide +kernel
theorem dX2_isSame_368 : decode cX2_isSame 368 = .ok (.invokevirtual 103, 3) := by decide +kernel
theorem dX2_isSame_371 : decode cX2_isSame 371 = .ok (.aload_n 0, 1) := by decide +kernel
theorem dX2_isSame_372 : decode cX2_isSame 372 = .ok (.iload_n 3, 1) := by decide +kernel
theorem dX2_isSame_373 : decode cX2_isSame 373 = .ok (.invokevirtual 48, 3) := by decide +kernel
theorem dX2_isSame_376 : decode cX2_isSame 376 = .ok (.if_icmp .ne 62, 3) := by decide +kernel
theorem dX2_isSame_379 : decode cX2_isSame 379 = .ok (.aload_n 1, 1) := by decide +kernel
theorem dX2_isSame_380 : decode cX2_isSame 380 = .ok (.iload_n 3, 1) := by decide +kernel
theorem dX2_isSame_381 : decode cX2_isSame 381 = .ok (.invokevirtual 104, 3) := by decide +kernel
theorem dX2_isSame_384 : decode cX2_isSame 384 = .ok (.iload 4, 2) := by decide +kernel
theorem dX2_isSame_386 : decode cX2_isSame 386 = .ok (.ifCond .ge 7, 3) := by decide +kernel
theorem dX2_isSame_389 : decode cX2_isSame 389 = .ok (.iconst 0, 1) := by decide +kernel
theorem dX2_isSame_390 : decode cX2_isSame 390 = .ok (.goto 12, 3) := by decide +kernel
theorem dX2_isSame_393 : decode cX2_isSame 393 = .ok (.aload_n 0, 1) := by decide +kernel
theorem dX2_isSame_394 : decode cX2_isSame 394 = .ok (.getfield 18, 3) := by decide +kernel
theorem dX2_isSame_397 : decode cX2_isSame 397 = .ok (.iload 4, 2) := by decide +kernel
theorem dX2_isSame_399 : decode cX2_isSame 399 = .ok (.aaload, 1) := by decide +kernel
theorem dX2_isSame_400 : decode cX2_isSame 400 = .ok (.iconst 0, 1) := by decide +kernel
theorem dX2_isSame_401 : decode cX2_isSame 401 = .ok (.iaload, 1) := by decide +kernel
theorem dX2_isSame_402 : decode cX2_isSame 402 = .ok (.if_icmp .ne 36, 3) := by decide +kernel
theorem dX2_isSame_405 : decode cX2_isSame 405 = .ok (.aload_n 1, 1) := by decide +kernel
theorem dX2_isSame_406 : decode cX2_isSame 406 = .ok (.iload_n 3, 1) := by decide +kernel
theorem dX2_isSame_407 : decode cX2_isSame 407 = .ok (.iconst 1, 1) := by decide +kernel
theorem dX2_isSame_408 : decode cX2_isSame 408 = .ok (.invokevirtual 107, 3) := by decide +kernel
theorem dX2_isSame_411 : decode cX2_isSame 411 = .ok (.iload 5, 2) := by decide +kernel
theorem dX2_isSame_413 : decode cX2_isSame 413 = .ok (.bipush 31, 2) := by decide +kernel
theorem dX2_isSame_415 : decode cX2_isSame 415 = .ok (.if_icmp .le 7, 3) := by decide +kernel
theorem dX2_isSame_418 : decode cX2_isSame 418 = .ok (.iconst (-1), 1) := by decide +kernel
theorem dX2_isSame_419 : decode cX2_isSame 419 = .ok (.goto 5, 3) := by decide +kernel
theorem dX2_isSame_422 : decode cX2_isSame 422 = .ok (.iload 5, 2) := by decide +kernel
theorem dX2_isSame_424 : decode cX2_isSame 424 = .ok (.if_icmp .ne 14, 3) := by decide +kernel
theorem dX2_isSame_427 : decode cX2_isSame 427 = .ok (.aload_n 1, 1) := by decide +kernel
theorem dX2_isSame_428 : decode cX2_isSame 428 = .ok (.iload_n 3, 1) := by decide +kernel
theorem dX2_isSame_429 : decode cX2_isSame 429 = .ok (.iconst 0, 1) := by decide +kernel
theorem dX2_isSame_430 : decode cX2_isSame 430 = .ok (.invokevirtual 107, 3) := by decide +kernel
theorem dX2_isSame_433 : decode cX2_isSame 433 = .ok (.iload 6, 2) := by decide +kernel
theorem dX2_isSame_435 : decode cX2_isSame 435 = .ok (.if_icmp .eq 5, 3) := by decide +kernel
theorem dX2_isSame_438 : decode cX2_isSame 438 = .ok (.iconst 0, 1) := by decide +kernel
theorem dX2_isSame_439 : decode cX2_isSame 439 = .ok (.ireturn, 1) := by decide +kernel
theorem dX2_isSame_440 : decode cX2_isSame 440 = .ok (.iinc 3 1, 3) := by decide +kernel
theorem dX2_isSame_443 : decode cX2_isSame 443 = .ok (.goto (-156), 3) := by decide +kernel
theorem dX2_isSame_446 : decode cX2_isSame 446 = .ok (.aload_n 1, 1) := by decide +kernel
theorem dX2_isSame_447 : decode cX2_isSame 447 = .ok (.invokevirtual 111, 3) := by decide +kernel
theorem dX2_isSame_450 : decode cX2_isSame 450 = .ok (.aload_n 0, 1) := by decide +kernel
theorem dX2_isSame_451 : decode cX2_isSame 451 = .ok (.getfield 32, 3) := by decide +kernel
theorem dX2_isSame_454 : decode cX2_isSame 454 = .ok (.if_icmp .ne 91, 3) := by decide +kernel
theorem dX2_isSame_457 : decode cX2_isSame 457 = .ok (.aload_n 1, 1) := by decide +kernel
theorem dX2_isSame_458 : decode cX2_isSame 458 = .ok (.invokevirtual 113, 3) := by decide +kernel
theorem dX2_isSame_461 : decode cX2_isSame 461 = .ok (.aload_n 0, 1) := by decide +kernel
theorem dX2_isSame_462 : decode cX2_isSame 462 = .ok (.getfield 14, 3) := by decide +kernel
theorem dX2_isSame_465 : decode cX2_isSame 465 = .ok (.arraylength, 1) := by decide +kernel
theorem dX2_isSame_466 : decode cX2_isSame 466 = .ok (.if_icmp .ne 79, 3) := by decide +kernel
theorem dX2_isSame_469 : decode cX2_isSame 469 = .ok (.aload_n 1, 1) := by decide +kernel
theorem dX2_isSame_470 : decode cX2_isSame 470 = .ok (.invokevirtual 115, 3) := by decide +kernel
theorem dX2_isSame_473 : decode cX2_isSame 473 = .ok (.aload_n 0, 1) := by decide +kernel
theorem dX2_isSame_474 : decode cX2_isSame 474 = .ok (.getfield 18, 3) := by decide +kernel
theorem dX2_isSame_477 : decode cX2_isSame 477 = .ok (.arraylength, 1) := by decide +kernel
theorem dX2_isSame_478 : decode cX2_isSame 478 = .ok (.if_icmp .ne 67, 3) := by decide +kernel
theorem dX2_isSame_481 : decode cX2_isSame 481 = .ok (.aload_n 1, 1) := by decide +kernel
theorem dX2_isSame_482 : decode cX2_isSame 482 = .ok (.invokevirtual 117, 3) := by decide +kernel
theorem dX2_isSame_485 : decode cX2_isSame 485 = .ok (.aload_n 0, 1) := by decide +kernel
theorem dX2_isSame_486 : decode cX2_isSame 486 = .ok (.invokevirtual 120, 3) := by decide +kernel
theorem dX2_isSame_489 : decode cX2_isSame 489 = .ok (.if_icmp .ne 56, 3) := by decide +kernel
theorem dX2_isSame_492 : decode cX2_isSame 492 = .ok (.aload_n 1, 1) := by decide +kernel
theorem dX2_isSame_493 : decode cX2_isSame 493 = .ok (.invokevirtual 121, 3) := by decide +kernel
theorem dX2_isSame_496 : decode cX2_isSame 496 = .ok (.aload_n 0, 1) := by decide +kernel
theorem dX2_isSame_497 : decode cX2_isSame 497 = .ok (.getfield 36, 3) := by decide +kernel
theorem dX2_isSame_500 : decode cX2_isSame 500 = .ok (.if_icmp .ne 45, 3) := by decide +kernel
theorem dX2_isSame_503 : decode cX2_isSame 503 = .ok (.aload_n 1, 1) := by decide +kernel
theorem dX2_isSame_504 : decode cX2_isSame 504 = .ok (.invokevirtual 123, 3) := by decide +kernel
theorem dX2_isSame_507 : decode cX2_isSame 507 = .ok (.aload_n 0, 1) := by decide +kernel
theorem dX2_isSame_508 : decode cX2_isSame 508 = .ok (.getfield 39, 3) := by decide +kernel
theorem dX2_isSame_511 : decode cX2_isSame 511 = .ok (.if_icmp .ne 34, 3) := by decide +kernel
theorem dX2_isSame_514 : decode cX2_isSame 514 = .ok (.aload_n 1, 1) := by decide +kernel
theorem dX2_isSame_515 : decode cX2_isSame 515 = .ok (.invokevirtual 126, 3) := by decide +kernel
theorem dX2_isSame_518 : decode cX2_isSame 518 = .ok (.aload_n 0, 1) := by decide +kernel
theorem dX2_isSame_519 : decode cX2_isSame 519 = .ok (.invokevirtual 120, 3) := by decide +kernel
theorem dX2_isSame_522 : decode cX2_isSame 522 = .ok (.ifCond .ne 7, 3) := by decide +kernel
theorem dX2_isSame_525 : decode cX2_isSame 525 = .ok (.dconst 0, 1) := by decide +kernel
theorem dX2_isSame_526 : decode cX2_isSame 526 = .ok (.goto 11, 3) := by decide +kernel
theorem dX2_isSame_529 : decode cX2_isSame 529 = .ok (.iload_n 2, 1) := by decide +kernel
theorem dX2_isSame_530 : decode cX2_isSame 530 = .ok (.i2d, 1) := by decide +kernel
theorem dX2_isSame_531 : decode cX2_isSame 531 = .ok (.aload_n 0, 1) := by decide +kernel
theorem dX2_isSame_532 : decode cX2_isSame 532 = .ok (.invokevirtual 120, 3) := by decide +kernel
theorem dX2_isSame_535 : decode cX2_isSame 535 = .ok (.i2d, 1) := by decide +kernel
theorem dX2_isSame_536 : decode cX2_isSame 536 = .ok (.ddiv, 1) := by decide +kernel
theorem dX2_isSame_537 : decode cX2_isSame 537 = .ok (.dcmp .l, 1) := by decide +kernel
theorem dX2_isSame_538 : decode cX2_isSame 538 = .ok (.ifCond .ne 7, 3) := by decide +kernel
theorem dX2_isSame_541 : decode cX2_isSame 541 = .ok (.iconst 1, 1) := by decide +kernel
theorem dX2_isSame_542 : decode cX2_isSame 542 = .ok (.goto 4, 3) := by decide +kernel
theorem dX2_isSame_545 : decode cX2_isSame 545 = .ok (.iconst 0, 1) := by decide +kernel
theorem dX2_isSame_546 : decode cX2_isSame 546 = .ok (.ireturn, 1) := by decide +kernel
end
section
theorem dL_below_0 : decode cL_below 0 = .ok (.iload_n 0, 1) := by decide +kernel
theorem dL_below_1 : decode cL_below 1 = .ok (.ldc 7, 2) := by decide +kernel
theorem dL_below_3 : decode cL_below 3 = .ok (.iand, 1) := by decide +kernel
theorem dL_below_4 : decode cL_below 4 = .ok (.iload_n 1, 1) := by decide +kernel
theorem dL_below_5 : decode cL_below 5 = .ok (.irem, 1) := by decide +kernel
theorem dL_below_6 : decode cL_below 6 = .ok (.ireturn, 1) := by decide +kernel
theorem dL_cell_0 : decode cL_cell 0 = .ok (.iload_n 1, 1) := by decide +kernel
theorem dL_cell_1 : decode cL_cell 1 = .ok (.aload_n 0, 1) := by decide +kernel
theorem dL_cell_2 : decode cL_cell 2 = .ok (.arraylength, 1) := by decide +kernel
theorem dL_cell_3 : decode cL_cell 3 = .ok (.if_icmp .ge 9, 3) := by decide +kernel
theorem dL_cell_6 : decode cL_cell 6 = .ok (.aload_n 0, 1) := by decide +kernel
theorem dL_cell_7 : decode cL_cell 7 = .ok (.iload_n 1, 1) := by decide +kernel
theorem dL_cell_8 : decode cL_cell 8 = .ok (.iaload, 1) := by decide +kernel
theorem dL_cell_9 : decode cL_cell 9 = .ok (.goto 9, 3) := by decide +kernel
theorem dL_cell_12 : decode cL_cell 12 = .ok (.ldc 8, 2) := by decide +kernel
theorem dL_cell_14 : decode cL_cell 14 = .ok (.iload_n 1, 1) := by decide +kernel
theorem dL_cell_15 : decode cL_cell 15 = .ok (.iconst 3, 1) := by decide +kernel
theorem dL_cell_16 : decode cL_cell 16 = .ok (.iadd, 1) := by decide +kernel
theorem dL_cell_17 : decode cL_cell 17 = .ok (.imul, 1) := by decide +kernel
theorem dL_cell_18 : decode cL_cell 18 = .ok (.ireturn, 1) := by decide +kernel
theorem dL_act_0 : decode cL_act 0 = .ok (.iload_n 2, 1) := by decide +kernel
theorem dL_act_1 : decode cL_act 1 = .ok (.iconst 3, 1) := by decide +kernel
theorem dL_act_2 : decode cL_act 2 = .ok (.ishr, 1) := by decide +kernel
theorem dL_act_3 : decode cL_act 3 = .ok (.bipush 32, 2) := by decide +kernel
theorem dL_act_5 : decode cL_act 5 = .ok (.invokestatic 9, 3) := by decide +kernel
theorem dL_act_8 : decode cL_act 8 = .ok (.istore_n 3, 1) := by decide +kernel
theorem dL_act_9 : decode cL_act 9 = .ok (.iconst 1, 1) := by decide +kernel
theorem dL_act_10 : decode cL_act 10 = .ok (.istore 4, 2) := by decide +kernel
theorem dL_act_12 : decode cL_act 12 = .ok (.iload_n 2, 1) := by decide +kernel
theorem dL_act_13 : decode cL_act 13 = .ok (.bipush 12, 2) := by decide +kernel
theorem dL_act_15 : decode cL_act 15 = .ok (.invokestatic 9, 3) := by decide +kernel
theorem dL_act_18 : decode cL_act 18 = .ok (.tableswitch 420 0 7 #[46, 46, 157, 223, 282, 282, 282, 282], 46) := by decide +kernel
theorem dL_act_64 : decode cL_act 64 = .ok (.iload_n 2, 1) := by decide +kernel
theorem dL_act_65 : decode cL_act 65 = .ok (.bipush 9, 2) := by decide +kernel
theorem dL_act_67 : decode cL_act 67 = .ok (.ishr, 1) := by decide +kernel
theorem dL_act_68 : decode cL_act 68 = .ok (.iconst 2, 1) := by decide +kernel
theorem dL_act_69 : decode cL_act 69 = .ok (.invokestatic 9, 3) := by decide +kernel
theorem dL_act_72 : decode cL_act 72 = .ok (.istore 5, 2) := by decide +kernel
theorem dL_act_74 : decode cL_act 74 = .ok (.iload_n 2, 1) := by decide +kernel
theorem dL_act_75 : decode cL_act 75 = .ok (.iconst 5, 1) := by decide +kernel
theorem dL_act_76 : decode cL_act 76 = .ok (.ishr, 1) := by decide +kernel
theorem dL_act_77 : decode cL_act 77 = .ok (.bipush 6, 2) := by decide +kernel
theorem dL_act_79 : decode cL_act 79 = .ok (.invokestatic 9, 3) := by decide +kernel
theorem dL_act_82 : decode cL_act 82 = .ok (.istore 6, 2) := by decide +kernel
theorem dL_act_84 : decode cL_act 84 = .ok (.aload_n 1, 1) := by decide +kernel
theorem dL_act_85 : decode cL_act 85 = .ok (.getfield 15, 3) := by decide +kernel
theorem dL_act_88 : decode cL_act 88 = .ok (.arraylength, 1) := by decide +kernel
theorem dL_act_89 : decode cL_act 89 = .ok (.istore 7, 2) := by decide +kernel
theorem dL_act_91 : decode cL_act 91 = .ok (.iload 7, 2) := by decide +kernel
theorem dL_act_93 : decode cL_act 93 = .ok (.bipush 10, 2) := by decide +kernel
theorem dL_act_95 : decode cL_act 95 = .ok (.if_icmp .ge 15, 3) := by decide +kernel
theorem dL_act_98 : decode cL_act 98 = .ok (.aload_n 1, 1) := by decide +kernel
theorem dL_act_99 : decode cL_act 99 = .ok (.iload_n 3, 1) := by decide +kernel
theorem dL_act_100 : decode cL_act 100 = .ok (.invokevirtual 21, 3) := by decide +kernel
theorem dL_act_103 : decode cL_act 103 = .ok (.ifCond .ge 7, 3) := by decide +kernel
theorem dL_act_106 : decode cL_act 106 = .ok (.iconst 1, 1) := by decide +kernel
theorem dL_act_107 : decode cL_act 107 = .ok (.goto 4, 3) := by decide +kernel
theorem dL_act_110 : decode cL_act 110 = .ok (.iconst 0, 1) := by decide +kernel
theorem dL_act_111 : decode cL_act 111 = .ok (.istore 4, 2) := by decide +kernel
theorem dL_act_113 : decode cL_act 113 = .ok (.iload 4, 2) := by decide +kernel
theorem dL_act_115 : decode cL_act 115 = .ok (.ifCond .eq 35, 3) := by decide +kernel
theorem dL_act_118 : decode cL_act 118 = .ok (.aload_n 1, 1) := by decide +kernel
theorem dL_act_119 : decode cL_act 119 = .ok (.aload_n 1, 1) := by decide +kernel
theorem dL_act_120 : decode cL_act 120 = .ok (.getfield 15, 3) := by decide +kernel
theorem dL_act_123 : decode cL_act 123 = .ok (.iconst 4, 1) := by decide +kernel
theorem dL_act_124 : decode cL_act 124 = .ok (.newarray .int, 2) := by decide +kernel
theorem dL_act_126 : decode cL_act 126 = .ok (.dup, 1) := by decide +kernel
theorem dL_act_127 : decode cL_act 127 = .ok (.iconst 0, 1) := by decide +kernel
theorem dL_act_128 : decode cL_act 128 = .ok (.iload_n 3, 1) := by decide +kernel
theorem dL_act_129 : decode cL_act 129 = .ok (.iastore, 1) := by decide +kernel
theorem dL_act_130 : decode cL_act 130 = .ok (.dup, 1) := by decide +kernel
theorem dL_act_131 : decode cL_act 131 = .ok (.iconst 1, 1) := by decide +kernel
theorem dL_act_132 : decode cL_act 132 = .ok (.iload 5, 2) := by decide +kernel
theorem dL_act_134 : decode cL_act 134 = .ok (.iastore, 1) := by decide +kernel
theorem dL_act_135 : decode cL_act 135 = .ok (.dup, 1) := by decide +kernel
theorem dL_act_136 : decode cL_act 136 = .ok (.iconst 2, 1) := by decide +kernel
theorem dL_act_137 : decode cL_act 137 = .ok (.iload 6, 2) := by decide +kernel
theorem dL_act_139 : decode cL_act 139 = .ok (.iastore, 1) := by decide +kernel
theorem dL_act_140 : decode cL_act 140 = .ok (.dup, 1) := by decide +kernel
theorem dL_act_141 : decode cL_act 141 = .ok (.iconst 3, 1) := by decide +kernel
theorem dL_act_142 : decode cL_act 142 = .ok (.iconst 0, 1) := by decide +kernel
theorem dL_act_143 : decode cL_act 143 = .ok (.iastore, 1) := by decide +kernel
theorem dL_act_144 : decode cL_act 144 = .ok (.invokestatic 25, 3) := by decide +kernel
theorem dL_act_147 : decode cL_act 147 = .ok (.putfield 15, 3) := by decide +kernel
theorem dL_act_150 : decode cL_act 150 = .ok (.aload_n 0, 1) := by decide +kernel
theorem dL_act_151 : decode cL_act 151 = .ok (.iload_n 3, 1) := by decide +kernel
theorem dL_act_152 : decode cL_act 152 = .ok (.iload 5, 2) := by decide +kernel
theorem dL_act_154 : decode cL_act 154 = .ok (.iload 6, 2) := by decide +kernel
theorem dL_act_156 : decode cL_act 156 = .ok (.invokevirtual 29, 3) := by decide +kernel
theorem dL_act_159 : decode cL_act 159 = .ok (.iload 7, 2) := by decide +kernel
theorem dL_act_161 : decode cL_act 161 = .ok (.if_icmp .ne 12, 3) := by decide +kernel
theorem dL_act_164 : decode cL_act 164 = .ok (.iload 4, 2) := by decide +kernel
theorem dL_act_166 : decode cL_act 166 = .ok (.ifCond .eq 7, 3) := by decide +kernel
theorem dL_act_169 : decode cL_act 169 = .ok (.iconst 1, 1) := by decide +kernel
theorem dL_act_170 : decode cL_act 170 = .ok (.goto 4, 3) := by decide +kernel
theorem dL_act_173 : decode cL_act 173 = .ok (.iconst 0, 1) := by decide +kernel
theorem dL_act_174 : decode cL_act 174 = .ok (.ireturn, 1) := by decide +kernel
theorem dL_act_175 : decode cL_act 175 = .ok (.aload_n 1, 1) := by decide +kernel
theorem dL_act_176 : decode cL_act 176 = .ok (.getfield 15, 3) := by decide +kernel
theorem dL_act_179 : decode cL_act 179 = .ok (.arraylength, 1) := by decide +kernel
theorem dL_act_180 : decode cL_act 180 = .ok (.ifCond .ne 5, 3) := by decide +kernel
theorem dL_act_183 : decode cL_act 183 = .ok (.iconst 1, 1) := by decide +kernel
theorem dL_act_184 : decode cL_act 184 = .ok (.ireturn, 1) := by decide +kernel
theorem dL_act_185 : decode cL_act 185 = .ok (.aload_n 1, 1) := by decide +kernel
theorem dL_act_186 : decode cL_act 186 = .ok (.getfield 15, 3) := by decide +kernel
theorem dL_act_189 : decode cL_act 189 = .ok (.iload_n 2, 1) := by decide +kernel
theorem dL_act_190 : decode cL_act 190 = .ok (.iconst 4, 1) := by decide +kernel
theorem dL_act_191 : decode cL_act 191 = .ok (.ishr, 1) := by decide +kernel
theorem dL_act_192 : decode cL_act 192 = .ok (.aload_n 1, 1) := by decide +kernel
theorem dL_act_193 : decode cL_act 193 = .ok (.getfield 15, 3) := by decide +kernel
theorem dL_act_196 : decode cL_act 196 = .ok (.arraylength, 1) := by decide +kernel
theorem dL_act_197 : decode cL_act 197 = .ok (.invokestatic 9, 3) := by decide +kernel
theorem dL_act_200 : decode cL_act 200 = .ok (.aaload, 1) := by decide +kernel
theorem dL_act_201 : decode cL_act 201 = .ok (.astore 5, 2) := by decide +kernel
theorem dL_act_203 : decode cL_act 203 = .ok (.aload 5, 2) := by decide +kernel
theorem dL_act_205 : decode cL_act 205 = .ok (.iconst 1, 1) := by decide +kernel
theorem dL_act_206 : decode cL_act 206 = .ok (.iconst 1, 1) := by decide +kernel
theorem dL_act_207 : decode cL_act 207 = .ok (.aload 5, 2) := by decide +kernel
theorem dL_act_209 : decode cL_act 209 = .ok (.iconst 1, 1) := by decide +kernel
theorem dL_act_210 : decode cL_act 210 = .ok (.iaload, 1) := by decide +kernel
theorem dL_act_211 : decode cL_act 211 = .ok (.isub, 1) := by decide +kernel
theorem dL_act_212 : decode cL_act 212 = .ok (.iastore, 1) := by decide +kernel
theorem dL_act_213 : decode cL_act 213 = .ok (.aload_n 0, 1) := by decide +kernel
theorem dL_act_214 : decode cL_act 214 = .ok (.iload_n 2, 1) := by decide +kernel
theorem dL_act_215 : decode cL_act 215 = .ok (.iconst 4, 1) := by decide +kernel
theorem dL_act_216 : decode cL_act 216 = .ok (.ishr, 1) := by decide +kernel
theorem dL_act_217 : decode cL_act 217 = .ok (.aload_n 1, 1) := by decide +kernel
theorem dL_act_218 : decode cL_act 218 = .ok (.getfield 15, 3) := by decide +kernel
theorem dL_act_221 : decode cL_act 221 = .ok (.arraylength, 1) := by decide +kernel
theorem dL_act_222 : decode cL_act 222 = .ok (.invokestatic 9, 3) := by decide +kernel
theorem dL_act_225 : decode cL_act 225 = .ok (.invokevirtual 35, 3) := by decide +kernel
theorem dL_act_228 : decode cL_act 228 = .ok (.aload 5, 2) := by decide +kernel
theorem dL_act_230 : decode cL_act 230 = .ok (.iconst 1, 1) := by decide +kernel
theorem dL_act_231 : decode cL_act 231 = .ok (.iaload, 1) := by decide +kernel
theorem dL_act_232 : decode cL_act 232 = .ok (.if_icmp .ne 7, 3) := by decide +kernel
theorem dL_act_235 : decode cL_act 235 = .ok (.iconst 1, 1) := by decide +kernel
theorem dL_act_236 : decode cL_act 236 = .ok (.goto 4, 3) := by decide +kernel
theorem dL_act_239 : decode cL_act 239 = .ok (.iconst 0, 1) := by decide +kernel
theorem dL_act_240 : decode cL_act 240 = .ok (.ireturn, 1) := by decide +kernel
theorem dL_act_241 : decode cL_act 241 = .ok (.aload_n 1, 1) := by decide +kernel
theorem dL_act_242 : decode cL_act 242 = .ok (.getfield 38, 3) := by decide +kernel
theorem dL_act_245 : decode cL_act 245 = .ok (.iload_n 3, 1) := by decide +kernel
theorem dL_act_246 : decode cL_act 246 = .ok (.iaload, 1) := by decide +kernel
theorem dL_act_247 : decode cL_act 247 = .ok (.istore 5, 2) := by decide +kernel
theorem dL_act_249 : decode cL_act 249 = .ok (.aload_n 1, 1) := by decide +kernel
theorem dL_act_250 : decode cL_act 250 = .ok (.aload_n 1, 1) := by decide +kernel
theorem dL_act_251 : decode cL_act 251 = .ok (.getfield 38, 3) := by decide +kernel
theorem dL_act_254 : decode cL_act 254 = .ok (.invokevirtual 42, 3) := by decide +kernel
theorem dL_act_257 : decode cL_act 257 = .ok (.checkcast 43, 3) := by decide +kernel
theorem dL_act_260 : decode cL_act 260 = .ok (.putfield 38, 3) := by decide +kernel
theorem dL_act_263 : decode cL_act 263 = .ok (.aload_n 1, 1) := by decide +kernel
theorem dL_act_264 : decode cL_act 264 = .ok (.getfield 38, 3) := by decide +kernel
theorem dL_act_267 : decode cL_act 267 = .ok (.iload_n 3, 1) := by decide +kernel
theorem dL_act_268 : decode cL_act 268 = .ok (.iload_n 2, 1) := by decide +kernel
theorem dL_act_269 : decode cL_act 269 = .ok (.bipush 6, 2) := by decide +kernel
theorem dL_act_271 : decode cL_act 271 = .ok (.ishr, 1) := by decide +kernel
theorem dL_act_272 : decode cL_act 272 = .ok (.bipush 6, 2) := by decide +kernel
theorem dL_act_274 : decode cL_act 274 = .ok (.invokestatic 9, 3) := by decide +kernel
theorem dL_act_277 : decode cL_act 277 = .ok (.iastore, 1) := by decide +kernel
theorem dL_act_278 : decode cL_act 278 = .ok (.aload_n 0, 1) := by decide +kernel
theorem dL_act_279 : decode cL_act 279 = .ok (.iload_n 3, 1) := by decide +kernel
theorem dL_act_280 : decode cL_act 280 = .ok (.aload_n 1, 1) := by decide +kernel
theorem dL_act_281 : decode cL_act 281 = .ok (.getfield 38, 3) := by decide +kernel
theorem dL_act_284 : decode cL_act 284 = .ok (.iload_n 3, 1) := by decide +kernel
theorem dL_act_285 : decode cL_act 285 = .ok (.iaload, 1) := by decide +kernel
theorem dL_act_286 : decode cL_act 286 = .ok (.invokevirtual 47, 3) := by decide +kernel
theorem dL_act_289 : decode cL_act 289 = .ok (.iload 5, 2) := by decide +kernel
theorem dL_act_291 : decode cL_act 291 = .ok (.if_icmp .ne 7, 3) := by decide +kernel
theorem dL_act_294 : decode cL_act 294 = .ok (.iconst 1, 1) := by decide +kernel
theorem dL_act_295 : decode cL_act 295 = .ok (.goto 4, 3) := by decide +kernel
theorem dL_act_298 : decode cL_act 298 = .ok (.iconst 0, 1) := by decide +kernel
theorem dL_act_299 : decode cL_act 299 = .ok (.ireturn, 1) := by decide +kernel
theorem dL_act_300 : decode cL_act 300 = .ok (.iload_n 2, 1) := by decide +kernel
theorem dL_act_301 : decode cL_act 301 = .ok (.bipush 9, 2) := by decide +kernel
theorem dL_act_303 : decode cL_act 303 = .ok (.ishr, 1) := by decide +kernel
theorem dL_act_304 : decode cL_act 304 = .ok (.iconst 2, 1) := by decide +kernel
theorem dL_act_305 : decode cL_act 305 = .ok (.invokestatic 9, 3) := by decide +kernel
theorem dL_act_308 : decode cL_act 308 = .ok (.ifCond .ne 7, 3) := by decide +kernel
theorem dL_act_311 : decode cL_act 311 = .ok (.iconst 1, 1) := by decide +kernel
theorem dL_act_312 : decode cL_act 312 = .ok (.goto 4, 3) := by decide +kernel
theorem dL_act_315 : decode cL_act 315 = .ok (.iconst 0, 1) := by decide +kernel
theorem dL_act_316 : decode cL_act 316 = .ok (.istore 5, 2) := by decide +kernel
theorem dL_act_318 : decode cL_act 318 = .ok (.iconst 1, 1) := by decide +kernel
theorem dL_act_319 : decode cL_act 319 = .ok (.iload_n 2, 1) := by decide +kernel
theorem dL_act_320 : decode cL_act 320 = .ok (.iconst 5, 1) := by decide +kernel
theorem dL_act_321 : decode cL_act 321 = .ok (.ishr, 1) := by decide +kernel
theorem dL_act_322 : decode cL_act 322 = .ok (.bipush 99, 2) := by decide +kernel
theorem dL_act_324 : decode cL_act 324 = .ok (.invokestatic 9, 3) := by decide +kernel
theorem dL_act_327 : decode cL_act 327 = .ok (.iadd, 1) := by decide +kernel
theorem dL_act_328 : decode cL_act 328 = .ok (.istore 6, 2) := by decide +kernel
theorem dL_act_330 : decode cL_act 330 = .ok (.aload_n 1, 1) := by decide +kernel
theorem dL_act_331 : decode cL_act 331 = .ok (.getfield 50, 3) := by decide +kernel
theorem dL_act_334 : decode cL_act 334 = .ok (.arraylength, 1) := by decide +kernel
theorem dL_act_335 : decode cL_act 335 = .ok (.istore 7, 2) := by decide +kernel
theorem dL_act_337 : decode cL_act 337 = .ok (.iload 7, 2) := by decide +kernel
theorem dL_act_339 : decode cL_act 339 = .ok (.bipush 40, 2) := by decide +kernel
theorem dL_act_341 : decode cL_act 341 = .ok (.if_icmp .ge 24, 3) := by decide +kernel
theorem dL_act_344 : decode cL_act 344 = .ok (.aload_n 1, 1) := by decide +kernel
theorem dL_act_345 : decode cL_act 345 = .ok (.invokevirtual 53, 3) := by decide +kernel
theorem dL_act_348 : decode cL_act 348 = .ok (.bipush 8, 2) := by decide +kernel
theorem dL_act_350 : decode cL_act 350 = .ok (.if_icmp .ge 15, 3) := by decide +kernel
theorem dL_act_353 : decode cL_act 353 = .ok (.aload_n 1, 1) := by decide +kernel
theorem dL_act_354 : decode cL_act 354 = .ok (.iload_n 3, 1) := by decide +kernel
theorem dL_act_355 : decode cL_act 355 = .ok (.invokevirtual 57, 3) := by decide +kernel
theorem dL_act_358 : decode cL_act 358 = .ok (.ifCond .ge 7, 3) := by decide +kernel
theorem dL_act_361 : decode cL_act 361 = .ok (.iconst 1, 1) := by decide +kernel
theorem dL_act_362 : decode cL_act 362 = .ok (.goto 4, 3) := by decide +kernel
theorem dL_act_365 : decode cL_act 365 = .ok (.iconst 0, 1) := by decide +kernel
theorem dL_act_366 : decode cL_act 366 = .ok (.istore 4, 2) := by decide +kernel
theorem dL_act_368 : decode cL_act 368 = .ok (.iload 4, 2) := by decide +kernel
theorem dL_act_370 : decode cL_act 370 = .ok (.ifCond .eq 43, 3) := by decide +kernel
theorem dL_act_373 : decode cL_act 373 = .ok (.aload_n 1, 1) := by decide +kernel
theorem dL_act_374 : decode cL_act 374 = .ok (.aload_n 1, 1) := by decide +kernel
theorem dL_act_375 : decode cL_act 375 = .ok (.getfield 50, 3) := by decide +kernel
theorem dL_act_378 : decode cL_act 378 = .ok (.iconst 4, 1) := by decide +kernel
theorem dL_act_379 : decode cL_act 379 = .ok (.newarray .int, 2) := by decide +kernel
theorem dL_act_381 : decode cL_act 381 = .ok (.dup, 1) := by decide +kernel
theorem dL_act_382 : decode cL_act 382 = .ok (.iconst 0, 1) := by decide +kernel
theorem dL_act_383 : decode cL_act 383 = .ok (.iload 6, 2) := by decide +kernel
theorem dL_act_385 : decode cL_act 385 = .ok (.iastore, 1) := by decide +kernel
theorem dL_act_386 : decode cL_act 386 = .ok (.dup, 1) := by decide +kernel
theorem dL_act_387 : decode cL_act 387 = .ok (.iconst 1, 1) := by decide +kernel
theorem dL_act_388 : decode cL_act 388 = .ok (.iload_n 3, 1) := by decide +kernel
theorem dL_act_389 : decode cL_act 389 = .ok (.iastore, 1) := by decide +kernel
theorem dL_act_390 : decode cL_act 390 = .ok (.dup, 1) := by decide +kernel
theorem dL_act_391 : decode cL_act 391 = .ok (.iconst 2, 1) := by decide +kernel
theorem dL_act_392 : decode cL_act 392 = .ok (.iload 5, 2) := by decide +kernel
theorem dL_act_394 : decode cL_act 394 = .ok (.ifCond .eq 7, 3) := by decide +kernel
theorem dL_act_397 : decode cL_act 397 = .ok (.iconst 1, 1) := by decide +kernel
theorem dL_act_398 : decode cL_act 398 = .ok (.goto 4, 3) := by decide +kernel
theorem dL_act_401 : decode cL_act 401 = .ok (.iconst (-1), 1) := by decide +kernel
theorem dL_act_402 : decode cL_act 402 = .ok (.iastore, 1) := by decide +kernel
theorem dL_act_403 : decode cL_act 403 = .ok (.dup, 1) := by decide +kernel
theorem dL_act_404 : decode cL_act 404 = .ok (.iconst 3, 1) := by decide +kernel
theorem dL_act_405 : decode cL_act 405 = .ok (.iconst 0, 1) := by decide +kernel
theorem dL_act_406 : decode cL_act 406 = .ok (.iastore, 1) := by decide +kernel
theorem dL_act_407 : decode cL_act 407 = .ok (.invokestatic 25, 3) := by decide +kernel
theorem dL_act_410 : decode cL_act 410 = .ok (.putfield 50, 3) := by decide +kernel
theorem dL_act_413 : decode cL_act 413 = .ok (.aload_n 0, 1) := by decide +kernel
theorem dL_act_414 : decode cL_act 414 = .ok (.iload_n 3, 1) := by decide +kernel
theorem dL_act_415 : decode cL_act 415 = .ok (.iload 5, 2) := by decide +kernel
theorem dL_act_417 : decode cL_act 417 = .ok (.iload 6, 2) := by decide +kernel
theorem dL_act_419 : decode cL_act 419 = .ok (.invokevirtual 60, 3) := by decide +kernel
theorem dL_act_422 : decode cL_act 422 = .ok (.iload 7, 2) := by decide +kernel
theorem dL_act_424 : decode cL_act 424 = .ok (.if_icmp .ne 12, 3) := by decide +kernel
theorem dL_act_427 : decode cL_act 427 = .ok (.iload 4, 2) := by decide +kernel
theorem dL_act_429 : decode cL_act 429 = .ok (.ifCond .eq 7, 3) := by decide +kernel
theorem dL_act_432 : decode cL_act 432 = .ok (.iconst 1, 1) := by decide +kernel
theorem dL_act_433 : decode cL_act 433 = .ok (.goto 4, 3) := by decide +kernel
theorem dL_act_436 : decode cL_act 436 = .ok (.iconst 0, 1) := by decide +kernel
theorem dL_act_437 : decode cL_act 437 = .ok (.ireturn, 1) := by decide +kernel
theorem dL_act_438 : decode cL_act 438 = .ok (.iconst 1, 1) := by decide +kernel
theorem dL_act_439 : decode cL_act 439 = .ok (.iload_n 2, 1) := by decide +kernel
theorem dL_act_440 : decode cL_act 440 = .ok (.iconst 4, 1) := by decide +kernel
theorem dL_act_441 : decode cL_act 441 = .ok (.ishr, 1) := by decide +kernel
theorem dL_act_442 : decode cL_act 442 = .ok (.iload_n 2, 1) := by decide +kernel
theorem dL_act_443 : decode cL_act 443 = .ok (.bipush 8, 2) := by decide +kernel
theorem dL_act_445 : decode cL_act 445 = .ok (.ishr, 1) := by decide +kernel
theorem dL_act_446 : decode cL_act 446 = .ok (.bipush 6, 2) := by decide +kernel
theorem dL_act_448 : decode cL_act 448 = .ok (.invokestatic 9, 3) := by decide +kernel
theorem dL_act_451 : decode cL_act 451 = .ok (.ifCond .ne 8, 3) := by decide +kernel
theorem dL_act_454 : decode cL_act 454 = .ok (.bipush 100, 2) := by decide +kernel
theorem dL_act_456 : decode cL_act 456 = .ok (.goto 4, 3) := by decide +kernel
theorem dL_act_459 : decode cL_act 459 = .ok (.iconst 5, 1) := by decide +kernel
theorem dL_act_460 : decode cL_act 460 = .ok (.invokestatic 9, 3) := by decide +kernel
theorem dL_act_463 : decode cL_act 463 = .ok (.iadd, 1) := by decide +kernel
theorem dL_act_464 : decode cL_act 464 = .ok (.istore 5, 2) := by decide +kernel
theorem dL_act_466 : decode cL_act 466 = .ok (.aload_n 0, 1) := by decide +kernel
theorem dL_act_467 : decode cL_act 467 = .ok (.iload 5, 2) := by decide +kernel
theorem dL_act_469 : decode cL_act 469 = .ok (.invokevirtual 64, 3) := by decide +kernel
theorem dL_act_472 : decode cL_act 472 = .ok (.aload_n 1, 1) := by decide +kernel
theorem dL_act_473 : decode cL_act 473 = .ok (.iload 5, 2) := by decide +kernel
theorem dL_act_475 : decode cL_act 475 = .ok (.invokevirtual 67, 3) := by decide +kernel
theorem dL_act_478 : decode cL_act 478 = .ok (.if_icmp .ne 7, 3) := by decide +kernel
theorem dL_act_481 : decode cL_act 481 = .ok (.iconst 1, 1) := by decide +kernel
theorem dL_act_482 : decode cL_act 482 = .ok (.goto 4, 3) := by decide +kernel
theorem dL_act_485 : decode cL_act 485 = .ok (.iconst 0, 1) := by decide +kernel
theorem dL_act_486 : decode cL_act 486 = .ok (.ireturn, 1) := by decide +kernel
theorem dL_act_487 : decode cL_act 487 = .ok (.astore 5, 2) := by decide +kernel
theorem dL_act_489 : decode cL_act 489 = .ok (.iload 4, 2) := by decide +kernel
theorem dL_act_491 : decode cL_act 491 = .ok (.ifCond .ne 7, 3) := by decide +kernel
theorem dL_act_494 : decode cL_act 494 = .ok (.iconst 1, 1) := by decide +kernel
theorem dL_act_495 : decode cL_act 495 = .ok (.goto 4, 3) := by decide +kernel
theorem dL_act_498 : decode cL_act 498 = .ok (.iconst 0, 1) := by decide +kernel
theorem dL_act_499 : decode cL_act 499 = .ok (.ireturn, 1) := by decide +kernel
theorem dL_build_0 : decode cL_build 0 = .ok (.new 16, 3) := by decide +kernel
theorem dL_build_3 : decode cL_build 3 = .ok (.dup, 1) := by decide +kernel
theorem dL_build_4 : decode cL_build 4 = .ok (.invokespecial 70, 3) := by decide +kernel
theorem dL_build_7 : decode cL_build 7 = .ok (.astore_n 2, 1) := by decide +kernel
theorem dL_build_8 : decode cL_build 8 = .ok (.bipush 6, 2) := by decide +kernel
theorem dL_build_10 : decode cL_build 10 = .ok (.aload_n 1, 1) := by decide +kernel
theorem dL_build_11 : decode cL_build 11 = .ok (.iconst 0, 1) := by decide +kernel
theorem dL_build_12 : decode cL_build 12 = .ok (.invokestatic 71, 3) := by decide +kernel
theorem dL_build_15 : decode cL_build 15 = .ok (.bipush 30, 2) := by decide +kernel
theorem dL_build_17 : decode cL_build 17 = .ok (.invokestatic 9, 3) := by decide +kernel
theorem dL_build_20 : decode cL_build 20 = .ok (.iadd, 1) := by decide +kernel
theorem dL_build_21 : decode cL_build 21 = .ok (.istore_n 3, 1) := by decide +kernel
theorem dL_build_22 : decode cL_build 22 = .ok (.iconst 0, 1) := by decide +kernel
theorem dL_build_23 : decode cL_build 23 = .ok (.istore 4, 2) := by decide +kernel
theorem dL_build_25 : decode cL_build 25 = .ok (.iload 4, 2) := by decide +kernel
theorem dL_build_27 : decode cL_build 27 = .ok (.iload_n 3, 1) := by decide +kernel
theorem dL_build_28 : decode cL_build 28 = .ok (.if_icmp .ge 67, 3) := by decide +kernel
theorem dL_build_31 : decode cL_build 31 = .ok (.aload_n 1, 1) := by decide +kernel
theorem dL_build_32 : decode cL_build 32 = .ok (.iconst 1, 1) := by decide +kernel
theorem dL_build_33 : decode cL_build 33 = .ok (.iload 4, 2) := by decide +kernel
theorem dL_build_35 : decode cL_build 35 = .ok (.bipush 15, 2) := by decide +kernel
theorem dL_build_37 : decode cL_build 37 = .ok (.irem, 1) := by decide +kernel
theorem dL_build_38 : decode cL_build 38 = .ok (.iadd, 1) := by decide +kernel
theorem dL_build_39 : decode cL_build 39 = .ok (.invokestatic 71, 3) := by decide +kernel
theorem dL_build_42 : decode cL_build 42 = .ok (.iload 4, 2) := by decide +kernel
theorem dL_build_44 : decode cL_build 44 = .ok (.bipush 15, 2) := by decide +kernel
theorem dL_build_46 : decode cL_build 46 = .ok (.idiv, 1) := by decide +kernel
theorem dL_build_47 : decode cL_build 47 = .ok (.iconst 3, 1) := by decide +kernel
theorem dL_build_48 : decode cL_build 48 = .ok (.imul, 1) := by decide +kernel
theorem dL_build_49 : decode cL_build 49 = .ok (.ishr, 1) := by decide +kernel
theorem dL_build_50 : decode cL_build 50 = .ok (.bipush 37, 2) := by decide +kernel
theorem dL_build_52 : decode cL_build 52 = .ok (.iload 4, 2) := by decide +kernel
theorem dL_build_54 : decode cL_build 54 = .ok (.imul, 1) := by decide +kernel
theorem dL_build_55 : decode cL_build 55 = .ok (.iadd, 1) := by decide +kernel
theorem dL_build_56 : decode cL_build 56 = .ok (.istore 5, 2) := by decide +kernel
theorem dL_build_58 : decode cL_build 58 = .ok (.aload_n 0, 1) := by decide +kernel
theorem dL_build_59 : decode cL_build 59 = .ok (.aload_n 2, 1) := by decide +kernel
theorem dL_build_60 : decode cL_build 60 = .ok (.iload 4, 2) := by decide +kernel
theorem dL_build_62 : decode cL_build 62 = .ok (.iconst 5, 1) := by decide +kernel
theorem dL_build_63 : decode cL_build 63 = .ok (.if_icmp .ge 16, 3) := by decide +kernel
theorem dL_build_66 : decode cL_build 66 = .ok (.iload 5, 2) := by decide +kernel
theorem dL_build_68 : decode cL_build 68 = .ok (.iload 5, 2) := by decide +kernel
theorem dL_build_70 : decode cL_build 70 = .ok (.bipush 12, 2) := by decide +kernel
theorem dL_build_72 : decode cL_build 72 = .ok (.invokestatic 9, 3) := by decide +kernel
theorem dL_build_75 : decode cL_build 75 = .ok (.isub, 1) := by decide +kernel
theorem dL_build_76 : decode cL_build 76 = .ok (.goto 5, 3) := by decide +kernel
theorem dL_build_79 : decode cL_build 79 = .ok (.iload 5, 2) := by decide +kernel
theorem dL_build_81 : decode cL_build 81 = .ok (.invokestatic 75, 3) := by decide +kernel
theorem dL_build_84 : decode cL_build 84 = .ok (.ifCond .ne 5, 3) := by decide +kernel
theorem dL_build_87 : decode cL_build 87 = .ok (.aconst_null, 1) := by decide +kernel
theorem dL_build_88 : decode cL_build 88 = .ok (.areturn, 1) := by decide +kernel
theorem dL_build_89 : decode cL_build 89 = .ok (.iinc 4 1, 3) := by decide +kernel
theorem dL_build_92 : decode cL_build 92 = .ok (.goto (-67), 3) := by decide +kernel
theorem dL_build_95 : decode cL_build 95 = .ok (.aload_n 2, 1) := by decide +kernel
theorem dL_build_96 : decode cL_build 96 = .ok (.areturn, 1) := by decide +kernel
theorem dL_law_0 : decode cL_law 0 = .ok (.new 30, 3) := by decide +kernel
theorem dL_law_3 : decode cL_law 3 = .ok (.dup, 1) := by decide +kernel
theorem dL_law_4 : decode cL_law 4 = .ok (.invokespecial 79, 3) := by decide +kernel
theorem dL_law_7 : decode cL_law 7 = .ok (.astore_n 1, 1) := by decide +kernel
theorem dL_law_8 : decode cL_law 8 = .ok (.aload_n 1, 1) := by decide +kernel
theorem dL_law_9 : decode cL_law 9 = .ok (.aload_n 0, 1) := by decide +kernel
theorem dL_law_10 : decode cL_law 10 = .ok (.invokestatic 80, 3) := by decide +kernel
theorem dL_law_13 : decode cL_law 13 = .ok (.astore_n 2, 1) := by decide +kernel
theorem dL_law_14 : decode cL_law 14 = .ok (.aload_n 2, 1) := by decide +kernel
theorem dL_law_15 : decode cL_law 15 = .ok (.ifnonnull 5, 3) := by decide +kernel
theorem dL_law_18 : decode cL_law 18 = .ok (.iconst 0, 1) := by decide +kernel
theorem dL_law_19 : decode cL_law 19 = .ok (.ireturn, 1) := by decide +kernel
theorem dL_law_20 : decode cL_law 20 = .ok (.iconst 0, 1) := by decide +kernel
theorem dL_law_21 : decode cL_law 21 = .ok (.istore_n 3, 1) := by decide +kernel
theorem dL_law_22 : decode cL_law 22 = .ok (.iload_n 3, 1) := by decide +kernel
theorem dL_law_23 : decode cL_law 23 = .ok (.bipush 6, 2) := by decide +kernel
theorem dL_law_25 : decode cL_law 25 = .ok (.if_icmp .ge 1464, 3) := by decide +kernel
theorem dL_law_28 : decode cL_law 28 = .ok (.aload_n 0, 1) := by decide +kernel
theorem dL_law_29 : decode cL_law 29 = .ok (.iload_n 3, 1) := by decide +kernel
theorem dL_law_30 : decode cL_law 30 = .ok (.iconst 1, 1) := by decide +kernel
theorem dL_law_31 : decode cL_law 31 = .ok (.iadd, 1) := by decide +kernel
theorem dL_law_32 : decode cL_law 32 = .ok (.invokestatic 71, 3) := by decide +kernel
theorem dL_law_35 : decode cL_law 35 = .ok (.iconst 2, 1) := by decide +kernel
theorem dL_law_36 : decode cL_law 36 = .ok (.ishr, 1) := by decide +kernel
theorem dL_law_37 : decode cL_law 37 = .ok (.bipush 53, 2) := by decide +kernel
theorem dL_law_39 : decode cL_law 39 = .ok (.iload_n 3, 1) := by decide +kernel
theorem dL_law_40 : decode cL_law 40 = .ok (.imul, 1) := by decide +kernel
theorem dL_law_41 : decode cL_law 41 = .ok (.iadd, 1) := by decide +kernel
theorem dL_law_42 : decode cL_law 42 = .ok (.istore 4, 2) := by decide +kernel
theorem dL_law_44 : decode cL_law 44 = .ok (.iconst 0, 1) := by decide +kernel
theorem dL_law_45 : decode cL_law 45 = .ok (.istore 5, 2) := by decide +kernel
theorem dL_law_47 : decode cL_law 47 = .ok (.iload 5, 2) := by decide +kernel
theorem dL_law_49 : decode cL_law 49 = .ok (.iconst 4, 1) := by decide +kernel
theorem dL_law_50 : decode cL_law 50 = .ok (.if_icmp .ge 32, 3) := by decide +kernel
theorem dL_law_53 : decode cL_law 53 = .ok (.aload_n 1, 1) := by decide +kernel
theorem dL_law_54 : decode cL_law 54 = .ok (.aload_n 2, 1) := by decide +kernel
theorem dL_law_55 : decode cL_law 55 = .ok (.iload 4, 2) := by decide +kernel
theorem dL_law_57 : decode cL_law 57 = .ok (.iconst 3, 1) := by decide +kernel
theorem dL_law_58 : decode cL_law 58 = .ok (.iload 5, 2) := by decide +kernel
theorem dL_law_60 : decode cL_law 60 = .ok (.imul, 1) := by decide +kernel
theorem dL_law_61 : decode cL_law 61 = .ok (.ishr, 1) := by decide +kernel
theorem dL_law_62 : decode cL_law 62 = .ok (.bipush 29, 2) := by decide +kernel
theorem dL_law_64 : decode cL_law 64 = .ok (.iload 5, 2) := by decide +kernel
theorem dL_law_66 : decode cL_law 66 = .ok (.imul, 1) := by decide +kernel
theorem dL_law_67 : decode cL_law 67 = .ok (.iadd, 1) := by decide +kernel
theorem dL_law_68 : decode cL_law 68 = .ok (.invokestatic 75, 3) := by decide +kernel
theorem dL_law_71 : decode cL_law 71 = .ok (.ifCond .ne 5, 3) := by decide +kernel
theorem dL_law_74 : decode cL_law 74 = .ok (.iconst 0, 1) := by decide +kernel
theorem dL_law_75 : decode cL_law 75 = .ok (.ireturn, 1) := by decide +kernel
theorem dL_law_76 : decode cL_law 76 = .ok (.iinc 5 1, 3) := by decide +kernel
theorem dL_law_79 : decode cL_law 79 = .ok (.goto (-32), 3) := by decide +kernel
theorem dL_law_82 : decode cL_law 82 = .ok (.aload_n 1, 1) := by decide +kernel
theorem dL_law_83 : decode cL_law 83 = .ok (.invokevirtual 84, 3) := by decide +kernel
theorem dL_law_86 : decode cL_law 86 = .ok (.lstore 5, 2) := by decide +kernel
theorem dL_law_88 : decode cL_law 88 = .ok (.aload_n 1, 1) := by decide +kernel
theorem dL_law_89 : decode cL_law 89 = .ok (.invokevirtual 88, 3) := by decide +kernel
theorem dL_law_92 : decode cL_law 92 = .ok (.istore 7, 2) := by decide +kernel
theorem dL_law_94 : decode cL_law 94 = .ok (.aload_n 1, 1) := by decide +kernel
theorem dL_law_95 : decode cL_law 95 = .ok (.invokevirtual 90, 3) := by decide +kernel
theorem dL_law_98 : decode cL_law 98 = .ok (.istore 8, 2) := by decide +kernel
theorem dL_law_100 : decode cL_law 100 = .ok (.bipush 32, 2) := by decide +kernel
theorem dL_law_102 : decode cL_law 102 = .ok (.newarray .boolean, 2) := by decide +kernel
theorem dL_law_104 : decode cL_law 104 = .ok (.astore 9, 2) := by decide +kernel
theorem dL_law_106 : decode cL_law 106 = .ok (.iconst 0, 1) := by decide +kernel
theorem dL_law_107 : decode cL_law 107 = .ok (.istore 10, 2) := by decide +kernel
theorem dL_law_109 : decode cL_law 109 = .ok (.iconst 0, 1) := by decide +kernel
theorem dL_law_110 : decode cL_law 110 = .ok (.istore 11, 2) := by decide +kernel
theorem dL_law_112 : decode cL_law 112 = .ok (.iconst 0, 1) := by decide +kernel
theorem dL_law_113 : decode cL_law 113 = .ok (.istore 12, 2) := by decide +kernel
theorem dL_law_115 : decode cL_law 115 = .ok (.iload 12, 2) := by decide +kernel
theorem dL_law_117 : decode cL_law 117 = .ok (.iload 7, 2) := by decide +kernel
theorem dL_law_119 : decode cL_law 119 = .ok (.if_icmp .ge 183, 3) := by decide +kernel
theorem dL_law_122 : decode cL_law 122 = .ok (.aload_n 1, 1) := by decide +kernel
theorem dL_law_123 : decode cL_law 123 = .ok (.iload 12, 2) := by decide +kernel
theorem dL_law_125 : decode cL_law 125 = .ok (.invokevirtual 92, 3) := by decide +kernel
theorem dL_law_128 : decode cL_law 128 = .ok (.istore 13, 2) := by decide +kernel
theorem dL_law_130 : decode cL_law 130 = .ok (.aload_n 1, 1) := by decide +kernel
theorem dL_law_131 : decode cL_law 131 = .ok (.iload 12, 2) := by decide +kernel
theorem dL_law_133 : decode cL_law 133 = .ok (.invokevirtual 95, 3) := by decide +kernel
theorem dL_law_136 : decode cL_law 136 = .ok (.istore 14, 2) := by decide +kernel
theorem dL_law_138 : decode cL_law 138 = .ok (.iload 11, 2) := by decide +kernel
theorem dL_law_140 : decode cL_law 140 = .ok (.aload_n 1, 1) := by decide +kernel
theorem dL_law_141 : decode cL_law 141 = .ok (.iload 12, 2) := by decide +kernel
theorem dL_law_143 : decode cL_law 143 = .ok (.invokevirtual 98, 3) := by decide +kernel
theorem dL_law_146 : decode cL_law 146 = .ok (.iadd, 1) := by decide +kernel
theorem dL_law_147 : decode cL_law 147 = .ok (.istore 11, 2) := by decide +kernel
theorem dL_law_149 : decode cL_law 149 = .ok (.iload 13, 2) := by decide +kernel
theorem dL_law_151 : decode cL_law 151 = .ok (.ifCond .lt 105, 3) := by decide +kernel
theorem dL_law_154 : decode cL_law 154 = .ok (.iload 13, 2) := by decide +kernel
theorem dL_law_156 : decode cL_law 156 = .ok (.bipush 99, 2) := by decide +kernel
theorem dL_law_158 : decode cL_law 158 = .ok (.if_icmp .gt 98, 3) := by decide +kernel
theorem dL_law_161 : decode cL_law 161 = .ok (.iload 13, 2) := by decide +kernel
theorem dL_law_163 : decode cL_law 163 = .ok (.ifCond .le 7, 3) := by decide +kernel
theorem dL_law_166 : decode cL_law 166 = .ok (.iconst 1, 1) := by decide +kernel
theorem dL_law_167 : decode cL_law 167 = .ok (.goto 4, 3) := by decide +kernel
theorem dL_law_170 : decode cL_law 170 = .ok (.iconst 0, 1) := by decide +kernel
theorem dL_law_171 : decode cL_law 171 = .ok (.iload 14, 2) := by decide +kernel
theorem dL_law_173 : decode cL_law 173 = .ok (.ifCond .lt 7, 3) := by decide +kernel
theorem dL_law_176 : decode cL_law 176 = .ok (.iconst 1, 1) := by decide +kernel
theorem dL_law_177 : decode cL_law 177 = .ok (.goto 4, 3) := by decide +kernel
theorem dL_law_180 : decode cL_law 180 = .ok (.iconst 0, 1) := by decide +kernel
theorem dL_law_181 : decode cL_law 181 = .ok (.if_icmp .ne 75, 3) := by decide +kernel
theorem dL_law_184 : decode cL_law 184 = .ok (.iload 14, 2) := by decide +kernel
theorem dL_law_186 : decode cL_law 186 = .ok (.bipush 31, 2) := by decide +kernel
theorem dL_law_188 : decode cL_law 188 = .ok (.if_icmp .gt 68, 3) := by decide +kernel
theorem dL_law_191 : decode cL_law 191 = .ok (.iload 13, 2) := by decide +kernel
theorem dL_law_193 : decode cL_law 193 = .ok (.ifCond .ne 12, 3) := by decide +kernel
theorem dL_law_196 : decode cL_law 196 = .ok (.aload_n 1, 1) := by decide +kernel
theorem dL_law_197 : decode cL_law 197 = .ok (.iload 12, 2) := by decide +kernel
theorem dL_law_199 : decode cL_law 199 = .ok (.invokevirtual 101, 3) := by decide +kernel
theorem dL_law_202 : decode cL_law 202 = .ok (.ifCond .ne 54, 3) := by decide +kernel
theorem dL_law_205 : decode cL_law 205 = .ok (.aload_n 1, 1) := by decide +kernel
theorem dL_law_206 : decode cL_law 206 = .ok (.iload 12, 2) := by decide +kernel
theorem dL_law_208 : decode cL_law 208 = .ok (.invokevirtual 105, 3) := by decide +kernel
theorem dL_law_211 : decode cL_law 211 = .ok (.iload 13, 2) := by decide +kernel
theorem dL_law_213 : decode cL_law 213 = .ok (.if_icmp .gt 43, 3) := by decide +kernel
theorem dL_law_216 : decode cL_law 216 = .ok (.aload_n 1, 1) := by decide +kernel
theorem dL_law_217 : decode cL_law 217 = .ok (.iload 12, 2) := by decide +kernel
theorem dL_law_219 : decode cL_law 219 = .ok (.invokevirtual 105, 3) := by decide +kernel
theorem dL_law_222 : decode cL_law 222 = .ok (.ifCond .ne 7, 3) := by decide +kernel
theorem dL_law_225 : decode cL_law 225 = .ok (.iconst 1, 1) := by decide +kernel
theorem dL_law_226 : decode cL_law 226 = .ok (.goto 4, 3) := by decide +kernel
theorem dL_law_229 : decode cL_law 229 = .ok (.iconst 0, 1) := by decide +kernel
theorem dL_law_230 : decode cL_law 230 = .ok (.iload 13, 2) := by decide +kernel
theorem dL_law_232 : decode cL_law 232 = .ok (.ifCond .ne 7, 3) := by decide +kernel
theorem dL_law_235 : decode cL_law 235 = .ok (.iconst 1, 1) := by decide +kernel
theorem dL_law_236 : decode cL_law 236 = .ok (.goto 4, 3) := by decide +kernel
theorem dL_law_239 : decode cL_law 239 = .ok (.iconst 0, 1) := by decide +kernel
theorem dL_law_240 : decode cL_law 240 = .ok (.if_icmp .ne 16, 3) := by decide +kernel
theorem dL_law_243 : decode cL_law 243 = .ok (.aload_n 1, 1) := by decide +kernel
theorem dL_law_244 : decode cL_law 244 = .ok (.iload 12, 2) := by decide +kernel
theorem dL_law_246 : decode cL_law 246 = .ok (.invokevirtual 105, 3) := by decide +kernel
theorem dL_law_249 : decode cL_law 249 = .ok (.aload_n 1, 1) := by decide +kernel
theorem dL_law_250 : decode cL_law 250 = .ok (.invokevirtual 108, 3) := by decide +kernel
theorem dL_law_253 : decode cL_law 253 = .ok (.if_icmp .le 5, 3) := by decide +kernel
theorem dL_law_256 : decode cL_law 256 = .ok (.iconst 0, 1) := by decide +kernel
theorem dL_law_257 : decode cL_law 257 = .ok (.ireturn, 1) := by decide +kernel
theorem dL_law_258 : decode cL_law 258 = .ok (.iload 14, 2) := by decide +kernel
theorem dL_law_260 : decode cL_law 260 = .ok (.ifCond .ge 6, 3) := by decide +kernel
theorem dL_law_263 : decode cL_law 263 = .ok (.goto 33, 3) := by decide +kernel
theorem dL_law_266 : decode cL_law 266 = .ok (.iinc 10 1, 3) := by decide +kernel
theorem dL_law_269 : decode cL_law 269 = .ok (.aload 9, 2) := by decide +kernel
theorem dL_law_271 : decode cL_law 271 = .ok (.iload 14, 2) := by decide +kernel
theorem dL_law_273 : decode cL_law 273 = .ok (.baload, 1) := by decide +kernel
theorem dL_law_274 : decode cL_law 274 = .ok (.ifCond .ne 14, 3) := by decide +kernel
theorem dL_law_277 : decode cL_law 277 = .ok (.aload_n 1, 1) := by decide +kernel
theorem dL_law_278 : decode cL_law 278 = .ok (.iload 14, 2) := by decide +kernel
theorem dL_law_280 : decode cL_law 280 = .ok (.invokevirtual 111, 3) := by decide +kernel
theorem dL_law_283 : decode cL_law 283 = .ok (.iload 13, 2) := by decide +kernel
theorem dL_law_285 : decode cL_law 285 = .ok (.if_icmp .eq 5, 3) := by decide +kernel
theorem dL_law_288 : decode cL_law 288 = .ok (.iconst 0, 1) := by decide +kernel
theorem dL_law_289 : decode cL_law 289 = .ok (.ireturn, 1) := by decide +kernel
theorem dL_law_290 : decode cL_law 290 = .ok (.aload 9, 2) := by decide +kernel
theorem dL_law_292 : decode cL_law 292 = .ok (.iload 14, 2) := by decide +kernel
theorem dL_law_294 : decode cL_law 294 = .ok (.iconst 1, 1) := by decide +kernel
theorem dL_law_295 : decode cL_law 295 = .ok (.bastore, 1) := by decide +kernel
theorem dL_law_296 : decode cL_law 296 = .ok (.iinc 12 1, 3) := by decide +kernel
theorem dL_law_299 : decode cL_law 299 = .ok (.goto (-184), 3) := by decide +kernel
theorem dL_law_302 : decode cL_law 302 = .ok (.iconst 0, 1) := by decide +kernel
theorem dL_law_303 : decode cL_law 303 = .ok (.istore 12, 2) := by decide +kernel
theorem dL_law_305 : decode cL_law 305 = .ok (.iconst 0, 1) := by decide +kernel
theorem dL_law_306 : decode cL_law 306 = .ok (.istore 13, 2) := by decide +kernel
theorem dL_law_308 : decode cL_law 308 = .ok (.iload 13, 2) := by decide +kernel
theorem dL_law_310 : decode cL_law 310 = .ok (.iload 8, 2) := by decide +kernel
theorem dL_law_312 : decode cL_law 312 = .ok (.if_icmp .ge 37, 3) := by decide +kernel
theorem dL_law_315 : decode cL_law 315 = .ok (.iload 12, 2) := by decide +kernel
theorem dL_law_317 : decode cL_law 317 = .ok (.aload_n 1, 1) := by decide +kernel
theorem dL_law_318 : decode cL_law 318 = .ok (.iload 13, 2) := by decide +kernel
theorem dL_law_320 : decode cL_law 320 = .ok (.invokevirtual 114, 3) := by decide +kernel
theorem dL_law_323 : decode cL_law 323 = .ok (.iadd, 1) := by decide +kernel
theorem dL_law_324 : decode cL_law 324 = .ok (.istore 12, 2) := by decide +kernel
theorem dL_law_326 : decode cL_law 326 = .ok (.aload_n 1, 1) := by decide +kernel
theorem dL_law_327 : decode cL_law 327 = .ok (.aload_n 1, 1) := by decide +kernel
theorem dL_law_328 : decode cL_law 328 = .ok (.iload 13, 2) := by decide +kernel
theorem dL_law_330 : decode cL_law 330 = .ok (.invokevirtual 117, 3) := by decide +kernel
theorem dL_law_333 : decode cL_law 333 = .ok (.invokevirtual 120, 3) := by decide +kernel
theorem dL_law_336 : decode cL_law 336 = .ok (.iload 13, 2) := by decide +kernel
theorem dL_law_338 : decode cL_law 338 = .ok (.if_icmp .eq 5, 3) := by decide +kernel
theorem dL_law_341 : decode cL_law 341 = .ok (.iconst 0, 1) := by decide +kernel
theorem dL_law_342 : decode cL_law 342 = .ok (.ireturn, 1) := by decide +kernel
theorem dL_law_343 : decode cL_law 343 = .ok (.iinc 13 1, 3) := by decide +kernel
theorem dL_law_346 : decode cL_law 346 = .ok (.goto (-38), 3) := by decide +kernel
theorem dL_law_349 : decode cL_law 349 = .ok (.iload 10, 2) := by decide +kernel
theorem dL_law_351 : decode cL_law 351 = .ok (.aload_n 1, 1) := by decide +kernel
theorem dL_law_352 : decode cL_law 352 = .ok (.invokevirtual 121, 3) := by decide +kernel
theorem dL_law_355 : decode cL_law 355 = .ok (.if_icmp .ne 85, 3) := by decide +kernel
theorem dL_law_358 : decode cL_law 358 = .ok (.iload 10, 2) := by decide +kernel
theorem dL_law_360 : decode cL_law 360 = .ok (.bipush 8, 2) := by decide +kernel
theorem dL_law_362 : decode cL_law 362 = .ok (.if_icmp .gt 78, 3) := by decide +kernel
theorem dL_law_365 : decode cL_law 365 = .ok (.aload_n 1, 1) := by decide +kernel
theorem dL_law_366 : decode cL_law 366 = .ok (.iconst 0, 1) := by decide +kernel
theorem dL_law_367 : decode cL_law 367 = .ok (.invokevirtual 122, 3) := by decide +kernel
theorem dL_law_370 : decode cL_law 370 = .ok (.aload_n 1, 1) := by decide +kernel
theorem dL_law_371 : decode cL_law 371 = .ok (.iconst 1, 1) := by decide +kernel
theorem dL_law_372 : decode cL_law 372 = .ok (.invokevirtual 122, 3) := by decide +kernel
theorem dL_law_375 : decode cL_law 375 = .ok (.iadd, 1) := by decide +kernel
theorem dL_law_376 : decode cL_law 376 = .ok (.iload 12, 2) := by decide +kernel
theorem dL_law_378 : decode cL_law 378 = .ok (.if_icmp .ne 62, 3) := by decide +kernel
theorem dL_law_381 : decode cL_law 381 = .ok (.iload 11, 2) := by decide +kernel
theorem dL_law_383 : decode cL_law 383 = .ok (.iload 12, 2) := by decide +kernel
theorem dL_law_385 : decode cL_law 385 = .ok (.if_icmp .ne 55, 3) := by decide +kernel
theorem dL_law_388 : decode cL_law 388 = .ok (.aload_n 1, 1) := by decide +kernel
theorem dL_law_389 : decode cL_law 389 = .ok (.iconst 0, 1) := by decide +kernel
theorem dL_law_390 : decode cL_law 390 = .ok (.invokevirtual 125, 3) := by decide +kernel
theorem dL_law_393 : decode cL_law 393 = .ok (.aload_n 1, 1) := by decide +kernel
theorem dL_law_394 : decode cL_law 394 = .ok (.iconst 1, 1) := by decide +kernel
theorem dL_law_395 : decode cL_law 395 = .ok (.invokevirtual 125, 3) := by decide +kernel
theorem dL_law_398 : decode cL_law 398 = .ok (.iadd, 1) := by decide +kernel
theorem dL_law_399 : decode cL_law 399 = .ok (.iload 8, 2) := by decide +kernel
theorem dL_law_401 : decode cL_law 401 = .ok (.if_icmp .ne 39, 3) := by decide +kernel
theorem dL_law_404 : decode cL_law 404 = .ok (.aload_n 1, 1) := by decide +kernel
theorem dL_law_405 : decode cL_law 405 = .ok (.iconst 0, 1) := by decide +kernel
theorem dL_law_406 : decode cL_law 406 = .ok (.invokevirtual 128, 3) := by decide +kernel
theorem dL_law_409 : decode cL_law 409 = .ok (.ifCond .lt 31, 3) := by decide +kernel
theorem dL_law_412 : decode cL_law 412 = .ok (.aload_n 1, 1) := by decide +kernel
theorem dL_law_413 : decode cL_law 413 = .ok (.iconst 0, 1) := by decide +kernel
theorem dL_law_414 : decode cL_law 414 = .ok (.invokevirtual 128, 3) := by decide +kernel
theorem dL_law_417 : decode cL_law 417 = .ok (.bipush 11, 2) := by decide +kernel
theorem dL_law_419 : decode cL_law 419 = .ok (.if_icmp .gt 21, 3) := by decide +kernel
theorem dL_law_422 : decode cL_law 422 = .ok (.aload_n 1, 1) := by decide +kernel
theorem dL_law_423 : decode cL_law 423 = .ok (.iconst 1, 1) := by decide +kernel
theorem dL_law_424 : decode cL_law 424 = .ok (.invokevirtual 128, 3) := by decide +kernel
theorem dL_law_427 : decode cL_law 427 = .ok (.ifCond .lt 13, 3) := by decide +kernel
theorem dL_law_430 : decode cL_law 430 = .ok (.aload_n 1, 1) := by decide +kernel
theorem dL_law_431 : decode cL_law 431 = .ok (.iconst 1, 1) := by decide +kernel
theorem dL_law_432 : decode cL_law 432 = .ok (.invokevirtual 128, 3) := by decide +kernel
theorem dL_law_435 : decode cL_law 435 = .ok (.bipush 11, 2) := by decide +kernel
theorem dL_law_437 : decode cL_law 437 = .ok (.if_icmp .le 5, 3) := by decide +kernel
theorem dL_law_440 : decode cL_law 440 = .ok (.iconst 0, 1) := by decide +kernel
theorem dL_law_441 : decode cL_law 441 = .ok (.ireturn, 1) := by decide +kernel
theorem dL_law_442 : decode cL_law 442 = .ok (.iconst 0, 1) := by decide +kernel
theorem dL_law_443 : decode cL_law 443 = .ok (.istore 13, 2) := by decide +kernel
theorem dL_law_445 : decode cL_law 445 = .ok (.iload 13, 2) := by decide +kernel
theorem dL_law_447 : decode cL_law 447 = .ok (.bipush 32, 2) := by decide +kernel
theorem dL_law_449 : decode cL_law 449 = .ok (.if_icmp .ge 28, 3) := by decide +kernel
theorem dL_law_452 : decode cL_law 452 = .ok (.aload 9, 2) := by decide +kernel
theorem dL_law_454 : decode cL_law 454 = .ok (.iload 13, 2) := by decide +kernel
theorem dL_law_456 : decode cL_law 456 = .ok (.baload, 1) := by decide +kernel
theorem dL_law_457 : decode cL_law 457 = .ok (.ifCond .ne 14, 3) := by decide +kernel
theorem dL_law_460 : decode cL_law 460 = .ok (.aload_n 1, 1) := by decide +kernel
theorem dL_law_461 : decode cL_law 461 = .ok (.iload 13, 2) := by decide +kernel
theorem dL_law_463 : decode cL_law 463 = .ok (.invokevirtual 111, 3) := by decide +kernel
theorem dL_law_466 : decode cL_law 466 = .ok (.ifCond .eq 5, 3) := by decide +kernel
theorem dL_law_469 : decode cL_law 469 = .ok (.iconst 0, 1) := by decide +kernel
theorem dL_law_470 : decode cL_law 470 = .ok (.ireturn, 1) := by decide +kernel
theorem dL_law_471 : decode cL_law 471 = .ok (.iinc 13 1, 3) := by decide +kernel
theorem dL_law_474 : decode cL_law 474 = .ok (.goto (-29), 3) := by decide +kernel
theorem dL_law_477 : decode cL_law 477 = .ok (.iload 4, 2) := by decide +kernel
theorem dL_law_479 : decode cL_law 479 = .ok (.iconst 3, 1) := by decide +kernel
theorem dL_law_480 : decode cL_law 480 = .ok (.ishr, 1) := by decide +kernel
theorem dL_law_481 : decode cL_law 481 = .ok (.bipush 32, 2) := by decide +kernel
theorem dL_law_483 : decode cL_law 483 = .ok (.invokestatic 9, 3) := by decide +kernel
theorem dL_law_486 : decode cL_law 486 = .ok (.istore 13, 2) := by decide +kernel
theorem dL_law_488 : decode cL_law 488 = .ok (.iload 4, 2) := by decide +kernel
theorem dL_law_490 : decode cL_law 490 = .ok (.iconst 5, 1) := by decide +kernel
theorem dL_law_491 : decode cL_law 491 = .ok (.ishr, 1) := by decide +kernel
theorem dL_law_492 : decode cL_law 492 = .ok (.bipush 32, 2) := by decide +kernel
theorem dL_law_494 : decode cL_law 494 = .ok (.invokestatic 9, 3) := by decide +kernel
theorem dL_law_497 : decode cL_law 497 = .ok (.istore 14, 2) := by decide +kernel
theorem dL_law_499 : decode cL_law 499 = .ok (.iload 4, 2) := by decide +kernel
theorem dL_law_501 : decode cL_law 501 = .ok (.bipush 7, 2) := by decide +kernel
theorem dL_law_503 : decode cL_law 503 = .ok (.ishr, 1) := by decide +kernel
theorem dL_law_504 : decode cL_law 504 = .ok (.iconst 2, 1) := by decide +kernel
theorem dL_law_505 : decode cL_law 505 = .ok (.invokestatic 9, 3) := by decide +kernel
theorem dL_law_508 : decode cL_law 508 = .ok (.ifCond .ne 7, 3) := by decide +kernel
theorem dL_law_511 : decode cL_law 511 = .ok (.iconst 1, 1) := by decide +kernel
theorem dL_law_512 : decode cL_law 512 = .ok (.goto 4, 3) := by decide +kernel
theorem dL_law_515 : decode cL_law 515 = .ok (.iconst 0, 1) := by decide +kernel
theorem dL_law_516 : decode cL_law 516 = .ok (.istore 15, 2) := by decide +kernel
theorem dL_law_518 : decode cL_law 518 = .ok (.aload_n 1, 1) := by decide +kernel
theorem dL_law_519 : decode cL_law 519 = .ok (.iload 13, 2) := by decide +kernel
theorem dL_law_521 : decode cL_law 521 = .ok (.iload 15, 2) := by decide +kernel
theorem dL_law_523 : decode cL_law 523 = .ok (.iload 14, 2) := by decide +kernel
theorem dL_law_525 : decode cL_law 525 = .ok (.invokevirtual 131, 3) := by decide +kernel
theorem dL_law_528 : decode cL_law 528 = .ok (.istore 16, 2) := by decide +kernel
theorem dL_law_530 : decode cL_law 530 = .ok (.iload 16, 2) := by decide +kernel
theorem dL_law_532 : decode cL_law 532 = .ok (.iconst (-1), 1) := by decide +kernel
theorem dL_law_533 : decode cL_law 533 = .ok (.if_icmp .lt 78, 3) := by decide +kernel
theorem dL_law_536 : decode cL_law 536 = .ok (.iload 16, 2) := by decide +kernel
theorem dL_law_538 : decode cL_law 538 = .ok (.ifCond .eq 73, 3) := by decide +kernel
theorem dL_law_541 : decode cL_law 541 = .ok (.iload 16, 2) := by decide +kernel
theorem dL_law_543 : decode cL_law 543 = .ok (.iconst 1, 1) := by decide +kernel
theorem dL_law_544 : decode cL_law 544 = .ok (.if_icmp .eq 67, 3) := by decide +kernel
theorem dL_law_547 : decode cL_law 547 = .ok (.iload 16, 2) := by decide +kernel
theorem dL_law_549 : decode cL_law 549 = .ok (.bipush 99, 2) := by decide +kernel
theorem dL_law_551 : decode cL_law 551 = .ok (.if_icmp .gt 60, 3) := by decide +kernel
theorem dL_law_554 : decode cL_law 554 = .ok (.aload_n 2, 1) := by decide +kernel
theorem dL_law_555 : decode cL_law 555 = .ok (.iload 13, 2) := by decide +kernel
theorem dL_law_557 : decode cL_law 557 = .ok (.iload 15, 2) := by decide +kernel
theorem dL_law_559 : decode cL_law 559 = .ok (.iload 14, 2) := by decide +kernel
theorem dL_law_561 : decode cL_law 561 = .ok (.iload 16, 2) := by decide +kernel
theorem dL_law_563 : decode cL_law 563 = .ok (.ifCond .ge 8, 3) := by decide +kernel
theorem dL_law_566 : decode cL_law 566 = .ok (.bipush 99, 2) := by decide +kernel
theorem dL_law_568 : decode cL_law 568 = .ok (.goto 5, 3) := by decide +kernel
theorem dL_law_571 : decode cL_law 571 = .ok (.iload 16, 2) := by decide +kernel
theorem dL_law_573 : decode cL_law 573 = .ok (.invokestatic 134, 3) := by decide +kernel
theorem dL_law_576 : decode cL_law 576 = .ok (.iload 16, 2) := by decide +kernel
theorem dL_law_578 : decode cL_law 578 = .ok (.ifCond .le 7, 3) := by decide +kernel
theorem dL_law_581 : decode cL_law 581 = .ok (.iconst 1, 1) := by decide +kernel
theorem dL_law_582 : decode cL_law 582 = .ok (.goto 4, 3) := by decide +kernel
theorem dL_law_585 : decode cL_law 585 = .ok (.iconst 0, 1) := by decide +kernel
theorem dL_law_586 : decode cL_law 586 = .ok (.if_icmp .ne 25, 3) := by decide +kernel
theorem dL_law_589 : decode cL_law 589 = .ok (.iload 16, 2) := by decide +kernel
theorem dL_law_591 : decode cL_law 591 = .ok (.ifCond .le 22, 3) := by decide +kernel
theorem dL_law_594 : decode cL_law 594 = .ok (.aload_n 2, 1) := by decide +kernel
theorem dL_law_595 : decode cL_law 595 = .ok (.iload 13, 2) := by decide +kernel
theorem dL_law_597 : decode cL_law 597 = .ok (.iload 15, 2) := by decide +kernel
theorem dL_law_599 : decode cL_law 599 = .ok (.iload 14, 2) := by decide +kernel
theorem dL_law_601 : decode cL_law 601 = .ok (.iload 16, 2) := by decide +kernel
theorem dL_law_603 : decode cL_law 603 = .ok (.iconst 1, 1) := by decide +kernel
theorem dL_law_604 : decode cL_law 604 = .ok (.isub, 1) := by decide +kernel
theorem dL_law_605 : decode cL_law 605 = .ok (.invokestatic 134, 3) := by decide +kernel
theorem dL_law_608 : decode cL_law 608 = .ok (.ifCond .eq 5, 3) := by decide +kernel
theorem dL_law_611 : decode cL_law 611 = .ok (.iconst 0, 1) := by decide +kernel
theorem dL_law_612 : decode cL_law 612 = .ok (.ireturn, 1) := by decide +kernel
theorem dL_law_613 : decode cL_law 613 = .ok (.iconst 1, 1) := by decide +kernel
theorem dL_law_614 : decode cL_law 614 = .ok (.iload 4, 2) := by decide +kernel
theorem dL_law_616 : decode cL_law 616 = .ok (.iconst 4, 1) := by decide +kernel
theorem dL_law_617 : decode cL_law 617 = .ok (.ishr, 1) := by decide +kernel
theorem dL_law_618 : decode cL_law 618 = .ok (.bipush 99, 2) := by decide +kernel
theorem dL_law_620 : decode cL_law 620 = .ok (.invokestatic 9, 3) := by decide +kernel
theorem dL_law_623 : decode cL_law 623 = .ok (.iadd, 1) := by decide +kernel
theorem dL_law_624 : decode cL_law 624 = .ok (.istore 17, 2) := by decide +kernel
theorem dL_law_626 : decode cL_law 626 = .ok (.aload_n 1, 1) := by decide +kernel
theorem dL_law_627 : decode cL_law 627 = .ok (.iload 17, 2) := by decide +kernel
theorem dL_law_629 : decode cL_law 629 = .ok (.invokevirtual 138, 3) := by decide +kernel
theorem dL_law_632 : decode cL_law 632 = .ok (.istore 18, 2) := by decide +kernel
theorem dL_law_634 : decode cL_law 634 = .ok (.aload_n 2, 1) := by decide +kernel
theorem dL_law_635 : decode cL_law 635 = .ok (.iload 18, 2) := by decide +kernel
theorem dL_law_637 : decode cL_law 637 = .ok (.iload 17, 2) := by decide +kernel
theorem dL_law_639 : decode cL_law 639 = .ok (.invokevirtual 141, 3) := by decide +kernel
theorem dL_law_642 : decode cL_law 642 = .ok (.aload_n 2, 1) := by decide +kernel
theorem dL_law_643 : decode cL_law 643 = .ok (.iload 13, 2) := by decide +kernel
theorem dL_law_645 : decode cL_law 645 = .ok (.iload 17, 2) := by decide +kernel
theorem dL_law_647 : decode cL_law 647 = .ok (.invokevirtual 141, 3) := by decide +kernel
theorem dL_law_650 : decode cL_law 650 = .ok (.if_icmp .lt 29, 3) := by decide +kernel
theorem dL_law_653 : decode cL_law 653 = .ok (.iload 13, 2) := by decide +kernel
theorem dL_law_655 : decode cL_law 655 = .ok (.iload 18, 2) := by decide +kernel
theorem dL_law_657 : decode cL_law 657 = .ok (.if_icmp .ge 24, 3) := by decide +kernel
theorem dL_law_660 : decode cL_law 660 = .ok (.aload_n 2, 1) := by decide +kernel
theorem dL_law_661 : decode cL_law 661 = .ok (.iload 18, 2) := by decide +kernel
theorem dL_law_663 : decode cL_law 663 = .ok (.iload 17, 2) := by decide +kernel
theorem dL_law_665 : decode cL_law 665 = .ok (.invokevirtual 141, 3) := by decide +kernel
theorem dL_law_668 : decode cL_law 668 = .ok (.aload_n 2, 1) := by decide +kernel
theorem dL_law_669 : decode cL_law 669 = .ok (.iload 13, 2) := by decide +kernel
theorem dL_law_671 : decode cL_law 671 = .ok (.iload 17, 2) := by decide +kernel
theorem dL_law_673 : decode cL_law 673 = .ok (.invokevirtual 141, 3) := by decide +kernel
theorem dL_law_676 : decode cL_law 676 = .ok (.if_icmp .ne 5, 3) := by decide +kernel
theorem dL_law_679 : decode cL_law 679 = .ok (.iconst 0, 1) := by decide +kernel
theorem dL_law_680 : decode cL_law 680 = .ok (.ireturn, 1) := by decide +kernel
theorem dL_law_681 : decode cL_law 681 = .ok (.iconst 1, 1) := by decide +kernel
theorem dL_law_682 : decode cL_law 682 = .ok (.iload 4, 2) := by decide +kernel
theorem dL_law_684 : decode cL_law 684 = .ok (.bipush 6, 2) := by decide +kernel
theorem dL_law_686 : decode cL_law 686 = .ok (.ishr, 1) := by decide +kernel
theorem dL_law_687 : decode cL_law 687 = .ok (.bipush 20, 2) := by decide +kernel
theorem dL_law_689 : decode cL_law 689 = .ok (.invokestatic 9, 3) := by decide +kernel
theorem dL_law_692 : decode cL_law 692 = .ok (.iadd, 1) := by decide +kernel
theorem dL_law_693 : decode cL_law 693 = .ok (.istore 19, 2) := by decide +kernel
theorem dL_law_695 : decode cL_law 695 = .ok (.iconst 2, 1) := by decide +kernel
theorem dL_law_696 : decode cL_law 696 = .ok (.newarray .int, 2) := by decide +kernel
theorem dL_law_698 : decode cL_law 698 = .ok (.dup, 1) := by decide +kernel
theorem dL_law_699 : decode cL_law 699 = .ok (.iconst 0, 1) := by decide +kernel
theorem dL_law_700 : decode cL_law 700 = .ok (.aload_n 1, 1) := by decide +kernel
theorem dL_law_701 : decode cL_law 701 = .ok (.iconst 0, 1) := by decide +kernel
theorem dL_law_702 : decode cL_law 702 = .ok (.iload 19, 2) := by decide +kernel
theorem dL_law_704 : decode cL_law 704 = .ok (.invokevirtual 144, 3) := by decide +kernel
theorem dL_law_707 : decode cL_law 707 = .ok (.iastore, 1) := by decide +kernel
theorem dL_law_708 : decode cL_law 708 = .ok (.dup, 1) := by decide +kernel
theorem dL_law_709 : decode cL_law 709 = .ok (.iconst 1, 1) := by decide +kernel
theorem dL_law_710 : decode cL_law 710 = .ok (.aload_n 1, 1) := by decide +kernel
theorem dL_law_711 : decode cL_law 711 = .ok (.iconst 1, 1) := by decide +kernel
theorem dL_law_712 : decode cL_law 712 = .ok (.iload 19, 2) := by decide +kernel
theorem dL_law_714 : decode cL_law 714 = .ok (.invokevirtual 144, 3) := by decide +kernel
theorem dL_law_717 : decode cL_law 717 = .ok (.iastore, 1) := by decide +kernel
theorem dL_law_718 : decode cL_law 718 = .ok (.astore 20, 2) := by decide +kernel
theorem dL_law_720 : decode cL_law 720 = .ok (.aload_n 1, 1) := by decide +kernel
theorem dL_law_721 : decode cL_law 721 = .ok (.iload 14, 2) := by decide +kernel
theorem dL_law_723 : decode cL_law 723 = .ok (.iload 19, 2) := by decide +kernel
theorem dL_law_725 : decode cL_law 725 = .ok (.invokevirtual 147, 3) := by decide +kernel
theorem dL_law_728 : decode cL_law 728 = .ok (.istore 21, 2) := by decide +kernel
theorem dL_law_730 : decode cL_law 730 = .ok (.aload_n 1, 1) := by decide +kernel
theorem dL_law_731 : decode cL_law 731 = .ok (.invokevirtual 108, 3) := by decide +kernel
theorem dL_law_734 : decode cL_law 734 = .ok (.istore 22, 2) := by decide +kernel
theorem dL_law_736 : decode cL_law 736 = .ok (.aload_n 1, 1) := by decide +kernel
theorem dL_law_737 : decode cL_law 737 = .ok (.invokevirtual 84, 3) := by decide +kernel
theorem dL_law_740 : decode cL_law 740 = .ok (.lload 5, 2) := by decide +kernel
theorem dL_law_742 : decode cL_law 742 = .ok (.lcmp, 1) := by decide +kernel
theorem dL_law_743 : decode cL_law 743 = .ok (.ifCond .eq 5, 3) := by decide +kernel
theorem dL_law_746 : decode cL_law 746 = .ok (.iconst 0, 1) := by decide +kernel
theorem dL_law_747 : decode cL_law 747 = .ok (.ireturn, 1) := by decide +kernel
theorem dL_law_748 : decode cL_law 748 = .ok (.iconst 0, 1) := by decide +kernel
theorem dL_law_749 : decode cL_law 749 = .ok (.istore 23, 2) := by decide +kernel
theorem dL_law_751 : decode cL_law 751 = .ok (.iconst 2, 1) := by decide +kernel
theorem dL_law_752 : decode cL_law 752 = .ok (.newarray .int, 2) := by decide +kernel
theorem dL_law_754 : decode cL_law 754 = .ok (.dup, 1) := by decide +kernel
theorem dL_law_755 : decode cL_law 755 = .ok (.iconst 0, 1) := by decide +kernel
theorem dL_law_756 : decode cL_law 756 = .ok (.aload_n 1, 1) := by decide +kernel
theorem dL_law_757 : decode cL_law 757 = .ok (.iconst 0, 1) := by decide +kernel
theorem dL_law_758 : decode cL_law 758 = .ok (.invokevirtual 122, 3) := by decide +kernel
theorem dL_law_761 : decode cL_law 761 = .ok (.iastore, 1) := by decide +kernel
theorem dL_law_762 : decode cL_law 762 = .ok (.dup, 1) := by decide +kernel
theorem dL_law_763 : decode cL_law 763 = .ok (.iconst 1, 1) := by decide +kernel
theorem dL_law_764 : decode cL_law 764 = .ok (.aload_n 1, 1) := by decide +kernel
theorem dL_law_765 : decode cL_law 765 = .ok (.iconst 1, 1) := by decide +kernel
theorem dL_law_766 : decode cL_law 766 = .ok (.invokevirtual 122, 3) := by decide +kernel
theorem dL_law_769 : decode cL_law 769 = .ok (.iastore, 1) := by decide +kernel
theorem dL_law_770 : decode cL_law 770 = .ok (.astore 24, 2) := by decide +kernel
theorem dL_law_772 : decode cL_law 772 = .ok (.iconst 1, 1) := by decide +kernel
theorem dL_law_773 : decode cL_law 773 = .ok (.istore 25, 2) := by decide +kernel
theorem dL_law_775 : decode cL_law 775 = .ok (.iload 25, 2) := by decide +kernel
theorem dL_law_777 : decode cL_law 777 = .ok (.iload 19, 2) := by decide +kernel
theorem dL_law_779 : decode cL_law 779 = .ok (.if_icmp .gt 661, 3) := by decide +kernel
theorem dL_law_782 : decode cL_law 782 = .ok (.iload 7, 2) := by decide +kernel
theorem dL_law_784 : decode cL_law 784 = .ok (.newarray .int, 2) := by decide +kernel
theorem dL_law_786 : decode cL_law 786 = .ok (.astore 26, 2) := by decide +kernel
theorem dL_law_788 : decode cL_law 788 = .ok (.iload 7, 2) := by decide +kernel
theorem dL_law_790 : decode cL_law 790 = .ok (.newarray .int, 2) := by decide +kernel
theorem dL_law_792 : decode cL_law 792 = .ok (.astore 27, 2) := by decide +kernel
theorem dL_law_794 : decode cL_law 794 = .ok (.iload 7, 2) := by decide +kernel
theorem dL_law_796 : decode cL_law 796 = .ok (.newarray .int, 2) := by decide +kernel
theorem dL_law_798 : decode cL_law 798 = .ok (.astore 28, 2) := by decide +kernel
theorem dL_law_800 : decode cL_law 800 = .ok (.iload 7, 2) := by decide +kernel
theorem dL_law_802 : decode cL_law 802 = .ok (.newarray .boolean, 2) := by decide +kernel
theorem dL_law_804 : decode cL_law 804 = .ok (.astore 29, 2) := by decide +kernel
theorem dL_law_806 : decode cL_law 806 = .ok (.iload 8, 2) := by decide +kernel
theorem dL_law_808 : decode cL_law 808 = .ok (.newarray .int, 2) := by decide +kernel
theorem dL_law_810 : decode cL_law 810 = .ok (.astore 30, 2) := by decide +kernel
theorem dL_law_812 : decode cL_law 812 = .ok (.iconst 2, 1) := by decide +kernel
theorem dL_law_813 : decode cL_law 813 = .ok (.newarray .int, 2) := by decide +kernel
theorem dL_law_815 : decode cL_law 815 = .ok (.dup, 1) := by decide +kernel
theorem dL_law_816 : decode cL_law 816 = .ok (.iconst 0, 1) := by decide +kernel
theorem dL_law_817 : decode cL_law 817 = .ok (.aload_n 1, 1) := by decide +kernel
theorem dL_law_818 : decode cL_law 818 = .ok (.iconst 0, 1) := by decide +kernel
theorem dL_law_819 : decode cL_law 819 = .ok (.invokevirtual 128, 3) := by decide +kernel
theorem dL_law_822 : decode cL_law 822 = .ok (.iastore, 1) := by decide +kernel
theorem dL_law_823 : decode cL_law 823 = .ok (.dup, 1) := by decide +kernel
theorem dL_law_824 : decode cL_law 824 = .ok (.iconst 1, 1) := by decide +kernel
theorem dL_law_825 : decode cL_law 825 = .ok (.aload_n 1, 1) := by decide +kernel
theorem dL_law_826 : decode cL_law 826 = .ok (.iconst 1, 1) := by decide +kernel
theorem dL_law_827 : decode cL_law 827 = .ok (.invokevirtual 128, 3) := by decide +kernel
theorem dL_law_830 : decode cL_law 830 = .ok (.iastore, 1) := by decide +kernel
theorem dL_law_831 : decode cL_law 831 = .ok (.astore 31, 2) := by decide +kernel
theorem dL_law_833 : decode cL_law 833 = .ok (.iconst 0, 1) := by decide +kernel
theorem dL_law_834 : decode cL_law 834 = .ok (.istore 32, 2) := by decide +kernel
theorem dL_law_836 : decode cL_law 836 = .ok (.iload 32, 2) := by decide +kernel
theorem dL_law_838 : decode cL_law 838 = .ok (.iload 7, 2) := by decide +kernel
theorem dL_law_840 : decode cL_law 840 = .ok (.if_icmp .ge 53, 3) := by decide +kernel
theorem dL_law_843 : decode cL_law 843 = .ok (.aload 26, 2) := by decide +kernel
theorem dL_law_845 : decode cL_law 845 = .ok (.iload 32, 2) := by decide +kernel
theorem dL_law_847 : decode cL_law 847 = .ok (.aload_n 1, 1) := by decide +kernel
theorem dL_law_848 : decode cL_law 848 = .ok (.iload 32, 2) := by decide +kernel
theorem dL_law_850 : decode cL_law 850 = .ok (.invokevirtual 95, 3) := by decide +kernel
theorem dL_law_853 : decode cL_law 853 = .ok (.iastore, 1) := by decide +kernel
theorem dL_law_854 : decode cL_law 854 = .ok (.aload 27, 2) := by decide +kernel
theorem dL_law_856 : decode cL_law 856 = .ok (.iload 32, 2) := by decide +kernel
theorem dL_law_858 : decode cL_law 858 = .ok (.aload_n 1, 1) := by decide +kernel
theorem dL_law_859 : decode cL_law 859 = .ok (.iload 32, 2) := by decide +kernel
theorem dL_law_861 : decode cL_law 861 = .ok (.invokevirtual 92, 3) := by decide +kernel
theorem dL_law_864 : decode cL_law 864 = .ok (.iastore, 1) := by decide +kernel
theorem dL_law_865 : decode cL_law 865 = .ok (.aload 28, 2) := by decide +kernel
theorem dL_law_867 : decode cL_law 867 = .ok (.iload 32, 2) := by decide +kernel
theorem dL_law_869 : decode cL_law 869 = .ok (.aload_n 1, 1) := by decide +kernel
theorem dL_law_870 : decode cL_law 870 = .ok (.iload 32, 2) := by decide +kernel
theorem dL_law_872 : decode cL_law 872 = .ok (.invokevirtual 98, 3) := by decide +kernel
theorem dL_law_875 : decode cL_law 875 = .ok (.iastore, 1) := by decide +kernel
theorem dL_law_876 : decode cL_law 876 = .ok (.aload 29, 2) := by decide +kernel
theorem dL_law_878 : decode cL_law 878 = .ok (.iload 32, 2) := by decide +kernel
theorem dL_law_880 : decode cL_law 880 = .ok (.aload_n 1, 1) := by decide +kernel
theorem dL_law_881 : decode cL_law 881 = .ok (.iload 32, 2) := by decide +kernel
theorem dL_law_883 : decode cL_law 883 = .ok (.invokevirtual 101, 3) := by decide +kernel
theorem dL_law_886 : decode cL_law 886 = .ok (.bastore, 1) := by decide +kernel
theorem dL_law_887 : decode cL_law 887 = .ok (.iinc 32 1, 3) := by decide +kernel
theorem dL_law_890 : decode cL_law 890 = .ok (.goto (-54), 3) := by decide +kernel
theorem dL_law_893 : decode cL_law 893 = .ok (.iconst 0, 1) := by decide +kernel
theorem dL_law_894 : decode cL_law 894 = .ok (.istore 32, 2) := by decide +kernel
theorem dL_law_896 : decode cL_law 896 = .ok (.iload 32, 2) := by decide +kernel
theorem dL_law_898 : decode cL_law 898 = .ok (.iload 8, 2) := by decide +kernel
theorem dL_law_900 : decode cL_law 900 = .ok (.if_icmp .ge 20, 3) := by decide +kernel
theorem dL_law_903 : decode cL_law 903 = .ok (.aload 30, 2) := by decide +kernel
theorem dL_law_905 : decode cL_law 905 = .ok (.iload 32, 2) := by decide +kernel
theorem dL_law_907 : decode cL_law 907 = .ok (.aload_n 1, 1) := by decide +kernel
theorem dL_law_908 : decode cL_law 908 = .ok (.iload 32, 2) := by decide +kernel
theorem dL_law_910 : decode cL_law 910 = .ok (.invokevirtual 149, 3) := by decide +kernel
theorem dL_law_913 : decode cL_law 913 = .ok (.iastore, 1) := by decide +kernel
theorem dL_law_914 : decode cL_law 914 = .ok (.iinc 32 1, 3) := by decide +kernel
theorem dL_law_917 : decode cL_law 917 = .ok (.goto (-21), 3) := by decide +kernel
theorem dL_law_920 : decode cL_law 920 = .ok (.aload_n 1, 1) := by decide +kernel
theorem dL_law_921 : decode cL_law 921 = .ok (.invokevirtual 152, 3) := by decide +kernel
theorem dL_law_924 : decode cL_law 924 = .ok (.istore 32, 2) := by decide +kernel
theorem dL_law_926 : decode cL_law 926 = .ok (.aload_n 1, 1) := by decide +kernel
theorem dL_law_927 : decode cL_law 927 = .ok (.invokevirtual 155, 3) := by decide +kernel
theorem dL_law_930 : decode cL_law 930 = .ok (.istore 33, 2) := by decide +kernel
theorem dL_law_932 : decode cL_law 932 = .ok (.iconst 2, 1) := by decide +kernel
theorem dL_law_933 : decode cL_law 933 = .ok (.newarray .int, 2) := by decide +kernel
theorem dL_law_935 : decode cL_law 935 = .ok (.dup, 1) := by decide +kernel
theorem dL_law_936 : decode cL_law 936 = .ok (.iconst 0, 1) := by decide +kernel
theorem dL_law_937 : decode cL_law 937 = .ok (.aload_n 1, 1) := by decide +kernel
theorem dL_law_938 : decode cL_law 938 = .ok (.iconst 0, 1) := by decide +kernel
theorem dL_law_939 : decode cL_law 939 = .ok (.invokevirtual 122, 3) := by decide +kernel
theorem dL_law_942 : decode cL_law 942 = .ok (.iastore, 1) := by decide +kernel
theorem dL_law_943 : decode cL_law 943 = .ok (.dup, 1) := by decide +kernel
theorem dL_law_944 : decode cL_law 944 = .ok (.iconst 1, 1) := by decide +kernel
theorem dL_law_945 : decode cL_law 945 = .ok (.aload_n 1, 1) := by decide +kernel
theorem dL_law_946 : decode cL_law 946 = .ok (.iconst 1, 1) := by decide +kernel
theorem dL_law_947 : decode cL_law 947 = .ok (.invokevirtual 122, 3) := by decide +kernel
theorem dL_law_950 : decode cL_law 950 = .ok (.iastore, 1) := by decide +kernel
theorem dL_law_951 : decode cL_law 951 = .ok (.astore 34, 2) := by decide +kernel
theorem dL_law_953 : decode cL_law 953 = .ok (.aload_n 1, 1) := by decide +kernel
theorem dL_law_954 : decode cL_law 954 = .ok (.iconst 1, 1) := by decide +kernel
theorem dL_law_955 : decode cL_law 955 = .ok (.invokevirtual 64, 3) := by decide +kernel
theorem dL_law_958 : decode cL_law 958 = .ok (.aload_n 2, 1) := by decide +kernel
theorem dL_law_959 : decode cL_law 959 = .ok (.invokevirtual 158, 3) := by decide +kernel
theorem dL_law_962 : decode cL_law 962 = .ok (.if_icmp .eq 5, 3) := by decide +kernel
theorem dL_law_965 : decode cL_law 965 = .ok (.iconst 0, 1) := by decide +kernel
theorem dL_law_966 : decode cL_law 966 = .ok (.ireturn, 1) := by decide +kernel
theorem dL_law_967 : decode cL_law 967 = .ok (.iconst 0, 1) := by decide +kernel
theorem dL_law_968 : decode cL_law 968 = .ok (.istore 35, 2) := by decide +kernel
theorem dL_law_970 : decode cL_law 970 = .ok (.iconst 0, 1) := by decide +kernel
theorem dL_law_971 : decode cL_law 971 = .ok (.istore 36, 2) := by decide +kernel
theorem dL_law_973 : decode cL_law 973 = .ok (.iload 36, 2) := by decide +kernel
theorem dL_law_975 : decode cL_law 975 = .ok (.iload 7, 2) := by decide +kernel
theorem dL_law_977 : decode cL_law 977 = .ok (.if_icmp .ge 199, 3) := by decide +kernel
theorem dL_law_980 : decode cL_law 980 = .ok (.aload_n 1, 1) := by decide +kernel
theorem dL_law_981 : decode cL_law 981 = .ok (.iload 36, 2) := by decide +kernel
theorem dL_law_983 : decode cL_law 983 = .ok (.invokevirtual 95, 3) := by decide +kernel
theorem dL_law_986 : decode cL_law 986 = .ok (.istore 37, 2) := by decide +kernel
theorem dL_law_988 : decode cL_law 988 = .ok (.aload_n 1, 1) := by decide +kernel
theorem dL_law_989 : decode cL_law 989 = .ok (.iload 36, 2) := by decide +kernel
theorem dL_law_991 : decode cL_law 991 = .ok (.invokevirtual 98, 3) := by decide +kernel
theorem dL_law_994 : decode cL_law 994 = .ok (.aload 28, 2) := by decide +kernel
theorem dL_law_996 : decode cL_law 996 = .ok (.iload 36, 2) := by decide +kernel
theorem dL_law_998 : decode cL_law 998 = .ok (.iaload, 1) := by decide +kernel
theorem dL_law_999 : decode cL_law 999 = .ok (.isub, 1) := by decide +kernel
theorem dL_law_1000 : decode cL_law 1000 = .ok (.istore 38, 2) := by decide +kernel
theorem dL_law_1002 : decode cL_law 1002 = .ok (.aload 27, 2) := by decide +kernel
theorem dL_law_1004 : decode cL_law 1004 = .ok (.iload 36, 2) := by decide +kernel
theorem dL_law_1006 : decode cL_law 1006 = .ok (.iaload, 1) := by decide +kernel
theorem dL_law_1007 : decode cL_law 1007 = .ok (.ifCond .ne 17, 3) := by decide +kernel
theorem dL_law_1010 : decode cL_law 1010 = .ok (.aload_n 1, 1) := by decide +kernel
theorem dL_law_1011 : decode cL_law 1011 = .ok (.iload 36, 2) := by decide +kernel
theorem dL_law_1013 : decode cL_law 1013 = .ok (.invokevirtual 92, 3) := by decide +kernel
theorem dL_law_1016 : decode cL_law 1016 = .ok (.ifCond .ne 43, 3) := by decide +kernel
theorem dL_law_1019 : decode cL_law 1019 = .ok (.iload 38, 2) := by decide +kernel
theorem dL_law_1021 : decode cL_law 1021 = .ok (.ifCond .ne 38, 3) := by decide +kernel
theorem dL_law_1024 : decode cL_law 1024 = .ok (.aload 27, 2) := by decide +kernel
theorem dL_law_1026 : decode cL_law 1026 = .ok (.iload 36, 2) := by decide +kernel
theorem dL_law_1028 : decode cL_law 1028 = .ok (.iaload, 1) := by decide +kernel
theorem dL_law_1029 : decode cL_law 1029 = .ok (.ifCond .le 19, 3) := by decide +kernel
theorem dL_law_1032 : decode cL_law 1032 = .ok (.aload_n 1, 1) := by decide +kernel
theorem dL_law_1033 : decode cL_law 1033 = .ok (.iload 36, 2) := by decide +kernel
theorem dL_law_1035 : decode cL_law 1035 = .ok (.invokevirtual 92, 3) := by decide +kernel
theorem dL_law_1038 : decode cL_law 1038 = .ok (.aload 27, 2) := by decide +kernel
theorem dL_law_1040 : decode cL_law 1040 = .ok (.iload 36, 2) := by decide +kernel
theorem dL_law_1042 : decode cL_law 1042 = .ok (.iaload, 1) := by decide +kernel
theorem dL_law_1043 : decode cL_law 1043 = .ok (.iconst 1, 1) := by decide +kernel
theorem dL_law_1044 : decode cL_law 1044 = .ok (.isub, 1) := by decide +kernel
theorem dL_law_1045 : decode cL_law 1045 = .ok (.if_icmp .gt 14, 3) := by decide +kernel
theorem dL_law_1048 : decode cL_law 1048 = .ok (.iload 38, 2) := by decide +kernel
theorem dL_law_1050 : decode cL_law 1050 = .ok (.ifCond .lt 9, 3) := by decide +kernel
theorem dL_law_1053 : decode cL_law 1053 = .ok (.iload 38, 2) := by decide +kernel
theorem dL_law_1055 : decode cL_law 1055 = .ok (.iconst 1, 1) := by decide +kernel
theorem dL_law_1056 : decode cL_law 1056 = .ok (.if_icmp .le 5, 3) := by decide +kernel
theorem dL_law_1059 : decode cL_law 1059 = .ok (.iconst 0, 1) := by decide +kernel
theorem dL_law_1060 : decode cL_law 1060 = .ok (.ireturn, 1) := by decide +kernel
theorem dL_law_1061 : decode cL_law 1061 = .ok (.iload 35, 2) := by decide +kernel
theorem dL_law_1063 : decode cL_law 1063 = .ok (.aload 27, 2) := by decide +kernel
theorem dL_law_1065 : decode cL_law 1065 = .ok (.iload 36, 2) := by decide +kernel
theorem dL_law_1067 : decode cL_law 1067 = .ok (.iaload, 1) := by decide +kernel
theorem dL_law_1068 : decode cL_law 1068 = .ok (.ifCond .le 12, 3) := by decide +kernel
theorem dL_law_1071 : decode cL_law 1071 = .ok (.iload 37, 2) := by decide +kernel
theorem dL_law_1073 : decode cL_law 1073 = .ok (.ifCond .ge 7, 3) := by decide +kernel
theorem dL_law_1076 : decode cL_law 1076 = .ok (.iconst 1, 1) := by decide +kernel
theorem dL_law_1077 : decode cL_law 1077 = .ok (.goto 4, 3) := by decide +kernel
theorem dL_law_1080 : decode cL_law 1080 = .ok (.iconst 0, 1) := by decide +kernel
theorem dL_law_1081 : decode cL_law 1081 = .ok (.iadd, 1) := by decide +kernel
theorem dL_law_1082 : decode cL_law 1082 = .ok (.istore 35, 2) := by decide +kernel
theorem dL_law_1084 : decode cL_law 1084 = .ok (.iload 37, 2) := by decide +kernel
theorem dL_law_1086 : decode cL_law 1086 = .ok (.ifCond .lt 84, 3) := by decide +kernel
theorem dL_law_1089 : decode cL_law 1089 = .ok (.iload 37, 2) := by decide +kernel
theorem dL_law_1091 : decode cL_law 1091 = .ok (.aload 26, 2) := by decide +kernel
theorem dL_law_1093 : decode cL_law 1093 = .ok (.iload 36, 2) := by decide +kernel
theorem dL_law_1095 : decode cL_law 1095 = .ok (.iaload, 1) := by decide +kernel
theorem dL_law_1096 : decode cL_law 1096 = .ok (.aload 29, 2) := by decide +kernel
theorem dL_law_1098 : decode cL_law 1098 = .ok (.iload 36, 2) := by decide +kernel
theorem dL_law_1100 : decode cL_law 1100 = .ok (.baload, 1) := by decide +kernel
theorem dL_law_1101 : decode cL_law 1101 = .ok (.ifCond .eq 7, 3) := by decide +kernel
theorem dL_law_1104 : decode cL_law 1104 = .ok (.iconst 1, 1) := by decide +kernel
theorem dL_law_1105 : decode cL_law 1105 = .ok (.goto 4, 3) := by decide +kernel
theorem dL_law_1108 : decode cL_law 1108 = .ok (.iconst (-1), 1) := by decide +kernel
theorem dL_law_1109 : decode cL_law 1109 = .ok (.iadd, 1) := by decide +kernel
theorem dL_law_1110 : decode cL_law 1110 = .ok (.if_icmp .ne 58, 3) := by decide +kernel
theorem dL_law_1113 : decode cL_law 1113 = .ok (.aload_n 1, 1) := by decide +kernel
theorem dL_law_1114 : decode cL_law 1114 = .ok (.iload 36, 2) := by decide +kernel
theorem dL_law_1116 : decode cL_law 1116 = .ok (.invokevirtual 101, 3) := by decide +kernel
theorem dL_law_1119 : decode cL_law 1119 = .ok (.aload 29, 2) := by decide +kernel
theorem dL_law_1121 : decode cL_law 1121 = .ok (.iload 36, 2) := by decide +kernel
theorem dL_law_1123 : decode cL_law 1123 = .ok (.baload, 1) := by decide +kernel
theorem dL_law_1124 : decode cL_law 1124 = .ok (.if_icmp .eq 7, 3) := by decide +kernel
theorem dL_law_1127 : decode cL_law 1127 = .ok (.iconst 1, 1) := by decide +kernel
theorem dL_law_1128 : decode cL_law 1128 = .ok (.goto 4, 3) := by decide +kernel
theorem dL_law_1131 : decode cL_law 1131 = .ok (.iconst 0, 1) := by decide +kernel
theorem dL_law_1132 : decode cL_law 1132 = .ok (.aload_n 1, 1) := by decide +kernel
theorem dL_law_1133 : decode cL_law 1133 = .ok (.iload 37, 2) := by decide +kernel
theorem dL_law_1135 : decode cL_law 1135 = .ok (.invokevirtual 120, 3) := by decide +kernel
theorem dL_law_1138 : decode cL_law 1138 = .ok (.ifCond .lt 7, 3) := by decide +kernel
theorem dL_law_1141 : decode cL_law 1141 = .ok (.iconst 1, 1) := by decide +kernel
theorem dL_law_1142 : decode cL_law 1142 = .ok (.goto 4, 3) := by decide +kernel
theorem dL_law_1145 : decode cL_law 1145 = .ok (.iconst 0, 1) := by decide +kernel
theorem dL_law_1146 : decode cL_law 1146 = .ok (.if_icmp .ne 22, 3) := by decide +kernel
theorem dL_law_1149 : decode cL_law 1149 = .ok (.iload 38, 2) := by decide +kernel
theorem dL_law_1151 : decode cL_law 1151 = .ok (.aload_n 1, 1) := by decide +kernel
theorem dL_law_1152 : decode cL_law 1152 = .ok (.iload 37, 2) := by decide +kernel
theorem dL_law_1154 : decode cL_law 1154 = .ok (.invokevirtual 120, 3) := by decide +kernel
theorem dL_law_1157 : decode cL_law 1157 = .ok (.ifCond .lt 7, 3) := by decide +kernel
theorem dL_law_1160 : decode cL_law 1160 = .ok (.iconst 1, 1) := by decide +kernel
theorem dL_law_1161 : decode cL_law 1161 = .ok (.goto 4, 3) := by decide +kernel
theorem dL_law_1164 : decode cL_law 1164 = .ok (.iconst 0, 1) := by decide +kernel
theorem dL_law_1165 : decode cL_law 1165 = .ok (.if_icmp .eq 5, 3) := by decide +kernel
theorem dL_law_1168 : decode cL_law 1168 = .ok (.iconst 0, 1) := by decide +kernel
theorem dL_law_1169 : decode cL_law 1169 = .ok (.ireturn, 1) := by decide +kernel
theorem dL_law_1170 : decode cL_law 1170 = .ok (.iinc 36 1, 3) := by decide +kernel
theorem dL_law_1173 : decode cL_law 1173 = .ok (.goto (-200), 3) := by decide +kernel
theorem dL_law_1176 : decode cL_law 1176 = .ok (.aload_n 1, 1) := by decide +kernel
theorem dL_law_1177 : decode cL_law 1177 = .ok (.invokevirtual 152, 3) := by decide +kernel
theorem dL_law_1180 : decode cL_law 1180 = .ok (.iload 32, 2) := by decide +kernel
theorem dL_law_1182 : decode cL_law 1182 = .ok (.isub, 1) := by decide +kernel
theorem dL_law_1183 : decode cL_law 1183 = .ok (.iload 35, 2) := by decide +kernel
theorem dL_law_1185 : decode cL_law 1185 = .ok (.if_icmp .le 5, 3) := by decide +kernel
theorem dL_law_1188 : decode cL_law 1188 = .ok (.iconst 0, 1) := by decide +kernel
theorem dL_law_1189 : decode cL_law 1189 = .ok (.ireturn, 1) := by decide +kernel
theorem dL_law_1190 : decode cL_law 1190 = .ok (.iconst 0, 1) := by decide +kernel
theorem dL_law_1191 : decode cL_law 1191 = .ok (.istore 36, 2) := by decide +kernel
theorem dL_law_1193 : decode cL_law 1193 = .ok (.iconst 0, 1) := by decide +kernel
theorem dL_law_1194 : decode cL_law 1194 = .ok (.istore 37, 2) := by decide +kernel
theorem dL_law_1196 : decode cL_law 1196 = .ok (.iload 37, 2) := by decide +kernel
theorem dL_law_1198 : decode cL_law 1198 = .ok (.iload 8, 2) := by decide +kernel
theorem dL_law_1200 : decode cL_law 1200 = .ok (.if_icmp .ge 33, 3) := by decide +kernel
theorem dL_law_1203 : decode cL_law 1203 = .ok (.iload 36, 2) := by decide +kernel
theorem dL_law_1205 : decode cL_law 1205 = .ok (.aload_n 1, 1) := by decide +kernel
theorem dL_law_1206 : decode cL_law 1206 = .ok (.iload 37, 2) := by decide +kernel
theorem dL_law_1208 : decode cL_law 1208 = .ok (.invokevirtual 149, 3) := by decide +kernel
theorem dL_law_1211 : decode cL_law 1211 = .ok (.aload 30, 2) := by decide +kernel
theorem dL_law_1213 : decode cL_law 1213 = .ok (.iload 37, 2) := by decide +kernel
theorem dL_law_1215 : decode cL_law 1215 = .ok (.iaload, 1) := by decide +kernel
theorem dL_law_1216 : decode cL_law 1216 = .ok (.if_icmp .eq 7, 3) := by decide +kernel
theorem dL_law_1219 : decode cL_law 1219 = .ok (.iconst 1, 1) := by decide +kernel
theorem dL_law_1220 : decode cL_law 1220 = .ok (.goto 4, 3) := by decide +kernel
theorem dL_law_1223 : decode cL_law 1223 = .ok (.iconst 0, 1) := by decide +kernel
theorem dL_law_1224 : decode cL_law 1224 = .ok (.iadd, 1) := by decide +kernel
theorem dL_law_1225 : decode cL_law 1225 = .ok (.istore 36, 2) := by decide +kernel
theorem dL_law_1227 : decode cL_law 1227 = .ok (.iinc 37 1, 3) := by decide +kernel
theorem dL_law_1230 : decode cL_law 1230 = .ok (.goto (-34), 3) := by decide +kernel
theorem dL_law_1233 : decode cL_law 1233 = .ok (.iconst 0, 1) := by decide +kernel
theorem dL_law_1234 : decode cL_law 1234 = .ok (.istore 37, 2) := by decide +kernel
theorem dL_law_1236 : decode cL_law 1236 = .ok (.iload 37, 2) := by decide +kernel
theorem dL_law_1238 : decode cL_law 1238 = .ok (.iconst 2, 1) := by decide +kernel
theorem dL_law_1239 : decode cL_law 1239 = .ok (.if_icmp .ge 67, 3) := by decide +kernel
theorem dL_law_1242 : decode cL_law 1242 = .ok (.aload_n 1, 1) := by decide +kernel
theorem dL_law_1243 : decode cL_law 1243 = .ok (.iload 37, 2) := by decide +kernel
theorem dL_law_1245 : decode cL_law 1245 = .ok (.invokevirtual 122, 3) := by decide +kernel
theorem dL_law_1248 : decode cL_law 1248 = .ok (.aload 34, 2) := by decide +kernel
theorem dL_law_1250 : decode cL_law 1250 = .ok (.iload 37, 2) := by decide +kernel
theorem dL_law_1252 : decode cL_law 1252 = .ok (.iaload, 1) := by decide +kernel
theorem dL_law_1253 : decode cL_law 1253 = .ok (.if_icmp .le 7, 3) := by decide +kernel
theorem dL_law_1256 : decode cL_law 1256 = .ok (.iconst 1, 1) := by decide +kernel
theorem dL_law_1257 : decode cL_law 1257 = .ok (.goto 4, 3) := by decide +kernel
theorem dL_law_1260 : decode cL_law 1260 = .ok (.iconst 0, 1) := by decide +kernel
theorem dL_law_1261 : decode cL_law 1261 = .ok (.istore 38, 2) := by decide +kernel
theorem dL_law_1263 : decode cL_law 1263 = .ok (.aload_n 1, 1) := by decide +kernel
theorem dL_law_1264 : decode cL_law 1264 = .ok (.iload 37, 2) := by decide +kernel
theorem dL_law_1266 : decode cL_law 1266 = .ok (.invokevirtual 128, 3) := by decide +kernel
theorem dL_law_1269 : decode cL_law 1269 = .ok (.iload 38, 2) := by decide +kernel
theorem dL_law_1271 : decode cL_law 1271 = .ok (.ifCond .ne 13, 3) := by decide +kernel
theorem dL_law_1274 : decode cL_law 1274 = .ok (.aload 31, 2) := by decide +kernel
theorem dL_law_1276 : decode cL_law 1276 = .ok (.iload 37, 2) := by decide +kernel
theorem dL_law_1278 : decode cL_law 1278 = .ok (.iaload, 1) := by decide +kernel
theorem dL_law_1279 : decode cL_law 1279 = .ok (.bipush 11, 2) := by decide +kernel
theorem dL_law_1281 : decode cL_law 1281 = .ok (.if_icmp .ne 7, 3) := by decide +kernel
theorem dL_law_1284 : decode cL_law 1284 = .ok (.iconst 0, 1) := by decide +kernel
theorem dL_law_1285 : decode cL_law 1285 = .ok (.goto 10, 3) := by decide +kernel
theorem dL_law_1288 : decode cL_law 1288 = .ok (.aload 31, 2) := by decide +kernel
theorem dL_law_1290 : decode cL_law 1290 = .ok (.iload 37, 2) := by decide +kernel
theorem dL_law_1292 : decode cL_law 1292 = .ok (.iaload, 1) := by decide +kernel
theorem dL_law_1293 : decode cL_law 1293 = .ok (.iconst 1, 1) := by decide +kernel
theorem dL_law_1294 : decode cL_law 1294 = .ok (.iadd, 1) := by decide +kernel
theorem dL_law_1295 : decode cL_law 1295 = .ok (.if_icmp .eq 5, 3) := by decide +kernel
theorem dL_law_1298 : decode cL_law 1298 = .ok (.iconst 0, 1) := by decide +kernel
theorem dL_law_1299 : decode cL_law 1299 = .ok (.ireturn, 1) := by decide +kernel
theorem dL_law_1300 : decode cL_law 1300 = .ok (.iinc 37 1, 3) := by decide +kernel
theorem dL_law_1303 : decode cL_law 1303 = .ok (.goto (-67), 3) := by decide +kernel
theorem dL_law_1306 : decode cL_law 1306 = .ok (.aload 31, 2) := by decide +kernel
theorem dL_law_1308 : decode cL_law 1308 = .ok (.iconst 0, 1) := by decide +kernel
theorem dL_law_1309 : decode cL_law 1309 = .ok (.iaload, 1) := by decide +kernel
theorem dL_law_1310 : decode cL_law 1310 = .ok (.bipush 11, 2) := by decide +kernel
theorem dL_law_1312 : decode cL_law 1312 = .ok (.if_icmp .ne 15, 3) := by decide +kernel
theorem dL_law_1315 : decode cL_law 1315 = .ok (.aload_n 1, 1) := by decide +kernel
theorem dL_law_1316 : decode cL_law 1316 = .ok (.iconst 0, 1) := by decide +kernel
theorem dL_law_1317 : decode cL_law 1317 = .ok (.invokevirtual 122, 3) := by decide +kernel
theorem dL_law_1320 : decode cL_law 1320 = .ok (.aload 34, 2) := by decide +kernel
theorem dL_law_1322 : decode cL_law 1322 = .ok (.iconst 0, 1) := by decide +kernel
theorem dL_law_1323 : decode cL_law 1323 = .ok (.iaload, 1) := by decide +kernel
theorem dL_law_1324 : decode cL_law 1324 = .ok (.if_icmp .eq 24, 3) := by decide +kernel
theorem dL_law_1327 : decode cL_law 1327 = .ok (.aload 31, 2) := by decide +kernel
theorem dL_law_1329 : decode cL_law 1329 = .ok (.iconst 1, 1) := by decide +kernel
theorem dL_law_1330 : decode cL_law 1330 = .ok (.iaload, 1) := by decide +kernel
theorem dL_law_1331 : decode cL_law 1331 = .ok (.bipush 11, 2) := by decide +kernel
theorem dL_law_1333 : decode cL_law 1333 = .ok (.if_icmp .ne 19, 3) := by decide +kernel
theorem dL_law_1336 : decode cL_law 1336 = .ok (.aload_n 1, 1) := by decide +kernel
theorem dL_law_1337 : decode cL_law 1337 = .ok (.iconst 1, 1) := by decide +kernel
theorem dL_law_1338 : decode cL_law 1338 = .ok (.invokevirtual 122, 3) := by decide +kernel
theorem dL_law_1341 : decode cL_law 1341 = .ok (.aload 34, 2) := by decide +kernel
theorem dL_law_1343 : decode cL_law 1343 = .ok (.iconst 1, 1) := by decide +kernel
theorem dL_law_1344 : decode cL_law 1344 = .ok (.iaload, 1) := by decide +kernel
theorem dL_law_1345 : decode cL_law 1345 = .ok (.if_icmp .ne 7, 3) := by decide +kernel
theorem dL_law_1348 : decode cL_law 1348 = .ok (.iconst 1, 1) := by decide +kernel
theorem dL_law_1349 : decode cL_law 1349 = .ok (.goto 4, 3) := by decide +kernel
theorem dL_law_1352 : decode cL_law 1352 = .ok (.iconst 0, 1) := by decide +kernel
theorem dL_law_1353 : decode cL_law 1353 = .ok (.istore 37, 2) := by decide +kernel
theorem dL_law_1355 : decode cL_law 1355 = .ok (.aload_n 1, 1) := by decide +kernel
theorem dL_law_1356 : decode cL_law 1356 = .ok (.invokevirtual 155, 3) := by decide +kernel
theorem dL_law_1359 : decode cL_law 1359 = .ok (.iload 33, 2) := by decide +kernel
theorem dL_law_1361 : decode cL_law 1361 = .ok (.isub, 1) := by decide +kernel
theorem dL_law_1362 : decode cL_law 1362 = .ok (.iconst 2, 1) := by decide +kernel
theorem dL_law_1363 : decode cL_law 1363 = .ok (.if_icmp .gt 56, 3) := by decide +kernel
theorem dL_law_1366 : decode cL_law 1366 = .ok (.iload 36, 2) := by decide +kernel
theorem dL_law_1368 : decode cL_law 1368 = .ok (.aload_n 1, 1) := by decide +kernel
theorem dL_law_1369 : decode cL_law 1369 = .ok (.invokevirtual 155, 3) := by decide +kernel
theorem dL_law_1372 : decode cL_law 1372 = .ok (.iload 33, 2) := by decide +kernel
theorem dL_law_1374 : decode cL_law 1374 = .ok (.isub, 1) := by decide +kernel
theorem dL_law_1375 : decode cL_law 1375 = .ok (.if_icmp .gt 44, 3) := by decide +kernel
theorem dL_law_1378 : decode cL_law 1378 = .ok (.iload 37, 2) := by decide +kernel
theorem dL_law_1380 : decode cL_law 1380 = .ok (.ifCond .ne 12, 3) := by decide +kernel
theorem dL_law_1383 : decode cL_law 1383 = .ok (.aload_n 1, 1) := by decide +kernel
theorem dL_law_1384 : decode cL_law 1384 = .ok (.invokevirtual 155, 3) := by decide +kernel
theorem dL_law_1387 : decode cL_law 1387 = .ok (.iload 33, 2) := by decide +kernel
theorem dL_law_1389 : decode cL_law 1389 = .ok (.if_icmp .gt 30, 3) := by decide +kernel
theorem dL_law_1392 : decode cL_law 1392 = .ok (.aload_n 1, 1) := by decide +kernel
theorem dL_law_1393 : decode cL_law 1393 = .ok (.invokevirtual 121, 3) := by decide +kernel
theorem dL_law_1396 : decode cL_law 1396 = .ok (.ifCond .ne 7, 3) := by decide +kernel
theorem dL_law_1399 : decode cL_law 1399 = .ok (.iconst 1, 1) := by decide +kernel
theorem dL_law_1400 : decode cL_law 1400 = .ok (.goto 4, 3) := by decide +kernel
theorem dL_law_1403 : decode cL_law 1403 = .ok (.iconst 0, 1) := by decide +kernel
theorem dL_law_1404 : decode cL_law 1404 = .ok (.iload 25, 2) := by decide +kernel
theorem dL_law_1406 : decode cL_law 1406 = .ok (.iload 22, 2) := by decide +kernel
theorem dL_law_1408 : decode cL_law 1408 = .ok (.if_icmp .lt 7, 3) := by decide +kernel
theorem dL_law_1411 : decode cL_law 1411 = .ok (.iconst 1, 1) := by decide +kernel
theorem dL_law_1412 : decode cL_law 1412 = .ok (.goto 4, 3) := by decide +kernel
theorem dL_law_1415 : decode cL_law 1415 = .ok (.iconst 0, 1) := by decide +kernel
theorem dL_law_1416 : decode cL_law 1416 = .ok (.if_icmp .eq 5, 3) := by decide +kernel
theorem dL_law_1419 : decode cL_law 1419 = .ok (.iconst 0, 1) := by decide +kernel
theorem dL_law_1420 : decode cL_law 1420 = .ok (.ireturn, 1) := by decide +kernel
theorem dL_law_1421 : decode cL_law 1421 = .ok (.iload 23, 2) := by decide +kernel
theorem dL_law_1423 : decode cL_law 1423 = .ok (.aload_n 1, 1) := by decide +kernel
theorem dL_law_1424 : decode cL_law 1424 = .ok (.iload 14, 2) := by decide +kernel
theorem dL_law_1426 : decode cL_law 1426 = .ok (.invokevirtual 111, 3) := by decide +kernel
theorem dL_law_1429 : decode cL_law 1429 = .ok (.invokestatic 160, 3) := by decide +kernel
theorem dL_law_1432 : decode cL_law 1432 = .ok (.istore 23, 2) := by decide +kernel
theorem dL_law_1434 : decode cL_law 1434 = .ok (.iinc 25 1, 3) := by decide +kernel
theorem dL_law_1437 : decode cL_law 1437 = .ok (.goto (-662), 3) := by decide +kernel
theorem dL_law_1440 : decode cL_law 1440 = .ok (.aload_n 1, 1) := by decide +kernel
theorem dL_law_1441 : decode cL_law 1441 = .ok (.iconst 0, 1) := by decide +kernel
theorem dL_law_1442 : decode cL_law 1442 = .ok (.invokevirtual 122, 3) := by decide +kernel
theorem dL_law_1445 : decode cL_law 1445 = .ok (.aload 24, 2) := by decide +kernel
theorem dL_law_1447 : decode cL_law 1447 = .ok (.iconst 0, 1) := by decide +kernel
theorem dL_law_1448 : decode cL_law 1448 = .ok (.iaload, 1) := by decide +kernel
theorem dL_law_1449 : decode cL_law 1449 = .ok (.aload 20, 2) := by decide +kernel
theorem dL_law_1451 : decode cL_law 1451 = .ok (.iconst 0, 1) := by decide +kernel
theorem dL_law_1452 : decode cL_law 1452 = .ok (.iaload, 1) := by decide +kernel
theorem dL_law_1453 : decode cL_law 1453 = .ok (.iadd, 1) := by decide +kernel
theorem dL_law_1454 : decode cL_law 1454 = .ok (.if_icmp .ne 27, 3) := by decide +kernel
theorem dL_law_1457 : decode cL_law 1457 = .ok (.aload_n 1, 1) := by decide +kernel
theorem dL_law_1458 : decode cL_law 1458 = .ok (.iconst 1, 1) := by decide +kernel
theorem dL_law_1459 : decode cL_law 1459 = .ok (.invokevirtual 122, 3) := by decide +kernel
theorem dL_law_1462 : decode cL_law 1462 = .ok (.aload 24, 2) := by decide +kernel
theorem dL_law_1464 : decode cL_law 1464 = .ok (.iconst 1, 1) := by decide +kernel
theorem dL_law_1465 : decode cL_law 1465 = .ok (.iaload, 1) := by decide +kernel
theorem dL_law_1466 : decode cL_law 1466 = .ok (.aload 20, 2) := by decide +kernel
theorem dL_law_1468 : decode cL_law 1468 = .ok (.iconst 1, 1) := by decide +kernel
theorem dL_law_1469 : decode cL_law 1469 = .ok (.iaload, 1) := by decide +kernel
theorem dL_law_1470 : decode cL_law 1470 = .ok (.iadd, 1) := by decide +kernel
theorem dL_law_1471 : decode cL_law 1471 = .ok (.if_icmp .ne 10, 3) := by decide +kernel
theorem dL_law_1474 : decode cL_law 1474 = .ok (.iload 23, 2) := by decide +kernel
theorem dL_law_1476 : decode cL_law 1476 = .ok (.iload 21, 2) := by decide +kernel
theorem dL_law_1478 : decode cL_law 1478 = .ok (.if_icmp .eq 5, 3) := by decide +kernel
theorem dL_law_1481 : decode cL_law 1481 = .ok (.iconst 0, 1) := by decide +kernel
theorem dL_law_1482 : decode cL_law 1482 = .ok (.ireturn, 1) := by decide +kernel
theorem dL_law_1483 : decode cL_law 1483 = .ok (.iinc 3 1, 3) := by decide +kernel
theorem dL_law_1486 : decode cL_law 1486 = .ok (.goto (-1464), 3) := by decide +kernel
theorem dL_law_1489 : decode cL_law 1489 = .ok (.aload_n 2, 1) := by decide +kernel
theorem dL_law_1490 : decode cL_law 1490 = .ok (.aload_n 1, 1) := by decide +kernel
theorem dL_law_1491 : decode cL_law 1491 = .ok (.invokevirtual 165, 3) := by decide +kernel
theorem dL_law_1494 : decode cL_law 1494 = .ok (.ireturn, 1) := by decide +kernel
theorem dL_comes_0 : decode cL_comes 0 = .ok (.aload_n 0, 1) := by decide +kernel
theorem dL_comes_1 : decode cL_comes 1 = .ok (.iload_n 1, 1) := by decide +kernel
theorem dL_comes_2 : decode cL_comes 2 = .ok (.iload_n 2, 1) := by decide +kernel
theorem dL_comes_3 : decode cL_comes 3 = .ok (.ifCond .eq 7, 3) := by decide +kernel
theorem dL_comes_6 : decode cL_comes 6 = .ok (.iconst 1, 1) := by decide +kernel
theorem dL_comes_7 : decode cL_comes 7 = .ok (.goto 4, 3) := by decide +kernel
theorem dL_comes_10 : decode cL_comes 10 = .ok (.iconst (-1), 1) := by decide +kernel
theorem dL_comes_11 : decode cL_comes 11 = .ok (.iload 4, 2) := by decide +kernel
theorem dL_comes_13 : decode cL_comes 13 = .ok (.invokevirtual 169, 3) := by decide +kernel
theorem dL_comes_16 : decode cL_comes 16 = .ok (.astore 5, 2) := by decide +kernel
theorem dL_comes_18 : decode cL_comes 18 = .ok (.aload 5, 2) := by decide +kernel
theorem dL_comes_20 : decode cL_comes 20 = .ok (.getfield 50, 3) := by decide +kernel
theorem dL_comes_23 : decode cL_comes 23 = .ok (.iconst 0, 1) := by decide +kernel
theorem dL_comes_24 : decode cL_comes 24 = .ok (.aaload, 1) := by decide +kernel
theorem dL_comes_25 : decode cL_comes 25 = .ok (.iconst 0, 1) := by decide +kernel
theorem dL_comes_26 : decode cL_comes 26 = .ok (.iaload, 1) := by decide +kernel
theorem dL_comes_27 : decode cL_comes 27 = .ok (.ifCond .le 36, 3) := by decide +kernel
theorem dL_comes_30 : decode cL_comes 30 = .ok (.aload 5, 2) := by decide +kernel
theorem dL_comes_32 : decode cL_comes 32 = .ok (.invokevirtual 158, 3) := by decide +kernel
theorem dL_comes_35 : decode cL_comes 35 = .ok (.pop, 1) := by decide +kernel
theorem dL_comes_36 : decode cL_comes 36 = .ok (.aload 5, 2) := by decide +kernel
theorem dL_comes_38 : decode cL_comes 38 = .ok (.getfield 50, 3) := by decide +kernel
theorem dL_comes_41 : decode cL_comes 41 = .ok (.iconst 0, 1) := by decide +kernel
theorem dL_comes_42 : decode cL_comes 42 = .ok (.aaload, 1) := by decide +kernel
theorem dL_comes_43 : decode cL_comes 43 = .ok (.iconst 0, 1) := by decide +kernel
theorem dL_comes_44 : decode cL_comes 44 = .ok (.iaload, 1) := by decide +kernel
theorem dL_comes_45 : decode cL_comes 45 = .ok (.ifCond .le (-27), 3) := by decide +kernel
theorem dL_comes_48 : decode cL_comes 48 = .ok (.aload 5, 2) := by decide +kernel
theorem dL_comes_50 : decode cL_comes 50 = .ok (.getfield 50, 3) := by decide +kernel
theorem dL_comes_53 : decode cL_comes 53 = .ok (.iconst 0, 1) := by decide +kernel
theorem dL_comes_54 : decode cL_comes 54 = .ok (.aaload, 1) := by decide +kernel
theorem dL_comes_55 : decode cL_comes 55 = .ok (.iconst 1, 1) := by decide +kernel
theorem dL_comes_56 : decode cL_comes 56 = .ok (.iaload, 1) := by decide +kernel
theorem dL_comes_57 : decode cL_comes 57 = .ok (.iload_n 3, 1) := by decide +kernel
theorem dL_comes_58 : decode cL_comes 58 = .ok (.if_icmp .ne (-40), 3) := by decide +kernel
theorem dL_comes_61 : decode cL_comes 61 = .ok (.iconst 1, 1) := by decide +kernel
theorem dL_comes_62 : decode cL_comes 62 = .ok (.ireturn, 1) := by decide +kernel
theorem dL_comes_63 : decode cL_comes 63 = .ok (.iconst 0, 1) := by decide +kernel
theorem dL_comes_64 : decode cL_comes 64 = .ok (.ireturn, 1) := by decide +kernel
end
section
/-! The walk's own layer: memory as numbers (cell, slot), one predicate for all that stays, contracts with an answer and a new memory. -/
abbrev Mem : Type := Nat → Nat → Int32
abbrev GT : Type := (Nat → Prop) × va_G × (ClassId × ClassId × ClassId) × (Nat → Nat) × Nat
def gD (g : GT) : va_G := g.2.1
def gI (g : GT) : ClassId := g.2.2.1.1
def gZ (g : GT) : ClassId := g.2.2.1.2.1
def gJ (g : GT) : ClassId := g.2.2.1.2.2
def ga (g : GT) : Nat → Nat := g.2.2.2.1
def gn (g : GT) : Nat := g.2.2.2.2
def gA (g : GT) : Nat → Prop := g.1
def gty (g : GT) : List (ClassId × FieldType) := [(gI g, .int), (gZ g, .boolean), (gJ g, .array .int)]
/-- one slot of one cell anew -/
def wr (M : Mem) (k j : Nat) (v : Int32) : Mem := fun k' => if k' = k then upd (M k) j v else M k'
def wrc (M : Mem) (k : Nat) (c : Nat → Int32) : Mem := fun k' => if k' = k then c else M k'
/-- the cells' lengths; their kinds: 0 Canyon, 1 CanyonEchoes, 3 int[] -/
def xlen (k : Nat) : Nat := [0, 0, 32, 32, 32, 10, 10, 10, 10, 2, 2, 40, 40, 40, 40, 0, 32, 32, 32, 10, 10, 10, 10, 2, 2, 40, 40, 40, 40].getD k 0
def xk (k : Nat) : Nat := [1, 0, 3, 3, 3, 3, 3, 3, 3, 3, 3, 3, 3, 3, 3, 0, 3, 3, 3, 3, 3, 3, 3, 3, 3, 3, 3, 3, 3].getD k 9
def xrow (k : Nat) : List (Option Nat) := match k with
  | 0 => [some 1, some 15]
  | 1 => [none, none, none, none, none, none, some 2, some 3, some 4, some 5, some 6, some 7, some 8, some 9, some 10, some 11, some 12, some 13, some 14]
  | 15 => [none, none, none, none, none, none, some 16, some 17, some 18, some 19, some 20, some 21, some 22, some 23, some 24, some 25, some 26, some 27, some 28]
  | _ => []
def xfl (a : Nat → Nat) (c : Nat → Int32) : List (Option Nat) → Nat → List Value
  | [], _ => []
  | some t :: r, j => .ref (a t) :: xfl a c r (j + 1)
  | none :: r, j => .int (c j) :: xfl a c r (j + 1)
theorem xfl_len (a : Nat → Nat) (c : Nat → Int32) : ∀ (r : List (Option Nat)) (j : Nat), (xfl a c r j).length = r.length
  | [], _ => rfl
  | some _ :: r, j => congrArg (· + 1) (xfl_len a c r (j + 1))
  | none :: r, j => congrArg (· + 1) (xfl_len a c r (j + 1))
theorem xfl_ref (a : Nat → Nat) (c : Nat → Int32) : ∀ (r : List (Option Nat)) (j0 j t : Nat), r[j]? = some (some t) → (xfl a c r j0)[j]? = some (.ref (a t))
  | [], _, _, _, h => by simp at h
  | some t :: r, j0, 0, t', h => by simp at h; subst h; rfl
  | none :: r, j0, 0, t', h => by simp at h
  | some t :: r, j0, j + 1, t', h => by
    rw [List.getElem?_cons_succ] at h
    exact xfl_ref a c r (j0 + 1) j t' h
  | none :: r, j0, j + 1, t', h => by
    rw [List.getElem?_cons_succ] at h
    exact xfl_ref a c r (j0 + 1) j t' h
theorem xfl_int (a : Nat → Nat) (c : Nat → Int32) : ∀ (r : List (Option Nat)) (j0 j : Nat), r[j]? = some none → (xfl a c r j0)[j]? = some (.int (c (j0 + j)))
  | [], _, _, h => by simp at h
  | some t :: r, j0, 0, h => by simp at h
  | none :: r, j0, 0, h => rfl
  | some t :: r, j0, j + 1, h => by
    rw [List.getElem?_cons_succ] at h
    have := xfl_int a c r (j0 + 1) j h
    rw [show j0 + (j + 1) = j0 + 1 + j by omega]
    exact this
  | none :: r, j0, j + 1, h => by
    rw [List.getElem?_cons_succ] at h
    have := xfl_int a c r (j0 + 1) j h
    rw [show j0 + (j + 1) = j0 + 1 + j by omega]
    exact this
theorem xfl_new (a : Nat → Nat) (c c' : Nat → Int32) : ∀ (r : List (Option Nat)) (j0 : Nat), (∀ j, j0 ≤ j → c j = c' j) → xfl a c r j0 = xfl a c' r j0
  | [], _, _ => rfl
  | some t :: r, j0, h => congrArg (Value.ref (a t) :: ·) (xfl_new a c c' r (j0 + 1) (fun j hj => h j (by omega)))
  | none :: r, j0, h => by
    show Value.int (c j0) :: _ = Value.int (c' j0) :: _
    rw [h j0 (Nat.le_refl _), xfl_new a c c' r (j0 + 1) (fun j hj => h j (by omega))]
theorem xfl_set (a : Nat → Nat) (c : Nat → Int32) (v : Int32) : ∀ (r : List (Option Nat)) (j0 j : Nat), r[j]? = some none → (xfl a c r j0).set j (.int v) = xfl a (upd c (j0 + j) v) r j0
  | [], _, _, h => by simp at h
  | some t :: r, j0, 0, h => by simp at h
  | none :: r, j0, 0, h => by
    show Value.int v :: xfl a c r (j0 + 1) = Value.int (upd c (j0 + 0) v j0) :: xfl a (upd c (j0 + 0) v) r (j0 + 1)
    rw [xfl_new a c (upd c (j0 + 0) v) r (j0 + 1) (fun j hj => by rw [Nat.add_zero]; exact (by unfold upd; rw [if_neg (by omega)]))]
    simp [upd]
  | some t :: r, j0, j + 1, h => by
    rw [List.getElem?_cons_succ] at h
    have := xfl_set a c v r (j0 + 1) j h
    rw [show j0 + (j + 1) = j0 + 1 + j by omega]
    show Value.ref (a t) :: (xfl a c r (j0 + 1)).set j (.int v) = _
    rw [this]
    rfl
  | none :: r, j0, j + 1, h => by
    rw [List.getElem?_cons_succ] at h
    have := xfl_set a c v r (j0 + 1) j h
    rw [show j0 + (j + 1) = j0 + 1 + j by omega]
    show Value.int (c j0) :: (xfl a c r (j0 + 1)).set j (.int v) = Value.int (upd c (j0 + 1 + j) v j0) :: xfl a (upd c (j0 + 1 + j) v) r (j0 + 1)
    rw [this]
    simp [upd, show ¬ j0 = j0 + 1 + j by omega]
def xe (g : GT) (c : Nat → Int32) (k : Nat) : va_E :=
  if xk k = 3 then .inl (gI g, xlen k, .inl c) else .inr (xk k, xfl (ga g) c (xrow k) 0)
theorem xe_I (g : GT) (c : Nat → Int32) {k : Nat} (h : xk k = 3) : xe g c k = .inl (gI g, xlen k, .inl c) := by rw [xe, if_pos h]
theorem xe_O (g : GT) (c : Nat → Int32) {k ci : Nat} (h : xk k = ci) (hc : ci < 3) : xe g c k = .inr (ci, xfl (ga g) c (xrow k) 0) := by rw [xe, if_neg (by omega), h]
/-- the world: all cells below n -/
def wl (g : GT) (M : Mem) : va_W := (List.range (gn g)).map (fun k => (ga g k, xe g (M k) k))
theorem wl_at (g : GT) (M : Mem) {k : Nat} (h : k < gn g) : (wl g M)[k]? = some (ga g k, xe g (M k) k) := by
  simp [wl, h]
theorem wl_len (g : GT) (M : Mem) : (wl g M).length = gn g := by simp [wl]
theorem wl_set (g : GT) (M : Mem) {k : Nat} (c : Nat → Int32) {e : va_E} (he : e = xe g c k) : (wl g M).set k (ga g k, e) = wl g (wrc M k c) := by
  subst he
  apply List.ext_getElem?
  intro j
  by_cases hj : j < gn g
  · rw [wl_at g _ hj]
    by_cases hk : j = k
    · subst hk
      rw [List.getElem?_set_self (by rw [wl_len]; exact hj)]
      simp [wrc]
    · rw [List.getElem?_set_ne (Ne.symm hk), wl_at g _ hj]
      simp [wrc, hk]
  · rw [List.getElem?_eq_none (by rw [List.length_set, wl_len]; omega), List.getElem?_eq_none (by rw [wl_len]; omega)]
theorem wrc_upd (M : Mem) (k j : Nat) (v : Int32) : wrc M k (upd (M k) j v) = wr M k j v := rfl
def Hd (g : GT) (M : Mem) (H : Heap) : Prop := va_P (gD g) vwCl (wl g M) H
theorem aoA_moved {A A' : Array Value} {u U : State} (hvm : u.vm.Alike U.vm) (h : (Cond.arrayOver (.array .int)).before A u = true) : (Cond.arrayOver (.array .int)).before A' U = true := by
  obtain ⟨comp, c, k, h1, h2, h3, h4, h5⟩ := arrayOverA_spec h
  obtain ⟨k', hk', he⟩ := hvm.2.2 _ _ h3
  have hi : (U.vm.classes.findIdx? fun (x : Class) => match x.kind with | .array component _ => component == comp | _ => false) = some c := by
    rw [hvm.findIdx?_eq _ (fun _ => rfl)]
    exact h2
  have hkind : k'.kind = .array comp (.array .int) := by rw [he]; exact h4
  have f1 : U.vm.findClass (FieldType.array .int).toString = some comp := by rw [hvm.findClass]; exact h1
  have f2 : U.vm.findClass ("[" ++ (FieldType.array .int).toString) = some c := by rw [hvm.findClass]; exact h5
  unfold Cond.before Cond.holds
  simp only [Cond.value]
  rw [f1, Option.bind_some]
  refine (congrArg (fun o : Option Nat => (o.bind (fun c => (U.vm.classes[c]?).map fun (k : Class) => match k.kind with | .array _ ty => decide (ty = FieldType.array .int) && decide (U.vm.findClass ("[" ++ (FieldType.array .int).toString) = some c) | _ => false) == some true)) hi).trans ?_
  simp [hk', hkind, f2]
/-- words that stay true while the tables are warmed -/
def xw (w : Cond) : Bool := decide (w = Cond.arrayOver (.array .int)) || goodWord w || match w with
  | .fieldLinkNest .. => true
  | .methodLinkNest .. => true
  | .castable .. => true
  | .declares .. => true
  | _ => false
theorem xw_at {args a' : Array Value} {s U : State} {w : Cond} (hW : s.WarmedH U.vm) (hg : xw w = true) (h : w.before args s = true) : w.before a' U = true := by
  by_cases hao : w = Cond.arrayOver (.array .int)
  · subst hao
    exact aoA_moved hW.alike h
  by_cases hgw : goodWord w = true
  · exact word_at hW (good_of_word hgw) h
  · have hv : (s.setVm U.vm).vm = U.vm := rfl
    cases w <;> first
      | exact va_tabs rfl hv (Cond.fieldLinkNest_warmed (args := args) hW h)
      | exact va_tabs rfl hv (Cond.methodLinkNest_warmed (args := args) hW h)
      | exact va_tabs (A := args) rfl hv (by rw [Cond.castable_setVm hW.alike]; exact h)
      | exact va_tabs (A := args) rfl hv (by rw [Cond.declares_setVm hW.alike]; exact h)
      | (exfalso; simp [xw, hgw] at hg; exact hao (by rw [hg])) | (exfalso; simp [xw] at hg; rcases hg with hg | hg; exact hao (by rw [hg]); exact hgw hg) | (exfalso; simp [xw] at hg; exact hgw hg)
/-- the strings that the class throws; the pairs that a handler passes by -/
def strL : List (String × Nat × String) := [(RX1, 257, "loud is not 1 to 99"), (RX1, 251, "no such echo"), (RX1, 259, "beats is not 1 to 100"), (RX1, 253, "no such wall"), (RX1, 255, "no such shout"), (RX1, 248, "no such stone"), (RX1, 28, "soaks is not 0 to 5"), (RX1, 43, "there are 10 walls, or one stands there"), (RX1, 60, "snow is not 0 to 5"), (RX1, 74, "there were 40 shouts, or 8 are not gone"), (RX1, 79, "a shout is on this stone")]
def eB : String := "java/lang/IndexOutOfBoundsException"
def eA : String := "java/lang/IllegalArgumentException"
def eS : String := "java/lang/IllegalStateException"
def ncL : List (String × String) := []
/-- the class int[][]: its name, its component -/
def RK (cR cI : ClassId) (U : State) : Prop := ∃ kA : Class, U.vm.classes[cR]? = some kA ∧ kA.kind = .array cI (.array .int) ∧ U.vm.findClass "[[I" = some cR ∧ U.vm.findClass "[I" = some cI
theorem RK.moved {cR cI : ClassId} {u U : State} (hvm : u.vm.Alike U.vm) (h : RK cR cI u) : RK cR cI U := by
  obtain ⟨kA, h1, h2, h3, h4⟩ := h
  obtain ⟨k', hk', he⟩ := hvm.2.2 _ _ h1
  exact ⟨k', hk', by rw [he]; exact h2, by rw [hvm.findClass]; exact h3, by rw [hvm.findClass]; exact h4⟩
/-- what stays of the tables, and of the addresses -/
def GK (g : GT) (U : State) : Prop :=
  (∀ w ∈ lw_tbl, xw w = true → w.before #[] U = true) ∧ va_K (gD g) vwCl (gty g) U ∧ (∀ q ∈ strL, ∃ sa, vk_R q.1 q.2.1 q.2.2 sa U) ∧ RK (gJ g) (gI g) U ∧
  (∀ j k, j < gn g → k < gn g → ga g j = ga g k → j = k) ∧ (∀ k, k < gn g → gA g (ga g k)) ∧ 29 ≤ gn g ∧ gn g ≤ 29
def GH (g : GT) (U : State) (H : Heap) : Prop := (∀ q : Nat, H.size ≤ q → gA g q) ∧ vx_Zq Bundle.tN "UNASSIGNED_STACK" Bundle.steD (gA g) U H ∧ vx_Zq Bundle.tN "SUPPRESSED_SENTINEL" Bundle.listD (gA g) U H
theorem GK.warm {g : GT} {s U : State} (hW : s.WarmedH U.vm) (h : GK g s) : GK g U := by
  obtain ⟨h1, h2, h3, h4, h5⟩ := h
  refine ⟨fun w hw hx => xw_at hW hx (h1 w hw hx), va_K.moved hW.alike h2, fun q hq => ?_, RK.moved hW.alike h4, h5⟩
  obtain ⟨sa, hsa⟩ := h3 q hq
  exact ⟨sa, vk_R.warm hW hsa⟩
theorem GK.blind {g : GT} {U : State} (f : JFrame) (mk : MethodId) (a : Array Value) (h : GK g U) : GK g (U.calling f mk a) := GK.warm (State.WarmedH.refl U) h
theorem GH.moved {g : GT} {u U : State} {H : Heap} (hvm : u.vm.Alike U.vm) (h : GH g u H) : GH g U H := ⟨h.1, vx_Zq.moved hvm h.2.1, vx_Zq.moved hvm h.2.2⟩
theorem GH.kept {g : GT} {U : State} {H H1 : Heap} (h : GH g U H) (hz : H.size ≤ H1.size) (hq : ∀ a : Nat, a < H.size → ¬ gA g a → H1[a]? = H[a]?) : GH g U H1 := ⟨fun q hq => h.1 q (Nat.le_trans hz hq), vx_Zq.kept h.2.1 hq, vx_Zq.kept h.2.2 hq⟩
theorem GK.wdD {g : GT} {U : State} (h : GK g U) (M : Mem) : va_D (gA g) (wl g M) := by
  obtain ⟨-, -, -, -, h5, h6, -⟩ := h
  have at' : ∀ (i : Nat) (p : Nat × va_E), (wl g M)[i]? = some p → i < gn g ∧ p.1 = ga g i := by
    intro i p hp
    have hi : i < gn g := by rw [← wl_len g M]; exact (List.getElem?_eq_some_iff.mp hp).1
    rw [wl_at g M hi] at hp
    cases hp
    exact ⟨hi, rfl⟩
  refine ⟨fun i j p q hi hj hpq => ?_, fun k q hk => ?_⟩
  · obtain ⟨a1, a2⟩ := at' i p hi
    obtain ⟨b1, b2⟩ := at' j q hj
    exact h5 i j a1 b1 (by rw [← a2, ← b2]; exact hpq)
  · obtain ⟨a1, a2⟩ := at' k q hk
    rw [a2]
    exact h6 k a1
end
section
/-! Rules: one for each kind of instruction, over V: at a pc, with locals, stack and memory told. -/
abbrev XT : Type := Program × Launch × Env × Room × State × MethodId × Array Value × List Frame × Method × Code × (State → Prop)
abbrev xP (X : XT) : Program := X.1
abbrev xL (X : XT) : Launch := X.2.1
abbrev xE (X : XT) : Env := X.2.2.1
abbrev xR (X : XT) : Room := X.2.2.2.1
abbrev xS (X : XT) : State := X.2.2.2.2.1
abbrev xM (X : XT) : MethodId := X.2.2.2.2.2.1
abbrev xA (X : XT) : Array Value := X.2.2.2.2.2.2.1
abbrev xB (X : XT) : List Frame := X.2.2.2.2.2.2.2.1
abbrev xMe (X : XT) : Method := X.2.2.2.2.2.2.2.2.1
abbrev xC (X : XT) : Code := X.2.2.2.2.2.2.2.2.2.1
abbrev xQ (X : XT) : State → Prop := X.2.2.2.2.2.2.2.2.2.2
abbrev xW (X : XT) (H : Heap) (locs : List Loc) (kc ks : Nat) (f : JFrame) : Prop := W (xP X) (xL X) (xE X) (xR X) (xS X) (xM X) (xA X) (xB X) (xMe X) (xC X) H locs kc ks (xQ X) f
def Cx (X : XT) (g : GT) (l : Launch) (cc : ByteArray) (mL : Nat) (own : String) (ret : Option FieldType) (rm : Room) : Prop :=
  (xP X).tables.exec = Jvm.exec ∧ (xC X).code = cc ∧ (xC X).maxLocals = mL ∧ (xS X).vm.findClass own = some (xM X).cls ∧ GK g (xS X) ∧ GH g (xS X) (xS X).heap ∧ (xMe X).locks = false ∧ (xMe X).sig.returnType = ret ∧ xR X = rm ∧ xL X = l
def V (X : XT) (g : GT) (kc ks pc : Nat) (lo : List (Nat × Value)) (st : List Value) (M : Mem) : Prop :=
  ∀ (H : Heap) (locs : List Loc) (ls : Array Slot), Hd g M H → va_S (gA g) (xS X).heap H locs → lv_has ls (xC X).maxLocals lo → xW X H locs kc ks (F0 (xM X) pc ls st)
/-- the local by its number -/
def lk : List (Nat × Value) → Nat → Option Value
  | [], _ => none
  | (j, v) :: r, i => bif Nat.beq j i then some v else lk r i
theorem lk_mem : ∀ {l : List (Nat × Value)} {i : Nat} {v : Value}, lk l i = some v → (i, v) ∈ l
  | [], _, _, h => by cases h
  | (j, w) :: r, i, v, h => by
    unfold lk at h
    cases hb : Nat.beq j i with
    | true =>
      rw [hb] at h
      have e := Nat.eq_of_beq_eq_true hb
      subst e
      cases h
      exact List.mem_cons_self
    | false =>
      rw [hb] at h
      exact List.mem_cons_of_mem _ (lk_mem h)
theorem lk_at {ls : Array Slot} {n : Nat} {l : List (Nat × Value)} (h : lv_has ls n l) {i : Nat} {v : Value} (hk : lk l i = some v) : ls[i]? = some (.val v) := h.2.2 (i, v) (lk_mem hk)
theorem lk_idx : ∀ {l : List (Nat × Value)} {i : Nat} {v : Value}, lk l i = some v → ∃ k : Nat, l[k]? = some (i, v)
  | l, i, v, h => List.getElem?_of_mem (lk_mem h)
section RULES
variable {X : XT} {g : GT} {l : Launch} {cc : ByteArray} {mL : Nat} {own : String} {ret : Option FieldType} {rm : Room} {kc ks pc : Nat} {lo lo' : List (Nat × Value)} {st : List Value} {M : Mem}
theorem x_iload_n (C : Cx X g l cc mL own ret rm) {n : Fin 4} {v : Int32} (d : decode cc pc = .ok (.iload_n n, 1)) (h : lk lo (n : Nat) = some (.int v)) (k : V X g kc ks (pc + 1) lo (.int v :: st) M) : V X g kc ks pc lo st M := fun H locs ls h1 h2 h3 => lv_iload_n C.1 C.2.1 d rfl (lk_at h3 h) (k H locs ls h1 h2 h3)
theorem x_iload (C : Cx X g l cc mL own ret rm) {n : Nat} {v : Int32} (d : decode cc pc = .ok (.iload n, 2)) (h : lk lo n = some (.int v)) (k : V X g kc ks (pc + 2) lo (.int v :: st) M) : V X g kc ks pc lo st M := fun H locs ls h1 h2 h3 => lv_iload C.1 C.2.1 d (lk_at h3 h) (k H locs ls h1 h2 h3)
theorem x_aload_n (C : Cx X g l cc mL own ret rm) {n : Fin 4} {v : Nat} (d : decode cc pc = .ok (.aload_n n, 1)) (h : lk lo (n : Nat) = some (.ref v)) (k : V X g kc ks (pc + 1) lo (.ref v :: st) M) : V X g kc ks pc lo st M := fun H locs ls h1 h2 h3 => lv_aload_n C.1 C.2.1 d rfl (lk_at h3 h) (k H locs ls h1 h2 h3)
theorem x_aload (C : Cx X g l cc mL own ret rm) {n : Nat} {v : Nat} (d : decode cc pc = .ok (.aload n, 2)) (h : lk lo n = some (.ref v)) (k : V X g kc ks (pc + 2) lo (.ref v :: st) M) : V X g kc ks pc lo st M := fun H locs ls h1 h2 h3 => lv_aload C.1 C.2.1 d (lk_at h3 h) (k H locs ls h1 h2 h3)
theorem x_lload_n (C : Cx X g l cc mL own ret rm) {n : Fin 4} {v : Int64} (d : decode cc pc = .ok (.lload_n n, 1)) (h : lk lo (n : Nat) = some (.long v)) (k : V X g kc ks (pc + 1) lo (.long v :: st) M) : V X g kc ks pc lo st M := fun H locs ls h1 h2 h3 => lv_lload_n C.1 C.2.1 d rfl (lk_at h3 h) (k H locs ls h1 h2 h3)
theorem x_dload (C : Cx X g l cc mL own ret rm) {n : Nat} {v : UInt64} (d : decode cc pc = .ok (.dload n, 2)) (h : lk lo n = some (.double v)) (k : V X g kc ks (pc + 2) lo (.double v :: st) M) : V X g kc ks pc lo st M := fun H locs ls h1 h2 h3 => lv_dload C.1 C.2.1 d (lk_at h3 h) (k H locs ls h1 h2 h3)
theorem x_istore_n (C : Cx X g l cc mL own ret rm) {n : Fin 4} {v : Int32} (d : decode cc pc = .ok (.istore_n n, 1)) (hn : (n : Nat) < mL) (h : ((n : Nat), Value.int v) :: lo.filter (fun q => !(q.1 == (n : Nat)) && !(q.1 + 1 == (n : Nat) && q.2.category == 2)) = lo') (k : V X g kc ks (pc + 1) lo' st M) : V X g kc ks pc lo (.int v :: st) M := fun H locs ls h1 h2 h3 => lv_istore_n C.1 C.2.1 d rfl h3 (by rw [C.2.2.1]; exact hn) h (fun ls' h4 => k H locs ls' h1 h2 h4)
theorem x_istore (C : Cx X g l cc mL own ret rm) {n : Nat} {v : Int32} (d : decode cc pc = .ok (.istore n, 2)) (hn : n < mL) (h : (n, Value.int v) :: lo.filter (fun q => !(q.1 == n) && !(q.1 + 1 == n && q.2.category == 2)) = lo') (k : V X g kc ks (pc + 2) lo' st M) : V X g kc ks pc lo (.int v :: st) M := fun H locs ls h1 h2 h3 => lv_istore C.1 C.2.1 d h3 (by rw [C.2.2.1]; exact hn) h (fun ls' h4 => k H locs ls' h1 h2 h4)
theorem x_astore_n (C : Cx X g l cc mL own ret rm) {n : Fin 4} {v : Nat} (d : decode cc pc = .ok (.astore_n n, 1)) (hn : (n : Nat) < mL) (h : ((n : Nat), Value.ref v) :: lo.filter (fun q => !(q.1 == (n : Nat)) && !(q.1 + 1 == (n : Nat) && q.2.category == 2)) = lo') (k : V X g kc ks (pc + 1) lo' st M) : V X g kc ks pc lo (.ref v :: st) M := fun H locs ls h1 h2 h3 => lv_astore_n C.1 C.2.1 d rfl h3 (by rw [C.2.2.1]; exact hn) h (fun ls' h4 => k H locs ls' h1 h2 h4)
theorem x_astore (C : Cx X g l cc mL own ret rm) {n : Nat} {v : Nat} (d : decode cc pc = .ok (.astore n, 2)) (hn : n < mL) (h : (n, Value.ref v) :: lo.filter (fun q => !(q.1 == n) && !(q.1 + 1 == n && q.2.category == 2)) = lo') (k : V X g kc ks (pc + 2) lo' st M) : V X g kc ks pc lo (.ref v :: st) M := fun H locs ls h1 h2 h3 => lv_astore C.1 C.2.1 d h3 (by rw [C.2.2.1]; exact hn) h (fun ls' h4 => k H locs ls' h1 h2 h4)
theorem x_lstore_n (C : Cx X g l cc mL own ret rm) {n : Fin 4} {v : Int64} (d : decode cc pc = .ok (.lstore_n n, 1)) (hn : (n : Nat) + 1 < mL) (h : ((n : Nat), Value.long v) :: lo.filter (fun q => !(q.1 == (n : Nat)) && (!(q.1 == (n : Nat) + 1) && !(q.1 + 1 == (n : Nat) && q.2.category == 2))) = lo') (k : V X g kc ks (pc + 1) lo' st M) : V X g kc ks pc lo (.long v :: st) M := fun H locs ls h1 h2 h3 => lv_lstore_n C.1 C.2.1 d rfl h3 (by rw [C.2.2.1]; exact hn) h (fun ls' h4 => k H locs ls' h1 h2 h4)
theorem x_dstore (C : Cx X g l cc mL own ret rm) {n : Nat} {v : UInt64} (d : decode cc pc = .ok (.dstore n, 2)) (hn : n + 1 < mL) (h : (n, Value.double v) :: lo.filter (fun q => !(q.1 == n) && (!(q.1 == n + 1) && !(q.1 + 1 == n && q.2.category == 2))) = lo') (k : V X g kc ks (pc + 2) lo' st M) : V X g kc ks pc lo (.double v :: st) M := fun H locs ls h1 h2 h3 => lv_dstore C.1 C.2.1 d h3 (by rw [C.2.2.1]; exact hn) h (fun ls' h4 => k H locs ls' h1 h2 h4)
theorem x_iinc (C : Cx X g l cc mL own ret rm) {n : Nat} {z : Int} {x v : Int32} (d : decode cc pc = .ok (.iinc n z, 3)) (hk : lk lo n = some (.int x)) (hv : x + Int32.ofInt z = v) (hn : n < mL) (h : (n, Value.int v) :: lo.filter (fun q => !(q.1 == n) && !(q.1 + 1 == n && q.2.category == 2)) = lo') (k : V X g kc ks (pc + 3) lo' st M) : V X g kc ks pc lo st M := fun H locs ls h1 h2 h3 => by
  obtain ⟨q, hq⟩ := lk_idx hk
  exact lv_iinc C.1 C.2.1 d h3 hq hv (by rw [C.2.2.1]; exact hn) h (fun ls' h4 => k H locs ls' h1 h2 h4)
theorem x_iconst (C : Cx X g l cc mL own ret rm) {z : Int} {v : Int32} (d : decode cc pc = .ok (.iconst z, 1)) (hv : Int32.ofInt z = v) (k : V X g kc ks (pc + 1) lo (.int v :: st) M) : V X g kc ks pc lo st M := fun H locs ls h1 h2 h3 => lv_iconst C.1 C.2.1 d hv (k H locs ls h1 h2 h3)
theorem x_bipush (C : Cx X g l cc mL own ret rm) {z : Int} {v : Int32} (d : decode cc pc = .ok (.bipush z, 2)) (hv : (Int8.ofInt z).toInt32 = v) (k : V X g kc ks (pc + 2) lo (.int v :: st) M) : V X g kc ks pc lo st M := fun H locs ls h1 h2 h3 => lv_bipush C.1 C.2.1 d hv (k H locs ls h1 h2 h3)
theorem x_sipush (C : Cx X g l cc mL own ret rm) {z : Int} {v : Int32} (d : decode cc pc = .ok (.sipush z, 3)) (hv : (Int16.ofInt z).toInt32 = v) (k : V X g kc ks (pc + 3) lo (.int v :: st) M) : V X g kc ks pc lo st M := fun H locs ls h1 h2 h3 => lv_sipush C.1 C.2.1 d hv (k H locs ls h1 h2 h3)
theorem x_lconst (C : Cx X g l cc mL own ret rm) {z : Fin 2} {v : Int64} (d : decode cc pc = .ok (.lconst z, 1)) (hv : Int64.ofNat (z : Nat) = v) (k : V X g kc ks (pc + 1) lo (.long v :: st) M) : V X g kc ks pc lo st M := fun H locs ls h1 h2 h3 => lv_lconst C.1 C.2.1 d hv (k H locs ls h1 h2 h3)
theorem x_dconst0 (C : Cx X g l cc mL own ret rm) (d : decode cc pc = .ok (.dconst 0, 1)) (k : V X g kc ks (pc + 1) lo (.double 0 :: st) M) : V X g kc ks pc lo st M := fun H locs ls h1 h2 h3 => lv_dconst0 C.1 C.2.1 d (k H locs ls h1 h2 h3)
theorem x_dup (C : Cx X g l cc mL own ret rm) {v : Value} (d : decode cc pc = .ok (.dup, 1)) (hv : v.category = 1) (k : V X g kc ks (pc + 1) lo (v :: v :: st) M) : V X g kc ks pc lo (v :: st) M := fun H locs ls h1 h2 h3 => lv_dup C.1 C.2.1 d hv (k H locs ls h1 h2 h3)
theorem x_pop (C : Cx X g l cc mL own ret rm) {v : Value} (d : decode cc pc = .ok (.pop, 1)) (hv : v.category = 1) (k : V X g kc ks (pc + 1) lo st M) : V X g kc ks pc lo (v :: st) M := fun H locs ls h1 h2 h3 => lv_pop C.1 C.2.1 d hv (k H locs ls h1 h2 h3)
theorem x_dup2 (C : Cx X g l cc mL own ret rm) {v w : Value} (d : decode cc pc = .ok (.dup2, 1)) (hv : v.category = 1) (hw : w.category = 1) (k : V X g kc ks (pc + 1) lo (v :: w :: v :: w :: st) M) : V X g kc ks pc lo (v :: w :: st) M := fun H locs ls h1 h2 h3 => lv_dup2_11 C.1 C.2.1 d hv hw (k H locs ls h1 h2 h3)
theorem x_iadd (C : Cx X g l cc mL own ret rm) {x y : Int32} (d : decode cc pc = .ok (.iadd, 1)) (k : V X g kc ks (pc + 1) lo (.int (x + y) :: st) M) : V X g kc ks pc lo (.int y :: .int x :: st) M := fun H locs ls h1 h2 h3 => lv_iadd C.1 C.2.1 d (k H locs ls h1 h2 h3)
theorem x_isub (C : Cx X g l cc mL own ret rm) {x y : Int32} (d : decode cc pc = .ok (.isub, 1)) (k : V X g kc ks (pc + 1) lo (.int (x - y) :: st) M) : V X g kc ks pc lo (.int y :: .int x :: st) M := fun H locs ls h1 h2 h3 => lv_isub C.1 C.2.1 d (k H locs ls h1 h2 h3)
theorem x_iand (C : Cx X g l cc mL own ret rm) {x y : Int32} (d : decode cc pc = .ok (.iand, 1)) (k : V X g kc ks (pc + 1) lo (.int (x &&& y) :: st) M) : V X g kc ks pc lo (.int y :: .int x :: st) M := fun H locs ls h1 h2 h3 => lv_iand C.1 C.2.1 d (k H locs ls h1 h2 h3)
theorem x_ladd (C : Cx X g l cc mL own ret rm) {x y : Int64} (d : decode cc pc = .ok (.ladd, 1)) (k : V X g kc ks (pc + 1) lo (.long (x + y) :: st) M) : V X g kc ks pc lo (.long y :: .long x :: st) M := fun H locs ls h1 h2 h3 => lv_ladd C.1 C.2.1 d (k H locs ls h1 h2 h3)
theorem x_lmul (C : Cx X g l cc mL own ret rm) {x y : Int64} (d : decode cc pc = .ok (.lmul, 1)) (k : V X g kc ks (pc + 1) lo (.long (x * y) :: st) M) : V X g kc ks pc lo (.long y :: .long x :: st) M := fun H locs ls h1 h2 h3 => lv_lmul C.1 C.2.1 d (k H locs ls h1 h2 h3)
theorem x_ineg (C : Cx X g l cc mL own ret rm) {x : Int32} (d : decode cc pc = .ok (.ineg, 1)) (k : V X g kc ks (pc + 1) lo (.int (-x) :: st) M) : V X g kc ks pc lo (.int x :: st) M := fun H locs ls h1 h2 h3 => lv_ineg C.1 C.2.1 d (k H locs ls h1 h2 h3)
theorem x_i2l (C : Cx X g l cc mL own ret rm) {x : Int32} (d : decode cc pc = .ok (.i2l, 1)) (k : V X g kc ks (pc + 1) lo (.long x.toInt64 :: st) M) : V X g kc ks pc lo (.int x :: st) M := fun H locs ls h1 h2 h3 => lv_i2l C.1 C.2.1 d rfl (k H locs ls h1 h2 h3)
theorem x_i2d (C : Cx X g l cc mL own ret rm) {x : Int32} (d : decode cc pc = .ok (.i2d, 1)) (k : V X g kc ks (pc + 1) lo (.double (FP.i2d x) :: st) M) : V X g kc ks pc lo (.int x :: st) M := fun H locs ls h1 h2 h3 => lv_i2d C.1 C.2.1 d (k H locs ls h1 h2 h3)
theorem x_ddiv (C : Cx X g l cc mL own ret rm) {x y : UInt64} (d : decode cc pc = .ok (.ddiv, 1)) (hne : vf_n64 (FP.ddiv x y)) (k : V X g kc ks (pc + 1) lo (.double (FP.ddiv x y) :: st) M) : V X g kc ks pc lo (.double y :: .double x :: st) M := fun H locs ls h1 h2 h3 => lv_ddiv C.1 C.2.1 d hne (k H locs ls h1 h2 h3)
theorem x_dcmp (C : Cx X g l cc mL own ret rm) {x y : UInt64} {op : CmpOp} (d : decode cc pc = .ok (.dcmp op, 1)) (k : V X g kc ks (pc + 1) lo (.int (Op.cmpValue (FP.dcmp x y) op) :: st) M) : V X g kc ks pc lo (.double y :: .double x :: st) M := fun H locs ls h1 h2 h3 => lv_dcmp C.1 C.2.1 d (k H locs ls h1 h2 h3)
theorem x_icmp_eq (C : Cx X g l cc mL own ret rm) {x y : Int32} {off : Int} {tgt : Nat} (d : decode cc pc = .ok (.if_icmp .eq off, 3)) (ht : (pc : Int) + off = (tgt : Int)) (kt : x = y → V X g kc ks tgt lo st M) (kf : ¬ (x = y) → V X g kc ks (pc + 3) lo st M) : V X g kc ks pc lo (.int y :: .int x :: st) M := fun H locs ls h1 h2 h3 => lv_icmp_eq C.1 C.2.1 d ht (fun c => kt c H locs ls h1 h2 h3) (fun c => kf c H locs ls h1 h2 h3)
theorem x_icmp_ne (C : Cx X g l cc mL own ret rm) {x y : Int32} {off : Int} {tgt : Nat} (d : decode cc pc = .ok (.if_icmp .ne off, 3)) (ht : (pc : Int) + off = (tgt : Int)) (kt : x ≠ y → V X g kc ks tgt lo st M) (kf : x = y → V X g kc ks (pc + 3) lo st M) : V X g kc ks pc lo (.int y :: .int x :: st) M := fun H locs ls h1 h2 h3 => lv_icmp_ne C.1 C.2.1 d ht (fun c => kt c H locs ls h1 h2 h3) (fun c => kf c H locs ls h1 h2 h3)
theorem x_icmp_lt (C : Cx X g l cc mL own ret rm) {x y : Int32} {off : Int} {tgt : Nat} (d : decode cc pc = .ok (.if_icmp .lt off, 3)) (ht : (pc : Int) + off = (tgt : Int)) (kt : x < y → V X g kc ks tgt lo st M) (kf : ¬ (x < y) → V X g kc ks (pc + 3) lo st M) : V X g kc ks pc lo (.int y :: .int x :: st) M := fun H locs ls h1 h2 h3 => lv_icmp_lt C.1 C.2.1 d ht (fun c => kt c H locs ls h1 h2 h3) (fun c => kf c H locs ls h1 h2 h3)
theorem x_icmp_ge (C : Cx X g l cc mL own ret rm) {x y : Int32} {off : Int} {tgt : Nat} (d : decode cc pc = .ok (.if_icmp .ge off, 3)) (ht : (pc : Int) + off = (tgt : Int)) (kt : x ≥ y → V X g kc ks tgt lo st M) (kf : ¬ (x ≥ y) → V X g kc ks (pc + 3) lo st M) : V X g kc ks pc lo (.int y :: .int x :: st) M := fun H locs ls h1 h2 h3 => lv_icmp_ge C.1 C.2.1 d ht (fun c => kt c H locs ls h1 h2 h3) (fun c => kf c H locs ls h1 h2 h3)
theorem x_icmp_gt (C : Cx X g l cc mL own ret rm) {x y : Int32} {off : Int} {tgt : Nat} (d : decode cc pc = .ok (.if_icmp .gt off, 3)) (ht : (pc : Int) + off = (tgt : Int)) (kt : x > y → V X g kc ks tgt lo st M) (kf : ¬ (x > y) → V X g kc ks (pc + 3) lo st M) : V X g kc ks pc lo (.int y :: .int x :: st) M := fun H locs ls h1 h2 h3 => lv_icmp_gt C.1 C.2.1 d ht (fun c => kt c H locs ls h1 h2 h3) (fun c => kf c H locs ls h1 h2 h3)
theorem x_icmp_le (C : Cx X g l cc mL own ret rm) {x y : Int32} {off : Int} {tgt : Nat} (d : decode cc pc = .ok (.if_icmp .le off, 3)) (ht : (pc : Int) + off = (tgt : Int)) (kt : x ≤ y → V X g kc ks tgt lo st M) (kf : ¬ (x ≤ y) → V X g kc ks (pc + 3) lo st M) : V X g kc ks pc lo (.int y :: .int x :: st) M := fun H locs ls h1 h2 h3 => lv_icmp_le C.1 C.2.1 d ht (fun c => kt c H locs ls h1 h2 h3) (fun c => kf c H locs ls h1 h2 h3)
theorem x_if_eq (C : Cx X g l cc mL own ret rm) {x : Int32} {off : Int} {tgt : Nat} (d : decode cc pc = .ok (.ifCond .eq off, 3)) (ht : (pc : Int) + off = (tgt : Int)) (kt : x = 0 → V X g kc ks tgt lo st M) (kf : ¬ (x = 0) → V X g kc ks (pc + 3) lo st M) : V X g kc ks pc lo (.int x :: st) M := fun H locs ls h1 h2 h3 => lv_if_eq C.1 C.2.1 d ht (fun c => kt c H locs ls h1 h2 h3) (fun c => kf c H locs ls h1 h2 h3)
theorem x_if_ne (C : Cx X g l cc mL own ret rm) {x : Int32} {off : Int} {tgt : Nat} (d : decode cc pc = .ok (.ifCond .ne off, 3)) (ht : (pc : Int) + off = (tgt : Int)) (kt : x ≠ 0 → V X g kc ks tgt lo st M) (kf : x = 0 → V X g kc ks (pc + 3) lo st M) : V X g kc ks pc lo (.int x :: st) M := fun H locs ls h1 h2 h3 => lv_if_ne C.1 C.2.1 d ht (fun c => kt c H locs ls h1 h2 h3) (fun c => kf c H locs ls h1 h2 h3)
theorem x_if_lt (C : Cx X g l cc mL own ret rm) {x : Int32} {off : Int} {tgt : Nat} (d : decode cc pc = .ok (.ifCond .lt off, 3)) (ht : (pc : Int) + off = (tgt : Int)) (kt : x < 0 → V X g kc ks tgt lo st M) (kf : ¬ (x < 0) → V X g kc ks (pc + 3) lo st M) : V X g kc ks pc lo (.int x :: st) M := fun H locs ls h1 h2 h3 => lv_if_lt C.1 C.2.1 d ht (fun c => kt c H locs ls h1 h2 h3) (fun c => kf c H locs ls h1 h2 h3)
theorem x_if_ge (C : Cx X g l cc mL own ret rm) {x : Int32} {off : Int} {tgt : Nat} (d : decode cc pc = .ok (.ifCond .ge off, 3)) (ht : (pc : Int) + off = (tgt : Int)) (kt : x ≥ 0 → V X g kc ks tgt lo st M) (kf : ¬ (x ≥ 0) → V X g kc ks (pc + 3) lo st M) : V X g kc ks pc lo (.int x :: st) M := fun H locs ls h1 h2 h3 => lv_if_ge C.1 C.2.1 d ht (fun c => kt c H locs ls h1 h2 h3) (fun c => kf c H locs ls h1 h2 h3)
theorem x_if_gt (C : Cx X g l cc mL own ret rm) {x : Int32} {off : Int} {tgt : Nat} (d : decode cc pc = .ok (.ifCond .gt off, 3)) (ht : (pc : Int) + off = (tgt : Int)) (kt : x > 0 → V X g kc ks tgt lo st M) (kf : ¬ (x > 0) → V X g kc ks (pc + 3) lo st M) : V X g kc ks pc lo (.int x :: st) M := fun H locs ls h1 h2 h3 => lv_if_gt C.1 C.2.1 d ht (fun c => kt c H locs ls h1 h2 h3) (fun c => kf c H locs ls h1 h2 h3)
theorem x_if_le (C : Cx X g l cc mL own ret rm) {x : Int32} {off : Int} {tgt : Nat} (d : decode cc pc = .ok (.ifCond .le off, 3)) (ht : (pc : Int) + off = (tgt : Int)) (kt : x ≤ 0 → V X g kc ks tgt lo st M) (kf : ¬ (x ≤ 0) → V X g kc ks (pc + 3) lo st M) : V X g kc ks pc lo (.int x :: st) M := fun H locs ls h1 h2 h3 => lv_if_le C.1 C.2.1 d ht (fun c => kt c H locs ls h1 h2 h3) (fun c => kf c H locs ls h1 h2 h3)
theorem x_goto (C : Cx X g l cc mL own ret rm) {off : Int} {tgt : Nat} (d : decode cc pc = .ok (.goto off, 3)) (ht : (pc : Int) + off = (tgt : Int)) (k : V X g kc ks tgt lo st M) : V X g kc ks pc lo st M := fun H locs ls h1 h2 h3 => lv_goto C.1 C.2.1 d ht (k H locs ls h1 h2 h3)
/-- a truth value as an int -/
def b2i (c : Prop) [Decidable c] : Int32 := if c then 1 else 0
theorem b2i_t {c : Prop} [Decidable c] (h : c) : b2i c = 1 := if_pos h
theorem b2i_f {c : Prop} [Decidable c] (h : ¬ c) : b2i c = 0 := if_neg h
theorem b2i_nar (c : Prop) [Decidable c] : narrow .boolean (.int (b2i c)) = .int (b2i c) := by
  by_cases h : c
  · rw [b2i_t h]; rfl
  · rw [b2i_f h]; rfl
theorem x_bif_eq (C : Cx X g l cc mL own ret rm) {c : Prop} [Decidable c] {off : Int} {tgt : Nat} (d : decode cc pc = .ok (.ifCond .eq off, 3)) (ht : (pc : Int) + off = (tgt : Int)) (kt : ¬ c → V X g kc ks tgt lo st M) (kf : c → V X g kc ks (pc + 3) lo st M) : V X g kc ks pc lo (.int (b2i c) :: st) M := by
  refine x_if_eq C d ht (fun h => kt (fun hc => ?_)) (fun h => kf ?_)
  · rw [b2i_t hc] at h; exact absurd h (by decide)
  · by_cases hc : c
    · exact hc
    · exact absurd (b2i_f hc) h
theorem x_bif_ne (C : Cx X g l cc mL own ret rm) {c : Prop} [Decidable c] {off : Int} {tgt : Nat} (d : decode cc pc = .ok (.ifCond .ne off, 3)) (ht : (pc : Int) + off = (tgt : Int)) (kt : c → V X g kc ks tgt lo st M) (kf : ¬ c → V X g kc ks (pc + 3) lo st M) : V X g kc ks pc lo (.int (b2i c) :: st) M := by
  refine x_if_ne C d ht (fun h => kt ?_) (fun h => kf (fun hc => ?_))
  · by_cases hc : c
    · exact hc
    · exact absurd (b2i_f hc) h
  · rw [b2i_t hc] at h; exact absurd h (by decide)
/-- fewer locals, in any order -/
theorem x_lsub (ks' : List Nat) (hl : lv_pick lo ks' = lo') (k : V X g kc ks pc lo' st M) : V X g kc ks pc lo st M := fun H locs ls h1 h2 h3 => k H locs ls h1 h2 (lv_sub h3 ks' hl)
theorem x_mem {M' : Mem} (h : M = M') (k : V X g kc ks pc lo st M') : V X g kc ks pc lo st M := h ▸ k
theorem x_widen {kc' ks' : Nat} (h1 : kc ≤ kc') (h2 : ks ≤ ks') (k : V X g kc' ks' pc lo st M) : V X g kc ks pc lo st M := fun H locs ls a b c => W.widen h1 h2 (k H locs ls a b c)
end RULES
end
section
/-! Rules: fields, arrays, calls, ends. -/
theorem xlen_le (k : Nat) : xlen k ≤ 40 := by
  by_cases h : k < 29
  · have : ∀ k, k < 29 → xlen k ≤ 40 := by decide +kernel
    exact this k h
  · have : xlen k = 0 := by
      unfold xlen
      rw [List.getD_eq_getElem?_getD, List.getElem?_eq_none (by simp; omega)]
      rfl
    omega
def CI (ci : Nat) (Cn : String) (T : u_T) (N : Nat) : Prop := vwCl[ci]? = some (Cn, T, N) ∧ ci < 3 ∧ (∃ ty0 : Nat → FieldType, ∀ k, k < N → parseFieldDescriptor (T k).2.2.1 = some (ty0 k)) ∧ (∀ a, a < N → ∀ b, b < N → a ≠ b → (T a).2.1 ≠ (T b).2.1) ∧ ∀ w ∈ u_ws Cn T N, w ∈ lw_tbl ∧ xw w = true
theorem ci0 : CI 0 RX0 TX0 19 := ⟨rfl, by decide, ⟨tyX0, tyX0_ok⟩, nmX0, fun w h => ⟨inX0 w h, (by decide +kernel : ∀ w ∈ wsX00, xw w = true) w h⟩⟩
theorem ci1 : CI 1 RX1 TX1 2 := ⟨rfl, by decide, ⟨tyX1, tyX1_ok⟩, nmX1, fun w h => ⟨inX1 w h, (by decide +kernel : ∀ w ∈ wsX10, xw w = true) w h⟩⟩
theorem ci2 : CI 2 RX2 TX2 8 := ⟨rfl, by decide, ⟨tyX2, tyX2_ok⟩, nmX2, fun w h => ⟨inX2 w h, (by decide +kernel : ∀ w ∈ wsX20, xw w = true) w h⟩⟩
/-- a field's entry in the pool of the class own: which class, which slot -/
def FL (own : String) (idx ci j : Nat) : Prop := ∃ (Cn : String) (T : u_T) (N : Nat), CI ci Cn T N ∧ j < N ∧ (T j).1 = Cn ∧ ((∃ i : Nat, lw_tbl[i]? = some (.fieldLink own idx Cn (T j).2.1 (T j).2.2.1)) ∨ ∃ (i : Nat) (h : String), lw_tbl[i]? = some (.fieldLinkNest own idx Cn (T j).2.1 (T j).2.2.1 h))
/-- .. of an int that isn't final -/
def FLI (own : String) (idx ci j : Nat) : Prop := ∃ (Cn : String) (T : u_T) (N : Nat), CI ci Cn T N ∧ j < N ∧ (T j).1 = Cn ∧ ((∃ i : Nat, lw_tbl[i]? = some (.fieldLink own idx Cn (T j).2.1 (T j).2.2.1)) ∨ ∃ (i : Nat) (h : String), lw_tbl[i]? = some (.fieldLinkNest own idx Cn (T j).2.1 (T j).2.2.1 h)) ∧ (T j).2.2.2 = false ∧ parseFieldDescriptor (T j).2.2.1 = some .int
theorem FLI.fl {own : String} {idx ci j : Nat} (h : FLI own idx ci j) : FL own idx ci j := by
  obtain ⟨Cn, T, N, h1, h2, h3, h4, -⟩ := h
  exact ⟨Cn, T, N, h1, h2, h3, h4⟩
section RULES2
variable {X : XT} {g : GT} {l : Launch} {cc : ByteArray} {mL : Nat} {own : String} {ret : Option FieldType} {rm : Room} {kc ks pc : Nat} {lo lo' : List (Nat × Value)} {st : List Value} {M : Mem}
theorem Cx.w (C : Cx X g l cc mL own ret rm) {w : Cond} {i : Nat} (h : lw_tbl[i]? = some w) (hx : xw w = true) : w.before (xA X) (xS X) = true := xw_at (State.WarmedH.refl _) hx (C.2.2.2.2.1.1 w (List.mem_of_getElem? h) hx)
theorem Cx.wm (C : Cx X g l cc mL own ret rm) {w : Cond} (h : w ∈ lw_tbl) (hx : xw w = true) : w.before (xA X) (xS X) = true := xw_at (State.WarmedH.refl _) hx (C.2.2.2.2.1.1 w h hx)
theorem Cx.lt (C : Cx X g l cc mL own ret rm) {k : Nat} (h : k < 29) : k < gn g := Nat.lt_of_lt_of_le h C.2.2.2.2.1.2.2.2.2.2.2.1
theorem Cx.D (C : Cx X g l cc mL own ret rm) (M : Mem) : va_D (gA g) (wl g M) := C.2.2.2.2.1.wdD M
theorem x_getF (C : Cx X g l cc mL own ret rm) {idx ci j k : Nat} {v : Value} (hf : FL own idx ci j) (hk : xk k = ci) (hn : k < 29) (hv : (xfl (ga g) (M k) (xrow k) 0)[j]? = some v) (d : decode cc pc = .ok (.getfield idx, 3)) (kk : V X g kc ks (pc + 3) lo (v :: st) M) : V X g kc ks pc lo (.ref (ga g k) :: st) M := by
  intro H locs ls h1 h2 h3
  obtain ⟨Cn, T, N, hc, hj, hT, hl⟩ := hf
  have hK := C.2.2.2.2.1
  have hts : ∀ w ∈ u_ws Cn T N, w.before (xA X) (xS X) = true := fun w hw => C.wm (hc.2.2.2.2 w hw).1 (hc.2.2.2.2 w hw).2
  have hat := wl_at g M (C.lt hn)
  rw [xe_O g (M k) hk hc.2.1] at hat
  have hs : ∀ x, (xS X).fieldFound? (T j).1 (T j).2.1 (T j).2.2.1 = some x → (xS X).fieldFound? Cn (T j).2.1 (T j).2.2.1 = some x := fun x hx => by rw [hT] at hx; exact hx
  rcases hl with ⟨i, hl⟩ | ⟨i, h, hl⟩
  · exact va_get C.1 C.2.1 hts (fun _ h => h) C.2.2.2.1 hK.2.1 h1 k hat hc.1 j hj (C.w hl rfl) hs hv d (kk H locs ls h1 h2 h3)
  · exact va_getN C.1 C.2.1 hts (fun _ h => h) C.2.2.2.1 hK.2.1 h1 k hat hc.1 j hj (C.w hl rfl) hs hv d (kk H locs ls h1 h2 h3)
theorem x_getR (C : Cx X g l cc mL own ret rm) {idx ci j k t : Nat} (hf : FL own idx ci j) (hk : xk k = ci) (hn : k < 29) (hr : (xrow k)[j]? = some (some t)) (d : decode cc pc = .ok (.getfield idx, 3)) (kk : V X g kc ks (pc + 3) lo (.ref (ga g t) :: st) M) : V X g kc ks pc lo (.ref (ga g k) :: st) M :=
  x_getF C hf hk hn (xfl_ref _ _ _ 0 j t hr) d kk
theorem x_getI (C : Cx X g l cc mL own ret rm) {idx ci j k : Nat} (hf : FLI own idx ci j) (hk : xk k = ci) (hn : k < 29) (hr : (xrow k)[j]? = some none) (d : decode cc pc = .ok (.getfield idx, 3)) (kk : V X g kc ks (pc + 3) lo (.int (M k j) :: st) M) : V X g kc ks pc lo (.ref (ga g k) :: st) M :=
  x_getF C hf.fl hk hn (by rw [xfl_int _ _ _ 0 j hr, Nat.zero_add]) d kk
theorem x_putI (C : Cx X g l cc mL own ret rm) {idx ci j k : Nat} {v : Int32} (hf : FLI own idx ci j) (hk : xk k = ci) (hn : k < 29) (hr : (xrow k)[j]? = some none) (d : decode cc pc = .ok (.putfield idx, 3)) (kk : V X g kc ks (pc + 3) lo st (wr M k j v)) : V X g kc ks pc lo (.int v :: .ref (ga g k) :: st) M := by
  intro H locs ls h1 h2 h3
  obtain ⟨Cn, T, N, hc, hj, hT, hl, hfin, hd⟩ := hf
  have hK := C.2.2.2.2.1
  have hts : ∀ w ∈ u_ws Cn T N, w.before (xA X) (xS X) = true := fun w hw => C.wm (hc.2.2.2.2 w hw).1 (hc.2.2.2.2 w hw).2
  have hat := wl_at g M (C.lt hn)
  rw [xe_O g (M k) hk hc.2.1] at hat
  have hs : ∀ x, (xS X).fieldFound? (T j).1 (T j).2.1 (T j).2.2.1 = some x → (xS X).fieldFound? Cn (T j).2.1 (T j).2.2.1 = some x := fun x hx => by rw [hT] at hx; exact hx
  have hset : (wl g M).set k (ga g k, .inr (ci, (xfl (ga g) (M k) (xrow k) 0).set j (.int v))) = wl g (wr M k j v) := by
    rw [xfl_set _ _ v _ 0 j hr, Nat.zero_add, wl_set g M (upd (M k) j v) (xe_O g _ hk hc.2.1).symm]
    rfl
  have hlen : j < (xfl (ga g) (M k) (xrow k) 0).length := by rw [xfl_len]; exact (List.getElem?_eq_some_iff.mp hr).1
  obtain ⟨ty0, hty⟩ := hc.2.2.1
  rcases hl with ⟨i, hl⟩ | ⟨i, h, hl⟩
  · exact va_put C.1 C.2.1 hts (fun _ h => h) ty0 hty hc.2.2.2.1 C.2.2.2.1 hK.2.1 h1 (C.D M) h2 k hat hc.1 j hj (C.w hl rfl) hs hfin hd rfl rfl hlen d (fun H1 locs1 p1 _ p3 => kk H1 locs1 ls (by rw [hset] at p1; exact p1) p3 h3)
  · exact va_putN C.1 C.2.1 hts (fun _ h => h) ty0 hty hc.2.2.2.1 C.2.2.2.1 hK.2.1 h1 (C.D M) h2 k hat hc.1 j hj (C.w hl rfl) hs hfin hd rfl rfl hlen d (fun H1 locs1 p1 _ p3 => kk H1 locs1 ls (by rw [hset] at p1; exact p1) p3 h3)
theorem x_ialdG (C : Cx X g l cc mL own ret rm) {k n j : Nat} {i : Int32} (hk : xk k = 3) (hn : k < gn g) (hl : xlen k = n) (hi : i = nI j) (hj : j < n) (d : decode cc pc = .ok (.iaload, 1)) (kk : V X g kc ks (pc + 1) lo (.int (M k j) :: st) M) : V X g kc ks pc lo (.int i :: .ref (ga g k) :: st) M := by
  intro H locs ls h1 h2 h3
  subst hi; subst hl
  have hK := C.2.2.2.2.1
  have hle := xlen_le k
  have hat := wl_at g M hn
  rw [xe_I g (M k) hk] at hat
  refine va_iald C.1 C.2.1 hK.2.1 h1 k 0 hat rfl (vp_in_nI hj (by omega)) d ?_
  rw [nI_clamp (by omega)]
  exact kk H locs ls h1 h2 h3
theorem x_iald (C : Cx X g l cc mL own ret rm) {k n j : Nat} {i : Int32} (hk : xk k = 3) (hn : k < 29) (hl : xlen k = n) (hi : i = nI j) (hj : j < n) (d : decode cc pc = .ok (.iaload, 1)) (kk : V X g kc ks (pc + 1) lo (.int (M k j) :: st) M) : V X g kc ks pc lo (.int i :: .ref (ga g k) :: st) M := x_ialdG C hk (C.lt hn) hl hi hj d kk
theorem x_iastG (C : Cx X g l cc mL own ret rm) {k n j : Nat} {i v : Int32} (hk : xk k = 3) (hn : k < gn g) (hl : xlen k = n) (hi : i = nI j) (hj : j < n) (d : decode cc pc = .ok (.iastore, 1)) (kk : V X g kc ks (pc + 1) lo st (wr M k j v)) : V X g kc ks pc lo (.int v :: .int i :: .ref (ga g k) :: st) M := by
  intro H locs ls h1 h2 h3
  subst hi; subst hl
  have hK := C.2.2.2.2.1
  have hle := xlen_le k
  have hat := wl_at g M hn
  rw [xe_I g (M k) hk] at hat
  refine va_iast C.1 C.2.1 hK.2.1 h1 (C.D M) h2 k 0 hat rfl (vp_in_nI hj (by omega)) d (fun H1 locs1 p1 _ p3 => ?_)
  rw [nI_clamp (by omega), wl_set g M (upd (M k) j v) (xe_I g _ hk).symm] at p1
  exact kk H1 locs1 ls p1 p3 h3
theorem x_iast (C : Cx X g l cc mL own ret rm) {k n j : Nat} {i v : Int32} (hk : xk k = 3) (hn : k < 29) (hl : xlen k = n) (hi : i = nI j) (hj : j < n) (d : decode cc pc = .ok (.iastore, 1)) (kk : V X g kc ks (pc + 1) lo st (wr M k j v)) : V X g kc ks pc lo (.int v :: .int i :: .ref (ga g k) :: st) M := x_iastG C hk (C.lt hn) hl hi hj d kk
theorem x_alen (C : Cx X g l cc mL own ret rm) {k n : Nat} (hk : xk k = 3) (hn : k < gn g) (hl : xlen k = n) (d : decode cc pc = .ok (.arraylength, 1)) (kk : V X g kc ks (pc + 1) lo (.int (nI n) :: st) M) : V X g kc ks pc lo (.ref (ga g k) :: st) M := by
  intro H locs ls h1 h2 h3
  subst hl
  have hK := C.2.2.2.2.1
  have hat := wl_at g M hn
  rw [xe_I g (M k) hk] at hat
  exact va_alen C.1 C.2.1 hK.2.1 h1 k 0 hat rfl rfl d (kk H locs ls h1 h2 h3)
/-- a row's first n places out of another -/
def cpn (f h : Nat → Int32) (n : Nat) : Nat → Int32 := fun j => if j < n then f j else h j
theorem x_acopy (C : Cx X g l cc mL own ret rm) {idx a b i : Nat} {n : Int32} {N : Nat} (hl : lw_tbl[i]? = some (.methodLink own idx arraycopyName)) (hk1 : xk a = 3) (hk2 : xk b = 3) (hn1 : a < 29) (hn2 : b < 29) (hN : xlen a = N) (hN2 : xlen b = N) (hi : n = nI N) (hR : 1 ≤ rm.frames ∧ (st.map fun v => v.category).sum + (nativeFrameWords "java/lang/System" "arraycopy" 5 + 11) ≤ rm.locals) (d : decode cc pc = .ok (.invokestatic idx, 3)) (kk : V X g kc ks (pc + 3) lo st (wrc M b (cpn (M a) (M b) N))) : V X g kc ks pc lo (.int n :: .int 0 :: .ref (ga g b) :: .int 0 :: .ref (ga g a) :: st) M := by
  intro H locs ls h1 h2 h3
  subst hi
  have hK := C.2.2.2.2.1
  have hle := xlen_le a
  have hat := wl_at g M (C.lt hn1)
  rw [xe_I g (M a) hk1, hN] at hat
  have hbt := wl_at g M (C.lt hn2)
  rw [xe_I g (M b) hk2, hN2] at hbt
  have hc : (nI N).toNatClampNeg = N := nI_clamp (by omega)
  have hn0 : ¬ nI N < 0 := nI_pos (by omega)
  have w1 : (Cond.native arraycopyName) ∈ lw_tbl := by decide +kernel
  have w2 : (Cond.static arraycopyName) ∈ lw_tbl := by decide +kernel
  have w3 : (Cond.initialized "java/lang/System") ∈ lw_tbl := by decide +kernel
  have hR' := C.2.2.2.2.2.2.2.2.1
  refine va_copyi C.1 C.2.1 h3.1.symm C.2.2.2.1 (C.w hl rfl) (C.wm w1 rfl) (C.wm w2 rfl) (C.wm w3 rfl) hK.2.1 h1 (C.D M) h2 a b 0 0 (ty := .int) hat hbt rfl rfl rfl (sp := 0) (dp := 0) (n := nI N) (by decide) (by decide) hn0 ?_ ?_ (fun i _ => rfl) (by rw [hR']; exact hR.1) (by rw [hR']; exact hR.2) d (fun H1 locs1 p1 _ p3 => ?_)
  · rw [hc]; exact Nat.le_of_eq (Nat.zero_add N)
  · rw [hc]; exact Nat.le_of_eq (Nat.zero_add N)
  have e : (Sum.inl (gI g, N, Sum.inl (va_cpy (M a) (M b) (0 : Int32).toNatClampNeg (0 : Int32).toNatClampNeg (nI N).toNatClampNeg)) : va_E) = xe g (cpn (M a) (M b) N) b := by
    rw [xe_I g _ hk2, hc, hN2]
    congr 4
    funext q
    unfold va_cpy cpn
    show (if 0 ≤ q ∧ q < 0 + N then M a (0 + (q - 0)) else M b q) = _
    by_cases hq : q < N
    · rw [if_pos ⟨Nat.zero_le q, by omega⟩, if_pos hq, Nat.zero_add, Nat.sub_zero]
    · rw [if_neg (fun z => hq (by omega)), if_neg hq]
  rw [wl_set g M _ e] at p1
  exact kk H1 locs1 ls p1 p3 h3
theorem x_max (C : Cx X g l cc mL own ret rm) {idx i : Nat} {x y : Int32} (hl : lw_tbl[i]? = some (.methodLink own idx Lib.Math.max.name)) (hR : 1 ≤ rm.frames ∧ (st.map fun v => v.category).sum + 13 ≤ rm.locals ∧ kc ≤ rm.cells ∧ ks ≤ rm.slots) (d : decode cc pc = .ok (.invokestatic idx, 3)) (kk : V X g kc ks (pc + 3) lo (.int (if x < y then y else x) :: st) M) : V X g kc ks pc lo (.int y :: .int x :: st) M := by
  intro H locs ls h1 h2 h3
  have w1 : (Cond.static Lib.Math.max.name) ∈ lw_tbl := by decide +kernel
  have w2 : (Cond.initialized "java/lang/Math") ∈ lw_tbl := by decide +kernel
  have w3 : (Cond.code Lib.Math.max.name Lib.Math.max.code 2 (some .int)) ∈ lw_tbl := by decide +kernel
  have hR' := C.2.2.2.2.2.2.2.2.1
  exact va_mmax C.1 C.2.1 h3.1.symm C.2.2.2.1 (C.w hl rfl) (C.wm w1 rfl) (C.wm w2 rfl) (C.wm w3 rfl) (by rw [hR']; exact hR.1) (by rw [hR']; exact hR.2.1) (by rw [hR']; exact hR.2.2.1) (by rw [hR']; exact hR.2.2.2) d (kk H locs ls h1 h2 h3)
end RULES2
end
section
/-! Contracts, calls, ends. -/
def QC (g : GT) (res : Option Value) (M' : Mem) : Array Value → State → Outcome → State → Prop := fun _ st oc t => (oc = .returned res ∧ Hd g M' t.heap) ∧ va_F (gA g) st t
def PC (g : GT) (M : Mem) (as : List Value) : Array Value → State → Prop := va_Pc as (fun U => GK g U ∧ GH g U U.heap ∧ Hd g M U.heap)
/-- from the memory M, with these arguments, the method returns res, the memory is M' -/
def CM (l : Launch) (y : MethodName) (bs : ByteArray) (mL : Nat) (ret : Option FieldType) (rm : Room) (g : GT) (M : Mem) (as : List Value) (res : Option Value) (M' : Mem) : Prop :=
  Met l y [.code y bs mL ret] rm (PC g M as) (QC g res M') rm.cells rm.slots (gA g)
/-- .. it throws an E, the memory stays -/
def QX (g : GT) (M : Mem) (E : String) : String → State → State → Prop := fun E' st t => E' = E ∧ Hd g M t.heap ∧ va_F (gA g) st t
def QN : Array Value → State → Outcome → State → Prop := fun _ _ _ _ => False
def CE (l : Launch) (y : MethodName) (bs : ByteArray) (mL : Nat) (ret : Option FieldType) (rm : Room) (g : GT) (M : Mem) (as : List Value) (E : String) : Prop :=
  vx_Met l y [.code y bs mL ret] rm (PC g M as) QN (QX g M E) rm.cells rm.slots (gA g)
def Rt (X : XT) (g : GT) (rm : Room) (res : Option Value) (M' : Mem) : Prop := xQ X = MQ (xB X) (QC g res M') (xA X) (xS X) rm.cells rm.slots (gA g)
def Re (X : XT) (g : GT) (rm : Room) (M : Mem) (E : String) : Prop := xQ X = vx_MQ (xB X) QN (QX g M E) (xA X) (xS X) rm.cells rm.slots (gA g) ∧ ∀ x ∈ (xC X).exceptionTable.toList, False
theorem CM.of {l : Launch} {y : MethodName} {bs : ByteArray} {mL : Nat} {ret : Option FieldType} {rm : Room} {g : GT} {M : Mem} {as : List Value} {res : Option Value} {M' : Mem} (hy : plainName y.cls = true) (hf : (lg_sl as).length ≤ mL)
    (h : ∀ X : XT, Cx X g l bs mL y.cls ret rm → Rt X g rm res M' → V X g 0 0 0 (lv_args 0 as) [] M) : CM l y bs mL ret rm g M as res M' := by
  refine Met.ofW (cc := bs) (maxL := mL) (ret := ret) hy rfl ?_
  intro p e s m args below meth c s₁ B hml hv
  obtain ⟨rfl, hK, hH, hP⟩ := hv
  have k := h (p, l, e, rm, s, m, as.toArray, below, meth, c, MQ below (QC g res M') as.toArray s rm.cells rm.slots (gA g)) ⟨B.exec, B.bytes, hml, findClass_of_methodNamed B.named, hK, hH, B.notSynchronized, B.returns, rfl, rfl⟩ rfl
  have hl := lv_entry as (n := mL) hf
  rw [lg_entry_eq]
  exact k s.heap [] _ hP va_S.rf (by rw [show (xC (p, l, e, rm, s, m, as.toArray, below, meth, c, MQ below (QC g res M') as.toArray s rm.cells rm.slots (gA g))).maxLocals = mL from hml]; exact hl)
theorem CE.of {l : Launch} {y : MethodName} {bs : ByteArray} {mL : Nat} {ret : Option FieldType} {rm : Room} {g : GT} {M : Mem} {as : List Value} {E : String} (hy : plainName y.cls = true) (hf : (lg_sl as).length ≤ mL)
    (h : ∀ X : XT, Cx X g l bs mL y.cls ret rm → Re X g rm M E → V X g 0 0 0 (lv_args 0 as) [] M) : CE l y bs mL ret rm g M as E := by
  refine vx_ofW (cc := bs) (maxL := mL) (ret := ret) hy rfl ?_
  intro p e s m args below meth c s₁ B hml ht hv
  obtain ⟨rfl, hK, hH, hP⟩ := hv
  have k := h (p, l, e, rm, s, m, as.toArray, below, meth, c, vx_MQ below QN (QX g M E) as.toArray s rm.cells rm.slots (gA g)) ⟨B.exec, B.bytes, hml, findClass_of_methodNamed B.named, hK, hH, B.notSynchronized, B.returns, rfl, rfl⟩ ⟨rfl, ht⟩
  have hl := lv_entry as (n := mL) hf
  rw [lg_entry_eq]
  exact k s.heap [] _ hP va_S.rf (by rw [show (xC (p, l, e, rm, s, m, as.toArray, below, meth, c, vx_MQ below QN (QX g M E) as.toArray s rm.cells rm.slots (gA g))).maxLocals = mL from hml]; exact hl)
/-- entries of the pool that name a method; kind: 0 static, 1 virtual, 2 static of a nest mate, 3 private of a nest mate -/
def hdN (y : MethodName) (n : Nat) : Prop := y.cls ≠ "java/lang/invoke/MethodHandle" ∧ y.cls ≠ "java/lang/invoke/VarHandle" ∧ (parseMethodDescriptor y.desc).map (fun d => d.parameters.length) = some n
def CD (y : MethodName) (bs : ByteArray) (mL : Nat) (ret : Option FieldType) (n : Nat) : Prop := (∃ i : Nat, lw_tbl[i]? = some (.code y bs mL ret)) ∧ (Cond.initialized y.cls) ∈ lw_tbl ∧ hdN y n
def KS (own : String) (idx : Nat) (y : MethodName) : Prop := (∃ i : Nat, lw_tbl[i]? = some (.methodLink own idx y)) ∧ ∃ i : Nat, lw_tbl[i]? = some (.static y)
def KSN (own : String) (idx : Nat) (y : MethodName) : Prop := (∃ (i : Nat) (h : String), lw_tbl[i]? = some (.methodLinkNest own idx y h)) ∧ ∃ i : Nat, lw_tbl[i]? = some (.static y)
def KV (own : String) (idx : Nat) (y : MethodName) : Prop := (∃ i : Nat, lw_tbl[i]? = some (.methodLink own idx y)) ∧ (∃ i : Nat, lw_tbl[i]? = some (.instanceMethod y)) ∧ ∃ i : Nat, lw_tbl[i]? = some (.selects y.cls y y)
def KVN (own : String) (idx : Nat) (y : MethodName) : Prop := (∃ (i : Nat) (h : String), lw_tbl[i]? = some (.methodLinkNest own idx y h)) ∧ (∃ i : Nat, lw_tbl[i]? = some (.instanceMethod y)) ∧ ∃ i : Nat, lw_tbl[i]? = some (.selects y.cls y y)
section RULES3
variable {X : XT} {g : GT} {l : Launch} {cc : ByteArray} {mL : Nat} {own : String} {ret : Option FieldType} {rm : Room} {kc ks pc : Nat} {lo lo' : List (Nat × Value)} {st st0 : List Value} {M M' : Mem}
variable {y : MethodName} {bs' : ByteArray} {mL' n idx k : Nat} {ret' : Option FieldType} {rm' : Room} {as : List Value} {res : Option Value}
theorem code_good (y : MethodName) (bs : ByteArray) (mL : Nat) (ret : Option FieldType) : GoodIn [Cond.code y bs mL ret] [Cond.code y bs mL ret] := fun w h => ⟨h, by rw [List.mem_singleton.mp h]; exact Or.inl rfl⟩
theorem PC.blind : FrameBlind (PC g M as) := fun a U f mk q => ⟨q.1, GK.blind f mk a q.2.1, GH.moved (Vm.Alike.refl U.vm) q.2.2.1, q.2.2.2⟩
theorem pcAt (C : Cx X g l cc mL own ret rm) {H : Heap} {locs : List Loc} (h1 : Hd g M H) (h2 : va_S (gA g) (xS X).heap H locs) : ∀ U : State, U.heap = H → (xS X).WarmedH U.vm → PC g M as as.toArray U := by
  intro U hU hW
  refine ⟨rfl, GK.warm hW C.2.2.2.2.1, ?_, by rw [hU]; exact h1⟩
  rw [hU]
  exact (GH.moved hW.alike C.2.2.2.2.2.1).kept h2.1 h2.2.1
def Rm (rm' rm : Room) (mL' kc ks : Nat) : Prop := (rm'.frames + 1 ≤ rm.frames ∧ 8 + (mL' + 11) + rm'.locals ≤ rm.locals) ∧ kc + rm'.cells ≤ rm.cells ∧ ks + rm'.slots ≤ rm.slots
/-- what follows a run of a callee that returns -/
theorem x_ran {H : Heap} {locs : List Loc} {ls : Array Slot} {a : Array Value} (hr : va_Run (xP X) (xL X) (xE X) (xR X) (xS X) (xM X) (xA X) (xB X) (xMe X) (xC X) H locs kc ks rm'.cells rm'.slots (F0 (xM X) pc ls st0) st (QC g res M' a) (gA g)) (h2 : va_S (gA g) (xS X).heap H locs) (h3 : lv_has ls (xC X).maxLocals lo)
    (kk : V X g (kc + rm'.cells) (ks + rm'.slots) (pc + 3) lo (res.toList ++ st) M') : xW X H locs kc ks (F0 (xM X) pc ls st0) := by
  intro T hT Xs
  obtain ⟨v, st₀, t, T', L, h0, X', hL, e1, e2, ⟨⟨hv, hP⟩, hz, hk⟩, hgo⟩ := hr T hT Xs
  cases hv
  rw [h0] at hz hk
  have h2' : va_S (gA g) (xS X).heap T'.heap (locs ++ L) := ⟨Nat.le_trans h2.1 (by rw [e1]; exact hz), fun q a1 a2 => by rw [e1, hk q (Nat.lt_of_lt_of_le a1 h2.1) a2]; exact h2.2.1 q a1 a2, fun q hq => by
      rcases List.mem_append.mp hq with h | h
      · exact h2.2.2 q h
      · exact hL q h⟩
  obtain ⟨t2, a1, b1⟩ := kk T'.heap (locs ++ L) ls (by rw [e1]; exact hP) h2' h3 T' rfl X'
  exact ⟨t2, hgo t2 a1, b1⟩
theorem x_callS (C : Cx X g l cc mL own ret rm) (hM : CM l y bs' mL' ret' rm' g M as res M') (hc : CD y bs' mL' ret' n) (hl : KS own idx y) (hn : as.length = n) (hst : st0 = as.reverse ++ st) (hR : Rm rm' rm mL' kc ks) (hW : (st.map fun v => v.category).sum ≤ 8) (d : decode cc pc = .ok (.invokestatic idx, 3))
    (kk : V X g (kc + rm'.cells) (ks + rm'.slots) (pc + 3) lo (res.toList ++ st) M') : V X g kc ks pc lo st0 M := by
  intro H locs ls h1 h2 h3
  obtain ⟨⟨i, hcd⟩, hini, hd⟩ := hc
  obtain ⟨⟨i1, hl1⟩, i2, hl2⟩ := hl
  have hR' : xR X = rm := C.2.2.2.2.2.2.2.2.1
  have hl' : xL X = l := C.2.2.2.2.2.2.2.2.2
  subst hl'
  refine x_ran (va_runS (As := as) (rest := st) (Ts := [Cond.code y bs' mL' ret']) ⟨C.1, C.2.1, rfl, C.2.2.2.1, fun w hw => ?_⟩ hM ⟨callB_of (Ts := [Cond.code y bs' mL' ret']) n (fun w hw => ?_) (code_good y bs' mL' ret') rfl rfl rfl (C.wm hini rfl) (C.w hl1 rfl) hd (by rw [hR']; exact hR.1), C.w hl2 rfl⟩ ⟨PC.blind, pcAt C h1 h2⟩ rfl hn h3.1 hst (lv_room hW) d (by rw [hR']; exact hR.2)) h2 h3 kk
  · rw [List.mem_singleton.mp hw]; exact C.w hcd rfl
  · rw [List.mem_singleton.mp hw]; exact C.w hcd rfl
theorem x_callSN (C : Cx X g l cc mL own ret rm) (hM : CM l y bs' mL' ret' rm' g M as res M') (hc : CD y bs' mL' ret' n) (hl : KSN own idx y) (hn : as.length = n) (hst : st0 = as.reverse ++ st) (hR : Rm rm' rm mL' kc ks) (hW : (st.map fun v => v.category).sum ≤ 8) (d : decode cc pc = .ok (.invokestatic idx, 3))
    (kk : V X g (kc + rm'.cells) (ks + rm'.slots) (pc + 3) lo (res.toList ++ st) M') : V X g kc ks pc lo st0 M := by
  intro H locs ls h1 h2 h3
  obtain ⟨⟨i, hcd⟩, hini, hd⟩ := hc
  obtain ⟨⟨i1, hh, hl1⟩, i2, hl2⟩ := hl
  have hR' : xR X = rm := C.2.2.2.2.2.2.2.2.1
  have hl' : xL X = l := C.2.2.2.2.2.2.2.2.2
  subst hl'
  refine x_ran (va_runSN (As := as) (rest := st) (Ts := [Cond.code y bs' mL' ret']) ⟨C.1, C.2.1, rfl, C.2.2.2.1, fun w hw => ?_⟩ hM ⟨va_cnB (Ts := [Cond.code y bs' mL' ret']) n (fun w hw => ?_) (code_good y bs' mL' ret') rfl rfl rfl (va_Nw.of rfl (C.w hl1 rfl)) (C.wm hini rfl) hd (by rw [hR']; exact hR.1), C.w hl2 rfl, trivial⟩ ⟨PC.blind, pcAt C h1 h2⟩ rfl hn h3.1 hst (lv_room hW) d (by rw [hR']; exact hR.2)) h2 h3 kk
  · rw [List.mem_singleton.mp hw]; exact C.w hcd rfl
  · rw [List.mem_singleton.mp hw]; exact C.w hcd rfl
/-- the receiver is an object of its class -/
theorem x_recv (C : Cx X g l cc mL own ret rm) {H : Heap} (h1 : Hd g M H) {ci : Nat} {Cn : String} {T : u_T} {N : Nat} (hci : CI ci Cn T N) (hk : xk k = ci) (hn : k < 29) : ∃ cell : Cell, H[ga g k]? = some cell ∧ cell.vm.isStatics = false ∧ (xS X).vm.findClass Cn = some cell.cls := by
  have hat := wl_at g M (C.lt hn)
  rw [xe_O g (M k) hk hci.2.1] at hat
  exact va_recv C.2.2.2.2.1.2.1 h1 (ci := ci) (q0 := k) hci.1 hat
theorem x_callV (C : Cx X g l cc mL own ret rm) {ci N : Nat} {T : u_T} (hM : CM l y bs' mL' ret' rm' g M (.ref (ga g k) :: as) res M') (hc : CD y bs' mL' ret' n) (hl : KV own idx y) (hci : CI ci y.cls T N) (hk : xk k = ci) (hk2 : k < 29) (hn : as.length = n) (hst : st0 = as.reverse ++ .ref (ga g k) :: st) (hR : Rm rm' rm mL' kc ks) (hW : (st.map fun v => v.category).sum ≤ 8) (d : decode cc pc = .ok (.invokevirtual idx, 3))
    (kk : V X g (kc + rm'.cells) (ks + rm'.slots) (pc + 3) lo (res.toList ++ st) M') : V X g kc ks pc lo st0 M := by
  intro H locs ls h1 h2 h3
  obtain ⟨⟨i, hcd⟩, hini, hd⟩ := hc
  obtain ⟨⟨i1, hl1⟩, ⟨i2, hl2⟩, i3, hl3⟩ := hl
  have hR' : xR X = rm := C.2.2.2.2.2.2.2.2.1
  have hl' : xL X = l := C.2.2.2.2.2.2.2.2.2
  subst hl'
  refine x_ran (va_runV (As := as) (rest := st) (Ts := [Cond.code y bs' mL' ret']) ⟨C.1, C.2.1, rfl, C.2.2.2.1, fun w hw => ?_⟩ hM ⟨callB_of (Ts := [Cond.code y bs' mL' ret']) n (fun w hw => ?_) (code_good y bs' mL' ret') rfl rfl rfl (C.wm hini rfl) (C.w hl1 rfl) hd (by rw [hR']; exact hR.1), C.w hl2 rfl, C.w hl3 rfl⟩ ⟨PC.blind, x_recv C h1 hci hk hk2, pcAt C h1 h2⟩ rfl hn h3.1 hst (lv_room hW) d (by rw [hR']; exact hR.2)) h2 h3 kk
  · rw [List.mem_singleton.mp hw]; exact C.w hcd rfl
  · rw [List.mem_singleton.mp hw]; exact C.w hcd rfl
theorem x_callVN (C : Cx X g l cc mL own ret rm) {ci N : Nat} {T : u_T} (hM : CM l y bs' mL' ret' rm' g M (.ref (ga g k) :: as) res M') (hc : CD y bs' mL' ret' n) (hl : KVN own idx y) (hci : CI ci y.cls T N) (hk : xk k = ci) (hk2 : k < 29) (hn : as.length = n) (hst : st0 = as.reverse ++ .ref (ga g k) :: st) (hR : Rm rm' rm mL' kc ks) (hW : (st.map fun v => v.category).sum ≤ 8) (d : decode cc pc = .ok (.invokevirtual idx, 3))
    (kk : V X g (kc + rm'.cells) (ks + rm'.slots) (pc + 3) lo (res.toList ++ st) M') : V X g kc ks pc lo st0 M := by
  intro H locs ls h1 h2 h3
  obtain ⟨⟨i, hcd⟩, hini, hd⟩ := hc
  obtain ⟨⟨i1, hh, hl1⟩, ⟨i2, hl2⟩, i3, hl3⟩ := hl
  have hR' : xR X = rm := C.2.2.2.2.2.2.2.2.1
  have hl' : xL X = l := C.2.2.2.2.2.2.2.2.2
  subst hl'
  refine x_ran (va_runVN (As := as) (rest := st) (Ts := [Cond.code y bs' mL' ret']) ⟨C.1, C.2.1, rfl, C.2.2.2.1, fun w hw => ?_⟩ hM ⟨va_cnB (Ts := [Cond.code y bs' mL' ret']) n (fun w hw => ?_) (code_good y bs' mL' ret') rfl rfl rfl (va_Nw.of rfl (C.w hl1 rfl)) (C.wm hini rfl) hd (by rw [hR']; exact hR.1), C.w hl2 rfl, C.w hl3 rfl⟩ ⟨PC.blind, x_recv C h1 hci hk hk2, pcAt C h1 h2⟩ rfl hn h3.1 hst (lv_room hW) d (by rw [hR']; exact hR.2)) h2 h3 kk
  · rw [List.mem_singleton.mp hw]; exact C.w hcd rfl
  · rw [List.mem_singleton.mp hw]; exact C.w hcd rfl
/-! ends -/
theorem x_endG {H : Heap} {locs : List Loc} {v : Option Value} (h1 : Hd g M H) (h2 : va_S (gA g) (xS X).heap H locs) (hres : res = v) (hm : M' = M) : ∀ t : State, t.heap = H → (xS X).WarmedH t.vm → QC g res M' (xA X) (xS X) (.returned v) t := fun t ht _ => ⟨⟨by rw [hres], by rw [hm, ht]; exact h1⟩, h2.F ht⟩
theorem x_iret (C : Cx X g l cc mL own (some .int) rm) (hq : Rt X g rm res M') {v : Int32} (hk : kc ≤ rm.cells ∧ ks ≤ rm.slots) (d : decode cc pc = .ok (.ireturn, 1)) (hres : res = some (.int v)) (hm : M' = M) : V X g kc ks pc lo [.int v] M := by
  intro H locs ls h1 h2 h3
  show W _ _ _ _ _ _ _ _ _ _ _ _ _ _ (xQ X) _
  rw [show xQ X = _ from hq]
  exact W.widen hk.1 hk.2 (W.iret C.1 C.2.1 C.2.2.2.2.2.2.2.1 (x_endG h1 h2 hres hm) (fun q hq => h2.2.2 q hq) d C.2.2.2.2.2.2.1)
theorem x_zret (C : Cx X g l cc mL own (some .boolean) rm) (hq : Rt X g rm res M') {v : Int32} (hv : narrow .boolean (.int v) = .int v) (hk : kc ≤ rm.cells ∧ ks ≤ rm.slots) (d : decode cc pc = .ok (.ireturn, 1)) (hres : res = some (.int v)) (hm : M' = M) : V X g kc ks pc lo [.int v] M := by
  intro H locs ls h1 h2 h3
  show W _ _ _ _ _ _ _ _ _ _ _ _ _ _ (xQ X) _
  rw [show xQ X = _ from hq]
  exact W.widen hk.1 hk.2 (W.zret C.1 C.2.1 C.2.2.2.2.2.2.2.1 hv (x_endG h1 h2 hres hm) (fun q hq => h2.2.2 q hq) d C.2.2.2.2.2.2.1)
theorem x_lret (C : Cx X g l cc mL own (some .long) rm) (hq : Rt X g rm res M') {v : Int64} (hk : kc ≤ rm.cells ∧ ks ≤ rm.slots) (d : decode cc pc = .ok (.lreturn, 1)) (hres : res = some (.long v)) (hm : M' = M) : V X g kc ks pc lo [.long v] M := by
  intro H locs ls h1 h2 h3
  show W _ _ _ _ _ _ _ _ _ _ _ _ _ _ (xQ X) _
  rw [show xQ X = _ from hq]
  exact W.widen hk.1 hk.2 (W.lret C.1 C.2.1 C.2.2.2.2.2.2.2.1 (x_endG h1 h2 hres hm) (fun q hq => h2.2.2 q hq) d C.2.2.2.2.2.2.1)
theorem x_dret (C : Cx X g l cc mL own (some .double) rm) (hq : Rt X g rm res M') {v : UInt64} (hk : kc ≤ rm.cells ∧ ks ≤ rm.slots) (d : decode cc pc = .ok (.dreturn, 1)) (hres : res = some (.double v)) (hm : M' = M) : V X g kc ks pc lo [.double v] M := by
  intro H locs ls h1 h2 h3
  show W _ _ _ _ _ _ _ _ _ _ _ _ _ _ (xQ X) _
  rw [show xQ X = _ from hq]
  exact W.widen hk.1 hk.2 (W.dret C.1 C.2.1 C.2.2.2.2.2.2.2.1 (x_endG h1 h2 hres hm) (fun q hq => h2.2.2 q hq) d C.2.2.2.2.2.2.1)
theorem x_vret (C : Cx X g l cc mL own none rm) (hq : Rt X g rm res M') (hk : kc ≤ rm.cells ∧ ks ≤ rm.slots) (d : decode cc pc = .ok (.return_, 1)) (hres : res = none) (hm : M' = M) : V X g kc ks pc lo [] M := by
  intro H locs ls h1 h2 h3
  show W _ _ _ _ _ _ _ _ _ _ _ _ _ _ (xQ X) _
  rw [show xQ X = _ from hq]
  exact W.widen hk.1 hk.2 (W.vret C.1 C.2.1 C.2.2.2.2.2.2.2.1 (x_endG h1 h2 hres hm) (fun q hq => h2.2.2 q hq) d C.2.2.2.2.2.2.1)
end RULES3
end
section
/-! The pool's entries: fields, methods, code words, constants. -/
theorem fl_L_15 : FL RL 15 2 1 := ⟨RX2, TX2, 8, ci2, by decide, rfl, Or.inl ⟨503, by decide +kernel⟩⟩
theorem fl_L_38 : FL RL 38 2 0 := ⟨RX2, TX2, 8, ci2, by decide, rfl, Or.inl ⟨501, by decide +kernel⟩⟩
theorem fl_L_50 : FL RL 50 2 2 := ⟨RX2, TX2, 8, ci2, by decide, rfl, Or.inl ⟨505, by decide +kernel⟩⟩
theorem fl_X0_9 : FL RX0 9 0 6 := ⟨RX0, TX0, 19, ci0, by decide, rfl, Or.inl ⟨64, by decide +kernel⟩⟩
theorem fl_X0_15 : FL RX0 15 0 7 := ⟨RX0, TX0, 19, ci0, by decide, rfl, Or.inl ⟨66, by decide +kernel⟩⟩
theorem fl_X0_18 : FL RX0 18 0 8 := ⟨RX0, TX0, 19, ci0, by decide, rfl, Or.inl ⟨68, by decide +kernel⟩⟩
theorem fl_X0_21 : FL RX0 21 0 9 := ⟨RX0, TX0, 19, ci0, by decide, rfl, Or.inl ⟨70, by decide +kernel⟩⟩
theorem fl_X0_24 : FL RX0 24 0 10 := ⟨RX0, TX0, 19, ci0, by decide, rfl, Or.inl ⟨72, by decide +kernel⟩⟩
theorem fl_X0_27 : FL RX0 27 0 11 := ⟨RX0, TX0, 19, ci0, by decide, rfl, Or.inl ⟨74, by decide +kernel⟩⟩
theorem fl_X0_30 : FL RX0 30 0 12 := ⟨RX0, TX0, 19, ci0, by decide, rfl, Or.inl ⟨75, by decide +kernel⟩⟩
theorem fl_X0_33 : FL RX0 33 0 13 := ⟨RX0, TX0, 19, ci0, by decide, rfl, Or.inl ⟨77, by decide +kernel⟩⟩
theorem fl_X0_36 : FL RX0 36 0 14 := ⟨RX0, TX0, 19, ci0, by decide, rfl, Or.inl ⟨79, by decide +kernel⟩⟩
theorem fl_X0_39 : FL RX0 39 0 15 := ⟨RX0, TX0, 19, ci0, by decide, rfl, Or.inl ⟨81, by decide +kernel⟩⟩
theorem fl_X0_42 : FL RX0 42 0 16 := ⟨RX0, TX0, 19, ci0, by decide, rfl, Or.inl ⟨83, by decide +kernel⟩⟩
theorem fl_X0_45 : FL RX0 45 0 17 := ⟨RX0, TX0, 19, ci0, by decide, rfl, Or.inl ⟨85, by decide +kernel⟩⟩
theorem fl_X0_48 : FL RX0 48 0 18 := ⟨RX0, TX0, 19, ci0, by decide, rfl, Or.inl ⟨87, by decide +kernel⟩⟩
theorem fl_X0_57 : FLI RX0 57 0 0 := ⟨RX0, TX0, 19, ci0, by decide, rfl, Or.inl ⟨52, by decide +kernel⟩, rfl, by decide +kernel⟩
theorem fl_X0_61 : FLI RX0 61 0 1 := ⟨RX0, TX0, 19, ci0, by decide, rfl, Or.inl ⟨54, by decide +kernel⟩, rfl, by decide +kernel⟩
theorem fl_X0_64 : FLI RX0 64 0 2 := ⟨RX0, TX0, 19, ci0, by decide, rfl, Or.inl ⟨56, by decide +kernel⟩, rfl, by decide +kernel⟩
theorem fl_X0_67 : FLI RX0 67 0 3 := ⟨RX0, TX0, 19, ci0, by decide, rfl, Or.inl ⟨58, by decide +kernel⟩, rfl, by decide +kernel⟩
theorem fl_X0_70 : FLI RX0 70 0 4 := ⟨RX0, TX0, 19, ci0, by decide, rfl, Or.inl ⟨60, by decide +kernel⟩, rfl, by decide +kernel⟩
theorem fl_X0_73 : FLI RX0 73 0 5 := ⟨RX0, TX0, 19, ci0, by decide, rfl, Or.inl ⟨62, by decide +kernel⟩, rfl, by decide +kernel⟩
theorem fl_X1_10 : FL RX1 10 1 0 := ⟨RX1, TX1, 2, ci1, by decide, rfl, Or.inl ⟨129, by decide +kernel⟩⟩
theorem fl_X1_16 : FL RX1 16 1 1 := ⟨RX1, TX1, 2, ci1, by decide, rfl, Or.inl ⟨130, by decide +kernel⟩⟩
theorem fl_X1_33 : FLI RX1 33 0 1 := ⟨RX0, TX0, 19, ci0, by decide, rfl, Or.inr ⟨55, _, (by decide +kernel : lw_tbl[55]? = some (.fieldLinkNest RX1 33 RX0 (TX0 1).2.1 (TX0 1).2.2.1 RX1))⟩, rfl, by decide +kernel⟩
theorem fl_X1_37 : FL RX1 37 0 7 := ⟨RX0, TX0, 19, ci0, by decide, rfl, Or.inr ⟨67, _, (by decide +kernel : lw_tbl[67]? = some (.fieldLinkNest RX1 37 RX0 (TX0 7).2.1 (TX0 7).2.2.1 RX1))⟩⟩
theorem fl_X1_53 : FL RX1 53 0 10 := ⟨RX0, TX0, 19, ci0, by decide, rfl, Or.inr ⟨73, _, (by decide +kernel : lw_tbl[73]? = some (.fieldLinkNest RX1 53 RX0 (TX0 10).2.1 (TX0 10).2.2.1 RX1))⟩⟩
theorem fl_X1_62 : FL RX1 62 0 6 := ⟨RX0, TX0, 19, ci0, by decide, rfl, Or.inr ⟨65, _, (by decide +kernel : lw_tbl[65]? = some (.fieldLinkNest RX1 62 RX0 (TX0 6).2.1 (TX0 6).2.2.1 RX1))⟩⟩
theorem fl_X1_68 : FLI RX1 68 0 2 := ⟨RX0, TX0, 19, ci0, by decide, rfl, Or.inr ⟨57, _, (by decide +kernel : lw_tbl[57]? = some (.fieldLinkNest RX1 68 RX0 (TX0 2).2.1 (TX0 2).2.2.1 RX1))⟩, rfl, by decide +kernel⟩
theorem fl_X1_71 : FLI RX1 71 0 3 := ⟨RX0, TX0, 19, ci0, by decide, rfl, Or.inr ⟨59, _, (by decide +kernel : lw_tbl[59]? = some (.fieldLinkNest RX1 71 RX0 (TX0 3).2.1 (TX0 3).2.2.1 RX1))⟩, rfl, by decide +kernel⟩
theorem fl_X1_76 : FL RX1 76 0 8 := ⟨RX0, TX0, 19, ci0, by decide, rfl, Or.inr ⟨69, _, (by decide +kernel : lw_tbl[69]? = some (.fieldLinkNest RX1 76 RX0 (TX0 8).2.1 (TX0 8).2.2.1 RX1))⟩⟩
theorem fl_X1_88 : FL RX1 88 0 13 := ⟨RX0, TX0, 19, ci0, by decide, rfl, Or.inr ⟨78, _, (by decide +kernel : lw_tbl[78]? = some (.fieldLinkNest RX1 88 RX0 (TX0 13).2.1 (TX0 13).2.2.1 RX1))⟩⟩
theorem fl_X1_94 : FLI RX1 94 0 0 := ⟨RX0, TX0, 19, ci0, by decide, rfl, Or.inr ⟨53, _, (by decide +kernel : lw_tbl[53]? = some (.fieldLinkNest RX1 94 RX0 (TX0 0).2.1 (TX0 0).2.2.1 RX1))⟩, rfl, by decide +kernel⟩
theorem fl_X1_97 : FLI RX1 97 0 4 := ⟨RX0, TX0, 19, ci0, by decide, rfl, Or.inr ⟨61, _, (by decide +kernel : lw_tbl[61]? = some (.fieldLinkNest RX1 97 RX0 (TX0 4).2.1 (TX0 4).2.2.1 RX1))⟩, rfl, by decide +kernel⟩
theorem fl_X1_103 : FL RX1 103 0 9 := ⟨RX0, TX0, 19, ci0, by decide, rfl, Or.inr ⟨71, _, (by decide +kernel : lw_tbl[71]? = some (.fieldLinkNest RX1 103 RX0 (TX0 9).2.1 (TX0 9).2.2.1 RX1))⟩⟩
theorem fl_X1_106 : FL RX1 106 0 12 := ⟨RX0, TX0, 19, ci0, by decide, rfl, Or.inr ⟨76, _, (by decide +kernel : lw_tbl[76]? = some (.fieldLinkNest RX1 106 RX0 (TX0 12).2.1 (TX0 12).2.2.1 RX1))⟩⟩
theorem fl_X1_109 : FL RX1 109 0 14 := ⟨RX0, TX0, 19, ci0, by decide, rfl, Or.inr ⟨80, _, (by decide +kernel : lw_tbl[80]? = some (.fieldLinkNest RX1 109 RX0 (TX0 14).2.1 (TX0 14).2.2.1 RX1))⟩⟩
theorem fl_X1_112 : FLI RX1 112 0 5 := ⟨RX0, TX0, 19, ci0, by decide, rfl, Or.inr ⟨63, _, (by decide +kernel : lw_tbl[63]? = some (.fieldLinkNest RX1 112 RX0 (TX0 5).2.1 (TX0 5).2.2.1 RX1))⟩, rfl, by decide +kernel⟩
theorem fl_X1_118 : FL RX1 118 0 15 := ⟨RX0, TX0, 19, ci0, by decide, rfl, Or.inr ⟨82, _, (by decide +kernel : lw_tbl[82]? = some (.fieldLinkNest RX1 118 RX0 (TX0 15).2.1 (TX0 15).2.2.1 RX1))⟩⟩
theorem fl_X1_121 : FL RX1 121 0 16 := ⟨RX0, TX0, 19, ci0, by decide, rfl, Or.inr ⟨84, _, (by decide +kernel : lw_tbl[84]? = some (.fieldLinkNest RX1 121 RX0 (TX0 16).2.1 (TX0 16).2.2.1 RX1))⟩⟩
theorem fl_X1_124 : FL RX1 124 0 17 := ⟨RX0, TX0, 19, ci0, by decide, rfl, Or.inr ⟨86, _, (by decide +kernel : lw_tbl[86]? = some (.fieldLinkNest RX1 124 RX0 (TX0 17).2.1 (TX0 17).2.2.1 RX1))⟩⟩
theorem fl_X1_127 : FL RX1 127 0 18 := ⟨RX0, TX0, 19, ci0, by decide, rfl, Or.inr ⟨88, _, (by decide +kernel : lw_tbl[88]? = some (.fieldLinkNest RX1 127 RX0 (TX0 18).2.1 (TX0 18).2.2.1 RX1))⟩⟩
theorem fl_X2_7 : FL RX2 7 2 0 := ⟨RX2, TX2, 8, ci2, by decide, rfl, Or.inl ⟨500, by decide +kernel⟩⟩
theorem fl_X2_14 : FL RX2 14 2 1 := ⟨RX2, TX2, 8, ci2, by decide, rfl, Or.inl ⟨502, by decide +kernel⟩⟩
theorem fl_X2_18 : FL RX2 18 2 2 := ⟨RX2, TX2, 8, ci2, by decide, rfl, Or.inl ⟨504, by decide +kernel⟩⟩
theorem fl_X2_21 : FL RX2 21 2 3 := ⟨RX2, TX2, 8, ci2, by decide, rfl, Or.inl ⟨506, by decide +kernel⟩⟩
theorem fl_X2_24 : FL RX2 24 2 4 := ⟨RX2, TX2, 8, ci2, by decide, rfl, Or.inl ⟨507, by decide +kernel⟩⟩
theorem fl_X2_32 : FLI RX2 32 2 5 := ⟨RX2, TX2, 8, ci2, by decide, rfl, Or.inl ⟨508, by decide +kernel⟩, rfl, by decide +kernel⟩
theorem fl_X2_36 : FLI RX2 36 2 6 := ⟨RX2, TX2, 8, ci2, by decide, rfl, Or.inl ⟨509, by decide +kernel⟩, rfl, by decide +kernel⟩
theorem fl_X2_39 : FLI RX2 39 2 7 := ⟨RX2, TX2, 8, ci2, by decide, rfl, Or.inl ⟨510, by decide +kernel⟩, rfl, by decide +kernel⟩
theorem kl_L_9 : KS RL 9 yL_below := ⟨⟨567, by decide +kernel⟩, ⟨568, by decide +kernel⟩⟩
theorem kl_L_21 : KV RL 21 yX2_wallOn := ⟨⟨579, by decide +kernel⟩, ⟨472, by decide +kernel⟩, ⟨473, by decide +kernel⟩⟩
theorem kl_L_25 : KS RL 25 yX2_with := ⟨⟨580, by decide +kernel⟩, ⟨581, by decide +kernel⟩⟩
theorem kl_L_29 : KV RL 29 yX1_addWall := ⟨⟨583, by decide +kernel⟩, ⟨584, by decide +kernel⟩, ⟨585, by decide +kernel⟩⟩
theorem kl_L_35 : KV RL 35 yX1_hand := ⟨⟨608, by decide +kernel⟩, ⟨609, by decide +kernel⟩, ⟨610, by decide +kernel⟩⟩
theorem kl_L_47 : KV RL 47 yX1_setSnow := ⟨⟨615, by decide +kernel⟩, ⟨616, by decide +kernel⟩, ⟨617, by decide +kernel⟩⟩
theorem kl_L_53 : KV RL 53 yX2_underWay := ⟨⟨620, by decide +kernel⟩, ⟨558, by decide +kernel⟩, ⟨559, by decide +kernel⟩⟩
theorem kl_L_57 : KV RL 57 yX2_loudestOn := ⟨⟨621, by decide +kernel⟩, ⟨476, by decide +kernel⟩, ⟨477, by decide +kernel⟩⟩
theorem kl_L_60 : KV RL 60 yX1_shout := ⟨⟨622, by decide +kernel⟩, ⟨623, by decide +kernel⟩, ⟨624, by decide +kernel⟩⟩
theorem kl_L_64 : KV RL 64 yX1_pass := ⟨⟨136, by decide +kernel⟩, ⟨137, by decide +kernel⟩, ⟨138, by decide +kernel⟩⟩
theorem kl_L_67 : KV RL 67 yX2_pass_ := ⟨⟨629, by decide +kernel⟩, ⟨630, by decide +kernel⟩, ⟨631, by decide +kernel⟩⟩
theorem kl_L_71 : KS RL 71 yL_cell := ⟨⟨571, by decide +kernel⟩, ⟨572, by decide +kernel⟩⟩
theorem kl_L_75 : KS RL 75 yL_act := ⟨⟨575, by decide +kernel⟩, ⟨576, by decide +kernel⟩⟩
theorem kl_L_80 : KS RL 80 yL_build := ⟨⟨633, by decide +kernel⟩, ⟨634, by decide +kernel⟩⟩
theorem kl_L_84 : KV RL 84 yX1_digest := ⟨⟨406, by decide +kernel⟩, ⟨407, by decide +kernel⟩, ⟨408, by decide +kernel⟩⟩
theorem kl_L_88 : KV RL 88 yX1_shouts := ⟨⟨253, by decide +kernel⟩, ⟨254, by decide +kernel⟩, ⟨255, by decide +kernel⟩⟩
theorem kl_L_90 : KV RL 90 yX1_walls := ⟨⟨249, by decide +kernel⟩, ⟨250, by decide +kernel⟩, ⟨251, by decide +kernel⟩⟩
theorem kl_L_92 : KV RL 92 yX1_loudnessOf := ⟨⟨334, by decide +kernel⟩, ⟨335, by decide +kernel⟩, ⟨336, by decide +kernel⟩⟩
theorem kl_L_95 : KV RL 95 yX1_placeOf := ⟨⟨343, by decide +kernel⟩, ⟨344, by decide +kernel⟩, ⟨345, by decide +kernel⟩⟩
theorem kl_L_98 : KV RL 98 yX1_turnsOf := ⟨⟨351, by decide +kernel⟩, ⟨352, by decide +kernel⟩, ⟨353, by decide +kernel⟩⟩
theorem kl_L_101 : KV RL 101 yX1_goesRight := ⟨⟨347, by decide +kernel⟩, ⟨348, by decide +kernel⟩, ⟨349, by decide +kernel⟩⟩
theorem kl_L_105 : KV RL 105 yX1_beatsUntilGone := ⟨⟨355, by decide +kernel⟩, ⟨356, by decide +kernel⟩, ⟨357, by decide +kernel⟩⟩
theorem kl_L_108 : KV RL 108 yX1_beatsUntilQuiet := ⟨⟨366, by decide +kernel⟩, ⟨367, by decide +kernel⟩, ⟨368, by decide +kernel⟩⟩
theorem kl_L_111 : KV RL 111 yX1_loudOn := ⟨⟨289, by decide +kernel⟩, ⟨290, by decide +kernel⟩, ⟨291, by decide +kernel⟩⟩
theorem kl_L_114 : KV RL 114 yX1_thrownBack := ⟨⟨310, by decide +kernel⟩, ⟨311, by decide +kernel⟩, ⟨312, by decide +kernel⟩⟩
theorem kl_L_117 : KV RL 117 yX1_stoneOf := ⟨⟨297, by decide +kernel⟩, ⟨298, by decide +kernel⟩, ⟨299, by decide +kernel⟩⟩
theorem kl_L_120 : KV RL 120 yX1_wallOn := ⟨⟨265, by decide +kernel⟩, ⟨266, by decide +kernel⟩, ⟨267, by decide +kernel⟩⟩
theorem kl_L_121 : KV RL 121 yX1_underWay := ⟨⟨257, by decide +kernel⟩, ⟨258, by decide +kernel⟩, ⟨259, by decide +kernel⟩⟩
theorem kl_L_122 : KV RL 122 yX1_coinsOf := ⟨⟨314, by decide +kernel⟩, ⟨315, by decide +kernel⟩, ⟨316, by decide +kernel⟩⟩
theorem kl_L_125 : KV RL 125 yX1_wallsOf := ⟨⟨322, by decide +kernel⟩, ⟨323, by decide +kernel⟩, ⟨324, by decide +kernel⟩⟩
theorem kl_L_128 : KV RL 128 yX1_silentFor := ⟨⟨326, by decide +kernel⟩, ⟨327, by decide +kernel⟩, ⟨328, by decide +kernel⟩⟩
theorem kl_L_131 : KV RL 131 yX1_loudnessWanted := ⟨⟨381, by decide +kernel⟩, ⟨382, by decide +kernel⟩, ⟨383, by decide +kernel⟩⟩
theorem kl_L_134 : KS RL 134 yL_comes := ⟨⟨638, by decide +kernel⟩, ⟨639, by decide +kernel⟩⟩
theorem kl_L_138 : KV RL 138 yX1_bestStone := ⟨⟨394, by decide +kernel⟩, ⟨395, by decide +kernel⟩, ⟨396, by decide +kernel⟩⟩
theorem kl_L_141 : KV RL 141 yX2_turns := ⟨⟨480, by decide +kernel⟩, ⟨481, by decide +kernel⟩, ⟨482, by decide +kernel⟩⟩
theorem kl_L_144 : KV RL 144 yX1_coinsIn := ⟨⟨370, by decide +kernel⟩, ⟨371, by decide +kernel⟩, ⟨372, by decide +kernel⟩⟩
theorem kl_L_147 : KV RL 147 yX1_loudestOn := ⟨⟨374, by decide +kernel⟩, ⟨375, by decide +kernel⟩, ⟨376, by decide +kernel⟩⟩
theorem kl_L_149 : KV RL 149 yX1_ownerOf := ⟨⟨306, by decide +kernel⟩, ⟨307, by decide +kernel⟩, ⟨308, by decide +kernel⟩⟩
theorem kl_L_152 : KV RL 152 yX1_overlaps := ⟨⟨261, by decide +kernel⟩, ⟨262, by decide +kernel⟩, ⟨263, by decide +kernel⟩⟩
theorem kl_L_155 : KV RL 155 yX1_inherited := ⟨⟨330, by decide +kernel⟩, ⟨331, by decide +kernel⟩, ⟨332, by decide +kernel⟩⟩
theorem kl_L_158 : KV RL 158 yX2_pass := ⟨⟨466, by decide +kernel⟩, ⟨467, by decide +kernel⟩, ⟨468, by decide +kernel⟩⟩
theorem kl_L_165 : KV RL 165 yX2_isSame := ⟨⟨535, by decide +kernel⟩, ⟨536, by decide +kernel⟩, ⟨537, by decide +kernel⟩⟩
theorem kl_L_169 : KV RL 169 yX2_alone := ⟨⟨641, by decide +kernel⟩, ⟨485, by decide +kernel⟩, ⟨486, by decide +kernel⟩⟩
theorem kl_X0_51 : KS RX0 51 yJ7_fill_53178 := ⟨⟨49, by decide +kernel⟩, ⟨50, by decide +kernel⟩⟩
theorem kl_X0_82 : KV RX0 82 yX0_start := ⟨⟨389, by decide +kernel⟩, ⟨391, by decide +kernel⟩, ⟨14, by decide +kernel⟩⟩
theorem kl_X0_86 : KV RX0 86 yX0_move := ⟨⟨215, by decide +kernel⟩, ⟨217, by decide +kernel⟩, ⟨2, by decide +kernel⟩⟩
theorem kl_X0_90 : KV RX0 90 yX0_meet := ⟨⟨230, by decide +kernel⟩, ⟨232, by decide +kernel⟩, ⟨5, by decide +kernel⟩⟩
theorem kl_X0_93 : KV RX0 93 yX0_listen := ⟨⟨238, by decide +kernel⟩, ⟨240, by decide +kernel⟩, ⟨7, by decide +kernel⟩⟩
theorem kl_X0_97 : KSN RX0 97 yX1_isStone := ⟨⟨219, _, (by decide +kernel : lw_tbl[219]? = some (.methodLinkNest RX0 97 yX1_isStone RX1))⟩, ⟨220, by decide +kernel⟩⟩
theorem kl_X0_101 : KV RX0 101 yX0_hush := ⟨⟨222, by decide +kernel⟩, ⟨224, by decide +kernel⟩, ⟨3, by decide +kernel⟩⟩
theorem kl_X0_104 : KV RX0 104 yX0_turnAt := ⟨⟨226, by decide +kernel⟩, ⟨228, by decide +kernel⟩, ⟨4, by decide +kernel⟩⟩
theorem kl_X0_108 : KV RX0 108 yX0_settle := ⟨⟨234, by decide +kernel⟩, ⟨236, by decide +kernel⟩, ⟨6, by decide +kernel⟩⟩
theorem kl_X0_111 : KV RX0 111 yX0_loseWall := ⟨⟨242, by decide +kernel⟩, ⟨244, by decide +kernel⟩, ⟨8, by decide +kernel⟩⟩
theorem kl_X0_114 : KSN RX0 114 yX1_otherEcho := ⟨⟨246, _, (by decide +kernel : lw_tbl[246]? = some (.methodLinkNest RX0 114 yX1_otherEcho RX1))⟩, ⟨247, by decide +kernel⟩⟩
theorem kl_X1_19 : KS RX1 19 yX1_needStone := ⟨⟨269, by decide +kernel⟩, ⟨270, by decide +kernel⟩⟩
theorem kl_X1_23 : KS RX1 23 yX1_needEcho := ⟨⟨318, by decide +kernel⟩, ⟨319, by decide +kernel⟩⟩
theorem kl_X1_46 : KVN RX1 46 yX0_build := ⟨⟨604, _, (by decide +kernel : lw_tbl[604]? = some (.methodLinkNest RX1 46 yX0_build RX1))⟩, ⟨606, by decide +kernel⟩, ⟨21, by decide +kernel⟩⟩
theorem kl_X1_50 : KV RX1 50 yX1_needWall := ⟨⟨301, by decide +kernel⟩, ⟨303, by decide +kernel⟩, ⟨10, by decide +kernel⟩⟩
theorem kl_X1_56 : KS RX1 56 yX1_otherEcho := ⟨⟨612, by decide +kernel⟩, ⟨247, by decide +kernel⟩⟩
theorem kl_X1_65 : KS RX1 65 yX1_needLoud := ⟨⟨398, by decide +kernel⟩, ⟨399, by decide +kernel⟩⟩
theorem kl_X1_81 : KVN RX1 81 yX0_start := ⟨⟨628, _, (by decide +kernel : lw_tbl[628]? = some (.methodLinkNest RX1 81 yX0_start RX1))⟩, ⟨391, by decide +kernel⟩, ⟨14, by decide +kernel⟩⟩
theorem kl_X1_85 : KS RX1 85 yX1_needBeats := ⟨⟨140, by decide +kernel⟩, ⟨141, by decide +kernel⟩⟩
theorem kl_X1_91 : KVN RX1 91 yX0_goOn := ⟨⟨211, _, (by decide +kernel : lw_tbl[211]? = some (.methodLinkNest RX1 91 yX0_goOn RX1))⟩, ⟨213, by decide +kernel⟩, ⟨1, by decide +kernel⟩⟩
theorem kl_X1_100 : KVN RX1 100 yX0_loudAt := ⟨⟨293, _, (by decide +kernel : lw_tbl[293]? = some (.methodLinkNest RX1 100 yX0_loudAt RX1))⟩, ⟨295, by decide +kernel⟩, ⟨9, by decide +kernel⟩⟩
theorem kl_X1_115 : KV RX1 115 yX1_needShout := ⟨⟨338, by decide +kernel⟩, ⟨340, by decide +kernel⟩, ⟨11, by decide +kernel⟩⟩
theorem kl_X1_130 : KVN RX1 130 yX0_copyFrom := ⟨⟨359, _, (by decide +kernel : lw_tbl[359]? = some (.methodLinkNest RX1 130 yX0_copyFrom RX1))⟩, ⟨361, by decide +kernel⟩, ⟨12, by decide +kernel⟩⟩
theorem kl_X1_140 : KVN RX1 140 yX0_startAlone := ⟨⟨385, _, (by decide +kernel : lw_tbl[385]? = some (.methodLinkNest RX1 140 yX0_startAlone RX1))⟩, ⟨387, by decide +kernel⟩, ⟨13, by decide +kernel⟩⟩
theorem kl_X1_144 : KVN RX1 144 yX0_move := ⟨⟨393, _, (by decide +kernel : lw_tbl[393]? = some (.methodLinkNest RX1 144 yX0_move RX1))⟩, ⟨217, by decide +kernel⟩, ⟨2, by decide +kernel⟩⟩
theorem kl_X1_147 : KV RX1 147 yX1_turnsAlone := ⟨⟨402, by decide +kernel⟩, ⟨404, by decide +kernel⟩, ⟨15, by decide +kernel⟩⟩
theorem kl_X1_152 : KV RX1 152 yX1_digestCounts := ⟨⟨411, by decide +kernel⟩, ⟨413, by decide +kernel⟩, ⟨16, by decide +kernel⟩⟩
theorem kl_X1_156 : KV RX1 156 yX1_digestEchoes := ⟨⟨430, by decide +kernel⟩, ⟨432, by decide +kernel⟩, ⟨17, by decide +kernel⟩⟩
theorem kl_X1_159 : KV RX1 159 yX1_digestWalls := ⟨⟨438, by decide +kernel⟩, ⟨440, by decide +kernel⟩, ⟨18, by decide +kernel⟩⟩
theorem kl_X1_162 : KV RX1 162 yX1_digestShouts := ⟨⟨445, by decide +kernel⟩, ⟨447, by decide +kernel⟩, ⟨19, by decide +kernel⟩⟩
theorem kl_X1_165 : KV RX1 165 yX1_digestStones := ⟨⟨453, by decide +kernel⟩, ⟨455, by decide +kernel⟩, ⟨20, by decide +kernel⟩⟩
theorem kl_X1_168 : KV RX1 168 yX1_beat := ⟨⟨415, by decide +kernel⟩, ⟨416, by decide +kernel⟩, ⟨417, by decide +kernel⟩⟩
theorem kl_X1_172 : KS RX1 172 yX1_mix := ⟨⟨419, by decide +kernel⟩, ⟨420, by decide +kernel⟩⟩
theorem kl_X1_176 : KV RX1 176 yX1_walls := ⟨⟨423, by decide +kernel⟩, ⟨250, by decide +kernel⟩, ⟨251, by decide +kernel⟩⟩
theorem kl_X1_179 : KV RX1 179 yX1_shouts := ⟨⟨424, by decide +kernel⟩, ⟨254, by decide +kernel⟩, ⟨255, by decide +kernel⟩⟩
theorem kl_X1_182 : KV RX1 182 yX1_underWay := ⟨⟨425, by decide +kernel⟩, ⟨258, by decide +kernel⟩, ⟨259, by decide +kernel⟩⟩
theorem kl_X1_185 : KV RX1 185 yX1_overlaps := ⟨⟨426, by decide +kernel⟩, ⟨262, by decide +kernel⟩, ⟨263, by decide +kernel⟩⟩
theorem kl_X1_188 : KV RX1 188 yX1_inherited := ⟨⟨427, by decide +kernel⟩, ⟨331, by decide +kernel⟩, ⟨332, by decide +kernel⟩⟩
theorem kl_X1_191 : KV RX1 191 yX1_beatsUntilQuiet := ⟨⟨428, by decide +kernel⟩, ⟨367, by decide +kernel⟩, ⟨368, by decide +kernel⟩⟩
theorem kl_X1_194 : KV RX1 194 yX1_bestStone := ⟨⟨429, by decide +kernel⟩, ⟨395, by decide +kernel⟩, ⟨396, by decide +kernel⟩⟩
theorem kl_X1_197 : KV RX1 197 yX1_coinsOf := ⟨⟨434, by decide +kernel⟩, ⟨315, by decide +kernel⟩, ⟨316, by decide +kernel⟩⟩
theorem kl_X1_200 : KV RX1 200 yX1_wallsOf := ⟨⟨435, by decide +kernel⟩, ⟨323, by decide +kernel⟩, ⟨324, by decide +kernel⟩⟩
theorem kl_X1_203 : KV RX1 203 yX1_silentFor := ⟨⟨436, by decide +kernel⟩, ⟨327, by decide +kernel⟩, ⟨328, by decide +kernel⟩⟩
theorem kl_X1_206 : KV RX1 206 yX1_coinsIn := ⟨⟨437, by decide +kernel⟩, ⟨371, by decide +kernel⟩, ⟨372, by decide +kernel⟩⟩
theorem kl_X1_209 : KV RX1 209 yX1_stoneOf := ⟨⟨442, by decide +kernel⟩, ⟨298, by decide +kernel⟩, ⟨299, by decide +kernel⟩⟩
theorem kl_X1_212 : KV RX1 212 yX1_ownerOf := ⟨⟨443, by decide +kernel⟩, ⟨307, by decide +kernel⟩, ⟨308, by decide +kernel⟩⟩
theorem kl_X1_215 : KV RX1 215 yX1_thrownBack := ⟨⟨444, by decide +kernel⟩, ⟨311, by decide +kernel⟩, ⟨312, by decide +kernel⟩⟩
theorem kl_X1_218 : KV RX1 218 yX1_loudnessOf := ⟨⟨449, by decide +kernel⟩, ⟨335, by decide +kernel⟩, ⟨336, by decide +kernel⟩⟩
theorem kl_X1_221 : KV RX1 221 yX1_placeOf := ⟨⟨450, by decide +kernel⟩, ⟨344, by decide +kernel⟩, ⟨345, by decide +kernel⟩⟩
theorem kl_X1_224 : KV RX1 224 yX1_goesRight := ⟨⟨451, by decide +kernel⟩, ⟨348, by decide +kernel⟩, ⟨349, by decide +kernel⟩⟩
theorem kl_X1_228 : KV RX1 228 yX1_turnsOf := ⟨⟨452, by decide +kernel⟩, ⟨352, by decide +kernel⟩, ⟨353, by decide +kernel⟩⟩
theorem kl_X1_231 : KV RX1 231 yX1_snowOn := ⟨⟨457, by decide +kernel⟩, ⟨458, by decide +kernel⟩, ⟨459, by decide +kernel⟩⟩
theorem kl_X1_234 : KV RX1 234 yX1_loudOn := ⟨⟨461, by decide +kernel⟩, ⟨290, by decide +kernel⟩, ⟨291, by decide +kernel⟩⟩
theorem kl_X1_237 : KV RX1 237 yX1_nextWall := ⟨⟨462, by decide +kernel⟩, ⟨463, by decide +kernel⟩, ⟨464, by decide +kernel⟩⟩
theorem kl_X1_243 : KS RX1 243 yX1_isStone := ⟨⟨272, by decide +kernel⟩, ⟨220, by decide +kernel⟩⟩
theorem kl_X2_48 : KV RX2 48 yX2_wallOn := ⟨⟨471, by decide +kernel⟩, ⟨472, by decide +kernel⟩, ⟨473, by decide +kernel⟩⟩
theorem kl_X2_52 : KV RX2 52 yX2_loudestOn := ⟨⟨475, by decide +kernel⟩, ⟨476, by decide +kernel⟩, ⟨477, by decide +kernel⟩⟩
theorem kl_X2_55 : KV RX2 55 yX2_pass := ⟨⟨534, by decide +kernel⟩, ⟨467, by decide +kernel⟩, ⟨468, by decide +kernel⟩⟩
theorem kl_X2_59 : KV RX2 59 yX2_copy := ⟨⟨488, by decide +kernel⟩, ⟨489, by decide +kernel⟩, ⟨490, by decide +kernel⟩⟩
theorem kl_X2_63 : KV RX2 63 yX2_alone := ⟨⟨484, by decide +kernel⟩, ⟨485, by decide +kernel⟩, ⟨486, by decide +kernel⟩⟩
theorem kl_X2_67 : KV RX2 67 yX1_stoneOf := ⟨⟨539, by decide +kernel⟩, ⟨298, by decide +kernel⟩, ⟨299, by decide +kernel⟩⟩
theorem kl_X2_72 : KV RX2 72 yX1_ownerOf := ⟨⟨540, by decide +kernel⟩, ⟨307, by decide +kernel⟩, ⟨308, by decide +kernel⟩⟩
theorem kl_X2_75 : KV RX2 75 yX1_thrownBack := ⟨⟨541, by decide +kernel⟩, ⟨311, by decide +kernel⟩, ⟨312, by decide +kernel⟩⟩
theorem kl_X2_78 : KV RX2 78 yX1_coinsOf := ⟨⟨542, by decide +kernel⟩, ⟨315, by decide +kernel⟩, ⟨316, by decide +kernel⟩⟩
theorem kl_X2_81 : KV RX2 81 yX1_wallsOf := ⟨⟨543, by decide +kernel⟩, ⟨323, by decide +kernel⟩, ⟨324, by decide +kernel⟩⟩
theorem kl_X2_84 : KV RX2 84 yX1_silentFor := ⟨⟨544, by decide +kernel⟩, ⟨327, by decide +kernel⟩, ⟨328, by decide +kernel⟩⟩
theorem kl_X2_87 : KV RX2 87 yX1_loudnessOf := ⟨⟨545, by decide +kernel⟩, ⟨335, by decide +kernel⟩, ⟨336, by decide +kernel⟩⟩
theorem kl_X2_90 : KV RX2 90 yX1_placeOf := ⟨⟨546, by decide +kernel⟩, ⟨344, by decide +kernel⟩, ⟨345, by decide +kernel⟩⟩
theorem kl_X2_93 : KV RX2 93 yX1_goesRight := ⟨⟨547, by decide +kernel⟩, ⟨348, by decide +kernel⟩, ⟨349, by decide +kernel⟩⟩
theorem kl_X2_97 : KV RX2 97 yX1_turnsOf := ⟨⟨548, by decide +kernel⟩, ⟨352, by decide +kernel⟩, ⟨353, by decide +kernel⟩⟩
theorem kl_X2_100 : KV RX2 100 yX1_snowOn := ⟨⟨549, by decide +kernel⟩, ⟨458, by decide +kernel⟩, ⟨459, by decide +kernel⟩⟩
theorem kl_X2_103 : KV RX2 103 yX1_wallOn := ⟨⟨550, by decide +kernel⟩, ⟨266, by decide +kernel⟩, ⟨267, by decide +kernel⟩⟩
theorem kl_X2_104 : KV RX2 104 yX1_loudOn := ⟨⟨551, by decide +kernel⟩, ⟨290, by decide +kernel⟩, ⟨291, by decide +kernel⟩⟩
theorem kl_X2_107 : KV RX2 107 yX1_nextWall := ⟨⟨552, by decide +kernel⟩, ⟨463, by decide +kernel⟩, ⟨464, by decide +kernel⟩⟩
theorem kl_X2_111 : KV RX2 111 yX1_beat := ⟨⟨553, by decide +kernel⟩, ⟨416, by decide +kernel⟩, ⟨417, by decide +kernel⟩⟩
theorem kl_X2_113 : KV RX2 113 yX1_walls := ⟨⟨554, by decide +kernel⟩, ⟨250, by decide +kernel⟩, ⟨251, by decide +kernel⟩⟩
theorem kl_X2_115 : KV RX2 115 yX1_shouts := ⟨⟨555, by decide +kernel⟩, ⟨254, by decide +kernel⟩, ⟨255, by decide +kernel⟩⟩
theorem kl_X2_117 : KV RX2 117 yX1_underWay := ⟨⟨556, by decide +kernel⟩, ⟨258, by decide +kernel⟩, ⟨259, by decide +kernel⟩⟩
theorem kl_X2_120 : KV RX2 120 yX2_underWay := ⟨⟨557, by decide +kernel⟩, ⟨558, by decide +kernel⟩, ⟨559, by decide +kernel⟩⟩
theorem kl_X2_121 : KV RX2 121 yX1_overlaps := ⟨⟨561, by decide +kernel⟩, ⟨262, by decide +kernel⟩, ⟨263, by decide +kernel⟩⟩
theorem kl_X2_123 : KV RX2 123 yX1_inherited := ⟨⟨562, by decide +kernel⟩, ⟨331, by decide +kernel⟩, ⟨332, by decide +kernel⟩⟩
theorem kl_X2_126 : KV RX2 126 yX1_meanLoudness := ⟨⟨563, by decide +kernel⟩, ⟨564, by decide +kernel⟩, ⟨565, by decide +kernel⟩⟩
theorem cd_X0_copyFrom : CD yX0_copyFrom cX0_copyFrom 2 none 1 := ⟨⟨362, by decide +kernel⟩, List.mem_of_getElem? (i := 24) (by decide +kernel), by decide +kernel, by decide +kernel, by decide +kernel⟩
theorem cd_X0_build : CD yX0_build cX0_build 5 (some .int) 3 := ⟨⟨607, by decide +kernel⟩, List.mem_of_getElem? (i := 24) (by decide +kernel), by decide +kernel, by decide +kernel, by decide +kernel⟩
theorem cd_X0_start : CD yX0_start cX0_start 5 (some .int) 3 := ⟨⟨392, by decide +kernel⟩, List.mem_of_getElem? (i := 24) (by decide +kernel), by decide +kernel, by decide +kernel, by decide +kernel⟩
theorem cd_X0_startAlone : CD yX0_startAlone cX0_startAlone 4 none 3 := ⟨⟨388, by decide +kernel⟩, List.mem_of_getElem? (i := 24) (by decide +kernel), by decide +kernel, by decide +kernel, by decide +kernel⟩
theorem cd_X0_loudAt : CD yX0_loudAt cX0_loudAt 3 (some .int) 1 := ⟨⟨296, by decide +kernel⟩, List.mem_of_getElem? (i := 24) (by decide +kernel), by decide +kernel, by decide +kernel, by decide +kernel⟩
theorem cd_X0_goOn : CD yX0_goOn cX0_goOn 4 none 0 := ⟨⟨214, by decide +kernel⟩, List.mem_of_getElem? (i := 24) (by decide +kernel), by decide +kernel, by decide +kernel, by decide +kernel⟩
theorem cd_X0_move : CD yX0_move cX0_move 4 none 1 := ⟨⟨218, by decide +kernel⟩, List.mem_of_getElem? (i := 24) (by decide +kernel), by decide +kernel, by decide +kernel, by decide +kernel⟩
theorem cd_X0_turnAt : CD yX0_turnAt cX0_turnAt 3 none 2 := ⟨⟨229, by decide +kernel⟩, List.mem_of_getElem? (i := 24) (by decide +kernel), by decide +kernel, by decide +kernel, by decide +kernel⟩
theorem cd_X0_hush : CD yX0_hush cX0_hush 2 none 1 := ⟨⟨225, by decide +kernel⟩, List.mem_of_getElem? (i := 24) (by decide +kernel), by decide +kernel, by decide +kernel, by decide +kernel⟩
theorem cd_X0_meet : CD yX0_meet cX0_meet 2 none 0 := ⟨⟨233, by decide +kernel⟩, List.mem_of_getElem? (i := 24) (by decide +kernel), by decide +kernel, by decide +kernel, by decide +kernel⟩
theorem cd_X0_settle : CD yX0_settle cX0_settle 4 none 1 := ⟨⟨237, by decide +kernel⟩, List.mem_of_getElem? (i := 24) (by decide +kernel), by decide +kernel, by decide +kernel, by decide +kernel⟩
theorem cd_X0_listen : CD yX0_listen cX0_listen 3 none 2 := ⟨⟨241, by decide +kernel⟩, List.mem_of_getElem? (i := 24) (by decide +kernel), by decide +kernel, by decide +kernel, by decide +kernel⟩
theorem cd_X0_loseWall : CD yX0_loseWall cX0_loseWall 3 none 1 := ⟨⟨245, by decide +kernel⟩, List.mem_of_getElem? (i := 24) (by decide +kernel), by decide +kernel, by decide +kernel, by decide +kernel⟩
theorem cd_X1_addWall : CD yX1_addWall cX1_addWall 4 (some .int) 3 := ⟨⟨586, by decide +kernel⟩, List.mem_of_getElem? (i := 23) (by decide +kernel), by decide +kernel, by decide +kernel, by decide +kernel⟩
theorem cd_X1_hand : CD yX1_hand cX1_hand 2 (some .int) 1 := ⟨⟨611, by decide +kernel⟩, List.mem_of_getElem? (i := 23) (by decide +kernel), by decide +kernel, by decide +kernel, by decide +kernel⟩
theorem cd_X1_setSnow : CD yX1_setSnow cX1_setSnow 4 (some .int) 2 := ⟨⟨618, by decide +kernel⟩, List.mem_of_getElem? (i := 23) (by decide +kernel), by decide +kernel, by decide +kernel, by decide +kernel⟩
theorem cd_X1_shout : CD yX1_shout cX1_shout 4 (some .int) 3 := ⟨⟨625, by decide +kernel⟩, List.mem_of_getElem? (i := 23) (by decide +kernel), by decide +kernel, by decide +kernel, by decide +kernel⟩
theorem cd_X1_pass : CD yX1_pass cX1_pass 4 (some .int) 1 := ⟨⟨139, by decide +kernel⟩, List.mem_of_getElem? (i := 23) (by decide +kernel), by decide +kernel, by decide +kernel, by decide +kernel⟩
theorem cd_X1_beat : CD yX1_beat cX1_beat 1 (some .int) 0 := ⟨⟨418, by decide +kernel⟩, List.mem_of_getElem? (i := 23) (by decide +kernel), by decide +kernel, by decide +kernel, by decide +kernel⟩
theorem cd_X1_walls : CD yX1_walls cX1_walls 1 (some .int) 0 := ⟨⟨252, by decide +kernel⟩, List.mem_of_getElem? (i := 23) (by decide +kernel), by decide +kernel, by decide +kernel, by decide +kernel⟩
theorem cd_X1_shouts : CD yX1_shouts cX1_shouts 1 (some .int) 0 := ⟨⟨256, by decide +kernel⟩, List.mem_of_getElem? (i := 23) (by decide +kernel), by decide +kernel, by decide +kernel, by decide +kernel⟩
theorem cd_X1_underWay : CD yX1_underWay cX1_underWay 1 (some .int) 0 := ⟨⟨260, by decide +kernel⟩, List.mem_of_getElem? (i := 23) (by decide +kernel), by decide +kernel, by decide +kernel, by decide +kernel⟩
theorem cd_X1_overlaps : CD yX1_overlaps cX1_overlaps 1 (some .int) 0 := ⟨⟨264, by decide +kernel⟩, List.mem_of_getElem? (i := 23) (by decide +kernel), by decide +kernel, by decide +kernel, by decide +kernel⟩
theorem cd_X1_snowOn : CD yX1_snowOn cX1_snowOn 2 (some .int) 1 := ⟨⟨460, by decide +kernel⟩, List.mem_of_getElem? (i := 23) (by decide +kernel), by decide +kernel, by decide +kernel, by decide +kernel⟩
theorem cd_X1_wallOn : CD yX1_wallOn cX1_wallOn 2 (some .int) 1 := ⟨⟨268, by decide +kernel⟩, List.mem_of_getElem? (i := 23) (by decide +kernel), by decide +kernel, by decide +kernel, by decide +kernel⟩
theorem cd_X1_loudOn : CD yX1_loudOn cX1_loudOn 2 (some .int) 1 := ⟨⟨292, by decide +kernel⟩, List.mem_of_getElem? (i := 23) (by decide +kernel), by decide +kernel, by decide +kernel, by decide +kernel⟩
theorem cd_X1_stoneOf : CD yX1_stoneOf cX1_stoneOf 2 (some .int) 1 := ⟨⟨300, by decide +kernel⟩, List.mem_of_getElem? (i := 23) (by decide +kernel), by decide +kernel, by decide +kernel, by decide +kernel⟩
theorem cd_X1_ownerOf : CD yX1_ownerOf cX1_ownerOf 2 (some .int) 1 := ⟨⟨309, by decide +kernel⟩, List.mem_of_getElem? (i := 23) (by decide +kernel), by decide +kernel, by decide +kernel, by decide +kernel⟩
theorem cd_X1_thrownBack : CD yX1_thrownBack cX1_thrownBack 2 (some .int) 1 := ⟨⟨313, by decide +kernel⟩, List.mem_of_getElem? (i := 23) (by decide +kernel), by decide +kernel, by decide +kernel, by decide +kernel⟩
theorem cd_X1_coinsOf : CD yX1_coinsOf cX1_coinsOf 2 (some .int) 1 := ⟨⟨317, by decide +kernel⟩, List.mem_of_getElem? (i := 23) (by decide +kernel), by decide +kernel, by decide +kernel, by decide +kernel⟩
theorem cd_X1_wallsOf : CD yX1_wallsOf cX1_wallsOf 4 (some .int) 1 := ⟨⟨325, by decide +kernel⟩, List.mem_of_getElem? (i := 23) (by decide +kernel), by decide +kernel, by decide +kernel, by decide +kernel⟩
theorem cd_X1_silentFor : CD yX1_silentFor cX1_silentFor 2 (some .int) 1 := ⟨⟨329, by decide +kernel⟩, List.mem_of_getElem? (i := 23) (by decide +kernel), by decide +kernel, by decide +kernel, by decide +kernel⟩
theorem cd_X1_inherited : CD yX1_inherited cX1_inherited 1 (some .int) 0 := ⟨⟨333, by decide +kernel⟩, List.mem_of_getElem? (i := 23) (by decide +kernel), by decide +kernel, by decide +kernel, by decide +kernel⟩
theorem cd_X1_loudnessOf : CD yX1_loudnessOf cX1_loudnessOf 2 (some .int) 1 := ⟨⟨337, by decide +kernel⟩, List.mem_of_getElem? (i := 23) (by decide +kernel), by decide +kernel, by decide +kernel, by decide +kernel⟩
theorem cd_X1_placeOf : CD yX1_placeOf cX1_placeOf 2 (some .int) 1 := ⟨⟨346, by decide +kernel⟩, List.mem_of_getElem? (i := 23) (by decide +kernel), by decide +kernel, by decide +kernel, by decide +kernel⟩
theorem cd_X1_goesRight : CD yX1_goesRight cX1_goesRight 2 (some .boolean) 1 := ⟨⟨350, by decide +kernel⟩, List.mem_of_getElem? (i := 23) (by decide +kernel), by decide +kernel, by decide +kernel, by decide +kernel⟩
theorem cd_X1_turnsOf : CD yX1_turnsOf cX1_turnsOf 2 (some .int) 1 := ⟨⟨354, by decide +kernel⟩, List.mem_of_getElem? (i := 23) (by decide +kernel), by decide +kernel, by decide +kernel, by decide +kernel⟩
theorem cd_X1_nextWall : CD yX1_nextWall cX1_nextWall 5 (some .int) 2 := ⟨⟨465, by decide +kernel⟩, List.mem_of_getElem? (i := 23) (by decide +kernel), by decide +kernel, by decide +kernel, by decide +kernel⟩
theorem cd_X1_beatsUntilGone : CD yX1_beatsUntilGone cX1_beatsUntilGone 3 (some .int) 1 := ⟨⟨358, by decide +kernel⟩, List.mem_of_getElem? (i := 23) (by decide +kernel), by decide +kernel, by decide +kernel, by decide +kernel⟩
theorem cd_X1_beatsUntilQuiet : CD yX1_beatsUntilQuiet cX1_beatsUntilQuiet 2 (some .int) 0 := ⟨⟨369, by decide +kernel⟩, List.mem_of_getElem? (i := 23) (by decide +kernel), by decide +kernel, by decide +kernel, by decide +kernel⟩
theorem cd_X1_coinsIn : CD yX1_coinsIn cX1_coinsIn 4 (some .int) 2 := ⟨⟨373, by decide +kernel⟩, List.mem_of_getElem? (i := 23) (by decide +kernel), by decide +kernel, by decide +kernel, by decide +kernel⟩
theorem cd_X1_loudestOn : CD yX1_loudestOn cX1_loudestOn 5 (some .int) 2 := ⟨⟨377, by decide +kernel⟩, List.mem_of_getElem? (i := 23) (by decide +kernel), by decide +kernel, by decide +kernel, by decide +kernel⟩
theorem cd_X1_loudnessWanted : CD yX1_loudnessWanted cX1_loudnessWanted 5 (some .int) 3 := ⟨⟨384, by decide +kernel⟩, List.mem_of_getElem? (i := 23) (by decide +kernel), by decide +kernel, by decide +kernel, by decide +kernel⟩
theorem cd_X1_bestStone : CD yX1_bestStone cX1_bestStone 6 (some .int) 1 := ⟨⟨397, by decide +kernel⟩, List.mem_of_getElem? (i := 23) (by decide +kernel), by decide +kernel, by decide +kernel, by decide +kernel⟩
theorem cd_X1_meanLoudness : CD yX1_meanLoudness cX1_meanLoudness 3 (some .double) 0 := ⟨⟨566, by decide +kernel⟩, List.mem_of_getElem? (i := 23) (by decide +kernel), by decide +kernel, by decide +kernel, by decide +kernel⟩
theorem cd_X1_digest : CD yX1_digest cX1_digest 3 (some .long) 0 := ⟨⟨409, by decide +kernel⟩, List.mem_of_getElem? (i := 23) (by decide +kernel), by decide +kernel, by decide +kernel, by decide +kernel⟩
theorem cd_X1_digestCounts : CD yX1_digestCounts cX1_digestCounts 5 (some .long) 1 := ⟨⟨414, by decide +kernel⟩, List.mem_of_getElem? (i := 23) (by decide +kernel), by decide +kernel, by decide +kernel, by decide +kernel⟩
theorem cd_X1_digestEchoes : CD yX1_digestEchoes cX1_digestEchoes 6 (some .long) 1 := ⟨⟨433, by decide +kernel⟩, List.mem_of_getElem? (i := 23) (by decide +kernel), by decide +kernel, by decide +kernel, by decide +kernel⟩
theorem cd_X1_digestWalls : CD yX1_digestWalls cX1_digestWalls 6 (some .long) 1 := ⟨⟨441, by decide +kernel⟩, List.mem_of_getElem? (i := 23) (by decide +kernel), by decide +kernel, by decide +kernel, by decide +kernel⟩
theorem cd_X1_digestShouts : CD yX1_digestShouts cX1_digestShouts 6 (some .long) 1 := ⟨⟨448, by decide +kernel⟩, List.mem_of_getElem? (i := 23) (by decide +kernel), by decide +kernel, by decide +kernel, by decide +kernel⟩
theorem cd_X1_digestStones : CD yX1_digestStones cX1_digestStones 6 (some .long) 1 := ⟨⟨456, by decide +kernel⟩, List.mem_of_getElem? (i := 23) (by decide +kernel), by decide +kernel, by decide +kernel, by decide +kernel⟩
theorem cd_X1_mix : CD yX1_mix cX1_mix 3 (some .long) 2 := ⟨⟨421, by decide +kernel⟩, List.mem_of_getElem? (i := 23) (by decide +kernel), by decide +kernel, by decide +kernel, by decide +kernel⟩
theorem cd_X1_turnsAlone : CD yX1_turnsAlone cX1_turnsAlone 4 (some .int) 2 := ⟨⟨405, by decide +kernel⟩, List.mem_of_getElem? (i := 23) (by decide +kernel), by decide +kernel, by decide +kernel, by decide +kernel⟩
theorem cd_X1_isStone : CD yX1_isStone cX1_isStone 1 (some .boolean) 1 := ⟨⟨221, by decide +kernel⟩, List.mem_of_getElem? (i := 23) (by decide +kernel), by decide +kernel, by decide +kernel, by decide +kernel⟩
theorem cd_X1_otherEcho : CD yX1_otherEcho cX1_otherEcho 1 (some .int) 1 := ⟨⟨248, by decide +kernel⟩, List.mem_of_getElem? (i := 23) (by decide +kernel), by decide +kernel, by decide +kernel, by decide +kernel⟩
theorem cd_X1_needStone : CD yX1_needStone cX1_needStone 1 none 1 := ⟨⟨271, by decide +kernel⟩, List.mem_of_getElem? (i := 23) (by decide +kernel), by decide +kernel, by decide +kernel, by decide +kernel⟩
theorem cd_X1_needEcho : CD yX1_needEcho cX1_needEcho 1 none 1 := ⟨⟨320, by decide +kernel⟩, List.mem_of_getElem? (i := 23) (by decide +kernel), by decide +kernel, by decide +kernel, by decide +kernel⟩
theorem cd_X1_needWall : CD yX1_needWall cX1_needWall 2 none 1 := ⟨⟨304, by decide +kernel⟩, List.mem_of_getElem? (i := 23) (by decide +kernel), by decide +kernel, by decide +kernel, by decide +kernel⟩
theorem cd_X1_needShout : CD yX1_needShout cX1_needShout 2 none 1 := ⟨⟨341, by decide +kernel⟩, List.mem_of_getElem? (i := 23) (by decide +kernel), by decide +kernel, by decide +kernel, by decide +kernel⟩
theorem cd_X1_needLoud : CD yX1_needLoud cX1_needLoud 1 none 1 := ⟨⟨400, by decide +kernel⟩, List.mem_of_getElem? (i := 23) (by decide +kernel), by decide +kernel, by decide +kernel, by decide +kernel⟩
theorem cd_X1_needBeats : CD yX1_needBeats cX1_needBeats 1 none 1 := ⟨⟨142, by decide +kernel⟩, List.mem_of_getElem? (i := 23) (by decide +kernel), by decide +kernel, by decide +kernel, by decide +kernel⟩
theorem cd_X2_with : CD yX2_with cX2_with 4 (some (.array (.array .int))) 2 := ⟨⟨582, by decide +kernel⟩, List.mem_of_getElem? (i := 26) (by decide +kernel), by decide +kernel, by decide +kernel, by decide +kernel⟩
theorem cd_X2_copy : CD yX2_copy cX2_copy 3 (some (.object "CanyonEchoesLaw$Sim")) 0 := ⟨⟨491, by decide +kernel⟩, List.mem_of_getElem? (i := 26) (by decide +kernel), by decide +kernel, by decide +kernel, by decide +kernel⟩
theorem cd_X2_wallOn : CD yX2_wallOn cX2_wallOn 3 (some .int) 1 := ⟨⟨474, by decide +kernel⟩, List.mem_of_getElem? (i := 26) (by decide +kernel), by decide +kernel, by decide +kernel, by decide +kernel⟩
theorem cd_X2_loudestOn : CD yX2_loudestOn cX2_loudestOn 4 (some .int) 1 := ⟨⟨478, by decide +kernel⟩, List.mem_of_getElem? (i := 26) (by decide +kernel), by decide +kernel, by decide +kernel, by decide +kernel⟩
theorem cd_X2_underWay : CD yX2_underWay cX2_underWay 6 (some .int) 0 := ⟨⟨560, by decide +kernel⟩, List.mem_of_getElem? (i := 26) (by decide +kernel), by decide +kernel, by decide +kernel, by decide +kernel⟩
theorem cd_X2_pass : CD yX2_pass cX2_pass 7 (some .int) 0 := ⟨⟨469, by decide +kernel⟩, List.mem_of_getElem? (i := 26) (by decide +kernel), by decide +kernel, by decide +kernel, by decide +kernel⟩
theorem cd_X2_pass_ : CD yX2_pass_ cX2_pass_ 4 (some .int) 1 := ⟨⟨632, by decide +kernel⟩, List.mem_of_getElem? (i := 26) (by decide +kernel), by decide +kernel, by decide +kernel, by decide +kernel⟩
theorem cd_X2_alone : CD yX2_alone cX2_alone 5 (some (.object "CanyonEchoesLaw$Sim")) 3 := ⟨⟨487, by decide +kernel⟩, List.mem_of_getElem? (i := 26) (by decide +kernel), by decide +kernel, by decide +kernel, by decide +kernel⟩
theorem cd_X2_turns : CD yX2_turns cX2_turns 4 (some .int) 2 := ⟨⟨483, by decide +kernel⟩, List.mem_of_getElem? (i := 26) (by decide +kernel), by decide +kernel, by decide +kernel, by decide +kernel⟩
theorem cd_X2_isSame : CD yX2_isSame cX2_isSame 9 (some .boolean) 1 := ⟨⟨538, by decide +kernel⟩, List.mem_of_getElem? (i := 26) (by decide +kernel), by decide +kernel, by decide +kernel, by decide +kernel⟩
theorem cd_J9_max_7cf53 : CD yJ9_max_7cf53 cJ9_max_7cf53 2 (some .int) 2 := ⟨⟨380, by decide +kernel⟩, List.mem_of_getElem? (i := 33) (by decide +kernel), by decide +kernel, by decide +kernel, by decide +kernel⟩
theorem cd_J7_fill_53178 : CD yJ7_fill_53178 cJ7_fill_53178 4 none 2 := ⟨⟨51, by decide +kernel⟩, List.mem_of_getElem? (i := 25) (by decide +kernel), by decide +kernel, by decide +kernel, by decide +kernel⟩
theorem cd_L_below : CD yL_below cL_below 2 (some .int) 2 := ⟨⟨569, by decide +kernel⟩, List.mem_of_getElem? (i := 22) (by decide +kernel), by decide +kernel, by decide +kernel, by decide +kernel⟩
theorem cd_L_cell : CD yL_cell cL_cell 2 (some .int) 2 := ⟨⟨573, by decide +kernel⟩, List.mem_of_getElem? (i := 22) (by decide +kernel), by decide +kernel, by decide +kernel, by decide +kernel⟩
theorem cd_L_build : CD yL_build cL_build 6 (some (.object "CanyonEchoesLaw$Sim")) 2 := ⟨⟨635, by decide +kernel⟩, List.mem_of_getElem? (i := 22) (by decide +kernel), by decide +kernel, by decide +kernel, by decide +kernel⟩
theorem cd_L_comes : CD yL_comes cL_comes 6 (some .boolean) 5 := ⟨⟨640, by decide +kernel⟩, List.mem_of_getElem? (i := 22) (by decide +kernel), by decide +kernel, by decide +kernel, by decide +kernel⟩
theorem ll_X1_150 : lw_tbl[410]? = some (.constantLong RX1 150 2309) := by decide +kernel
theorem ll_X1_241 : lw_tbl[422]? = some (.constantLong RX1 241 31) := by decide +kernel
end
section
/-! Short forms of the calls, throws, small number facts. -/
theorem nI_inc (i : Nat) : nI i + Int32.ofInt 1 = nI (i + 1) := nI_1 i
theorem nI_inc4 (i : Nat) : nI i + Int32.ofInt 4 = nI (i + 4) := nI_add i 4
theorem rb_t {c : Prop} [Decidable c] (h : c) : some (Value.int (b2i c)) = some (.int 1) := by rw [b2i_t h]
theorem rb_f {c : Prop} [Decidable c] (h : ¬ c) : some (Value.int (b2i c)) = some (.int 0) := by rw [b2i_f h]
/-- an int as a number -/
abbrev tn (x : Int32) : Nat := x.toNatClampNeg
theorem nI_tn {x : Int32} (h : 0 ≤ x) : x = nI (tn x) := by
  obtain ⟨j, h1, rfl⟩ := nI_of (Int32.not_lt.mpr h)
  rw [tn, nI_clamp h1]
theorem tn_nI {j : Nat} (h : j < 2 ^ 31) : tn (nI j) = j := nI_clamp h
theorem tn_lt {x : Int32} {n : Nat} (h0 : 0 ≤ x) (hn : n < 2 ^ 31) (h : x < nI n) : tn x < n := by
  obtain ⟨j, h1, rfl⟩ := nI_of (Int32.not_lt.mpr h0)
  rw [tn_nI h1]
  exact (nI_ltI h1 hn).mp h
theorem tn_le {x : Int32} {n : Nat} (h0 : 0 ≤ x) (hn : n < 2 ^ 31) (h : x ≤ nI n) : tn x ≤ n := by
  obtain ⟨j, h1, rfl⟩ := nI_of (Int32.not_lt.mpr h0)
  rw [tn_nI h1]
  exact (nI_leI h1 hn).mp h
section RULES4
variable {X : XT} {g : GT} {l : Launch} {cc : ByteArray} {mL : Nat} {own : String} {ret : Option FieldType} {rm : Room} {kc ks pc : Nat} {lo lo' : List (Nat × Value)} {st st0 : List Value} {M M' : Mem}
variable {y : MethodName} {bs' : ByteArray} {mL' n idx k : Nat} {ret' : Option FieldType} {rm' : Room} {as : List Value} {res : Option Value}
theorem x_lcmp (C : Cx X g l cc mL own ret rm) {x y : Int64} (d : decode cc pc = .ok (.lcmp, 1)) (k : V X g kc ks (pc + 1) lo (.int (lg_cmp x y) :: st) M) : V X g kc ks pc lo (.long y :: .long x :: st) M := fun H locs ls h1 h2 h3 => W.lcmp C.1 C.2.1 d (k H locs ls h1 h2 h3)
theorem x_ldc2 (C : Cx X g l cc mL own ret rm) {i : Nat} {v : Int64} (d : decode cc pc = .ok (.ldc2_w idx, 3)) (h : lw_tbl[i]? = some (.constantLong own idx v)) (k : V X g kc ks (pc + 3) lo (.long v :: st) M) : V X g kc ks pc lo st M := fun H locs ls h1 h2 h3 => lv_ldc2 C.1 C.2.1 C.2.2.2.1 (C.w h rfl) d (k H locs ls h1 h2 h3)
theorem x_callS0r (C : Cx X g l cc mL own ret rm) {v : Value} (hM : CM l y bs' mL' ret' rm' g M as (some v) M') (hc : CD y bs' mL' ret' n) (hl : KS own idx y) (hn : as.length = n) (hst : st0 = as.reverse ++ st) (hR : Rm rm' rm mL' kc ks) (hz : rm'.cells = 0 ∧ rm'.slots = 0) (hW : (st.map fun v => v.category).sum ≤ 8) (d : decode cc pc = .ok (.invokestatic idx, 3)) (kk : V X g kc ks (pc + 3) lo (v :: st) M') : V X g kc ks pc lo st0 M := by
  refine x_callS C hM hc hl hn hst hR hW d ?_
  rw [hz.1, hz.2]
  exact kk
theorem x_callS0v (C : Cx X g l cc mL own ret rm) (hM : CM l y bs' mL' ret' rm' g M as none M') (hc : CD y bs' mL' ret' n) (hl : KS own idx y) (hn : as.length = n) (hst : st0 = as.reverse ++ st) (hR : Rm rm' rm mL' kc ks) (hz : rm'.cells = 0 ∧ rm'.slots = 0) (hW : (st.map fun v => v.category).sum ≤ 8) (d : decode cc pc = .ok (.invokestatic idx, 3)) (kk : V X g kc ks (pc + 3) lo st M') : V X g kc ks pc lo st0 M := by
  refine x_callS C hM hc hl hn hst hR hW d ?_
  rw [hz.1, hz.2]
  exact kk
theorem x_callSN0r (C : Cx X g l cc mL own ret rm) {v : Value} (hM : CM l y bs' mL' ret' rm' g M as (some v) M') (hc : CD y bs' mL' ret' n) (hl : KSN own idx y) (hn : as.length = n) (hst : st0 = as.reverse ++ st) (hR : Rm rm' rm mL' kc ks) (hz : rm'.cells = 0 ∧ rm'.slots = 0) (hW : (st.map fun v => v.category).sum ≤ 8) (d : decode cc pc = .ok (.invokestatic idx, 3)) (kk : V X g kc ks (pc + 3) lo (v :: st) M') : V X g kc ks pc lo st0 M := by
  refine x_callSN C hM hc hl hn hst hR hW d ?_
  rw [hz.1, hz.2]
  exact kk
theorem x_callSN0v (C : Cx X g l cc mL own ret rm) (hM : CM l y bs' mL' ret' rm' g M as none M') (hc : CD y bs' mL' ret' n) (hl : KSN own idx y) (hn : as.length = n) (hst : st0 = as.reverse ++ st) (hR : Rm rm' rm mL' kc ks) (hz : rm'.cells = 0 ∧ rm'.slots = 0) (hW : (st.map fun v => v.category).sum ≤ 8) (d : decode cc pc = .ok (.invokestatic idx, 3)) (kk : V X g kc ks (pc + 3) lo st M') : V X g kc ks pc lo st0 M := by
  refine x_callSN C hM hc hl hn hst hR hW d ?_
  rw [hz.1, hz.2]
  exact kk
theorem x_callV0r (C : Cx X g l cc mL own ret rm) {ci N : Nat} {T : u_T} {v : Value} (hM : CM l y bs' mL' ret' rm' g M (.ref (ga g k) :: as) (some v) M') (hc : CD y bs' mL' ret' n) (hl : KV own idx y) (hci : CI ci y.cls T N) (hk : xk k = ci) (hk2 : k < 29) (hn : as.length = n) (hst : st0 = as.reverse ++ .ref (ga g k) :: st) (hR : Rm rm' rm mL' kc ks) (hz : rm'.cells = 0 ∧ rm'.slots = 0) (hW : (st.map fun v => v.category).sum ≤ 8) (d : decode cc pc = .ok (.invokevirtual idx, 3)) (kk : V X g kc ks (pc + 3) lo (v :: st) M') : V X g kc ks pc lo st0 M := by
  refine x_callV C hM hc hl hci hk hk2 hn hst hR hW d ?_
  rw [hz.1, hz.2]
  exact kk
theorem x_callV0v (C : Cx X g l cc mL own ret rm) {ci N : Nat} {T : u_T} (hM : CM l y bs' mL' ret' rm' g M (.ref (ga g k) :: as) none M') (hc : CD y bs' mL' ret' n) (hl : KV own idx y) (hci : CI ci y.cls T N) (hk : xk k = ci) (hk2 : k < 29) (hn : as.length = n) (hst : st0 = as.reverse ++ .ref (ga g k) :: st) (hR : Rm rm' rm mL' kc ks) (hz : rm'.cells = 0 ∧ rm'.slots = 0) (hW : (st.map fun v => v.category).sum ≤ 8) (d : decode cc pc = .ok (.invokevirtual idx, 3)) (kk : V X g kc ks (pc + 3) lo st M') : V X g kc ks pc lo st0 M := by
  refine x_callV C hM hc hl hci hk hk2 hn hst hR hW d ?_
  rw [hz.1, hz.2]
  exact kk
theorem x_callVN0r (C : Cx X g l cc mL own ret rm) {ci N : Nat} {T : u_T} {v : Value} (hM : CM l y bs' mL' ret' rm' g M (.ref (ga g k) :: as) (some v) M') (hc : CD y bs' mL' ret' n) (hl : KVN own idx y) (hci : CI ci y.cls T N) (hk : xk k = ci) (hk2 : k < 29) (hn : as.length = n) (hst : st0 = as.reverse ++ .ref (ga g k) :: st) (hR : Rm rm' rm mL' kc ks) (hz : rm'.cells = 0 ∧ rm'.slots = 0) (hW : (st.map fun v => v.category).sum ≤ 8) (d : decode cc pc = .ok (.invokevirtual idx, 3)) (kk : V X g kc ks (pc + 3) lo (v :: st) M') : V X g kc ks pc lo st0 M := by
  refine x_callVN C hM hc hl hci hk hk2 hn hst hR hW d ?_
  rw [hz.1, hz.2]
  exact kk
theorem x_callVN0v (C : Cx X g l cc mL own ret rm) {ci N : Nat} {T : u_T} (hM : CM l y bs' mL' ret' rm' g M (.ref (ga g k) :: as) none M') (hc : CD y bs' mL' ret' n) (hl : KVN own idx y) (hci : CI ci y.cls T N) (hk : xk k = ci) (hk2 : k < 29) (hn : as.length = n) (hst : st0 = as.reverse ++ .ref (ga g k) :: st) (hR : Rm rm' rm mL' kc ks) (hz : rm'.cells = 0 ∧ rm'.slots = 0) (hW : (st.map fun v => v.category).sum ≤ 8) (d : decode cc pc = .ok (.invokevirtual idx, 3)) (kk : V X g kc ks (pc + 3) lo st M') : V X g kc ks pc lo st0 M := by
  refine x_callVN C hM hc hl hci hk hk2 hn hst hR hW d ?_
  rw [hz.1, hz.2]
  exact kk
/-- what a throw of E with a text in CanyonEchoes needs -/
def XI (E : String) (ik ic : Nat) : Prop := Bundle.fit E = true ∧ Cond.classLink RX1 ik E ∈ lw_tbl ∧ Cond.initialized E ∈ lw_tbl ∧ (∀ w ∈ vx_atS RX1 ic E ["java/lang/RuntimeException", "java/lang/Exception"], w ∈ lw_tbl ∧ xw w = true) ∧ (∀ w ∈ Cond.classLink RX1 ik E :: Cond.initialized E :: vx_atS RX1 ic E ["java/lang/RuntimeException", "java/lang/Exception"], vx_ot w = true)
theorem xi_eB : XI eB 246 250 := ⟨by decide +kernel, by decide +kernel, by decide +kernel, by decide +kernel, by decide +kernel⟩
theorem xi_eA : XI eA 26 30 := ⟨by decide +kernel, by decide +kernel, by decide +kernel, by decide +kernel, by decide +kernel⟩
theorem xi_eS : XI eS 41 45 := ⟨by decide +kernel, by decide +kernel, by decide +kernel, by decide +kernel, by decide +kernel⟩
theorem x_throw {E : String} (C : Cx X g l cc mL RX1 ret rm) (hl : l.stackTraces = false) (hq : Re X g rm M E) {ik ic is : Nat} {text : String} (hX : XI E ik ic) (hs : (RX1, is, text) ∈ strL) (d0 : decode cc pc = .ok (.new ik, 3)) (d3 : decode cc (pc + 3) = .ok (.dup, 1)) (d4 : decode cc (pc + 4) = .ok (.ldc is, 2)) (d6 : decode cc (pc + 6) = .ok (.invokespecial ic, 3)) (d9 : decode cc (pc + 9) = .ok (.athrow, 1)) (hR : 5 < rm.frames ∧ (st.map fun v => v.category).sum + 82 ≤ rm.locals ∧ kc + 1 ≤ rm.cells ∧ ks + 6 ≤ rm.slots) : V X g kc ks pc lo st M := by
  intro H locs ls h1 h2 h3
  obtain ⟨x1, x2, x3, x4, x5⟩ := hX
  obtain ⟨sa, hsa⟩ := C.2.2.2.2.1.2.2.1 _ hs
  have hR' : xR X = rm := C.2.2.2.2.2.2.2.2.1
  have hl' : xL X = l := C.2.2.2.2.2.2.2.2.2
  show W _ _ _ _ _ _ _ _ _ _ _ _ _ _ (xQ X) _
  rw [hq.1]
  refine vx_throwS (names := ["java/lang/RuntimeException", "java/lang/Exception"]) C.1 C.2.1 (by rw [hl']; exact hl) C.2.2.2.1 x1 (by decide +kernel) (C.wm x2 rfl) (C.wm x3 rfl) hsa (fun w hw => C.wm (x4 w hw).1 (x4 w hw).2) x5 C.2.2.2.2.2.1.2.1 C.2.2.2.2.2.1.2.2 h2 h3.1 d0 d3 d4 d6 d9 (fun x hx => (hq.2 x hx).elim) (by rw [hR']; exact hR.1) (by rw [hR']; exact hR.2.1) (by rw [hR']; exact hR.2.2.1) (by rw [hR']; exact hR.2.2.2) C.2.2.2.2.2.2.1 (fun t _ hz hk => ⟨rfl, ?_, ?_⟩) (fun z hz => h2.2.2 z hz) hR.2.2.1 hR.2.2.2
  · exact va_P.kept h1 (fun k q hkq => hk q.1 ((h1 k q hkq).lt))
  · exact ⟨Nat.le_trans h2.1 hz, fun q a1 a2 => (hk q (Nat.lt_of_lt_of_le a1 h2.1)).trans (h2.2.1 q a1 a2)⟩
theorem x_throwW {E : String} (C : Cx X g l cc mL RX1 ret rm) (hl : l.stackTraces = false) (hq : Re X g rm M E) {ik ic is : Nat} {text : String} (hX : XI E ik ic) (hs : (RX1, is, text) ∈ strL) (d0 : decode cc pc = .ok (.new ik, 3)) (d3 : decode cc (pc + 3) = .ok (.dup, 1)) (d4 : decode cc (pc + 4) = .ok (.ldc_w is, 3)) (d6 : decode cc (pc + 7) = .ok (.invokespecial ic, 3)) (d9 : decode cc (pc + 10) = .ok (.athrow, 1)) (hR : 5 < rm.frames ∧ (st.map fun v => v.category).sum + 82 ≤ rm.locals ∧ kc + 1 ≤ rm.cells ∧ ks + 6 ≤ rm.slots) : V X g kc ks pc lo st M := by
  intro H locs ls h1 h2 h3
  obtain ⟨x1, x2, x3, x4, x5⟩ := hX
  obtain ⟨sa, hsa⟩ := C.2.2.2.2.1.2.2.1 _ hs
  have hR' : xR X = rm := C.2.2.2.2.2.2.2.2.1
  have hl' : xL X = l := C.2.2.2.2.2.2.2.2.2
  show W _ _ _ _ _ _ _ _ _ _ _ _ _ _ (xQ X) _
  rw [hq.1]
  refine vx_throwSW (names := ["java/lang/RuntimeException", "java/lang/Exception"]) C.1 C.2.1 (by rw [hl']; exact hl) C.2.2.2.1 x1 (by decide +kernel) (C.wm x2 rfl) (C.wm x3 rfl) hsa (fun w hw => C.wm (x4 w hw).1 (x4 w hw).2) x5 C.2.2.2.2.2.1.2.1 C.2.2.2.2.2.1.2.2 h2 h3.1 d0 d3 d4 d6 d9 (fun x hx => (hq.2 x hx).elim) (by rw [hR']; exact hR.1) (by rw [hR']; exact hR.2.1) (by rw [hR']; exact hR.2.2.1) (by rw [hR']; exact hR.2.2.2) C.2.2.2.2.2.2.1 (fun t _ hz hk => ⟨rfl, ?_, ?_⟩) (fun z hz => h2.2.2 z hz) hR.2.2.1 hR.2.2.2
  · exact va_P.kept h1 (fun k q hkq => hk q.1 ((h1 k q hkq).lt))
  · exact ⟨Nat.le_trans h2.1 hz, fun q a1 a2 => (hk q (Nat.lt_of_lt_of_le a1 h2.1)).trans (h2.2.1 q a1 a2)⟩
/-- what follows a run of a callee that throws, where nobody catches it: the method throws too -/
theorem x_ranX {E : String} (C : Cx X g l cc mL own ret rm) (hq : Re X g rm M E) {H : Heap} {locs : List Loc} {ls : Array Slot} {a : Array Value} (hr : vx_Run (xP X) (xL X) (xE X) (xR X) (xS X) (xM X) (xA X) (xB X) (xMe X) (xC X) H locs kc ks rm'.cells rm'.slots (F0 (xM X) pc ls st0) st (QN a) (QX g M E) (gA g)) (h2 : va_S (gA g) (xS X).heap H locs) (hk : kc + rm'.cells ≤ rm.cells ∧ ks + rm'.slots ≤ rm.slots) : xW X H locs kc ks (F0 (xM X) pc ls st0) := by
  intro T hT Xs
  rcases hr T hT Xs with ⟨v, st₀, t, T', L, h0, X', hL, e1, e2, hqn, hgo⟩ | ⟨q, st₀, t, T', L, E', ce, h0, X', hL, e1, e2, ⟨hE, hP, hz, hkp⟩, hce, hcv, hcl, hgo⟩
  · exact hqn.elim
  · subst hE
    rw [h0] at hz hkp
    have h2' : va_S (gA g) (xS X).heap T'.heap (locs ++ L) := ⟨Nat.le_trans h2.1 (by rw [e1]; exact hz), fun q a1 a2 => by rw [e1, hkp q (Nat.lt_of_lt_of_le a1 h2.1) a2]; exact h2.2.1 q a1 a2, fun q hq => by
        rcases List.mem_append.mp hq with h | h
        · exact h2.2.2 q h
        · exact hL q h⟩
    have hw : vx_W (xP X) (xL X) (xE X) (xR X) (xS X) (xM X) (xA X) (xB X) (xMe X) (xC X) T'.heap (locs ++ L) (kc + rm'.cells) (ks + rm'.slots) (vx_MQ (xB X) QN (QX g M E') (xA X) (xS X) rm.cells rm.slots (gA g)) (F0 (xM X) pc ls st) q :=
      vx_out (fun x hx => (hq.2 x hx).elim) C.2.2.2.2.2.2.1 (by rw [e1]; exact hce) hcv hcl (fun t2 ht2 _ => ⟨rfl, by rw [ht2, e1]; exact hP, h2'.F ht2⟩) (fun z hz => h2'.2.2 z hz) hk.1 hk.2
    obtain ⟨t2, a1, b1⟩ := hw T' rfl X'
    refine ⟨t2, hgo.trans a1, ?_⟩
    rw [hq.1]
    exact b1
theorem x_callSx {E : String} (C : Cx X g l cc mL own ret rm) (hq : Re X g rm M E) (hM : CE l y bs' mL' ret' rm' g M as E) (hc : CD y bs' mL' ret' n) (hl : KS own idx y) (hn : as.length = n) (hst : st0 = as.reverse ++ st) (hR : Rm rm' rm mL' kc ks) (hW : (st.map fun v => v.category).sum ≤ 8) (d : decode cc pc = .ok (.invokestatic idx, 3)) : V X g kc ks pc lo st0 M := by
  intro H locs ls h1 h2 h3
  obtain ⟨⟨i, hcd⟩, hini, hd⟩ := hc
  obtain ⟨⟨i1, hl1⟩, i2, hl2⟩ := hl
  have hR' : xR X = rm := C.2.2.2.2.2.2.2.2.1
  have hl' : xL X = l := C.2.2.2.2.2.2.2.2.2
  subst hl'
  refine x_ranX C hq (vx_runS (As := as) (rest := st) (Ts := [Cond.code y bs' mL' ret']) ⟨C.1, C.2.1, rfl, C.2.2.2.1, fun w hw => ?_⟩ hM ⟨callB_of (Ts := [Cond.code y bs' mL' ret']) n (fun w hw => ?_) (code_good y bs' mL' ret') rfl rfl rfl (C.wm hini rfl) (C.w hl1 rfl) hd (by rw [hR']; exact hR.1), C.w hl2 rfl⟩ ⟨PC.blind, pcAt C h1 h2⟩ rfl hn h3.1 hst (lv_room hW) d (by rw [hR']; exact hR.2)) h2 hR.2
  · rw [List.mem_singleton.mp hw]; exact C.w hcd rfl
  · rw [List.mem_singleton.mp hw]; exact C.w hcd rfl
theorem x_callVx {E : String} (C : Cx X g l cc mL own ret rm) (hq : Re X g rm M E) {ci N : Nat} {T : u_T} (hM : CE l y bs' mL' ret' rm' g M (.ref (ga g k) :: as) E) (hc : CD y bs' mL' ret' n) (hl : KV own idx y) (hci : CI ci y.cls T N) (hk : xk k = ci) (hk2 : k < 29) (hn : as.length = n) (hst : st0 = as.reverse ++ .ref (ga g k) :: st) (hR : Rm rm' rm mL' kc ks) (hW : (st.map fun v => v.category).sum ≤ 8) (d : decode cc pc = .ok (.invokevirtual idx, 3)) : V X g kc ks pc lo st0 M := by
  intro H locs ls h1 h2 h3
  obtain ⟨⟨i, hcd⟩, hini, hd⟩ := hc
  obtain ⟨⟨i1, hl1⟩, ⟨i2, hl2⟩, i3, hl3⟩ := hl
  have hR' : xR X = rm := C.2.2.2.2.2.2.2.2.1
  have hl' : xL X = l := C.2.2.2.2.2.2.2.2.2
  subst hl'
  refine x_ranX C hq (vx_runV (As := as) (rest := st) (Ts := [Cond.code y bs' mL' ret']) ⟨C.1, C.2.1, rfl, C.2.2.2.1, fun w hw => ?_⟩ hM ⟨callB_of (Ts := [Cond.code y bs' mL' ret']) n (fun w hw => ?_) (code_good y bs' mL' ret') rfl rfl rfl (C.wm hini rfl) (C.w hl1 rfl) hd (by rw [hR']; exact hR.1), C.w hl2 rfl, C.w hl3 rfl⟩ ⟨PC.blind, x_recv C h1 hci hk hk2, pcAt C h1 h2⟩ rfl hn h3.1 hst (lv_room hW) d (by rw [hR']; exact hR.2)) h2 hR.2
  · rw [List.mem_singleton.mp hw]; exact C.w hcd rfl
  · rw [List.mem_singleton.mp hw]; exact C.w hcd rfl
end RULES4
end
section
/-! The walk over a world with cells at addresses: M as before for the class's own cells, D tells further cells by their addresses. -/
abbrev DM : Type := Nat → Option va_E
def dset (D : DM) (a : Nat) (e : va_E) : DM := fun q => if q = a then some e else D q
theorem dset_eq (D : DM) (a : Nat) (e : va_E) : dset D a e a = some e := if_pos rfl
theorem dset_ne {D : DM} {a q : Nat} {e : va_E} (h : q ≠ a) : dset D a e q = D q := if_neg h
def HD (g : GT) (M : Mem) (D : DM) (H : Heap) : Prop := ∃ W : va_W, va_P (gD g) vwCl (wl g M ++ W) H ∧ va_D (gA g) (wl g M ++ W) ∧ ∀ (a : Nat) (e : va_E), D a = some e → (a, e) ∈ W
def UX (X : XT) (g : GT) (kc ks pc : Nat) (lo : List (Nat × Value)) (st : List Value) (M : Mem) (D : DM) : Prop :=
  ∀ (H : Heap) (locs : List Loc) (ls : Array Slot), HD g M D H → va_S (gA g) (xS X).heap H locs → lv_has ls (xC X).maxLocals lo → xW X H locs kc ks (F0 (xM X) pc ls st)
section URULES
variable {X : XT} {g : GT} {l : Launch} {cc : ByteArray} {mL : Nat} {own : String} {ret : Option FieldType} {rm : Room} {kc ks pc : Nat} {lo lo' : List (Nat × Value)} {st : List Value} {M : Mem} {D : DM}
theorem u_iload_n (C : Cx X g l cc mL own ret rm) {n : Fin 4} {v : Int32} (d : decode cc pc = .ok (.iload_n n, 1)) (h : lk lo (n : Nat) = some (.int v)) (k : UX X g kc ks (pc + 1) lo (.int v :: st) M D) : UX X g kc ks pc lo st M D := fun H locs ls h1 h2 h3 => lv_iload_n C.1 C.2.1 d rfl (lk_at h3 h) (k H locs ls h1 h2 h3)
theorem u_iload (C : Cx X g l cc mL own ret rm) {n : Nat} {v : Int32} (d : decode cc pc = .ok (.iload n, 2)) (h : lk lo n = some (.int v)) (k : UX X g kc ks (pc + 2) lo (.int v :: st) M D) : UX X g kc ks pc lo st M D := fun H locs ls h1 h2 h3 => lv_iload C.1 C.2.1 d (lk_at h3 h) (k H locs ls h1 h2 h3)
theorem u_aload_n (C : Cx X g l cc mL own ret rm) {n : Fin 4} {v : Nat} (d : decode cc pc = .ok (.aload_n n, 1)) (h : lk lo (n : Nat) = some (.ref v)) (k : UX X g kc ks (pc + 1) lo (.ref v :: st) M D) : UX X g kc ks pc lo st M D := fun H locs ls h1 h2 h3 => lv_aload_n C.1 C.2.1 d rfl (lk_at h3 h) (k H locs ls h1 h2 h3)
theorem u_aload (C : Cx X g l cc mL own ret rm) {n : Nat} {v : Nat} (d : decode cc pc = .ok (.aload n, 2)) (h : lk lo n = some (.ref v)) (k : UX X g kc ks (pc + 2) lo (.ref v :: st) M D) : UX X g kc ks pc lo st M D := fun H locs ls h1 h2 h3 => lv_aload C.1 C.2.1 d (lk_at h3 h) (k H locs ls h1 h2 h3)
theorem u_lload_n (C : Cx X g l cc mL own ret rm) {n : Fin 4} {v : Int64} (d : decode cc pc = .ok (.lload_n n, 1)) (h : lk lo (n : Nat) = some (.long v)) (k : UX X g kc ks (pc + 1) lo (.long v :: st) M D) : UX X g kc ks pc lo st M D := fun H locs ls h1 h2 h3 => lv_lload_n C.1 C.2.1 d rfl (lk_at h3 h) (k H locs ls h1 h2 h3)
theorem u_dload (C : Cx X g l cc mL own ret rm) {n : Nat} {v : UInt64} (d : decode cc pc = .ok (.dload n, 2)) (h : lk lo n = some (.double v)) (k : UX X g kc ks (pc + 2) lo (.double v :: st) M D) : UX X g kc ks pc lo st M D := fun H locs ls h1 h2 h3 => lv_dload C.1 C.2.1 d (lk_at h3 h) (k H locs ls h1 h2 h3)
theorem u_istore_n (C : Cx X g l cc mL own ret rm) {n : Fin 4} {v : Int32} (d : decode cc pc = .ok (.istore_n n, 1)) (hn : (n : Nat) < mL) (h : ((n : Nat), Value.int v) :: lo.filter (fun q => !(q.1 == (n : Nat)) && !(q.1 + 1 == (n : Nat) && q.2.category == 2)) = lo') (k : UX X g kc ks (pc + 1) lo' st M D) : UX X g kc ks pc lo (.int v :: st) M D := fun H locs ls h1 h2 h3 => lv_istore_n C.1 C.2.1 d rfl h3 (by rw [C.2.2.1]; exact hn) h (fun ls' h4 => k H locs ls' h1 h2 h4)
theorem u_istore (C : Cx X g l cc mL own ret rm) {n : Nat} {v : Int32} (d : decode cc pc = .ok (.istore n, 2)) (hn : n < mL) (h : (n, Value.int v) :: lo.filter (fun q => !(q.1 == n) && !(q.1 + 1 == n && q.2.category == 2)) = lo') (k : UX X g kc ks (pc + 2) lo' st M D) : UX X g kc ks pc lo (.int v :: st) M D := fun H locs ls h1 h2 h3 => lv_istore C.1 C.2.1 d h3 (by rw [C.2.2.1]; exact hn) h (fun ls' h4 => k H locs ls' h1 h2 h4)
theorem u_astore_n (C : Cx X g l cc mL own ret rm) {n : Fin 4} {v : Nat} (d : decode cc pc = .ok (.astore_n n, 1)) (hn : (n : Nat) < mL) (h : ((n : Nat), Value.ref v) :: lo.filter (fun q => !(q.1 == (n : Nat)) && !(q.1 + 1 == (n : Nat) && q.2.category == 2)) = lo') (k : UX X g kc ks (pc + 1) lo' st M D) : UX X g kc ks pc lo (.ref v :: st) M D := fun H locs ls h1 h2 h3 => lv_astore_n C.1 C.2.1 d rfl h3 (by rw [C.2.2.1]; exact hn) h (fun ls' h4 => k H locs ls' h1 h2 h4)
theorem u_astore (C : Cx X g l cc mL own ret rm) {n : Nat} {v : Nat} (d : decode cc pc = .ok (.astore n, 2)) (hn : n < mL) (h : (n, Value.ref v) :: lo.filter (fun q => !(q.1 == n) && !(q.1 + 1 == n && q.2.category == 2)) = lo') (k : UX X g kc ks (pc + 2) lo' st M D) : UX X g kc ks pc lo (.ref v :: st) M D := fun H locs ls h1 h2 h3 => lv_astore C.1 C.2.1 d h3 (by rw [C.2.2.1]; exact hn) h (fun ls' h4 => k H locs ls' h1 h2 h4)
theorem u_lstore_n (C : Cx X g l cc mL own ret rm) {n : Fin 4} {v : Int64} (d : decode cc pc = .ok (.lstore_n n, 1)) (hn : (n : Nat) + 1 < mL) (h : ((n : Nat), Value.long v) :: lo.filter (fun q => !(q.1 == (n : Nat)) && (!(q.1 == (n : Nat) + 1) && !(q.1 + 1 == (n : Nat) && q.2.category == 2))) = lo') (k : UX X g kc ks (pc + 1) lo' st M D) : UX X g kc ks pc lo (.long v :: st) M D := fun H locs ls h1 h2 h3 => lv_lstore_n C.1 C.2.1 d rfl h3 (by rw [C.2.2.1]; exact hn) h (fun ls' h4 => k H locs ls' h1 h2 h4)
theorem u_dstore (C : Cx X g l cc mL own ret rm) {n : Nat} {v : UInt64} (d : decode cc pc = .ok (.dstore n, 2)) (hn : n + 1 < mL) (h : (n, Value.double v) :: lo.filter (fun q => !(q.1 == n) && (!(q.1 == n + 1) && !(q.1 + 1 == n && q.2.category == 2))) = lo') (k : UX X g kc ks (pc + 2) lo' st M D) : UX X g kc ks pc lo (.double v :: st) M D := fun H locs ls h1 h2 h3 => lv_dstore C.1 C.2.1 d h3 (by rw [C.2.2.1]; exact hn) h (fun ls' h4 => k H locs ls' h1 h2 h4)
theorem u_iinc (C : Cx X g l cc mL own ret rm) {n : Nat} {z : Int} {x v : Int32} (d : decode cc pc = .ok (.iinc n z, 3)) (hk : lk lo n = some (.int x)) (hv : x + Int32.ofInt z = v) (hn : n < mL) (h : (n, Value.int v) :: lo.filter (fun q => !(q.1 == n) && !(q.1 + 1 == n && q.2.category == 2)) = lo') (k : UX X g kc ks (pc + 3) lo' st M D) : UX X g kc ks pc lo st M D := fun H locs ls h1 h2 h3 => by
  obtain ⟨q, hq⟩ := lk_idx hk
  exact lv_iinc C.1 C.2.1 d h3 hq hv (by rw [C.2.2.1]; exact hn) h (fun ls' h4 => k H locs ls' h1 h2 h4)
theorem u_iconst (C : Cx X g l cc mL own ret rm) {z : Int} {v : Int32} (d : decode cc pc = .ok (.iconst z, 1)) (hv : Int32.ofInt z = v) (k : UX X g kc ks (pc + 1) lo (.int v :: st) M D) : UX X g kc ks pc lo st M D := fun H locs ls h1 h2 h3 => lv_iconst C.1 C.2.1 d hv (k H locs ls h1 h2 h3)
theorem u_bipush (C : Cx X g l cc mL own ret rm) {z : Int} {v : Int32} (d : decode cc pc = .ok (.bipush z, 2)) (hv : (Int8.ofInt z).toInt32 = v) (k : UX X g kc ks (pc + 2) lo (.int v :: st) M D) : UX X g kc ks pc lo st M D := fun H locs ls h1 h2 h3 => lv_bipush C.1 C.2.1 d hv (k H locs ls h1 h2 h3)
theorem u_sipush (C : Cx X g l cc mL own ret rm) {z : Int} {v : Int32} (d : decode cc pc = .ok (.sipush z, 3)) (hv : (Int16.ofInt z).toInt32 = v) (k : UX X g kc ks (pc + 3) lo (.int v :: st) M D) : UX X g kc ks pc lo st M D := fun H locs ls h1 h2 h3 => lv_sipush C.1 C.2.1 d hv (k H locs ls h1 h2 h3)
theorem u_lconst (C : Cx X g l cc mL own ret rm) {z : Fin 2} {v : Int64} (d : decode cc pc = .ok (.lconst z, 1)) (hv : Int64.ofNat (z : Nat) = v) (k : UX X g kc ks (pc + 1) lo (.long v :: st) M D) : UX X g kc ks pc lo st M D := fun H locs ls h1 h2 h3 => lv_lconst C.1 C.2.1 d hv (k H locs ls h1 h2 h3)
theorem u_dconst0 (C : Cx X g l cc mL own ret rm) (d : decode cc pc = .ok (.dconst 0, 1)) (k : UX X g kc ks (pc + 1) lo (.double 0 :: st) M D) : UX X g kc ks pc lo st M D := fun H locs ls h1 h2 h3 => lv_dconst0 C.1 C.2.1 d (k H locs ls h1 h2 h3)
theorem u_dup (C : Cx X g l cc mL own ret rm) {v : Value} (d : decode cc pc = .ok (.dup, 1)) (hv : v.category = 1) (k : UX X g kc ks (pc + 1) lo (v :: v :: st) M D) : UX X g kc ks pc lo (v :: st) M D := fun H locs ls h1 h2 h3 => lv_dup C.1 C.2.1 d hv (k H locs ls h1 h2 h3)
theorem u_pop (C : Cx X g l cc mL own ret rm) {v : Value} (d : decode cc pc = .ok (.pop, 1)) (hv : v.category = 1) (k : UX X g kc ks (pc + 1) lo st M D) : UX X g kc ks pc lo (v :: st) M D := fun H locs ls h1 h2 h3 => lv_pop C.1 C.2.1 d hv (k H locs ls h1 h2 h3)
theorem u_dup2 (C : Cx X g l cc mL own ret rm) {v w : Value} (d : decode cc pc = .ok (.dup2, 1)) (hv : v.category = 1) (hw : w.category = 1) (k : UX X g kc ks (pc + 1) lo (v :: w :: v :: w :: st) M D) : UX X g kc ks pc lo (v :: w :: st) M D := fun H locs ls h1 h2 h3 => lv_dup2_11 C.1 C.2.1 d hv hw (k H locs ls h1 h2 h3)
theorem u_iadd (C : Cx X g l cc mL own ret rm) {x y : Int32} (d : decode cc pc = .ok (.iadd, 1)) (k : UX X g kc ks (pc + 1) lo (.int (x + y) :: st) M D) : UX X g kc ks pc lo (.int y :: .int x :: st) M D := fun H locs ls h1 h2 h3 => lv_iadd C.1 C.2.1 d (k H locs ls h1 h2 h3)
theorem u_isub (C : Cx X g l cc mL own ret rm) {x y : Int32} (d : decode cc pc = .ok (.isub, 1)) (k : UX X g kc ks (pc + 1) lo (.int (x - y) :: st) M D) : UX X g kc ks pc lo (.int y :: .int x :: st) M D := fun H locs ls h1 h2 h3 => lv_isub C.1 C.2.1 d (k H locs ls h1 h2 h3)
theorem u_iand (C : Cx X g l cc mL own ret rm) {x y : Int32} (d : decode cc pc = .ok (.iand, 1)) (k : UX X g kc ks (pc + 1) lo (.int (x &&& y) :: st) M D) : UX X g kc ks pc lo (.int y :: .int x :: st) M D := fun H locs ls h1 h2 h3 => lv_iand C.1 C.2.1 d (k H locs ls h1 h2 h3)
theorem u_ladd (C : Cx X g l cc mL own ret rm) {x y : Int64} (d : decode cc pc = .ok (.ladd, 1)) (k : UX X g kc ks (pc + 1) lo (.long (x + y) :: st) M D) : UX X g kc ks pc lo (.long y :: .long x :: st) M D := fun H locs ls h1 h2 h3 => lv_ladd C.1 C.2.1 d (k H locs ls h1 h2 h3)
theorem u_lmul (C : Cx X g l cc mL own ret rm) {x y : Int64} (d : decode cc pc = .ok (.lmul, 1)) (k : UX X g kc ks (pc + 1) lo (.long (x * y) :: st) M D) : UX X g kc ks pc lo (.long y :: .long x :: st) M D := fun H locs ls h1 h2 h3 => lv_lmul C.1 C.2.1 d (k H locs ls h1 h2 h3)
theorem u_ineg (C : Cx X g l cc mL own ret rm) {x : Int32} (d : decode cc pc = .ok (.ineg, 1)) (k : UX X g kc ks (pc + 1) lo (.int (-x) :: st) M D) : UX X g kc ks pc lo (.int x :: st) M D := fun H locs ls h1 h2 h3 => lv_ineg C.1 C.2.1 d (k H locs ls h1 h2 h3)
theorem u_i2l (C : Cx X g l cc mL own ret rm) {x : Int32} (d : decode cc pc = .ok (.i2l, 1)) (k : UX X g kc ks (pc + 1) lo (.long x.toInt64 :: st) M D) : UX X g kc ks pc lo (.int x :: st) M D := fun H locs ls h1 h2 h3 => lv_i2l C.1 C.2.1 d rfl (k H locs ls h1 h2 h3)
theorem u_i2d (C : Cx X g l cc mL own ret rm) {x : Int32} (d : decode cc pc = .ok (.i2d, 1)) (k : UX X g kc ks (pc + 1) lo (.double (FP.i2d x) :: st) M D) : UX X g kc ks pc lo (.int x :: st) M D := fun H locs ls h1 h2 h3 => lv_i2d C.1 C.2.1 d (k H locs ls h1 h2 h3)
theorem u_ddiv (C : Cx X g l cc mL own ret rm) {x y : UInt64} (d : decode cc pc = .ok (.ddiv, 1)) (hne : vf_n64 (FP.ddiv x y)) (k : UX X g kc ks (pc + 1) lo (.double (FP.ddiv x y) :: st) M D) : UX X g kc ks pc lo (.double y :: .double x :: st) M D := fun H locs ls h1 h2 h3 => lv_ddiv C.1 C.2.1 d hne (k H locs ls h1 h2 h3)
theorem u_dcmp (C : Cx X g l cc mL own ret rm) {x y : UInt64} {op : CmpOp} (d : decode cc pc = .ok (.dcmp op, 1)) (k : UX X g kc ks (pc + 1) lo (.int (Op.cmpValue (FP.dcmp x y) op) :: st) M D) : UX X g kc ks pc lo (.double y :: .double x :: st) M D := fun H locs ls h1 h2 h3 => lv_dcmp C.1 C.2.1 d (k H locs ls h1 h2 h3)
theorem u_icmp_eq (C : Cx X g l cc mL own ret rm) {x y : Int32} {off : Int} {tgt : Nat} (d : decode cc pc = .ok (.if_icmp .eq off, 3)) (ht : (pc : Int) + off = (tgt : Int)) (kt : x = y → UX X g kc ks tgt lo st M D) (kf : ¬ (x = y) → UX X g kc ks (pc + 3) lo st M D) : UX X g kc ks pc lo (.int y :: .int x :: st) M D := fun H locs ls h1 h2 h3 => lv_icmp_eq C.1 C.2.1 d ht (fun c => kt c H locs ls h1 h2 h3) (fun c => kf c H locs ls h1 h2 h3)
theorem u_icmp_ne (C : Cx X g l cc mL own ret rm) {x y : Int32} {off : Int} {tgt : Nat} (d : decode cc pc = .ok (.if_icmp .ne off, 3)) (ht : (pc : Int) + off = (tgt : Int)) (kt : x ≠ y → UX X g kc ks tgt lo st M D) (kf : x = y → UX X g kc ks (pc + 3) lo st M D) : UX X g kc ks pc lo (.int y :: .int x :: st) M D := fun H locs ls h1 h2 h3 => lv_icmp_ne C.1 C.2.1 d ht (fun c => kt c H locs ls h1 h2 h3) (fun c => kf c H locs ls h1 h2 h3)
theorem u_icmp_lt (C : Cx X g l cc mL own ret rm) {x y : Int32} {off : Int} {tgt : Nat} (d : decode cc pc = .ok (.if_icmp .lt off, 3)) (ht : (pc : Int) + off = (tgt : Int)) (kt : x < y → UX X g kc ks tgt lo st M D) (kf : ¬ (x < y) → UX X g kc ks (pc + 3) lo st M D) : UX X g kc ks pc lo (.int y :: .int x :: st) M D := fun H locs ls h1 h2 h3 => lv_icmp_lt C.1 C.2.1 d ht (fun c => kt c H locs ls h1 h2 h3) (fun c => kf c H locs ls h1 h2 h3)
theorem u_icmp_ge (C : Cx X g l cc mL own ret rm) {x y : Int32} {off : Int} {tgt : Nat} (d : decode cc pc = .ok (.if_icmp .ge off, 3)) (ht : (pc : Int) + off = (tgt : Int)) (kt : x ≥ y → UX X g kc ks tgt lo st M D) (kf : ¬ (x ≥ y) → UX X g kc ks (pc + 3) lo st M D) : UX X g kc ks pc lo (.int y :: .int x :: st) M D := fun H locs ls h1 h2 h3 => lv_icmp_ge C.1 C.2.1 d ht (fun c => kt c H locs ls h1 h2 h3) (fun c => kf c H locs ls h1 h2 h3)
theorem u_icmp_gt (C : Cx X g l cc mL own ret rm) {x y : Int32} {off : Int} {tgt : Nat} (d : decode cc pc = .ok (.if_icmp .gt off, 3)) (ht : (pc : Int) + off = (tgt : Int)) (kt : x > y → UX X g kc ks tgt lo st M D) (kf : ¬ (x > y) → UX X g kc ks (pc + 3) lo st M D) : UX X g kc ks pc lo (.int y :: .int x :: st) M D := fun H locs ls h1 h2 h3 => lv_icmp_gt C.1 C.2.1 d ht (fun c => kt c H locs ls h1 h2 h3) (fun c => kf c H locs ls h1 h2 h3)
theorem u_icmp_le (C : Cx X g l cc mL own ret rm) {x y : Int32} {off : Int} {tgt : Nat} (d : decode cc pc = .ok (.if_icmp .le off, 3)) (ht : (pc : Int) + off = (tgt : Int)) (kt : x ≤ y → UX X g kc ks tgt lo st M D) (kf : ¬ (x ≤ y) → UX X g kc ks (pc + 3) lo st M D) : UX X g kc ks pc lo (.int y :: .int x :: st) M D := fun H locs ls h1 h2 h3 => lv_icmp_le C.1 C.2.1 d ht (fun c => kt c H locs ls h1 h2 h3) (fun c => kf c H locs ls h1 h2 h3)
theorem u_if_eq (C : Cx X g l cc mL own ret rm) {x : Int32} {off : Int} {tgt : Nat} (d : decode cc pc = .ok (.ifCond .eq off, 3)) (ht : (pc : Int) + off = (tgt : Int)) (kt : x = 0 → UX X g kc ks tgt lo st M D) (kf : ¬ (x = 0) → UX X g kc ks (pc + 3) lo st M D) : UX X g kc ks pc lo (.int x :: st) M D := fun H locs ls h1 h2 h3 => lv_if_eq C.1 C.2.1 d ht (fun c => kt c H locs ls h1 h2 h3) (fun c => kf c H locs ls h1 h2 h3)
theorem u_if_ne (C : Cx X g l cc mL own ret rm) {x : Int32} {off : Int} {tgt : Nat} (d : decode cc pc = .ok (.ifCond .ne off, 3)) (ht : (pc : Int) + off = (tgt : Int)) (kt : x ≠ 0 → UX X g kc ks tgt lo st M D) (kf : x = 0 → UX X g kc ks (pc + 3) lo st M D) : UX X g kc ks pc lo (.int x :: st) M D := fun H locs ls h1 h2 h3 => lv_if_ne C.1 C.2.1 d ht (fun c => kt c H locs ls h1 h2 h3) (fun c => kf c H locs ls h1 h2 h3)
theorem u_if_lt (C : Cx X g l cc mL own ret rm) {x : Int32} {off : Int} {tgt : Nat} (d : decode cc pc = .ok (.ifCond .lt off, 3)) (ht : (pc : Int) + off = (tgt : Int)) (kt : x < 0 → UX X g kc ks tgt lo st M D) (kf : ¬ (x < 0) → UX X g kc ks (pc + 3) lo st M D) : UX X g kc ks pc lo (.int x :: st) M D := fun H locs ls h1 h2 h3 => lv_if_lt C.1 C.2.1 d ht (fun c => kt c H locs ls h1 h2 h3) (fun c => kf c H locs ls h1 h2 h3)
theorem u_if_ge (C : Cx X g l cc mL own ret rm) {x : Int32} {off : Int} {tgt : Nat} (d : decode cc pc = .ok (.ifCond .ge off, 3)) (ht : (pc : Int) + off = (tgt : Int)) (kt : x ≥ 0 → UX X g kc ks tgt lo st M D) (kf : ¬ (x ≥ 0) → UX X g kc ks (pc + 3) lo st M D) : UX X g kc ks pc lo (.int x :: st) M D := fun H locs ls h1 h2 h3 => lv_if_ge C.1 C.2.1 d ht (fun c => kt c H locs ls h1 h2 h3) (fun c => kf c H locs ls h1 h2 h3)
theorem u_if_gt (C : Cx X g l cc mL own ret rm) {x : Int32} {off : Int} {tgt : Nat} (d : decode cc pc = .ok (.ifCond .gt off, 3)) (ht : (pc : Int) + off = (tgt : Int)) (kt : x > 0 → UX X g kc ks tgt lo st M D) (kf : ¬ (x > 0) → UX X g kc ks (pc + 3) lo st M D) : UX X g kc ks pc lo (.int x :: st) M D := fun H locs ls h1 h2 h3 => lv_if_gt C.1 C.2.1 d ht (fun c => kt c H locs ls h1 h2 h3) (fun c => kf c H locs ls h1 h2 h3)
theorem u_if_le (C : Cx X g l cc mL own ret rm) {x : Int32} {off : Int} {tgt : Nat} (d : decode cc pc = .ok (.ifCond .le off, 3)) (ht : (pc : Int) + off = (tgt : Int)) (kt : x ≤ 0 → UX X g kc ks tgt lo st M D) (kf : ¬ (x ≤ 0) → UX X g kc ks (pc + 3) lo st M D) : UX X g kc ks pc lo (.int x :: st) M D := fun H locs ls h1 h2 h3 => lv_if_le C.1 C.2.1 d ht (fun c => kt c H locs ls h1 h2 h3) (fun c => kf c H locs ls h1 h2 h3)
theorem u_goto (C : Cx X g l cc mL own ret rm) {off : Int} {tgt : Nat} (d : decode cc pc = .ok (.goto off, 3)) (ht : (pc : Int) + off = (tgt : Int)) (k : UX X g kc ks tgt lo st M D) : UX X g kc ks pc lo st M D := fun H locs ls h1 h2 h3 => lv_goto C.1 C.2.1 d ht (k H locs ls h1 h2 h3)
theorem u_bif_eq (C : Cx X g l cc mL own ret rm) {c : Prop} [Decidable c] {off : Int} {tgt : Nat} (d : decode cc pc = .ok (.ifCond .eq off, 3)) (ht : (pc : Int) + off = (tgt : Int)) (kt : ¬ c → UX X g kc ks tgt lo st M D) (kf : c → UX X g kc ks (pc + 3) lo st M D) : UX X g kc ks pc lo (.int (b2i c) :: st) M D := by
  refine u_if_eq C d ht (fun h => kt (fun hc => ?_)) (fun h => kf ?_)
  · rw [b2i_t hc] at h; exact absurd h (by decide)
  · by_cases hc : c
    · exact hc
    · exact absurd (b2i_f hc) h
theorem u_bif_ne (C : Cx X g l cc mL own ret rm) {c : Prop} [Decidable c] {off : Int} {tgt : Nat} (d : decode cc pc = .ok (.ifCond .ne off, 3)) (ht : (pc : Int) + off = (tgt : Int)) (kt : c → UX X g kc ks tgt lo st M D) (kf : ¬ c → UX X g kc ks (pc + 3) lo st M D) : UX X g kc ks pc lo (.int (b2i c) :: st) M D := by
  refine u_if_ne C d ht (fun h => kt ?_) (fun h => kf (fun hc => ?_))
  · by_cases hc : c
    · exact hc
    · exact absurd (b2i_f hc) h
  · rw [b2i_t hc] at h; exact absurd h (by decide)
/-- fewer locals, in any order -/
theorem u_lsub (ks' : List Nat) (hl : lv_pick lo ks' = lo') (k : UX X g kc ks pc lo' st M D) : UX X g kc ks pc lo st M D := fun H locs ls h1 h2 h3 => k H locs ls h1 h2 (lv_sub h3 ks' hl)
theorem u_mem {M' : Mem} (h : M = M') (k : UX X g kc ks pc lo st M' D) : UX X g kc ks pc lo st M D := h ▸ k
theorem u_widen {kc' ks' : Nat} (h1 : kc ≤ kc') (h2 : ks ≤ ks') (k : UX X g kc' ks' pc lo st M D) : UX X g kc ks pc lo st M D := fun H locs ls a b c => W.widen h1 h2 (k H locs ls a b c)
end URULES
end
section
/-! .. cells told by their addresses: fields, arrays, new ones. -/
theorem dd_at (g : GT) (M : Mem) {D : DM} {Wl : va_W} {a : Nat} {e : va_E} (hD : ∀ (a : Nat) (e : va_E), D a = some e → (a, e) ∈ Wl) (h : D a = some e) : ∃ i : Nat, Wl[i]? = some (a, e) ∧ (wl g M ++ Wl)[(wl g M).length + i]? = some (a, e) := by
  obtain ⟨i, hi⟩ := List.getElem?_of_mem (hD a e h)
  refine ⟨i, hi, ?_⟩
  rw [List.getElem?_append_right (by omega), Nat.add_sub_cancel_left]
  exact hi
theorem dd_set {g : GT} {M : Mem} {D : DM} {Wl : va_W} {a i : Nat} {e e' : va_E} {H1 : Heap} (hD : ∀ (a : Nat) (e : va_E), D a = some e → (a, e) ∈ Wl) (hi : Wl[i]? = some (a, e)) (p : va_P (gD g) vwCl ((wl g M ++ Wl).set ((wl g M).length + i) (a, e')) H1) (d : va_D (gA g) ((wl g M ++ Wl).set ((wl g M).length + i) (a, e'))) : HD g M (dset D a e') H1 := by
  have hs : (wl g M ++ Wl).set ((wl g M).length + i) (a, e') = wl g M ++ Wl.set i (a, e') := by
    rw [List.set_append_right _ _ (by omega), Nat.add_sub_cancel_left]
  rw [hs] at p d
  refine ⟨Wl.set i (a, e'), p, d, fun q x hq => ?_⟩
  by_cases c : q = a
  · subst c
    rw [dset_eq] at hq
    cases hq
    exact List.mem_of_getElem? (i := i) (by rw [List.getElem?_set_self (List.getElem?_eq_some_iff.mp hi).1])
  · rw [dset_ne c] at hq
    obtain ⟨j, hj⟩ := List.getElem?_of_mem (hD q x hq)
    have hij : i ≠ j := fun z => by
      subst z
      rw [hi] at hj
      cases hj
      exact c rfl
    exact List.mem_of_getElem? (i := j) (by rw [List.getElem?_set_ne hij]; exact hj)
theorem dd_push {g : GT} {M : Mem} {D : DM} {Wl : va_W} {q : Nat} {e : va_E} {H1 : Heap} (hD : ∀ (a : Nat) (e : va_E), D a = some e → (a, e) ∈ Wl) (p : va_P (gD g) vwCl ((wl g M ++ Wl) ++ [(q, e)]) H1) (d : va_D (gA g) ((wl g M ++ Wl) ++ [(q, e)])) : D q = none ∧ HD g M (dset D q e) H1 := by
  have hlast : ((wl g M ++ Wl) ++ [(q, e)])[(wl g M ++ Wl).length]? = some (q, e) := by
    rw [List.getElem?_append_right (Nat.le_refl _), Nat.sub_self]
    rfl
  have hn : D q = none := by
    cases hq : D q with
    | none => rfl
    | some x =>
      obtain ⟨i, hi, hb⟩ := dd_at g M hD hq
      have hlt : i < Wl.length := (List.getElem?_eq_some_iff.mp hi).1
      have hlt2 : (wl g M).length + i < (wl g M ++ Wl).length := by rw [List.length_append]; omega
      have hb2 : ((wl g M ++ Wl) ++ [(q, e)])[(wl g M).length + i]? = some (q, x) := by
        rw [List.getElem?_append_left hlt2]
        exact hb
      have := d.1 _ _ _ _ hb2 hlast rfl
      omega
  refine ⟨hn, Wl ++ [(q, e)], by rw [← List.append_assoc]; exact p, by rw [← List.append_assoc]; exact d, fun a x ha => ?_⟩
  by_cases c : a = q
  · subst c
    rw [dset_eq] at ha
    cases ha
    exact List.mem_append.mpr (Or.inr (List.mem_singleton.mpr rfl))
  · rw [dset_ne c] at ha
    exact List.mem_append.mpr (Or.inl (hD a x ha))
/-- all cells but a are as they were -/
def Ot (D D' : DM) (a : Nat) : Prop := ∀ q, q ≠ a → D' q = D q
theorem Ot.dset (D : DM) (a : Nat) (e : va_E) : Ot D (dset D a e) a := fun _ h => dset_ne h
/-- an array of ints, of booleans, of arrays of ints -/
def IA (g : GT) (D : DM) (a n : Nat) (f : Nat → Int32) : Prop := ∃ f' : Nat → Int32, D a = some (.inl (gI g, n, .inl f')) ∧ ∀ j, j < n → f' j = f j
def ZA (g : GT) (D : DM) (a n : Nat) (f : Nat → Int32) : Prop := ∃ f' : Nat → Int32, D a = some (.inl (gZ g, n, .inl f')) ∧ ∀ j, j < n → f' j = f j
def RA (g : GT) (D : DM) (a n : Nat) (f : Nat → Option Nat) : Prop := ∃ f' : Nat → Option Nat, D a = some (.inl (gJ g, n, .inr (.inr (.inr (.inr f'))))) ∧ ∀ j, j < n → f' j = f j
def OB (D : DM) (a ci : Nat) (vs : List Value) : Prop := D a = some (.inr (ci, vs))
theorem IA.ot {g : GT} {D D' : DM} {a b n : Nat} {f : Nat → Int32} (h : IA g D a n f) (o : Ot D D' b) (hn : a ≠ b) : IA g D' a n f := by
  obtain ⟨f', h1, h2⟩ := h
  exact ⟨f', by rw [o a hn]; exact h1, h2⟩
theorem ZA.ot {g : GT} {D D' : DM} {a b n : Nat} {f : Nat → Int32} (h : ZA g D a n f) (o : Ot D D' b) (hn : a ≠ b) : ZA g D' a n f := by
  obtain ⟨f', h1, h2⟩ := h
  exact ⟨f', by rw [o a hn]; exact h1, h2⟩
theorem RA.ot {g : GT} {D D' : DM} {a b n : Nat} {f : Nat → Option Nat} (h : RA g D a n f) (o : Ot D D' b) (hn : a ≠ b) : RA g D' a n f := by
  obtain ⟨f', h1, h2⟩ := h
  exact ⟨f', by rw [o a hn]; exact h1, h2⟩
theorem OB.ot {D D' : DM} {a b ci : Nat} {vs : List Value} (h : OB D a ci vs) (o : Ot D D' b) (hn : a ≠ b) : OB D' a ci vs := (o a hn).trans h
theorem IA.ext {g : GT} {D : DM} {a n : Nat} {f h : Nat → Int32} (i : IA g D a n f) (e : ∀ j, j < n → f j = h j) : IA g D a n h := by
  obtain ⟨f', h1, h2⟩ := i
  exact ⟨f', h1, fun j hj => (h2 j hj).trans (e j hj)⟩
theorem ZA.ext {g : GT} {D : DM} {a n : Nat} {f h : Nat → Int32} (i : ZA g D a n f) (e : ∀ j, j < n → f j = h j) : ZA g D a n h := by
  obtain ⟨f', h1, h2⟩ := i
  exact ⟨f', h1, fun j hj => (h2 j hj).trans (e j hj)⟩
theorem RA.ext {g : GT} {D : DM} {a n : Nat} {f h : Nat → Option Nat} (i : RA g D a n f) (e : ∀ j, j < n → f j = h j) : RA g D a n h := by
  obtain ⟨f', h1, h2⟩ := i
  exact ⟨f', h1, fun j hj => (h2 j hj).trans (e j hj)⟩
theorem IA.some {g : GT} {D : DM} {a n : Nat} {f : Nat → Int32} (i : IA g D a n f) : D a ≠ none := by
  obtain ⟨f', h1, -⟩ := i
  rw [h1]
  exact fun h => by cases h
theorem ZA.some {g : GT} {D : DM} {a n : Nat} {f : Nat → Int32} (i : ZA g D a n f) : D a ≠ none := by
  obtain ⟨f', h1, -⟩ := i
  rw [h1]
  exact fun h => by cases h
theorem RA.some {g : GT} {D : DM} {a n : Nat} {f : Nat → Option Nat} (i : RA g D a n f) : D a ≠ none := by
  obtain ⟨f', h1, -⟩ := i
  rw [h1]
  exact fun h => by cases h
theorem OB.some {D : DM} {a ci : Nat} {vs : List Value} (i : OB D a ci vs) : D a ≠ none := by
  rw [show D a = _ from i]
  exact fun h => by cases h
/-- what is known of D is known of D' -/
def Le (D D' : DM) : Prop := ∀ (a : Nat) (e : va_E), D a = some e → D' a = some e
theorem Le.rf {D : DM} : Le D D := fun _ _ h => h
theorem Le.tr {D D' D'' : DM} (h : Le D D') (k : Le D' D'') : Le D D'' := fun a e x => k a e (h a e x)
theorem Le.ot {D D' : DM} {a : Nat} (o : Ot D D' a) (h : D a = none) : Le D D' := fun q e x => by
  rw [o q (fun z => by subst z; rw [h] at x; cases x)]
  exact x
theorem IA.le {g : GT} {D D' : DM} {a n : Nat} {f : Nat → Int32} (h : IA g D a n f) (o : Le D D') : IA g D' a n f := by
  obtain ⟨f', h1, h2⟩ := h
  exact ⟨f', o _ _ h1, h2⟩
theorem ZA.le {g : GT} {D D' : DM} {a n : Nat} {f : Nat → Int32} (h : ZA g D a n f) (o : Le D D') : ZA g D' a n f := by
  obtain ⟨f', h1, h2⟩ := h
  exact ⟨f', o _ _ h1, h2⟩
theorem RA.le {g : GT} {D D' : DM} {a n : Nat} {f : Nat → Option Nat} (h : RA g D a n f) (o : Le D D') : RA g D' a n f := by
  obtain ⟨f', h1, h2⟩ := h
  exact ⟨f', o _ _ h1, h2⟩
theorem OB.le {D D' : DM} {a ci : Nat} {vs : List Value} (h : OB D a ci vs) (o : Le D D') : OB D' a ci vs := o _ _ h
/-- a field that isn't final and holds a reference -/
def FLN (own : String) (idx ci j : Nat) : Prop := ∃ (Cn : String) (T : u_T) (N : Nat), CI ci Cn T N ∧ j < N ∧ (T j).1 = Cn ∧ ((∃ i : Nat, lw_tbl[i]? = some (.fieldLink own idx Cn (T j).2.1 (T j).2.2.1)) ∨ ∃ (i : Nat) (h : String), lw_tbl[i]? = some (.fieldLinkNest own idx Cn (T j).2.1 (T j).2.2.1 h)) ∧ (T j).2.2.2 = false ∧ ∃ ty, parseFieldDescriptor (T j).2.2.1 = some ty ∧ (∀ q, narrow ty (.ref q) = .ref q) ∧ ∀ q, fits ty (.ref q) = true
section UDATA
variable {X : XT} {g : GT} {l : Launch} {cc : ByteArray} {mL : Nat} {own : String} {ret : Option FieldType} {rm : Room} {kc ks pc : Nat} {lo lo' : List (Nat × Value)} {st : List Value} {M : Mem} {D : DM}
theorem u_getF (C : Cx X g l cc mL own ret rm) {idx ci j a : Nat} {v : Value} {vs : List Value} (hf : FL own idx ci j) (ha : OB D a ci vs) (hv : vs[j]? = some v) (d : decode cc pc = .ok (.getfield idx, 3)) (kk : UX X g kc ks (pc + 3) lo (v :: st) M D) : UX X g kc ks pc lo (.ref a :: st) M D := by
  intro H locs ls h1 h2 h3
  have h1' := h1
  obtain ⟨Wl, p, dd, hD⟩ := h1'
  obtain ⟨i0, -, hat⟩ := dd_at g M hD ha
  obtain ⟨Cn, T, N, hc, hj, hT, hl⟩ := hf
  have hK := C.2.2.2.2.1
  have hts : ∀ w ∈ u_ws Cn T N, w.before (xA X) (xS X) = true := fun w hw => C.wm (hc.2.2.2.2 w hw).1 (hc.2.2.2.2 w hw).2
  have hs : ∀ x, (xS X).fieldFound? (T j).1 (T j).2.1 (T j).2.2.1 = some x → (xS X).fieldFound? Cn (T j).2.1 (T j).2.2.1 = some x := fun x hx => by rw [hT] at hx; exact hx
  rcases hl with ⟨i, hl⟩ | ⟨i, h, hl⟩
  · exact va_get C.1 C.2.1 hts (fun _ h => h) C.2.2.2.1 hK.2.1 p _ hat hc.1 j hj (C.w hl rfl) hs hv d (kk H locs ls h1 h2 h3)
  · exact va_getN C.1 C.2.1 hts (fun _ h => h) C.2.2.2.1 hK.2.1 p _ hat hc.1 j hj (C.w hl rfl) hs hv d (kk H locs ls h1 h2 h3)
theorem u_putI (C : Cx X g l cc mL own ret rm) {idx ci j a : Nat} {v : Int32} {vs : List Value} (hf : FLI own idx ci j) (ha : OB D a ci vs) (hl : j < vs.length) (d : decode cc pc = .ok (.putfield idx, 3)) (kk : ∀ D', Ot D D' a → OB D' a ci (vs.set j (.int v)) → UX X g kc ks (pc + 3) lo st M D') : UX X g kc ks pc lo (.int v :: .ref a :: st) M D := by
  intro H locs ls h1 h2 h3
  obtain ⟨Wl, p, dd, hD⟩ := h1
  obtain ⟨i0, hi0, hat⟩ := dd_at g M hD ha
  obtain ⟨Cn, T, N, hc, hj, hT, hl1, hfin, hd⟩ := hf
  have hK := C.2.2.2.2.1
  have hts : ∀ w ∈ u_ws Cn T N, w.before (xA X) (xS X) = true := fun w hw => C.wm (hc.2.2.2.2 w hw).1 (hc.2.2.2.2 w hw).2
  have hs : ∀ x, (xS X).fieldFound? (T j).1 (T j).2.1 (T j).2.2.1 = some x → (xS X).fieldFound? Cn (T j).2.1 (T j).2.2.1 = some x := fun x hx => by rw [hT] at hx; exact hx
  obtain ⟨ty0, hty⟩ := hc.2.2.1
  rcases hl1 with ⟨i, hl1⟩ | ⟨i, h, hl1⟩
  · exact va_put C.1 C.2.1 hts (fun _ h => h) ty0 hty hc.2.2.2.1 C.2.2.2.1 hK.2.1 p dd h2 _ hat hc.1 j hj (C.w hl1 rfl) hs hfin hd rfl rfl hl d (fun H1 locs1 p1 p2 p3 => kk _ (Ot.dset _ _ _) (dset_eq _ _ _) H1 locs1 ls (dd_set hD hi0 p1 p2) p3 h3)
  · exact va_putN C.1 C.2.1 hts (fun _ h => h) ty0 hty hc.2.2.2.1 C.2.2.2.1 hK.2.1 p dd h2 _ hat hc.1 j hj (C.w hl1 rfl) hs hfin hd rfl rfl hl d (fun H1 locs1 p1 p2 p3 => kk _ (Ot.dset _ _ _) (dset_eq _ _ _) H1 locs1 ls (dd_set hD hi0 p1 p2) p3 h3)
theorem u_putR (C : Cx X g l cc mL own ret rm) {idx ci j a q : Nat} {vs : List Value} (hf : FLN own idx ci j) (ha : OB D a ci vs) (hl : j < vs.length) (d : decode cc pc = .ok (.putfield idx, 3)) (kk : ∀ D', Ot D D' a → OB D' a ci (vs.set j (.ref q)) → UX X g kc ks (pc + 3) lo st M D') : UX X g kc ks pc lo (.ref q :: .ref a :: st) M D := by
  intro H locs ls h1 h2 h3
  obtain ⟨Wl, p, dd, hD⟩ := h1
  obtain ⟨i0, hi0, hat⟩ := dd_at g M hD ha
  obtain ⟨Cn, T, N, hc, hj, hT, hl1, hfin, ty, hd, hnw, hft⟩ := hf
  have hK := C.2.2.2.2.1
  have hts : ∀ w ∈ u_ws Cn T N, w.before (xA X) (xS X) = true := fun w hw => C.wm (hc.2.2.2.2 w hw).1 (hc.2.2.2.2 w hw).2
  have hs : ∀ x, (xS X).fieldFound? (T j).1 (T j).2.1 (T j).2.2.1 = some x → (xS X).fieldFound? Cn (T j).2.1 (T j).2.2.1 = some x := fun x hx => by rw [hT] at hx; exact hx
  obtain ⟨ty0, hty⟩ := hc.2.2.1
  rcases hl1 with ⟨i, hl1⟩ | ⟨i, h, hl1⟩
  · exact va_put C.1 C.2.1 hts (fun _ h => h) ty0 hty hc.2.2.2.1 C.2.2.2.1 hK.2.1 p dd h2 _ hat hc.1 j hj (C.w hl1 rfl) hs hfin hd (hnw q) (hft q) hl d (fun H1 locs1 p1 p2 p3 => kk _ (Ot.dset _ _ _) (dset_eq _ _ _) H1 locs1 ls (dd_set hD hi0 p1 p2) p3 h3)
  · exact va_putN C.1 C.2.1 hts (fun _ h => h) ty0 hty hc.2.2.2.1 C.2.2.2.1 hK.2.1 p dd h2 _ hat hc.1 j hj (C.w hl1 rfl) hs hfin hd (hnw q) (hft q) hl d (fun H1 locs1 p1 p2 p3 => kk _ (Ot.dset _ _ _) (dset_eq _ _ _) H1 locs1 ls (dd_set hD hi0 p1 p2) p3 h3)
theorem u_iald (C : Cx X g l cc mL own ret rm) {a n j : Nat} {i : Int32} {f : Nat → Int32} (ha : IA g D a n f) (hi : i = nI j) (hj : j < n) (hn : n ≤ 1000) (d : decode cc pc = .ok (.iaload, 1)) (kk : UX X g kc ks (pc + 1) lo (.int (f j) :: st) M D) : UX X g kc ks pc lo (.int i :: .ref a :: st) M D := by
  intro H locs ls h1 h2 h3
  subst hi
  have h1' := h1
  obtain ⟨Wl, p, dd, hD⟩ := h1'
  obtain ⟨f', ha, he⟩ := ha
  obtain ⟨i0, -, hat⟩ := dd_at g M hD ha
  refine va_iald C.1 C.2.1 C.2.2.2.2.1.2.1 p _ 0 hat rfl (vp_in_nI hj (by omega)) d ?_
  rw [nI_clamp (by omega), he j hj]
  exact kk H locs ls h1 h2 h3
theorem u_zald (C : Cx X g l cc mL own ret rm) {a n j : Nat} {i : Int32} {f : Nat → Int32} (ha : ZA g D a n f) (hi : i = nI j) (hj : j < n) (hn : n ≤ 1000) (d : decode cc pc = .ok (.baload, 1)) (kk : UX X g kc ks (pc + 1) lo (.int (f j) :: st) M D) : UX X g kc ks pc lo (.int i :: .ref a :: st) M D := by
  intro H locs ls h1 h2 h3
  subst hi
  have h1' := h1
  obtain ⟨Wl, p, dd, hD⟩ := h1'
  obtain ⟨f', ha, he⟩ := ha
  obtain ⟨i0, -, hat⟩ := dd_at g M hD ha
  refine va_zald C.1 C.2.1 C.2.2.2.2.1.2.1 p _ 1 hat rfl (vp_in_nI hj (by omega)) d ?_
  rw [nI_clamp (by omega), he j hj]
  exact kk H locs ls h1 h2 h3
theorem u_iast (C : Cx X g l cc mL own ret rm) {a n j : Nat} {i v : Int32} {f : Nat → Int32} (ha : IA g D a n f) (hi : i = nI j) (hj : j < n) (hn : n ≤ 1000) (d : decode cc pc = .ok (.iastore, 1)) (kk : ∀ D', Ot D D' a → IA g D' a n (upd f j v) → UX X g kc ks (pc + 1) lo st M D') : UX X g kc ks pc lo (.int v :: .int i :: .ref a :: st) M D := by
  intro H locs ls h1 h2 h3
  subst hi
  obtain ⟨Wl, p, dd, hD⟩ := h1
  obtain ⟨f', ha, he⟩ := ha
  obtain ⟨i0, hi0, hat⟩ := dd_at g M hD ha
  refine va_iast C.1 C.2.1 C.2.2.2.2.1.2.1 p dd h2 _ 0 hat rfl (vp_in_nI hj (by omega)) d (fun H1 locs1 p1 p2 p3 => ?_)
  rw [nI_clamp (by omega)] at p1 p2
  exact kk _ (Ot.dset _ _ _) ⟨_, dset_eq _ _ _, fun q hq => by unfold upd; by_cases c : q = j <;> simp [c, he q hq]⟩ H1 locs1 ls (dd_set hD hi0 p1 p2) p3 h3
theorem u_zast (C : Cx X g l cc mL own ret rm) {a n j : Nat} {i v v' : Int32} {f : Nat → Int32} (ha : ZA g D a n f) (hi : i = nI j) (hj : j < n) (hn : n ≤ 1000) (hv : vp_nar .boolean v = v') (d : decode cc pc = .ok (.bastore, 1)) (kk : ∀ D', Ot D D' a → ZA g D' a n (upd f j v') → UX X g kc ks (pc + 1) lo st M D') : UX X g kc ks pc lo (.int v :: .int i :: .ref a :: st) M D := by
  intro H locs ls h1 h2 h3
  subst hi; subst hv
  obtain ⟨Wl, p, dd, hD⟩ := h1
  obtain ⟨f', ha, he⟩ := ha
  obtain ⟨i0, hi0, hat⟩ := dd_at g M hD ha
  refine va_zast C.1 C.2.1 C.2.2.2.2.1.2.1 p dd h2 _ 1 hat rfl (vp_in_nI hj (by omega)) d (fun H1 locs1 p1 p2 p3 => ?_)
  rw [nI_clamp (by omega)] at p1 p2
  exact kk _ (Ot.dset _ _ _) ⟨_, dset_eq _ _ _, fun q hq => by unfold upd; by_cases c : q = j <;> simp [c, he q hq]⟩ H1 locs1 ls (dd_set hD hi0 p1 p2) p3 h3
theorem u_ialen (C : Cx X g l cc mL own ret rm) {a n : Nat} {f : Nat → Int32} (ha : IA g D a n f) (d : decode cc pc = .ok (.arraylength, 1)) (kk : UX X g kc ks (pc + 1) lo (.int (nI n) :: st) M D) : UX X g kc ks pc lo (.ref a :: st) M D := by
  intro H locs ls h1 h2 h3
  have h1' := h1
  obtain ⟨Wl, p, dd, hD⟩ := h1'
  obtain ⟨f', ha, he⟩ := ha
  obtain ⟨i0, -, hat⟩ := dd_at g M hD ha
  exact va_alen C.1 C.2.1 C.2.2.2.2.1.2.1 p _ 0 hat rfl rfl d (kk H locs ls h1 h2 h3)
theorem u_ralen (C : Cx X g l cc mL own ret rm) {a n : Nat} {f : Nat → Option Nat} (ha : RA g D a n f) (d : decode cc pc = .ok (.arraylength, 1)) (kk : UX X g kc ks (pc + 1) lo (.int (nI n) :: st) M D) : UX X g kc ks pc lo (.ref a :: st) M D := by
  intro H locs ls h1 h2 h3
  have h1' := h1
  obtain ⟨Wl, p, dd, hD⟩ := h1'
  obtain ⟨f', ha, he⟩ := ha
  obtain ⟨i0, -, hat⟩ := dd_at g M hD ha
  exact va_alen C.1 C.2.1 C.2.2.2.2.1.2.1 p _ 2 hat rfl rfl d (kk H locs ls h1 h2 h3)
theorem u_aald (C : Cx X g l cc mL own ret rm) {a n j q : Nat} {i : Int32} {f : Nat → Option Nat} (ha : RA g D a n f) (hi : i = nI j) (hj : j < n) (hn : n ≤ 1000) (hq : f j = some q) (d : decode cc pc = .ok (.aaload, 1)) (kk : UX X g kc ks (pc + 1) lo (.ref q :: st) M D) : UX X g kc ks pc lo (.int i :: .ref a :: st) M D := by
  intro H locs ls h1 h2 h3
  subst hi
  have h1' := h1
  obtain ⟨Wl, p, dd, hD⟩ := h1'
  obtain ⟨f', ha, he⟩ := ha
  obtain ⟨i0, -, hat⟩ := dd_at g M hD ha
  have hc : H[a]? = some (vp_cell (gJ g) (n, .inr (.inr (.inr (.inr f'))))) := p _ _ hat
  rw [vp_cell_q] at hc
  refine W.aald (v := va_rf (f' (nI j).toNatClampNeg)) (ty := .array .int) C.1 C.2.1 hc ((C.2.2.2.2.1.2.1.2 2 _ rfl).1 n (fun j => va_rf (f' j))) rfl (fun q => by cases q) (by show ¬ (nI j < 0 ∨ (arrV _ _ _).slots.size ≤ _); rw [arrV_size]; exact vp_in_nI hj (by omega)) (by show (arrV _ _ _).slots[_]? = _; rw [arrV_read _ _ (by rw [nI_clamp (by omega)]; exact hj)]) rfl rfl d ?_
  rw [nI_clamp (by omega), he j hj, hq]
  exact kk H locs ls h1 h2 h3
theorem u_aast (C : Cx X g l cc mL own ret rm) {a n j q n' : Nat} {i : Int32} {f : Nat → Option Nat} {f2 : Nat → Int32} (ha : RA g D a n f) (hb : IA g D q n' f2) (hi : i = nI j) (hj : j < n) (hn : n ≤ 1000) (d : decode cc pc = .ok (.aastore, 1)) (kk : ∀ D', Ot D D' a → RA g D' a n (fun t => if t = j then some q else f t) → UX X g kc ks (pc + 1) lo st M D') : UX X g kc ks pc lo (.ref q :: .int i :: .ref a :: st) M D := by
  intro H locs ls h1 h2 h3
  subst hi
  obtain ⟨Wl, p, dd, hD⟩ := h1
  obtain ⟨f', ha, he⟩ := ha
  obtain ⟨f2', hb, -⟩ := hb
  obtain ⟨i0, hi0, hat⟩ := dd_at g M hD ha
  obtain ⟨i2, -, hbt⟩ := dd_at g M hD hb
  have hc : H[a]? = some (vp_cell (gJ g) (n, .inr (.inr (.inr (.inr f'))))) := p _ _ hat
  have hc2 : H[q]? = some (vp_cell (gI g) (n', .inl f2')) := p _ _ hbt
  rw [vp_cell_q] at hc
  obtain ⟨kA, k1, k2, k3, k4⟩ := C.2.2.2.2.1.2.2.2.1
  obtain ⟨-, kI, hkI, -, -⟩ := (C.2.2.2.2.1.2.1.2 0 _ rfl).1 0 (fun _ => .null)
  refine W.aast C.1 C.2.1 hc (fun q h => by cases h) (fun h => by cases h) k1 k2 rfl hkI ⟨nI_pos (by omega), by show _ < (arrV _ _ _).slots.size; rw [arrV_size, nI_clamp (by omega)]; exact hj⟩ hc2 (fun q h => by cases h) hkI (va_asg _ _) rfl rfl d fun H1 e z oq => ?_
  have p1 : va_P (gD g) vwCl ((wl g M ++ Wl).set ((wl g M).length + i0) (a, .inl (gJ g, n, .inr (.inr (.inr (.inr (va_up f' j (some q)))))))) H1 := by
    refine p.set dd hat ?_ oq
    show H1[a]? = some (vp_cell _ _)
    rw [e, vp_cell_q, arrV_store, nI_clamp (by omega)]
    congr 2
    funext t
    by_cases hq : t = j
    · subst hq
      simp [updV, va_up, va_rf]
    · simp [updV, va_up, hq]
  exact kk _ (Ot.dset _ _ _) ⟨_, dset_eq _ _ _, fun t ht => by by_cases c : t = j <;> simp [va_up, c, he t ht]⟩ H1 _ ls (dd_set hD hi0 p1 (dd.set hat)) (h2.put z oq (dd.2 _ _ hat)) h3
theorem u_newI (C : Cx X g l cc mL own ret rm) {N : Nat} {n : Int32} (hn : n = nI N) (hb : N ≤ 1000) (hR : kc + 1 ≤ rm.cells ∧ ks + N ≤ rm.slots) (d : decode cc pc = .ok (.newarray .int, 2)) (kk : ∀ (q : Nat) (D' : DM), D q = none → Ot D D' q → IA g D' q N (fun _ => 0) → UX X g (kc + 1) (ks + N) (pc + 2) lo (.ref q :: st) M D') : UX X g kc ks pc lo (.int n :: st) M D := by
  intro H locs ls h1 h2 h3
  subst hn
  obtain ⟨Wl, p, dd, hD⟩ := h1
  have w1 : (Cond.arrayClass .int) ∈ lw_tbl := by decide +kernel
  have hR' : xR X = rm := C.2.2.2.2.2.2.2.2.1
  refine va_newa (atype := .int) (ty := .int) (N' := N) (a0 := (N, .inl (fun _ => 0))) C.1 C.2.1 (C.wm w1 rfl) rfl C.2.2.2.2.1.2.1 p dd h2 C.2.2.2.2.2.1.1 (fun cA => rfl) (nI_pos (by omega)) (nI_clamp (by omega)) (by show N * 4 ≤ _; omega) (by rw [hR']; exact hR.1) (by rw [hR']; exact hR.2) d (fun q cA H1 k1 k2 k3 k4 => ?_)
  have e : cA = gI g := by
    have q1 : (xS X).vm.findClass ("[" ++ (FieldType.int).toString) = some cA := (k1.2 3 _ rfl).2
    have q2 : (xS X).vm.findClass ("[" ++ (FieldType.int).toString) = some (gI g) := (k1.2 0 _ rfl).2
    exact Option.some.inj (q1.symm.trans q2)
  subst e
  obtain ⟨a1, a2⟩ := dd_push hD k2 k3
  exact kk q _ a1 (Ot.dset _ _ _) ⟨_, dset_eq _ _ _, fun _ _ => rfl⟩ H1 locs ls a2 k4 h3
theorem u_newZ (C : Cx X g l cc mL own ret rm) {N : Nat} {n : Int32} (hn : n = nI N) (hb : N ≤ 1000) (hR : kc + 1 ≤ rm.cells ∧ ks + N ≤ rm.slots) (d : decode cc pc = .ok (.newarray .boolean, 2)) (kk : ∀ (q : Nat) (D' : DM), D q = none → Ot D D' q → ZA g D' q N (fun _ => 0) → UX X g (kc + 1) (ks + N) (pc + 2) lo (.ref q :: st) M D') : UX X g kc ks pc lo (.int n :: st) M D := by
  intro H locs ls h1 h2 h3
  subst hn
  obtain ⟨Wl, p, dd, hD⟩ := h1
  have w1 : (Cond.arrayClass .boolean) ∈ lw_tbl := by decide +kernel
  have hR' : xR X = rm := C.2.2.2.2.2.2.2.2.1
  refine va_newa (atype := .boolean) (ty := .boolean) (N' := N) (a0 := (N, .inl (fun _ => 0))) C.1 C.2.1 (C.wm w1 rfl) rfl C.2.2.2.2.1.2.1 p dd h2 C.2.2.2.2.2.1.1 (fun cA => rfl) (nI_pos (by omega)) (nI_clamp (by omega)) (by show N * 1 ≤ _; omega) (by rw [hR']; exact hR.1) (by rw [hR']; exact hR.2) d (fun q cA H1 k1 k2 k3 k4 => ?_)
  have e : cA = gZ g := by
    have q1 : (xS X).vm.findClass ("[" ++ (FieldType.boolean).toString) = some cA := (k1.2 3 _ rfl).2
    have q2 : (xS X).vm.findClass ("[" ++ (FieldType.boolean).toString) = some (gZ g) := (k1.2 1 _ rfl).2
    exact Option.some.inj (q1.symm.trans q2)
  subst e
  obtain ⟨a1, a2⟩ := dd_push hD k2 k3
  exact kk q _ a1 (Ot.dset _ _ _) ⟨_, dset_eq _ _ _, fun _ _ => rfl⟩ H1 locs ls a2 k4 h3
theorem u_newR (C : Cx X g l cc mL own ret rm) {N idx : Nat} {n : Int32} (hl : (Cond.classLink own idx "[I") ∈ lw_tbl) (hn : n = nI N) (hb : N ≤ 1000) (hR : kc + 1 ≤ rm.cells ∧ ks + N ≤ rm.slots) (d : decode cc pc = .ok (.anewarray idx, 3)) (kk : ∀ (q : Nat) (D' : DM), D q = none → Ot D D' q → RA g D' q N (fun _ => none) → UX X g (kc + 1) (ks + N) (pc + 3) lo (.ref q :: st) M D') : UX X g kc ks pc lo (.int n :: st) M D := by
  intro H locs ls h1 h2 h3
  subst hn
  obtain ⟨Wl, p, dd, hD⟩ := h1
  have w1 : (Cond.arrayOver (.array .int)) ∈ lw_tbl := by decide +kernel
  have hR' : xR X = rm := C.2.2.2.2.2.2.2.2.1
  have hc0 : (nI N).toNatClampNeg = N := nI_clamp (by omega)
  have w2 : (Cond.classLink own idx (FieldType.array .int).toString).before (xA X) (xS X) = true := by
    have e : (FieldType.array .int).toString = "[I" := by decide +kernel
    rw [e]
    exact C.wm hl rfl
  refine W.anewA (t := .int) C.1 C.2.1 C.2.2.2.1 w2 (C.wm w1 rfl) rfl d rfl (nI_pos (by omega)) (by rw [hc0]; omega) (by rw [hR']; exact hR.1) (by rw [hR', hc0]; exact hR.2) fun cA kA comp f1 f2 f3 f4 => ?_
  have e : cA = gJ g := by
    obtain ⟨kA, -, -, k3, -⟩ := C.2.2.2.2.1.2.2.2.1
    have e : "[" ++ (FieldType.array .int).toString = "[[I" := by decide +kernel
    rw [e] at f1
    exact Option.some.inj (f1.symm.trans k3)
  subst e
  rw [hc0]
  generalize hH1 : H.push ({ cls := gJ g, slots := Array.replicate N .null, vm := .none } : Cell) = H1
  have z1 : H1.size = H.size + 1 := by rw [← hH1, Array.size_push]
  have e1 : H1[H.size]? = some (arrV (gJ g) N (fun _ => .null)) := by rw [← hH1, Array.getElem?_push_size, ← arrV_new]
  have o1 : ∀ q : Nat, q < H.size → H1[q]? = H[q]? := fun q hq => by rw [← hH1, Array.getElem?_push, if_neg (Nat.ne_of_lt hq)]
  have hk : ∀ (k : Nat) (x : Nat × va_E), (wl g M ++ Wl)[k]? = some x → H1[x.1]? = H[x.1]? := fun k x hx => o1 x.1 ((p k x hx).lt)
  have k2 : va_P (gD g) vwCl ((wl g M ++ Wl) ++ [(H.size, .inl (gJ g, N, .inr (.inr (.inr (.inr (fun _ => none))))))]) H1 := by
    refine (p.kept hk).app (fun k x hx => ?_)
    have hz : k < 1 := (List.getElem?_eq_some_iff.mp hx).1
    rw [show k = 0 by omega] at hx
    cases hx
    show H1[H.size]? = some (vp_cell _ _)
    rw [vp_cell_q]
    exact e1
  have hA : ∀ q : Nat, (xS X).heap.size ≤ q → gA g q := C.2.2.2.2.2.1.1
  obtain ⟨a1, a2⟩ := dd_push hD k2 (dd.push p rfl (hA _ h2.1))
  exact kk H.size _ a1 (Ot.dset _ _ _) ⟨_, dset_eq _ _ _, fun _ _ => rfl⟩ H1 locs ls a2 ⟨Nat.le_trans h2.1 (by omega), fun x b1 b2 => (o1 x (Nat.lt_of_lt_of_le b1 h2.1)).trans (h2.2.1 x b1 b2), h2.2.2⟩ h3
end UDATA
end
section
/-! .. more instructions: division, shifts, constants, tables, null, clones, casts, new objects. -/
section UOPS
variable {X : XT} {g : GT} {l : Launch} {cc : ByteArray} {mL : Nat} {own : String} {ret : Option FieldType} {rm : Room} {kc ks pc : Nat} {lo lo' : List (Nat × Value)} {st : List Value} {M : Mem} {D : DM}
theorem u_dm {D' : DM} (h : D = D') (k : UX X g kc ks pc lo st M D') : UX X g kc ks pc lo st M D := h ▸ k
theorem u_le {D' : DM} (h : Le D' D) (k : UX X g kc ks pc lo st M D') : UX X g kc ks pc lo st M D := fun H locs ls h1 h2 h3 => by
  obtain ⟨Wl, p, dd, hD⟩ := h1
  exact k H locs ls ⟨Wl, p, dd, fun a e x => hD a e (h a e x)⟩ h2 h3
theorem u_imul (C : Cx X g l cc mL own ret rm) {x y : Int32} (d : decode cc pc = .ok (.imul, 1)) (k : UX X g kc ks (pc + 1) lo (.int (x * y) :: st) M D) : UX X g kc ks pc lo (.int y :: .int x :: st) M D := fun H locs ls h1 h2 h3 => lv_imul C.1 C.2.1 d (k H locs ls h1 h2 h3)
theorem u_idiv (C : Cx X g l cc mL own ret rm) {x y : Int32} (hy : ¬ y = 0) (d : decode cc pc = .ok (.idiv, 1)) (k : UX X g kc ks (pc + 1) lo (.int (x / y) :: st) M D) : UX X g kc ks pc lo (.int y :: .int x :: st) M D := fun H locs ls h1 h2 h3 => lv_idiv C.1 C.2.1 d hy (k H locs ls h1 h2 h3)
theorem u_irem (C : Cx X g l cc mL own ret rm) {x y : Int32} (hy : ¬ y = 0) (d : decode cc pc = .ok (.irem, 1)) (k : UX X g kc ks (pc + 1) lo (.int (x - x / y * y) :: st) M D) : UX X g kc ks pc lo (.int y :: .int x :: st) M D := fun H locs ls h1 h2 h3 => lv_irem C.1 C.2.1 d hy (k H locs ls h1 h2 h3)
theorem u_ishr (C : Cx X g l cc mL own ret rm) {x y : Int32} (d : decode cc pc = .ok (.ishr, 1)) (k : UX X g kc ks (pc + 1) lo (.int (x >>> (y &&& 31)) :: st) M D) : UX X g kc ks pc lo (.int y :: .int x :: st) M D := fun H locs ls h1 h2 h3 => lv_ishr C.1 C.2.1 d (k H locs ls h1 h2 h3)
theorem u_ldc (C : Cx X g l cc mL own ret rm) {idx : Nat} {v : Int32} (hl : (Cond.constant own idx v) ∈ lw_tbl) (d : decode cc pc = .ok (.ldc idx, 2)) (k : UX X g kc ks (pc + 2) lo (.int v :: st) M D) : UX X g kc ks pc lo st M D := fun H locs ls h1 h2 h3 => lv_ldc C.1 C.2.1 C.2.2.2.1 (C.wm hl rfl) d (k H locs ls h1 h2 h3)
theorem u_lcmp (C : Cx X g l cc mL own ret rm) {x y : Int64} (d : decode cc pc = .ok (.lcmp, 1)) (k : UX X g kc ks (pc + 1) lo (.int (lg_cmp x y) :: st) M D) : UX X g kc ks pc lo (.long y :: .long x :: st) M D := fun H locs ls h1 h2 h3 => W.lcmp C.1 C.2.1 d (k H locs ls h1 h2 h3)
theorem u_lload (C : Cx X g l cc mL own ret rm) {n : Nat} {v : Int64} (d : decode cc pc = .ok (.lload n, 2)) (h : lk lo n = some (.long v)) (k : UX X g kc ks (pc + 2) lo (.long v :: st) M D) : UX X g kc ks pc lo st M D := fun H locs ls h1 h2 h3 => lv_lload C.1 C.2.1 d (lk_at h3 h) (k H locs ls h1 h2 h3)
theorem u_lstore (C : Cx X g l cc mL own ret rm) {n : Nat} {v : Int64} (d : decode cc pc = .ok (.lstore n, 2)) (hn : n + 1 < mL) (h : (n, Value.long v) :: lo.filter (fun q => !(q.1 == n) && (!(q.1 == n + 1) && !(q.1 + 1 == n && q.2.category == 2))) = lo') (k : UX X g kc ks (pc + 2) lo' st M D) : UX X g kc ks pc lo (.long v :: st) M D := fun H locs ls h1 h2 h3 => lv_lstore C.1 C.2.1 d h3 (by rw [C.2.2.1]; exact hn) h (fun ls' h4 => k H locs ls' h1 h2 h4)
theorem u_tabOut (C : Cx X g l cc mL own ret rm) {dflt lo1 hi : Int} {offs : Array Int} {len : Nat} {x : Int32} {tgt : Nat} (d : decode cc pc = .ok (.tableswitch dflt lo1 hi offs, len)) (h : x.toInt < lo1 ∨ hi < x.toInt) (ht : (pc : Int) + dflt = (tgt : Int)) (k : UX X g kc ks tgt lo st M D) : UX X g kc ks pc lo (.int x :: st) M D := fun H locs ls h1 h2 h3 => lv_tableOut C.1 C.2.1 d h ht (k H locs ls h1 h2 h3)
theorem u_tabIn (C : Cx X g l cc mL own ret rm) {dflt lo1 hi : Int} {offs : Array Int} {len : Nat} {x : Int32} {off : Int} {tgt : Nat} (d : decode cc pc = .ok (.tableswitch dflt lo1 hi offs, len)) (a1 : ¬ x.toInt < lo1) (a2 : ¬ hi < x.toInt) (ho : offs[(x.toInt - lo1).toNat]? = some off) (ht : (pc : Int) + off = (tgt : Int)) (k : UX X g kc ks tgt lo st M D) : UX X g kc ks pc lo (.int x :: st) M D := fun H locs ls h1 h2 h3 => lv_tableIn C.1 C.2.1 d a1 a2 ho ht (k H locs ls h1 h2 h3)
theorem u_ifnonnull (C : Cx X g l cc mL own ret rm) {x : Nat} {off : Int} {tgt : Nat} (d : decode cc pc = .ok (.ifnonnull off, 3)) (ht : (pc : Int) + off = (tgt : Int)) (k : UX X g kc ks tgt lo st M D) : UX X g kc ks pc lo (.ref x :: st) M D := fun H locs ls h1 h2 h3 => lv_ifnonnull C.1 C.2.1 d ht (k H locs ls h1 h2 h3)
theorem u_castA (C : Cx X g l cc mL own ret rm) {idx a n : Nat} {f : Nat → Int32} (hl : (Cond.classLink own idx "[I") ∈ lw_tbl) (ha : IA g D a n f) (d : decode cc pc = .ok (.checkcast idx, 3)) (kk : UX X g kc ks (pc + 3) lo (.ref a :: st) M D) : UX X g kc ks pc lo (.ref a :: st) M D := by
  intro H locs ls h1 h2 h3
  have h1' := h1
  obtain ⟨Wl, p, dd, hD⟩ := h1'
  obtain ⟨f', ha, he⟩ := ha
  obtain ⟨i0, -, hat⟩ := dd_at g M hD ha
  exact va_castA C.1 C.2.1 C.2.2.2.1 (C.wm hl rfl) p _ hat (va_nm_int (C.2.2.2.2.1.2.1.2 0 _ rfl).2) d (kk H locs ls h1 h2 h3)
theorem u_clone (C : Cx X g l cc mL own ret rm) {idx a n : Nat} {f : Nat → Int32} (hl : (Cond.methodLink own idx ⟨"[I", "clone", "()Ljava/lang/Object;"⟩) ∈ lw_tbl) (ha : IA g D a n f) (hR : 1 ≤ rm.frames ∧ (st.map fun v => v.category).sum + 14 ≤ rm.locals ∧ kc + 1 ≤ rm.cells ∧ ks + n ≤ rm.slots) (d : decode cc pc = .ok (.invokevirtual idx, 3)) (kk : ∀ (q : Nat) (D' : DM), D q = none → Ot D D' q → IA g D' q n f → UX X g (kc + 1) (ks + n) (pc + 3) lo (.ref q :: st) M D') : UX X g kc ks pc lo (.ref a :: st) M D := by
  intro H locs ls h1 h2 h3
  obtain ⟨Wl, p, dd, hD⟩ := h1
  obtain ⟨f', ha, he⟩ := ha
  obtain ⟨i0, -, hat⟩ := dd_at g M hD ha
  have hR' : xR X = rm := C.2.2.2.2.2.2.2.2.1
  have w1 : (Cond.sameMethod "[I" "java/lang/Object" "clone" "()Ljava/lang/Object;") ∈ lw_tbl := by decide +kernel
  have w2 : (Cond.native ⟨"java/lang/Object", "clone", "()Ljava/lang/Object;"⟩) ∈ lw_tbl := by decide +kernel
  have w3 : (Cond.instanceMethod ⟨"java/lang/Object", "clone", "()Ljava/lang/Object;"⟩) ∈ lw_tbl := by decide +kernel
  have w4 : (Cond.selects "[I" ⟨"[I", "clone", "()Ljava/lang/Object;"⟩ ⟨"java/lang/Object", "clone", "()Ljava/lang/Object;"⟩) ∈ lw_tbl := by decide +kernel
  have w5 : (Cond.castable "[I" "java/lang/Cloneable") ∈ lw_tbl := by decide +kernel
  refine va_clone C.1 C.2.1 h3.1.symm C.2.2.2.1 (C.wm hl rfl) (C.wm w1 rfl) (C.wm w2 rfl) (C.wm w3 rfl) (C.wm w4 rfl) (va_Nw.of rfl (C.wm w5 rfl)) C.2.2.2.2.1.2.1 p dd h2 C.2.2.2.2.2.1.1 _ 0 hat rfl (va_nm_int (C.2.2.2.2.1.2.1.2 0 _ rfl).2) (va_fit (fun i _ => rfl)) (by rw [hR']; exact hR.1) (by rw [hR']; exact hR.2.1) (by rw [hR']; exact hR.2.2.1) (by rw [hR']; exact hR.2.2.2) d (fun q H1 k1 k2 k3 k4 => ?_)
  obtain ⟨a1, a2⟩ := dd_push hD k2 k3
  exact kk q _ a1 (Ot.dset _ _ _) ⟨f', dset_eq _ _ _, he⟩ H1 locs ls a2 k4 h3
/-- what an object of the class ci is as it is made -/
def NW (own : String) (idx ci N : Nat) (vs : List Value) : Prop := ∃ (Cn : String) (T : u_T), CI ci Cn T N ∧ (Cond.classLink own idx Cn) ∈ lw_tbl ∧ (Cond.instantiable Cn N) ∈ lw_tbl ∧ (Cond.initialized Cn) ∈ lw_tbl ∧ ∃ ty : Nat → FieldType, (∀ k, k < N → parseFieldDescriptor (T k).2.2.1 = some (ty k)) ∧ ∀ j, j < N → defaultValue (ty j) = vp_V vs j
theorem u_new (C : Cx X g l cc mL own ret rm) {idx ci N : Nat} {vs : List Value} (hw : NW own idx ci N vs) (hR : kc + 1 ≤ rm.cells ∧ ks + N ≤ rm.slots) (d : decode cc pc = .ok (.new idx, 3)) (kk : ∀ (q : Nat) (D' : DM), D q = none → Ot D D' q → OB D' q ci vs → UX X g (kc + 1) (ks + N) (pc + 3) lo (.ref q :: st) M D') : UX X g kc ks pc lo st M D := by
  intro H locs ls h1 h2 h3
  obtain ⟨Wl, p, dd, hD⟩ := h1
  obtain ⟨Cn, T, hc, w1, w2, w3, ty, hty, hfs⟩ := hw
  have hR' : xR X = rm := C.2.2.2.2.2.2.2.2.1
  refine va_new (ci := ci) (fs := vs) C.1 C.2.1 (fun w hw => C.wm (hc.2.2.2.2 w hw).1 (hc.2.2.2.2 w hw).2) (fun _ h => h) ty hty C.2.2.2.1 (C.wm w1 rfl) (C.wm w2 rfl) (C.wm w3 rfl) C.2.2.2.2.1.2.1 p dd h2 C.2.2.2.2.2.1.1 hc.1 hfs (by rw [hR']; exact hR.1) (by rw [hR']; exact hR.2) d (fun q H1 p1 p2 p3 => ?_)
  obtain ⟨a1, a2⟩ := dd_push hD p1 p2
  exact kk q _ a1 (Ot.dset _ _ _) (dset_eq _ _ _) H1 locs ls a2 p3 h3
theorem u_objInit (C : Cx X g l cc mL own ret rm) {a i idx : Nat} (hl : lw_tbl[i]? = some (.methodLink own idx Lib.objectInit)) (hR : 1 ≤ rm.frames ∧ (st.map fun v => v.category).sum + 12 ≤ rm.locals) (d : decode cc pc = .ok (.invokespecial idx, 3)) (kk : UX X g kc ks (pc + 3) lo st M D) : UX X g kc ks pc lo (.ref a :: st) M D := by
  intro H locs ls h1 h2 h3
  have w1 : (Cond.instanceMethod Lib.objectInit) ∈ lw_tbl := by decide +kernel
  have w2 : (Cond.code Lib.objectInit ⟨#[0xb1]⟩ 1 none) ∈ lw_tbl := by decide +kernel
  have hR' : xR X = rm := C.2.2.2.2.2.2.2.2.1
  refine W.objInit C.1 C.2.1 C.2.2.2.1 (C.w hl rfl) (C.wm w1 rfl) (C.wm w2 rfl) rfl h3.1 rfl d (by rw [hR']; exact hR.1) ?_ (W.eq (g2 := F0 (xM X) (pc + 3) ls st) rfl (kk H locs ls h1 h2 h3))
  rw [hR']
  show 2 * 0 + _ + 12 ≤ _
  omega
theorem u_max (C : Cx X g l cc mL own ret rm) {idx i : Nat} {x y : Int32} (hl : lw_tbl[i]? = some (.methodLink own idx Lib.Math.max.name)) (hR : 1 ≤ rm.frames ∧ (st.map fun v => v.category).sum + 13 ≤ rm.locals ∧ kc ≤ rm.cells ∧ ks ≤ rm.slots) (d : decode cc pc = .ok (.invokestatic idx, 3)) (kk : UX X g kc ks (pc + 3) lo (.int (if x < y then y else x) :: st) M D) : UX X g kc ks pc lo (.int y :: .int x :: st) M D := by
  intro H locs ls h1 h2 h3
  have w1 : (Cond.static Lib.Math.max.name) ∈ lw_tbl := by decide +kernel
  have w2 : (Cond.initialized "java/lang/Math") ∈ lw_tbl := by decide +kernel
  have w3 : (Cond.code Lib.Math.max.name Lib.Math.max.code 2 (some .int)) ∈ lw_tbl := by decide +kernel
  have hR' : xR X = rm := C.2.2.2.2.2.2.2.2.1
  exact va_mmax C.1 C.2.1 h3.1.symm C.2.2.2.1 (C.w hl rfl) (C.wm w1 rfl) (C.wm w2 rfl) (C.wm w3 rfl) (by rw [hR']; exact hR.1) (by rw [hR']; exact hR.2.1) (by rw [hR']; exact hR.2.2.1) (by rw [hR']; exact hR.2.2.2) d (kk H locs ls h1 h2 h3)
end UOPS
end
section
/-! Contracts over D, calls, ends. -/
def QU (g : GT) (R : Option Value → Mem → DM → Prop) : Array Value → State → Outcome → State → Prop := fun _ st oc t => (∃ (r : Option Value) (M' : Mem) (D' : DM), oc = .returned r ∧ R r M' D' ∧ HD g M' D' t.heap) ∧ va_F (gA g) st t
def PU (g : GT) (M : Mem) (D : DM) (as : List Value) : Array Value → State → Prop := va_Pc as (fun U => GK g U ∧ GH g U U.heap ∧ HD g M D U.heap)
/-- from (M, D), with these arguments, the method returns; R says what, and of the new memories -/
def CU (l : Launch) (y : MethodName) (bs : ByteArray) (mL : Nat) (ret : Option FieldType) (rm : Room) (g : GT) (M : Mem) (D : DM) (as : List Value) (R : Option Value → Mem → DM → Prop) : Prop :=
  Met l y [.code y bs mL ret] rm (PU g M D as) (QU g R) rm.cells rm.slots (gA g)
def RU (X : XT) (g : GT) (rm : Room) (R : Option Value → Mem → DM → Prop) : Prop := xQ X = MQ (xB X) (QU g R) (xA X) (xS X) rm.cells rm.slots (gA g)
theorem CU.of {l : Launch} {y : MethodName} {bs : ByteArray} {mL : Nat} {ret : Option FieldType} {rm : Room} {g : GT} {M : Mem} {D : DM} {as : List Value} {R : Option Value → Mem → DM → Prop} (hy : plainName y.cls = true) (hf : (lg_sl as).length ≤ mL)
    (h : ∀ X : XT, Cx X g l bs mL y.cls ret rm → RU X g rm R → UX X g 0 0 0 (lv_args 0 as) [] M D) : CU l y bs mL ret rm g M D as R := by
  refine Met.ofW (cc := bs) (maxL := mL) (ret := ret) hy rfl ?_
  intro p e s m args below meth c s₁ B hml hv
  obtain ⟨rfl, hK, hH, hP⟩ := hv
  have k := h (p, l, e, rm, s, m, as.toArray, below, meth, c, MQ below (QU g R) as.toArray s rm.cells rm.slots (gA g)) ⟨B.exec, B.bytes, hml, findClass_of_methodNamed B.named, hK, hH, B.notSynchronized, B.returns, rfl, rfl⟩ rfl
  have hl := lv_entry as (n := mL) hf
  rw [lg_entry_eq]
  exact k s.heap [] _ hP va_S.rf (by rw [show (xC (p, l, e, rm, s, m, as.toArray, below, meth, c, MQ below (QU g R) as.toArray s rm.cells rm.slots (gA g))).maxLocals = mL from hml]; exact hl)
/-- .. of a method with a table -/
def tb (h : Nat × Nat × Nat × Nat) : ExceptionTableEntry := ⟨h.1, h.2.1, h.2.2.1, h.2.2.2⟩
def CUW (l : Launch) (y : MethodName) (bs : ByteArray) (mL : Nat) (ret : Option FieldType) (hh : List (Nat × Nat × Nat × Nat)) (rm : Room) (g : GT) (M : Mem) (D : DM) (as : List Value) (R : Option Value → Mem → DM → Prop) : Prop :=
  Met l y [.codeWith y bs mL ret hh] rm (PU g M D as) (QU g R) rm.cells rm.slots (gA g)
theorem CUW.of {l : Launch} {y : MethodName} {bs : ByteArray} {mL : Nat} {ret : Option FieldType} {hh : List (Nat × Nat × Nat × Nat)} {rm : Room} {g : GT} {M : Mem} {D : DM} {as : List Value} {R : Option Value → Mem → DM → Prop} (hy : plainName y.cls = true) (hf : (lg_sl as).length ≤ mL) (hcd : ∃ i : Nat, lw_tbl[i]? = some (.codeWith y bs mL ret hh))
    (h : ∀ X : XT, Cx X g l bs mL y.cls ret rm → RU X g rm R → (xC X).exceptionTable.toList = tableOf hh → UX X g 0 0 0 (lv_args 0 as) [] M D) : CUW l y bs mL ret hh rm g M D as R := by
  show Met l y [.codeWith y bs mL ret hh] rm (PU g M D as) (QU g R) rm.cells rm.slots (gA g)
  unfold Met
  refine MetFree.of_bodyS (code := bs) (maxLocals := mL) (ret := ret) hy ?_ ?_
  · intro args s m h9 hn
    obtain ⟨m9, meth, c, hn9, h1, h2, h3, h4, -, h5, h6, -⟩ := Cond.codeWith_spec (atoms_spec (ws := [.codeWith y bs mL ret hh]) h9 _ List.mem_cons_self)
    cases hn.symm.trans hn9
    exact ⟨meth, c, h1, h2, h3, h4, h5, h6⟩
  · intro p e s m args below meth c s₁ B hml hv _
    have hh0 : s₁.heap = s.heap := by rw [B.state]; rfl
    obtain ⟨rfl, hK, hH, hP⟩ := hv
    obtain ⟨i, hi⟩ := hcd
    have hT : c.exceptionTable.toList = tableOf hh := vx_table (x := y) B (xw_at (args := #[]) (State.WarmedH.refl s) rfl (hK.1 _ (List.mem_of_getElem? hi) rfl) : (Cond.codeWith y bs mL ret hh).before as.toArray s = true)
    have k := h (p, l, e, rm, s, m, as.toArray, below, meth, c, MQ below (QU g R) as.toArray s rm.cells rm.slots (gA g)) ⟨B.exec, B.bytes, hml, findClass_of_methodNamed B.named, hK, hH, B.notSynchronized, B.returns, rfl, rfl⟩ rfl hT
    have hl := lv_entry as (n := mL) hf
    have k2 : xW (p, l, e, rm, s, m, as.toArray, below, meth, c, MQ below (QU g R) as.toArray s rm.cells rm.slots (gA g)) s.heap [] 0 0 (entryFrame m as.toArray mL) := by
      rw [lg_entry_eq]
      exact k s.heap [] _ hP va_S.rf (by rw [show (xC (p, l, e, rm, s, m, as.toArray, below, meth, c, MQ below (QU g R) as.toArray s rm.cells rm.slots (gA g))).maxLocals = mL from hml]; exact hl)
    obtain ⟨t, a1, o, b1, b2, b3⟩ := k2 s₁ hh0 (Stand.of_body B)
    exact ⟨t, o, a1, b1, b2, ⟨b3.1, b3.2⟩⟩
def CDW (y : MethodName) (bs : ByteArray) (mL : Nat) (ret : Option FieldType) (hh : List (Nat × Nat × Nat × Nat)) (n : Nat) : Prop := (∃ i : Nat, lw_tbl[i]? = some (.codeWith y bs mL ret hh)) ∧ (Cond.initialized y.cls) ∈ lw_tbl ∧ hdN y n
/-- E is caught at pc by the row x -/
def Ct (own : String) (pc : Nat) (E : String) (x : Nat × Nat × Nat × Nat) : Prop := covers (tb x) pc = true ∧ x.2.2.2 ≠ 0 ∧ (Cond.classLink own x.2.2.2 E) ∈ lw_tbl ∧ (Cond.castable E E) ∈ lw_tbl
/-- a call of the class's from the law: its free cells are its own 29 and all new ones -/
def gat (g : GT) (H : Heap) : GT := (fun q => (∃ k, k < gn g ∧ q = ga g k) ∨ H.size ≤ q, g.2)
theorem gat_A {g : GT} {H H0 : Heap} {U : State} (hK : GK g U) (hH : ∀ q : Nat, H0.size ≤ q → gA g q) (hz : H0.size ≤ H.size) (q : Nat) (h : gA (gat g H) q) : gA g q := by
  rcases h with ⟨k, hk, rfl⟩ | h
  · exact hK.2.2.2.2.2.1 k hk
  · exact hH q (Nat.le_trans hz h)
theorem GK.gat {g : GT} {U : State} (H : Heap) (h : GK g U) : GK (gat g H) U := ⟨h.1, h.2.1, h.2.2.1, h.2.2.2.1, h.2.2.2.2.1, fun k hk => Or.inl ⟨k, hk, rfl⟩, h.2.2.2.2.2.2⟩
theorem HD.cls {g : GT} {M : Mem} {D : DM} {H : Heap} (h : HD g M D H) : Hd g M H := by
  obtain ⟨Wl, p, -, -⟩ := h
  intro k q hk
  exact p k q (by rw [List.getElem?_append_left (List.getElem?_eq_some_iff.mp hk).1]; exact hk)
theorem HD.after {g : GT} {M M' : Mem} {D : DM} {H H1 : Heap} {U : State} (hK : GK g U) (h : HD g M D H) (h1 : Hd g M' H1) (hq : ∀ q : Nat, q < H.size → ¬ gA (gat g H) q → H1[q]? = H[q]?) : HD g M' D H1 := by
  obtain ⟨Wl, p, dd, hD⟩ := h
  have hw : ∀ (i : Nat) (q : Nat × va_E), Wl[i]? = some q → (wl g M ++ Wl)[(wl g M).length + i]? = some q := fun i q hi => by
    rw [List.getElem?_append_right (by omega), Nat.add_sub_cancel_left]
    exact hi
  have hc : ∀ (k : Nat), k < gn g → (wl g M ++ Wl)[k]? = some (ga g k, xe g (M k) k) := fun k hk => by
    rw [List.getElem?_append_left (by rw [wl_len]; exact hk)]
    exact wl_at g M hk
  have hne : ∀ (i : Nat) (q : Nat × va_E), Wl[i]? = some q → ∀ k, k < gn g → q.1 ≠ ga g k := fun i q hi k hk e => by
    have := dd.1 _ _ _ _ (hw i q hi) (hc k hk) e
    rw [wl_len] at this
    omega
  refine ⟨Wl, va_P.app h1 (fun i q hi => ?_), ⟨fun i j x y hx hy hxy => ?_, fun k q hk => ?_⟩, hD⟩
  · have hlt := (p _ _ (hw i q hi)).lt
    refine (p _ _ (hw i q hi)).kept (hq q.1 hlt (fun z => ?_))
    rcases z with ⟨k, hk, e⟩ | z
    · exact hne i q hi k hk e
    · omega
  · have tr : ∀ (i : Nat) (x : Nat × va_E), (wl g M' ++ Wl)[i]? = some x → ∃ x0, (wl g M ++ Wl)[i]? = some x0 ∧ x0.1 = x.1 := fun i x hx => by
      by_cases hi : i < gn g
      · rw [List.getElem?_append_left (by rw [wl_len]; exact hi), wl_at g M' hi] at hx
        cases hx
        exact ⟨_, hc i hi, rfl⟩
      · rw [List.getElem?_append_right (by rw [wl_len]; omega), wl_len] at hx
        refine ⟨x, ?_, rfl⟩
        rw [List.getElem?_append_right (by rw [wl_len]; omega), wl_len]
        exact hx
    obtain ⟨x0, a1, a2⟩ := tr i x hx
    obtain ⟨y0, b1, b2⟩ := tr j y hy
    exact dd.1 i j x0 y0 a1 b1 (by rw [a2, b2]; exact hxy)
  · by_cases hi : k < gn g
    · rw [List.getElem?_append_left (by rw [wl_len]; exact hi), wl_at g M' hi] at hk
      cases hk
      exact hK.2.2.2.2.2.1 k hi
    · rw [List.getElem?_append_right (by rw [wl_len]; omega), wl_len] at hk
      refine dd.2 k q ?_
      rw [List.getElem?_append_right (by rw [wl_len]; omega), wl_len]
      exact hk
section UCALLS
variable {X : XT} {g : GT} {l : Launch} {cc : ByteArray} {mL : Nat} {own : String} {ret : Option FieldType} {rm : Room} {kc ks pc : Nat} {lo lo' : List (Nat × Value)} {st st0 : List Value} {M M' : Mem} {D : DM} {R : Option Value → Mem → DM → Prop}
variable {y : MethodName} {bs' : ByteArray} {mL' n idx k : Nat} {ret' : Option FieldType} {rm' : Room} {as : List Value} {res : Option Value} {hh : List (Nat × Nat × Nat × Nat)}
theorem PU.blind : FrameBlind (PU g M D as) := fun a U f mk q => ⟨q.1, GK.blind f mk a q.2.1, GH.moved (Vm.Alike.refl U.vm) q.2.2.1, q.2.2.2⟩
theorem puAt (C : Cx X g l cc mL own ret rm) {H : Heap} {locs : List Loc} (h1 : HD g M D H) (h2 : va_S (gA g) (xS X).heap H locs) : ∀ U : State, U.heap = H → (xS X).WarmedH U.vm → PU g M D as as.toArray U := by
  intro U hU hW
  refine ⟨rfl, GK.warm hW C.2.2.2.2.1, ?_, by rw [hU]; exact h1⟩
  rw [hU]
  exact (GH.moved hW.alike C.2.2.2.2.2.1).kept h2.1 h2.2.1
theorem u_ran {H : Heap} {locs : List Loc} {ls : Array Slot} {a : Array Value} (hr : va_Run (xP X) (xL X) (xE X) (xR X) (xS X) (xM X) (xA X) (xB X) (xMe X) (xC X) H locs kc ks rm'.cells rm'.slots (F0 (xM X) pc ls st0) st (QU g R a) (gA g)) (h2 : va_S (gA g) (xS X).heap H locs) (h3 : lv_has ls (xC X).maxLocals lo)
    (kk : ∀ r M' D', R r M' D' → UX X g (kc + rm'.cells) (ks + rm'.slots) (pc + 3) lo (r.toList ++ st) M' D') : xW X H locs kc ks (F0 (xM X) pc ls st0) := by
  intro T hT Xs
  obtain ⟨v, st₀, t, T', L, h0, X', hL, e1, e2, ⟨⟨r, M1, D1, hv, hR, hP⟩, hz, hk⟩, hgo⟩ := hr T hT Xs
  cases hv
  rw [h0] at hz hk
  have h2' : va_S (gA g) (xS X).heap T'.heap (locs ++ L) := ⟨Nat.le_trans h2.1 (by rw [e1]; exact hz), fun q a1 a2 => by rw [e1, hk q (Nat.lt_of_lt_of_le a1 h2.1) a2]; exact h2.2.1 q a1 a2, fun q hq => by
      rcases List.mem_append.mp hq with h | h
      · exact h2.2.2 q h
      · exact hL q h⟩
  obtain ⟨t2, a1, b1⟩ := kk _ _ _ hR T'.heap (locs ++ L) ls (by rw [e1]; exact hP) h2' h3 T' rfl X'
  exact ⟨t2, hgo t2 a1, b1⟩
theorem u_callS (C : Cx X g l cc mL own ret rm) (hM : CU l y bs' mL' ret' rm' g M D as R) (hc : CD y bs' mL' ret' n) (hl : KS own idx y) (hn : as.length = n) (hst : st0 = as.reverse ++ st) (hR : Rm rm' rm mL' kc ks) (hW : (st.map fun v => v.category).sum ≤ 8) (d : decode cc pc = .ok (.invokestatic idx, 3))
    (kk : ∀ r M' D', R r M' D' → UX X g (kc + rm'.cells) (ks + rm'.slots) (pc + 3) lo (r.toList ++ st) M' D') : UX X g kc ks pc lo st0 M D := by
  intro H locs ls h1 h2 h3
  obtain ⟨⟨i, hcd⟩, hini, hd⟩ := hc
  obtain ⟨⟨i1, hl1⟩, i2, hl2⟩ := hl
  have hR' : xR X = rm := C.2.2.2.2.2.2.2.2.1
  have hl' : xL X = l := C.2.2.2.2.2.2.2.2.2
  subst hl'
  refine u_ran (va_runS (As := as) (rest := st) (Ts := [Cond.code y bs' mL' ret']) ⟨C.1, C.2.1, rfl, C.2.2.2.1, fun w hw => ?_⟩ hM ⟨callB_of (Ts := [Cond.code y bs' mL' ret']) n (fun w hw => ?_) (code_good y bs' mL' ret') rfl rfl rfl (C.wm hini rfl) (C.w hl1 rfl) hd (by rw [hR']; exact hR.1), C.w hl2 rfl⟩ ⟨PU.blind, puAt C h1 h2⟩ rfl hn h3.1 hst (lv_room hW) d (by rw [hR']; exact hR.2)) h2 h3 kk
  · rw [List.mem_singleton.mp hw]; exact C.w hcd rfl
  · rw [List.mem_singleton.mp hw]; exact C.w hcd rfl
theorem u_callSW (C : Cx X g l cc mL own ret rm) (hM : CUW l y bs' mL' ret' hh rm' g M D as R) (hc : CDW y bs' mL' ret' hh n) (hl : KS own idx y) (hn : as.length = n) (hst : st0 = as.reverse ++ st) (hR : Rm rm' rm mL' kc ks) (hW : (st.map fun v => v.category).sum ≤ 8) (d : decode cc pc = .ok (.invokestatic idx, 3))
    (kk : ∀ r M' D', R r M' D' → UX X g (kc + rm'.cells) (ks + rm'.slots) (pc + 3) lo (r.toList ++ st) M' D') : UX X g kc ks pc lo st0 M D := by
  intro H locs ls h1 h2 h3
  obtain ⟨⟨i, hcd⟩, hini, hd⟩ := hc
  obtain ⟨⟨i1, hl1⟩, i2, hl2⟩ := hl
  have hR' : xR X = rm := C.2.2.2.2.2.2.2.2.1
  have hl' : xL X = l := C.2.2.2.2.2.2.2.2.2
  subst hl'
  refine u_ran (vx_runSW (As := as) (rest := st) (Ts := [Cond.codeWith y bs' mL' ret' hh]) ⟨C.1, C.2.1, rfl, C.2.2.2.1, fun w hw => ?_⟩ hM ⟨⟨rfl, rfl, by rw [hR']; exact hR.1.1, by rw [hR']; exact hR.1.2, fun w hw a' U hU => ?_, List.mem_singleton.mpr rfl⟩, C.w hcd rfl, C.wm hini rfl, ⟨hd.1, hd.2.1⟩, fun sig h => ?_, C.w hl1 rfl, C.w hl2 rfl⟩ ⟨PU.blind, puAt C h1 h2⟩ rfl hn h3.1 hst (lv_room hW) d (by rw [hR']; exact hR.2)) h2 h3 kk
  · rw [List.mem_singleton.mp hw]; exact C.w hcd rfl
  · rw [List.mem_singleton.mp hw]; exact xw_at hU rfl (C.w hcd rfl)
  · have h2 := hd.2.2
    rw [h] at h2
    exact (Option.some.inj h2).symm
theorem u_recv (C : Cx X g l cc mL own ret rm) {H : Heap} {a : Nat} {vs : List Value} (h1 : HD g M D H) {ci : Nat} {Cn : String} {T : u_T} {N : Nat} (hci : CI ci Cn T N) (ha : OB D a ci vs) : ∃ cell : Cell, H[a]? = some cell ∧ cell.vm.isStatics = false ∧ (xS X).vm.findClass Cn = some cell.cls := by
  obtain ⟨Wl, p, dd, hD⟩ := h1
  obtain ⟨i0, -, hat⟩ := dd_at g M hD ha
  exact va_recv C.2.2.2.2.1.2.1 p (ci := ci) hci.1 hat
theorem u_callV (C : Cx X g l cc mL own ret rm) {a ci N : Nat} {T : u_T} {vs : List Value} (hM : CU l y bs' mL' ret' rm' g M D (.ref a :: as) R) (hc : CD y bs' mL' ret' n) (hl : KV own idx y) (hci : CI ci y.cls T N) (ha : OB D a ci vs) (hn : as.length = n) (hst : st0 = as.reverse ++ .ref a :: st) (hR : Rm rm' rm mL' kc ks) (hW : (st.map fun v => v.category).sum ≤ 8) (d : decode cc pc = .ok (.invokevirtual idx, 3))
    (kk : ∀ r M' D', R r M' D' → UX X g (kc + rm'.cells) (ks + rm'.slots) (pc + 3) lo (r.toList ++ st) M' D') : UX X g kc ks pc lo st0 M D := by
  intro H locs ls h1 h2 h3
  obtain ⟨⟨i, hcd⟩, hini, hd⟩ := hc
  obtain ⟨⟨i1, hl1⟩, ⟨i2, hl2⟩, i3, hl3⟩ := hl
  have hR' : xR X = rm := C.2.2.2.2.2.2.2.2.1
  have hl' : xL X = l := C.2.2.2.2.2.2.2.2.2
  subst hl'
  refine u_ran (va_runV (As := as) (rest := st) (Ts := [Cond.code y bs' mL' ret']) ⟨C.1, C.2.1, rfl, C.2.2.2.1, fun w hw => ?_⟩ hM ⟨callB_of (Ts := [Cond.code y bs' mL' ret']) n (fun w hw => ?_) (code_good y bs' mL' ret') rfl rfl rfl (C.wm hini rfl) (C.w hl1 rfl) hd (by rw [hR']; exact hR.1), C.w hl2 rfl, C.w hl3 rfl⟩ ⟨PU.blind, u_recv C h1 hci ha, puAt C h1 h2⟩ rfl hn h3.1 hst (lv_room hW) d (by rw [hR']; exact hR.2)) h2 h3 kk
  · rw [List.mem_singleton.mp hw]; exact C.w hcd rfl
  · rw [List.mem_singleton.mp hw]; exact C.w hcd rfl
/-- a constructor -/
theorem u_callI (C : Cx X g l cc mL own ret rm) {a : Nat} (hM : CU l y bs' mL' none rm' g M D (.ref a :: as) R) (hc : CD y bs' mL' none n) (hnm : y.name = "<init>") (hl : (∃ i : Nat, lw_tbl[i]? = some (.methodLink own idx y)) ∧ ∃ i : Nat, lw_tbl[i]? = some (.instanceMethod y)) (hn : as.length = n) (hst : st0 = as.reverse ++ .ref a :: st) (hR : Rm rm' rm mL' kc ks) (hW : (st.map fun v => v.category).sum ≤ 8) (d : decode cc pc = .ok (.invokespecial idx, 3))
    (kk : ∀ r M' D', R r M' D' → UX X g (kc + rm'.cells) (ks + rm'.slots) (pc + 3) lo (r.toList ++ st) M' D') : UX X g kc ks pc lo st0 M D := by
  intro H locs ls h1 h2 h3
  obtain ⟨⟨i, hcd⟩, hini, hd⟩ := hc
  obtain ⟨⟨i1, hl1⟩, i2, hl2⟩ := hl
  have hR' : xR X = rm := C.2.2.2.2.2.2.2.2.1
  have hl' : xL X = l := C.2.2.2.2.2.2.2.2.2
  subst hl'
  refine u_ran (va_runI (As := as) (rest := st) (Ts := [Cond.code y bs' mL' none]) ⟨C.1, C.2.1, rfl, C.2.2.2.1, fun w hw => ?_⟩ hM ⟨callB_of (Ts := [Cond.code y bs' mL' none]) n (fun w hw => ?_) (code_good y bs' mL' none) rfl rfl rfl (C.wm hini rfl) (C.w hl1 rfl) hd (by rw [hR']; exact hR.1), hnm, C.w hl2 rfl⟩ ⟨PU.blind, puAt C h1 h2⟩ rfl hn h3.1 hst (lv_room hW) d (by rw [hR']; exact hR.2)) h2 h3 kk
  · rw [List.mem_singleton.mp hw]; exact C.w hcd rfl
  · rw [List.mem_singleton.mp hw]; exact C.w hcd rfl
theorem u_callIN (C : Cx X g l cc mL own ret rm) {a : Nat} (hM : CU l y bs' mL' none rm' g M D (.ref a :: as) R) (hc : CD y bs' mL' none n) (hnm : y.name = "<init>") (hl : (∃ (i : Nat) (h : String), lw_tbl[i]? = some (.methodLinkNest own idx y h)) ∧ ∃ i : Nat, lw_tbl[i]? = some (.instanceMethod y)) (hn : as.length = n) (hst : st0 = as.reverse ++ .ref a :: st) (hR : Rm rm' rm mL' kc ks) (hW : (st.map fun v => v.category).sum ≤ 8) (d : decode cc pc = .ok (.invokespecial idx, 3))
    (kk : ∀ r M' D', R r M' D' → UX X g (kc + rm'.cells) (ks + rm'.slots) (pc + 3) lo (r.toList ++ st) M' D') : UX X g kc ks pc lo st0 M D := by
  intro H locs ls h1 h2 h3
  obtain ⟨⟨i, hcd⟩, hini, hd⟩ := hc
  obtain ⟨⟨i1, hh, hl1⟩, i2, hl2⟩ := hl
  have hR' : xR X = rm := C.2.2.2.2.2.2.2.2.1
  have hl' : xL X = l := C.2.2.2.2.2.2.2.2.2
  subst hl'
  refine u_ran (va_runIN (As := as) (rest := st) (Ts := [Cond.code y bs' mL' none]) ⟨C.1, C.2.1, rfl, C.2.2.2.1, fun w hw => ?_⟩ hM ⟨va_cnB (Ts := [Cond.code y bs' mL' none]) n (fun w hw => ?_) (code_good y bs' mL' none) rfl rfl rfl (va_Nw.of rfl (C.w hl1 rfl)) (C.wm hini rfl) hd (by rw [hR']; exact hR.1), hnm, C.w hl2 rfl⟩ ⟨PU.blind, puAt C h1 h2⟩ rfl hn h3.1 hst (lv_room hW) d (by rw [hR']; exact hR.2)) h2 h3 kk
  · rw [List.mem_singleton.mp hw]; exact C.w hcd rfl
  · rw [List.mem_singleton.mp hw]; exact C.w hcd rfl
theorem pgAt (C : Cx X g l cc mL own ret rm) {H : Heap} {locs : List Loc} (h1 : HD g M D H) (h2 : va_S (gA g) (xS X).heap H locs) : ∀ U : State, U.heap = H → (xS X).WarmedH U.vm → PC (gat g H) M as as.toArray U := by
  intro U hU hW
  have hH := (GH.moved hW.alike C.2.2.2.2.2.1).kept h2.1 h2.2.1
  have hn : ∀ q, gA (gat g H) q → gA g q := gat_A C.2.2.2.2.1 C.2.2.2.2.2.1.1 h2.1
  refine ⟨rfl, (GK.warm hW C.2.2.2.2.1).gat H, ?_, by rw [hU]; exact h1.cls⟩
  rw [hU]
  exact ⟨fun q hq => Or.inr hq, vx_Zq.narrow hH.2.1 hn, vx_Zq.narrow hH.2.2 hn⟩
/-- the class's method called from the law -/
theorem u_callC (C : Cx X g l cc mL own ret rm) {ci N : Nat} {T : u_T} (hM : ∀ B : Nat → Prop, CM l y bs' mL' ret' rm' (B, g.2) M (.ref (ga g k) :: as) res M') (hc : CD y bs' mL' ret' n) (hl : KV own idx y) (hci : CI ci y.cls T N) (hk : xk k = ci) (hk2 : k < 29) (hn : as.length = n) (hst : st0 = as.reverse ++ .ref (ga g k) :: st) (hR : Rm rm' rm mL' kc ks) (hW : (st.map fun v => v.category).sum ≤ 8) (d : decode cc pc = .ok (.invokevirtual idx, 3))
    (kk : UX X g (kc + rm'.cells) (ks + rm'.slots) (pc + 3) lo (res.toList ++ st) M' D) : UX X g kc ks pc lo st0 M D := by
  intro H locs ls h1 h2 h3
  obtain ⟨⟨i, hcd⟩, hini, hd⟩ := hc
  obtain ⟨⟨i1, hl1⟩, ⟨i2, hl2⟩, i3, hl3⟩ := hl
  have hR' : xR X = rm := C.2.2.2.2.2.2.2.2.1
  have hl' : xL X = l := C.2.2.2.2.2.2.2.2.2
  subst hl'
  have hn' : ∀ q, gA (gat g H) q → gA g q := gat_A C.2.2.2.2.1 C.2.2.2.2.2.1.1 h2.1
  have hr : va_Run (xP X) (xL X) (xE X) (xR X) (xS X) (xM X) (xA X) (xB X) (xMe X) (xC X) H locs kc ks rm'.cells rm'.slots (F0 (xM X) pc ls st0) st (QC (gat g H) res M' (Value.ref (ga g k) :: as).toArray) (gA (gat g H)) := va_runV (As := as) (rest := st) (Ts := [Cond.code y bs' mL' ret']) ⟨C.1, C.2.1, rfl, C.2.2.2.1, fun w hw => by rw [List.mem_singleton.mp hw]; exact C.w hcd rfl⟩ (hM (gA (gat g H))) ⟨callB_of (Ts := [Cond.code y bs' mL' ret']) n (fun w hw => by rw [List.mem_singleton.mp hw]; exact C.w hcd rfl) (code_good y bs' mL' ret') rfl rfl rfl (C.wm hini rfl) (C.w hl1 rfl) hd (by rw [hR']; exact hR.1), C.w hl2 rfl, C.w hl3 rfl⟩ ⟨PC.blind, x_recv C h1.cls hci hk hk2, pgAt C h1 h2⟩ rfl hn h3.1 hst (lv_room hW) d (by rw [hR']; exact hR.2)
  intro T9 hT Xs
  obtain ⟨v, st₀, t, T', L, h0, X', hL, e1, e2, ⟨⟨hv, hP⟩, hz, hkq⟩, hgo⟩ := hr T9 hT Xs
  cases hv
  rw [h0] at hz hkq
  have h2' : va_S (gA g) (xS X).heap T'.heap (locs ++ L) := ⟨Nat.le_trans h2.1 (by rw [e1]; exact hz), fun q a1 a2 => by rw [e1, hkq q (Nat.lt_of_lt_of_le a1 h2.1) (fun z => a2 (hn' q z))]; exact h2.2.1 q a1 a2, fun q hq => by
      rcases List.mem_append.mp hq with h | h
      · exact h2.2.2 q h
      · exact hn' _ (hL q h)⟩
  have hP2 : HD g M' D T'.heap := by
    rw [e1]
    exact HD.after C.2.2.2.2.1 h1 hP hkq
  obtain ⟨t2, a1, b1⟩ := kk T'.heap (locs ++ L) ls hP2 h2' h3 T' rfl X'
  exact ⟨t2, hgo t2 a1, b1⟩
/-- .. which throws E, caught here -/
theorem u_callCx {E : String} {x : Nat × Nat × Nat × Nat} {pre suf : List (Nat × Nat × Nat × Nat)} (C : Cx X g l cc mL own ret rm) (hT : (xC X).exceptionTable.toList = tableOf (pre ++ x :: suf)) (hpre : ∀ z ∈ pre, covers (tb z) pc = false) {ci N : Nat} {T : u_T} (hM : ∀ B : Nat → Prop, CE l y bs' mL' ret' rm' (B, g.2) M (.ref (ga g k) :: as) E) (hc : CD y bs' mL' ret' n) (hl : KV own idx y) (hci : CI ci y.cls T N) (hk : xk k = ci) (hk2 : k < 29) (hn : as.length = n) (hst : st0 = as.reverse ++ .ref (ga g k) :: st) (hR : Rm rm' rm mL' kc ks) (hW : (st.map fun v => v.category).sum ≤ 8) (d : decode cc pc = .ok (.invokevirtual idx, 3)) (hx : Ct own pc E x)
    (kk : ∀ q : Nat, UX X g (kc + rm'.cells) (ks + rm'.slots) x.2.2.1 lo [.ref q] M D) : UX X g kc ks pc lo st0 M D := by
  intro H locs ls h1 h2 h3
  obtain ⟨⟨i, hcd⟩, hini, hd⟩ := hc
  obtain ⟨⟨i1, hl1⟩, ⟨i2, hl2⟩, i3, hl3⟩ := hl
  have hR' : xR X = rm := C.2.2.2.2.2.2.2.2.1
  have hl' : xL X = l := C.2.2.2.2.2.2.2.2.2
  subst hl'
  have hn' : ∀ q, gA (gat g H) q → gA g q := gat_A C.2.2.2.2.1 C.2.2.2.2.2.1.1 h2.1
  have hr : vx_Run (xP X) (xL X) (xE X) (xR X) (xS X) (xM X) (xA X) (xB X) (xMe X) (xC X) H locs kc ks rm'.cells rm'.slots (F0 (xM X) pc ls st0) st (QN (Value.ref (ga g k) :: as).toArray) (QX (gat g H) M E) (gA (gat g H)) := vx_runV (As := as) (rest := st) (Ts := [Cond.code y bs' mL' ret']) ⟨C.1, C.2.1, rfl, C.2.2.2.1, fun w hw => by rw [List.mem_singleton.mp hw]; exact C.w hcd rfl⟩ (hM (gA (gat g H))) ⟨callB_of (Ts := [Cond.code y bs' mL' ret']) n (fun w hw => by rw [List.mem_singleton.mp hw]; exact C.w hcd rfl) (code_good y bs' mL' ret') rfl rfl rfl (C.wm hini rfl) (C.w hl1 rfl) hd (by rw [hR']; exact hR.1), C.w hl2 rfl, C.w hl3 rfl⟩ ⟨PC.blind, x_recv C h1.cls hci hk hk2, pgAt C h1 h2⟩ rfl hn h3.1 hst (lv_room hW) d (by rw [hR']; exact hR.2)
  intro T9 hT9 Xs
  rcases hr T9 hT9 Xs with ⟨v, st₀, t, T', L, h0, X', hL, e1, e2, hqn, hgo⟩ | ⟨q, st₀, t, T', L, E', ce, h0, X', hL, e1, e2, ⟨hE, hP, hz, hkp⟩, hce, hcv, hcl, hgo⟩
  · exact hqn.elim
  · subst hE
    rw [h0] at hz hkp
    have h2' : va_S (gA g) (xS X).heap T'.heap (locs ++ L) := ⟨Nat.le_trans h2.1 (by rw [e1]; exact hz), fun q a1 a2 => by rw [e1, hkp q (Nat.lt_of_lt_of_le a1 h2.1) (fun z => a2 (hn' q z))]; exact h2.2.1 q a1 a2, fun q hq => by
        rcases List.mem_append.mp hq with h | h
        · exact h2.2.2 q h
        · exact hn' _ (hL q h)⟩
    have hP2 : HD g M D T'.heap := by
      rw [e1]
      exact HD.after C.2.2.2.2.1 h1 hP hkp
    obtain ⟨x3, x4, x5, x6⟩ := hx
    have hw := vx_catch (p := xP X) (l := xL X) (e := xE X) (R := xR X) (below := xB X) (meth := xMe X) (locs := locs ++ L) (cells := kc + rm'.cells) (slots := ks + rm'.slots) (Q := xQ X) (ls := ls) (rest := st) (pc := pc) C.2.2.2.1 (pre.map tb) (tb x) (suf.map tb) (by rw [hT]; show (pre ++ x :: suf).map tb = _; rw [List.map_append]; rfl) (fun z hz => by
        obtain ⟨z0, hz0, rfl⟩ := List.mem_map.mp hz
        exact Or.inl (hpre z0 hz0)) x3 x4 (C.wm x5 rfl) (C.wm x6 rfl) (by rw [e1]; exact hce) hcv hcl (kk q T'.heap (locs ++ L) ls hP2 h2' h3)
    obtain ⟨t2, a1, b1⟩ := hw T' rfl X'
    exact ⟨t2, hgo.trans a1, b1⟩
/-! ends -/
theorem u_endG {H : Heap} {locs : List Loc} {v : Option Value} (h1 : HD g M D H) (h2 : va_S (gA g) (xS X).heap H locs) (hR : R v M D) : ∀ t : State, t.heap = H → (xS X).WarmedH t.vm → QU g R (xA X) (xS X) (.returned v) t := fun t ht _ => ⟨⟨v, M, D, rfl, hR, by rw [ht]; exact h1⟩, h2.F ht⟩
theorem u_iret (C : Cx X g l cc mL own (some .int) rm) (hq : RU X g rm R) {v : Int32} (hk : kc ≤ rm.cells ∧ ks ≤ rm.slots) (d : decode cc pc = .ok (.ireturn, 1)) (hR : R (some (.int v)) M D) : UX X g kc ks pc lo [.int v] M D := by
  intro H locs ls h1 h2 h3
  show W _ _ _ _ _ _ _ _ _ _ _ _ _ _ (xQ X) _
  rw [show xQ X = _ from hq]
  exact W.widen hk.1 hk.2 (W.iret C.1 C.2.1 C.2.2.2.2.2.2.2.1 (u_endG h1 h2 hR) (fun q hq => h2.2.2 q hq) d C.2.2.2.2.2.2.1)
theorem u_zret (C : Cx X g l cc mL own (some .boolean) rm) (hq : RU X g rm R) {v : Int32} (hv : narrow .boolean (.int v) = .int v) (hk : kc ≤ rm.cells ∧ ks ≤ rm.slots) (d : decode cc pc = .ok (.ireturn, 1)) (hR : R (some (.int v)) M D) : UX X g kc ks pc lo [.int v] M D := by
  intro H locs ls h1 h2 h3
  show W _ _ _ _ _ _ _ _ _ _ _ _ _ _ (xQ X) _
  rw [show xQ X = _ from hq]
  exact W.widen hk.1 hk.2 (W.zret C.1 C.2.1 C.2.2.2.2.2.2.2.1 hv (u_endG h1 h2 hR) (fun q hq => h2.2.2 q hq) d C.2.2.2.2.2.2.1)
theorem u_vret (C : Cx X g l cc mL own none rm) (hq : RU X g rm R) (hk : kc ≤ rm.cells ∧ ks ≤ rm.slots) (d : decode cc pc = .ok (.return_, 1)) (hR : R none M D) : UX X g kc ks pc lo [] M D := by
  intro H locs ls h1 h2 h3
  show W _ _ _ _ _ _ _ _ _ _ _ _ _ _ (xQ X) _
  rw [show xQ X = _ from hq]
  exact W.widen hk.1 hk.2 (W.vret C.1 C.2.1 C.2.2.2.2.2.2.2.1 (u_endG h1 h2 hR) (fun q hq => h2.2.2 q hq) d C.2.2.2.2.2.2.1)
theorem u_aret {rt : FieldType} (C : Cx X g l cc mL own (some rt) rm) (hrt : (∃ n, rt = .object n) ∨ ∃ t, rt = .array t) (hq : RU X g rm R) {a : Nat} (hk : kc ≤ rm.cells ∧ ks ≤ rm.slots) (d : decode cc pc = .ok (.areturn, 1)) (hR : R (some (.ref a)) M D) : UX X g kc ks pc lo [.ref a] M D := by
  intro H locs ls h1 h2 h3
  show W _ _ _ _ _ _ _ _ _ _ _ _ _ _ (xQ X) _
  rw [show xQ X = _ from hq]
  exact W.widen hk.1 hk.2 (W.aret C.1 C.2.1 C.2.2.2.2.2.2.2.1 hrt (Or.inr ⟨a, rfl⟩) (u_endG h1 h2 hR) (fun q hq => h2.2.2 q hq) d C.2.2.2.2.2.2.1)
end UCALLS
end
section
/-! Entries for the law's own objects. -/
theorem fn_L_15 : FLN RL 15 2 1 := ⟨RX2, TX2, 8, ci2, by decide, rfl, Or.inl ⟨503, by decide +kernel⟩, rfl, _, rfl, fun _ => rfl, fun _ => rfl⟩
theorem fn_L_38 : FLN RL 38 2 0 := ⟨RX2, TX2, 8, ci2, by decide, rfl, Or.inl ⟨501, by decide +kernel⟩, rfl, _, rfl, fun _ => rfl, fun _ => rfl⟩
theorem fn_L_50 : FLN RL 50 2 2 := ⟨RX2, TX2, 8, ci2, by decide, rfl, Or.inl ⟨505, by decide +kernel⟩, rfl, _, rfl, fun _ => rfl, fun _ => rfl⟩
theorem fn_X2_7 : FLN RX2 7 2 0 := ⟨RX2, TX2, 8, ci2, by decide, rfl, Or.inl ⟨500, by decide +kernel⟩, rfl, _, rfl, fun _ => rfl, fun _ => rfl⟩
theorem fn_X2_14 : FLN RX2 14 2 1 := ⟨RX2, TX2, 8, ci2, by decide, rfl, Or.inl ⟨502, by decide +kernel⟩, rfl, _, rfl, fun _ => rfl, fun _ => rfl⟩
theorem fn_X2_18 : FLN RX2 18 2 2 := ⟨RX2, TX2, 8, ci2, by decide, rfl, Or.inl ⟨504, by decide +kernel⟩, rfl, _, rfl, fun _ => rfl, fun _ => rfl⟩
theorem fn_X2_21 : FLN RX2 21 2 3 := ⟨RX2, TX2, 8, ci2, by decide, rfl, Or.inl ⟨506, by decide +kernel⟩, rfl, _, rfl, fun _ => rfl, fun _ => rfl⟩
theorem fn_X2_24 : FLN RX2 24 2 4 := ⟨RX2, TX2, 8, ci2, by decide, rfl, Or.inl ⟨507, by decide +kernel⟩, rfl, _, rfl, fun _ => rfl, fun _ => rfl⟩
abbrev simV : List Value := [.null, .null, .null, .null, .null, .int 0, .int 0, .int 0]
theorem nw_X2_8 : NW RX2 8 2 8 simV := ⟨RX2, TX2, ci2, by decide +kernel, by decide +kernel, by decide +kernel, tyX2, tyX2_ok, by decide +kernel⟩
theorem nw_L_16 : NW RL 16 2 8 simV := ⟨RX2, TX2, ci2, by decide +kernel, by decide +kernel, by decide +kernel, tyX2, tyX2_ok, by decide +kernel⟩
theorem cd_X2_init : CD yX2_init cX2_init 1 none 0 := ⟨⟨496, by decide +kernel⟩, List.mem_of_getElem? (i := 26) (by decide +kernel), by decide, by decide, by decide⟩
theorem ki_X2_27 : (∃ i : Nat, lw_tbl[i]? = some (.methodLink RX2 27 yX2_init)) ∧ ∃ i : Nat, lw_tbl[i]? = some (.instanceMethod yX2_init) := ⟨⟨494, by decide +kernel⟩, ⟨495, by decide +kernel⟩⟩
theorem ki_L_70 : (∃ (i : Nat) (h : String), lw_tbl[i]? = some (.methodLinkNest RL 70 yX2_init h)) ∧ ∃ i : Nat, lw_tbl[i]? = some (.instanceMethod yX2_init) := ⟨⟨637, RL, by decide +kernel⟩, ⟨495, by decide +kernel⟩⟩
abbrev hhL_act : List (Nat × Nat × Nat × Nat) := [(12, 174, 487, 68), (175, 184, 487, 68), (185, 240, 487, 68), (241, 299, 487, 68), (300, 437, 487, 68), (438, 486, 487, 68)]
theorem cw_L_act : CDW yL_act cL_act 8 (some .boolean) hhL_act 3 := ⟨⟨577, by decide +kernel⟩, by decide +kernel, by decide, by decide, by decide⟩
end
