/-! Constructors: the world as a list that grows. -/
abbrev YT : Type := va_G × ClassId × ClassId × ClassId
def yty (y : YT) : List (ClassId × FieldType) := [(y.2.1, .int), (y.2.2.1, .boolean), (y.2.2.2, .array .int)]
def Ky (y : YT) (U : State) : Prop := (∀ w ∈ lw_tbl, xw w = true → w.before #[] U = true) ∧ va_K y.1 vwCl (yty y) U
theorem Ky.warm {y : YT} {s U : State} (hW : s.WarmedH U.vm) (h : Ky y s) : Ky y U := ⟨fun w hw hx => xw_at hW hx (h.1 w hw hx), va_K.moved hW.alike h.2⟩
def Cy (X : XT) (y : YT) (A : Nat → Prop) (l : Launch) (cc : ByteArray) (mL : Nat) (own : String) (ret : Option FieldType) (rm : Room) : Prop :=
  (xP X).tables.exec = Jvm.exec ∧ (xC X).code = cc ∧ (xC X).maxLocals = mL ∧ (xS X).vm.findClass own = some (xM X).cls ∧ Ky y (xS X) ∧ (∀ q : Nat, (xS X).heap.size ≤ q → A q) ∧ (xMe X).locks = false ∧ (xMe X).sig.returnType = ret ∧ xR X = rm ∧ xL X = l
def VE (X : XT) (y : YT) (A : Nat → Prop) (ws : va_W) (kc ks pc : Nat) (lo : List (Nat × Value)) (st : List Value) : Prop :=
  ∀ (H : Heap) (locs : List Loc) (ls : Array Slot), va_P y.1 vwCl ws H → va_D A ws → va_S A (xS X).heap H locs → lv_has ls (xC X).maxLocals lo → xW X H locs kc ks (F0 (xM X) pc ls st)
section VEL
variable {X : XT} {y : YT} {A : Nat → Prop} {l : Launch} {cc : ByteArray} {mL : Nat} {own : String} {ret : Option FieldType} {rm : Room} {kc ks pc : Nat} {lo lo' : List (Nat × Value)} {st : List Value} {ws ws' : va_W}
theorem Cy.wm (C : Cy X y A l cc mL own ret rm) {w : Cond} (h : w ∈ lw_tbl) (hx : xw w = true) : w.before (xA X) (xS X) = true := xw_at (State.WarmedH.refl _) hx (C.2.2.2.2.1.1 w h hx)
theorem Cy.w (C : Cy X y A l cc mL own ret rm) {w : Cond} {i : Nat} (h : lw_tbl[i]? = some w) (hx : xw w = true) : w.before (xA X) (xS X) = true := C.wm (List.mem_of_getElem? h) hx
theorem e_ws (h : ws = ws') (k : VE X y A ws' kc ks pc lo st) : VE X y A ws kc ks pc lo st := h ▸ k
theorem e_aload_n (C : Cy X y A l cc mL own ret rm) {n : Fin 4} {v : Nat} (d : decode cc pc = .ok (.aload_n n, 1)) (h : lk lo (n : Nat) = some (.ref v)) (k : VE X y A ws kc ks (pc + 1) lo (.ref v :: st)) : VE X y A ws kc ks pc lo st := fun H locs ls h1 h2 h3 h4 => lv_aload_n C.1 C.2.1 d rfl (lk_at h4 h) (k H locs ls h1 h2 h3 h4)
theorem e_iconst (C : Cy X y A l cc mL own ret rm) {z : Int} {v : Int32} (d : decode cc pc = .ok (.iconst z, 1)) (hv : Int32.ofInt z = v) (k : VE X y A ws kc ks (pc + 1) lo (.int v :: st)) : VE X y A ws kc ks pc lo st := fun H locs ls h1 h2 h3 h4 => lv_iconst C.1 C.2.1 d hv (k H locs ls h1 h2 h3 h4)
theorem e_bipush (C : Cy X y A l cc mL own ret rm) {z : Int} {v : Int32} (d : decode cc pc = .ok (.bipush z, 2)) (hv : (Int8.ofInt z).toInt32 = v) (k : VE X y A ws kc ks (pc + 2) lo (.int v :: st)) : VE X y A ws kc ks pc lo st := fun H locs ls h1 h2 h3 h4 => lv_bipush C.1 C.2.1 d hv (k H locs ls h1 h2 h3 h4)
theorem e_sipush (C : Cy X y A l cc mL own ret rm) {z : Int} {v : Int32} (d : decode cc pc = .ok (.sipush z, 3)) (hv : (Int16.ofInt z).toInt32 = v) (k : VE X y A ws kc ks (pc + 3) lo (.int v :: st)) : VE X y A ws kc ks pc lo st := fun H locs ls h1 h2 h3 h4 => lv_sipush C.1 C.2.1 d hv (k H locs ls h1 h2 h3 h4)
theorem e_dup (C : Cy X y A l cc mL own ret rm) {v : Nat} (d : decode cc pc = .ok (.dup, 1)) (k : VE X y A ws kc ks (pc + 1) lo (.ref v :: .ref v :: st)) : VE X y A ws kc ks pc lo (.ref v :: st) := fun H locs ls h1 h2 h3 h4 => lv_dup C.1 C.2.1 d rfl (k H locs ls h1 h2 h3 h4)
theorem e_newI (C : Cy X y A l cc mL own ret rm) {N : Nat} {n : Int32} (hn : ¬ n < 0) (hN : n.toNatClampNeg = N) (hb : N * componentBytes .int ≤ 536870912) (hR : kc + 1 ≤ rm.cells ∧ ks + N ≤ rm.slots) (d : decode cc pc = .ok (.newarray .int, 2)) (kk : ∀ q : Nat, VE X y A (ws ++ [(q, .inl (y.2.1, N, .inl (fun _ => 0)))]) (kc + 1) (ks + N) (pc + 2) lo (.ref q :: st)) : VE X y A ws kc ks pc lo (.int n :: st) := by
  intro H locs ls h1 h2 h3 h4
  have w1 : (Cond.arrayClass .int) ∈ lw_tbl := by decide +kernel
  have hR' : xR X = rm := C.2.2.2.2.2.2.2.2.1
  refine va_newa (atype := .int) (ty := .int) (a0 := (N, .inl (fun _ => 0))) C.1 C.2.1 (C.wm w1 rfl) rfl C.2.2.2.2.1.2 h1 h2 h3 C.2.2.2.2.2.1 (fun cA => rfl) hn hN hb (by rw [hR']; exact hR.1) (by rw [hR']; exact hR.2) d (fun q cA H1 k1 k2 k3 k4 => ?_)
  have e : cA = y.2.1 := by
    have q1 : (xS X).vm.findClass ("[" ++ (FieldType.int).toString) = some cA := (k1.2 3 _ rfl).2
    have q2 : (xS X).vm.findClass ("[" ++ (FieldType.int).toString) = some y.2.1 := (k1.2 0 _ rfl).2
    exact Option.some.inj (q1.symm.trans q2)
  subst e
  exact kk q H1 locs ls k2 k3 k4 h4
theorem e_newZ (C : Cy X y A l cc mL own ret rm) {N : Nat} {n : Int32} (hn : ¬ n < 0) (hN : n.toNatClampNeg = N) (hb : N * componentBytes .boolean ≤ 536870912) (hR : kc + 1 ≤ rm.cells ∧ ks + N ≤ rm.slots) (d : decode cc pc = .ok (.newarray .boolean, 2)) (kk : ∀ q : Nat, VE X y A (ws ++ [(q, .inl (y.2.2.1, N, .inl (fun _ => 0)))]) (kc + 1) (ks + N) (pc + 2) lo (.ref q :: st)) : VE X y A ws kc ks pc lo (.int n :: st) := by
  intro H locs ls h1 h2 h3 h4
  have w1 : (Cond.arrayClass .boolean) ∈ lw_tbl := by decide +kernel
  have hR' : xR X = rm := C.2.2.2.2.2.2.2.2.1
  refine va_newa (atype := .boolean) (ty := .boolean) (a0 := (N, .inl (fun _ => 0))) C.1 C.2.1 (C.wm w1 rfl) rfl C.2.2.2.2.1.2 h1 h2 h3 C.2.2.2.2.2.1 (fun cA => rfl) hn hN hb (by rw [hR']; exact hR.1) (by rw [hR']; exact hR.2) d (fun q cA H1 k1 k2 k3 k4 => ?_)
  have e : cA = y.2.2.1 := by
    have q1 : (xS X).vm.findClass ("[" ++ (FieldType.boolean).toString) = some cA := (k1.2 3 _ rfl).2
    have q2 : (xS X).vm.findClass ("[" ++ (FieldType.boolean).toString) = some y.2.2.1 := (k1.2 1 _ rfl).2
    exact Option.some.inj (q1.symm.trans q2)
  subst e
  exact kk q H1 locs ls k2 k3 k4 h4
/-- a final field's entry, in its own class -/
def FLF (own : String) (idx ci j : Nat) : Prop := ∃ (T : u_T) (N : Nat), CI ci own T N ∧ j < N ∧ (T j).1 = own ∧ (∃ i : Nat, lw_tbl[i]? = some (.fieldLink own idx own (T j).2.1 (T j).2.2.1)) ∧ (T j).2.2.2 = true ∧ ∃ ty, parseFieldDescriptor (T j).2.2.1 = some ty ∧ (∀ q, narrow ty (.ref q) = .ref q) ∧ ∀ q, fits ty (.ref q) = true
theorem e_putF (C : Cy X y A l cc mL own ret rm) (hin : (xMe X).name = "<init>") {idx ci j a q : Nat} {fs fs' : List Value} (hf : FLF own idx ci j) (hl : j < fs.length) (hfs : fs.set j (.ref q) = fs') (d : decode cc pc = .ok (.putfield idx, 3)) (kk : VE X y A ((a, .inr (ci, fs')) :: ws) kc ks (pc + 3) lo st) : VE X y A ((a, .inr (ci, fs)) :: ws) kc ks pc lo (.ref q :: .ref a :: st) := by
  intro H locs ls h1 h2 h3 h4
  obtain ⟨T, N, hc, hj, hT, ⟨i, hlk⟩, hfin, ty, hd, hn, hfit⟩ := hf
  obtain ⟨ty0, hty⟩ := hc.2.2.1
  subst hfs
  exact va_putF C.1 C.2.1 (fun w hw => C.wm (hc.2.2.2.2 w hw).1 (hc.2.2.2.2 w hw).2) (fun _ h => h) ty0 hty hc.2.2.2.1 C.2.2.2.1 C.2.2.2.2.1.2 h1 h2 h3 0 rfl hc.1 j hj (C.w hlk rfl) (fun x hx => by rw [hT] at hx; exact hx) hfin hin hT hd (hn q) (hfit q) hl d (fun H1 locs1 p1 p2 p3 => kk H1 locs1 ls p1 p2 p3 h4)
end VEL
