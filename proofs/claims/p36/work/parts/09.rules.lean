/-! Rules: one for each kind of instruction, over V: at a pc, with locals, stack and memory told. -/
abbrev XT : Type := Program × Launch × Env × Room × State × MethodId × Array Value × List Frame × Method × Code × (State → Prop)
abbrev xP (X : XT) : Program := X.1
abbrev xL (X : XT) : Launch := X.2.1
abbrev xE (X : XT) : Env := X.2.2.1
abbrev xR (X : XT) : Room := X.2.2.2.1
abbrev xS (X : XT) : State := X.2.2.2.2.1
abbrev xM (X : XT) : MethodId := X.2.2.2.2.2.1
abbrev xA (X : XT) : Array Value := X.2.2.2.2.2.2.1
abbrev xB (X : XT) : List Frame := X.2.2.2.2.2.2.2.1
abbrev xMe (X : XT) : Method := X.2.2.2.2.2.2.2.2.1
abbrev xC (X : XT) : Code := X.2.2.2.2.2.2.2.2.2.1
abbrev xQ (X : XT) : State → Prop := X.2.2.2.2.2.2.2.2.2.2
abbrev xW (X : XT) (H : Heap) (locs : List Loc) (kc ks : Nat) (f : JFrame) : Prop := W (xP X) (xL X) (xE X) (xR X) (xS X) (xM X) (xA X) (xB X) (xMe X) (xC X) H locs kc ks (xQ X) f
def Cx (X : XT) (g : GT) (l : Launch) (cc : ByteArray) (mL : Nat) (own : String) (ret : Option FieldType) (rm : Room) : Prop :=
  (xP X).tables.exec = Jvm.exec ∧ (xC X).code = cc ∧ (xC X).maxLocals = mL ∧ (xS X).vm.findClass own = some (xM X).cls ∧ GK g (xS X) ∧ GH g (xS X) (xS X).heap ∧ (xMe X).locks = false ∧ (xMe X).sig.returnType = ret ∧ xR X = rm ∧ xL X = l
def V (X : XT) (g : GT) (kc ks pc : Nat) (lo : List (Nat × Value)) (st : List Value) (M : Mem) : Prop :=
  ∀ (H : Heap) (locs : List Loc) (ls : Array Slot), Hd g M H → va_S (gA g) (xS X).heap H locs → lv_has ls (xC X).maxLocals lo → xW X H locs kc ks (F0 (xM X) pc ls st)
/-- the local by its number -/
def lk : List (Nat × Value) → Nat → Option Value
  | [], _ => none
  | (j, v) :: r, i => bif Nat.beq j i then some v else lk r i
theorem lk_mem : ∀ {l : List (Nat × Value)} {i : Nat} {v : Value}, lk l i = some v → (i, v) ∈ l
  | [], _, _, h => by cases h
  | (j, w) :: r, i, v, h => by
    unfold lk at h
    cases hb : Nat.beq j i with
    | true =>
      rw [hb] at h
      have e := Nat.eq_of_beq_eq_true hb
      subst e
      cases h
      exact List.mem_cons_self
    | false =>
      rw [hb] at h
      exact List.mem_cons_of_mem _ (lk_mem h)
theorem lk_at {ls : Array Slot} {n : Nat} {l : List (Nat × Value)} (h : lv_has ls n l) {i : Nat} {v : Value} (hk : lk l i = some v) : ls[i]? = some (.val v) := h.2.2 (i, v) (lk_mem hk)
theorem lk_idx : ∀ {l : List (Nat × Value)} {i : Nat} {v : Value}, lk l i = some v → ∃ k : Nat, l[k]? = some (i, v)
  | l, i, v, h => List.getElem?_of_mem (lk_mem h)
section RULES
variable {X : XT} {g : GT} {l : Launch} {cc : ByteArray} {mL : Nat} {own : String} {ret : Option FieldType} {rm : Room} {kc ks pc : Nat} {lo lo' : List (Nat × Value)} {st : List Value} {M : Mem}
theorem x_iload_n (C : Cx X g l cc mL own ret rm) {n : Fin 4} {v : Int32} (d : decode cc pc = .ok (.iload_n n, 1)) (h : lk lo (n : Nat) = some (.int v)) (k : V X g kc ks (pc + 1) lo (.int v :: st) M) : V X g kc ks pc lo st M := fun H locs ls h1 h2 h3 => lv_iload_n C.1 C.2.1 d rfl (lk_at h3 h) (k H locs ls h1 h2 h3)
theorem x_iload (C : Cx X g l cc mL own ret rm) {n : Nat} {v : Int32} (d : decode cc pc = .ok (.iload n, 2)) (h : lk lo n = some (.int v)) (k : V X g kc ks (pc + 2) lo (.int v :: st) M) : V X g kc ks pc lo st M := fun H locs ls h1 h2 h3 => lv_iload C.1 C.2.1 d (lk_at h3 h) (k H locs ls h1 h2 h3)
theorem x_aload_n (C : Cx X g l cc mL own ret rm) {n : Fin 4} {v : Nat} (d : decode cc pc = .ok (.aload_n n, 1)) (h : lk lo (n : Nat) = some (.ref v)) (k : V X g kc ks (pc + 1) lo (.ref v :: st) M) : V X g kc ks pc lo st M := fun H locs ls h1 h2 h3 => lv_aload_n C.1 C.2.1 d rfl (lk_at h3 h) (k H locs ls h1 h2 h3)
theorem x_aload (C : Cx X g l cc mL own ret rm) {n : Nat} {v : Nat} (d : decode cc pc = .ok (.aload n, 2)) (h : lk lo n = some (.ref v)) (k : V X g kc ks (pc + 2) lo (.ref v :: st) M) : V X g kc ks pc lo st M := fun H locs ls h1 h2 h3 => lv_aload C.1 C.2.1 d (lk_at h3 h) (k H locs ls h1 h2 h3)
theorem x_lload_n (C : Cx X g l cc mL own ret rm) {n : Fin 4} {v : Int64} (d : decode cc pc = .ok (.lload_n n, 1)) (h : lk lo (n : Nat) = some (.long v)) (k : V X g kc ks (pc + 1) lo (.long v :: st) M) : V X g kc ks pc lo st M := fun H locs ls h1 h2 h3 => lv_lload_n C.1 C.2.1 d rfl (lk_at h3 h) (k H locs ls h1 h2 h3)
theorem x_dload (C : Cx X g l cc mL own ret rm) {n : Nat} {v : UInt64} (d : decode cc pc = .ok (.dload n, 2)) (h : lk lo n = some (.double v)) (k : V X g kc ks (pc + 2) lo (.double v :: st) M) : V X g kc ks pc lo st M := fun H locs ls h1 h2 h3 => lv_dload C.1 C.2.1 d (lk_at h3 h) (k H locs ls h1 h2 h3)
theorem x_istore_n (C : Cx X g l cc mL own ret rm) {n : Fin 4} {v : Int32} (d : decode cc pc = .ok (.istore_n n, 1)) (hn : (n : Nat) < mL) (h : ((n : Nat), Value.int v) :: lo.filter (fun q => !(q.1 == (n : Nat)) && !(q.1 + 1 == (n : Nat) && q.2.category == 2)) = lo') (k : V X g kc ks (pc + 1) lo' st M) : V X g kc ks pc lo (.int v :: st) M := fun H locs ls h1 h2 h3 => lv_istore_n C.1 C.2.1 d rfl h3 (by rw [C.2.2.1]; exact hn) h (fun ls' h4 => k H locs ls' h1 h2 h4)
theorem x_istore (C : Cx X g l cc mL own ret rm) {n : Nat} {v : Int32} (d : decode cc pc = .ok (.istore n, 2)) (hn : n < mL) (h : (n, Value.int v) :: lo.filter (fun q => !(q.1 == n) && !(q.1 + 1 == n && q.2.category == 2)) = lo') (k : V X g kc ks (pc + 2) lo' st M) : V X g kc ks pc lo (.int v :: st) M := fun H locs ls h1 h2 h3 => lv_istore C.1 C.2.1 d h3 (by rw [C.2.2.1]; exact hn) h (fun ls' h4 => k H locs ls' h1 h2 h4)
theorem x_astore_n (C : Cx X g l cc mL own ret rm) {n : Fin 4} {v : Nat} (d : decode cc pc = .ok (.astore_n n, 1)) (hn : (n : Nat) < mL) (h : ((n : Nat), Value.ref v) :: lo.filter (fun q => !(q.1 == (n : Nat)) && !(q.1 + 1 == (n : Nat) && q.2.category == 2)) = lo') (k : V X g kc ks (pc + 1) lo' st M) : V X g kc ks pc lo (.ref v :: st) M := fun H locs ls h1 h2 h3 => lv_astore_n C.1 C.2.1 d rfl h3 (by rw [C.2.2.1]; exact hn) h (fun ls' h4 => k H locs ls' h1 h2 h4)
theorem x_astore (C : Cx X g l cc mL own ret rm) {n : Nat} {v : Nat} (d : decode cc pc = .ok (.astore n, 2)) (hn : n < mL) (h : (n, Value.ref v) :: lo.filter (fun q => !(q.1 == n) && !(q.1 + 1 == n && q.2.category == 2)) = lo') (k : V X g kc ks (pc + 2) lo' st M) : V X g kc ks pc lo (.ref v :: st) M := fun H locs ls h1 h2 h3 => lv_astore C.1 C.2.1 d h3 (by rw [C.2.2.1]; exact hn) h (fun ls' h4 => k H locs ls' h1 h2 h4)
theorem x_lstore_n (C : Cx X g l cc mL own ret rm) {n : Fin 4} {v : Int64} (d : decode cc pc = .ok (.lstore_n n, 1)) (hn : (n : Nat) + 1 < mL) (h : ((n : Nat), Value.long v) :: lo.filter (fun q => !(q.1 == (n : Nat)) && (!(q.1 == (n : Nat) + 1) && !(q.1 + 1 == (n : Nat) && q.2.category == 2))) = lo') (k : V X g kc ks (pc + 1) lo' st M) : V X g kc ks pc lo (.long v :: st) M := fun H locs ls h1 h2 h3 => lv_lstore_n C.1 C.2.1 d rfl h3 (by rw [C.2.2.1]; exact hn) h (fun ls' h4 => k H locs ls' h1 h2 h4)
theorem x_dstore (C : Cx X g l cc mL own ret rm) {n : Nat} {v : UInt64} (d : decode cc pc = .ok (.dstore n, 2)) (hn : n + 1 < mL) (h : (n, Value.double v) :: lo.filter (fun q => !(q.1 == n) && (!(q.1 == n + 1) && !(q.1 + 1 == n && q.2.category == 2))) = lo') (k : V X g kc ks (pc + 2) lo' st M) : V X g kc ks pc lo (.double v :: st) M := fun H locs ls h1 h2 h3 => lv_dstore C.1 C.2.1 d h3 (by rw [C.2.2.1]; exact hn) h (fun ls' h4 => k H locs ls' h1 h2 h4)
theorem x_iinc (C : Cx X g l cc mL own ret rm) {n : Nat} {z : Int} {x v : Int32} (d : decode cc pc = .ok (.iinc n z, 3)) (hk : lk lo n = some (.int x)) (hv : x + Int32.ofInt z = v) (hn : n < mL) (h : (n, Value.int v) :: lo.filter (fun q => !(q.1 == n) && !(q.1 + 1 == n && q.2.category == 2)) = lo') (k : V X g kc ks (pc + 3) lo' st M) : V X g kc ks pc lo st M := fun H locs ls h1 h2 h3 => by
  obtain ⟨q, hq⟩ := lk_idx hk
  exact lv_iinc C.1 C.2.1 d h3 hq hv (by rw [C.2.2.1]; exact hn) h (fun ls' h4 => k H locs ls' h1 h2 h4)
theorem x_iconst (C : Cx X g l cc mL own ret rm) {z : Int} {v : Int32} (d : decode cc pc = .ok (.iconst z, 1)) (hv : Int32.ofInt z = v) (k : V X g kc ks (pc + 1) lo (.int v :: st) M) : V X g kc ks pc lo st M := fun H locs ls h1 h2 h3 => lv_iconst C.1 C.2.1 d hv (k H locs ls h1 h2 h3)
theorem x_bipush (C : Cx X g l cc mL own ret rm) {z : Int} {v : Int32} (d : decode cc pc = .ok (.bipush z, 2)) (hv : (Int8.ofInt z).toInt32 = v) (k : V X g kc ks (pc + 2) lo (.int v :: st) M) : V X g kc ks pc lo st M := fun H locs ls h1 h2 h3 => lv_bipush C.1 C.2.1 d hv (k H locs ls h1 h2 h3)
theorem x_sipush (C : Cx X g l cc mL own ret rm) {z : Int} {v : Int32} (d : decode cc pc = .ok (.sipush z, 3)) (hv : (Int16.ofInt z).toInt32 = v) (k : V X g kc ks (pc + 3) lo (.int v :: st) M) : V X g kc ks pc lo st M := fun H locs ls h1 h2 h3 => lv_sipush C.1 C.2.1 d hv (k H locs ls h1 h2 h3)
theorem x_lconst (C : Cx X g l cc mL own ret rm) {z : Fin 2} {v : Int64} (d : decode cc pc = .ok (.lconst z, 1)) (hv : Int64.ofNat (z : Nat) = v) (k : V X g kc ks (pc + 1) lo (.long v :: st) M) : V X g kc ks pc lo st M := fun H locs ls h1 h2 h3 => lv_lconst C.1 C.2.1 d hv (k H locs ls h1 h2 h3)
theorem x_dconst0 (C : Cx X g l cc mL own ret rm) (d : decode cc pc = .ok (.dconst 0, 1)) (k : V X g kc ks (pc + 1) lo (.double 0 :: st) M) : V X g kc ks pc lo st M := fun H locs ls h1 h2 h3 => lv_dconst0 C.1 C.2.1 d (k H locs ls h1 h2 h3)
theorem x_dup (C : Cx X g l cc mL own ret rm) {v : Value} (d : decode cc pc = .ok (.dup, 1)) (hv : v.category = 1) (k : V X g kc ks (pc + 1) lo (v :: v :: st) M) : V X g kc ks pc lo (v :: st) M := fun H locs ls h1 h2 h3 => lv_dup C.1 C.2.1 d hv (k H locs ls h1 h2 h3)
theorem x_pop (C : Cx X g l cc mL own ret rm) {v : Value} (d : decode cc pc = .ok (.pop, 1)) (hv : v.category = 1) (k : V X g kc ks (pc + 1) lo st M) : V X g kc ks pc lo (v :: st) M := fun H locs ls h1 h2 h3 => lv_pop C.1 C.2.1 d hv (k H locs ls h1 h2 h3)
theorem x_dup2 (C : Cx X g l cc mL own ret rm) {v w : Value} (d : decode cc pc = .ok (.dup2, 1)) (hv : v.category = 1) (hw : w.category = 1) (k : V X g kc ks (pc + 1) lo (v :: w :: v :: w :: st) M) : V X g kc ks pc lo (v :: w :: st) M := fun H locs ls h1 h2 h3 => lv_dup2_11 C.1 C.2.1 d hv hw (k H locs ls h1 h2 h3)
theorem x_iadd (C : Cx X g l cc mL own ret rm) {x y : Int32} (d : decode cc pc = .ok (.iadd, 1)) (k : V X g kc ks (pc + 1) lo (.int (x + y) :: st) M) : V X g kc ks pc lo (.int y :: .int x :: st) M := fun H locs ls h1 h2 h3 => lv_iadd C.1 C.2.1 d (k H locs ls h1 h2 h3)
theorem x_isub (C : Cx X g l cc mL own ret rm) {x y : Int32} (d : decode cc pc = .ok (.isub, 1)) (k : V X g kc ks (pc + 1) lo (.int (x - y) :: st) M) : V X g kc ks pc lo (.int y :: .int x :: st) M := fun H locs ls h1 h2 h3 => lv_isub C.1 C.2.1 d (k H locs ls h1 h2 h3)
theorem x_iand (C : Cx X g l cc mL own ret rm) {x y : Int32} (d : decode cc pc = .ok (.iand, 1)) (k : V X g kc ks (pc + 1) lo (.int (x &&& y) :: st) M) : V X g kc ks pc lo (.int y :: .int x :: st) M := fun H locs ls h1 h2 h3 => lv_iand C.1 C.2.1 d (k H locs ls h1 h2 h3)
theorem x_ladd (C : Cx X g l cc mL own ret rm) {x y : Int64} (d : decode cc pc = .ok (.ladd, 1)) (k : V X g kc ks (pc + 1) lo (.long (x + y) :: st) M) : V X g kc ks pc lo (.long y :: .long x :: st) M := fun H locs ls h1 h2 h3 => lv_ladd C.1 C.2.1 d (k H locs ls h1 h2 h3)
theorem x_lmul (C : Cx X g l cc mL own ret rm) {x y : Int64} (d : decode cc pc = .ok (.lmul, 1)) (k : V X g kc ks (pc + 1) lo (.long (x * y) :: st) M) : V X g kc ks pc lo (.long y :: .long x :: st) M := fun H locs ls h1 h2 h3 => lv_lmul C.1 C.2.1 d (k H locs ls h1 h2 h3)
theorem x_ineg (C : Cx X g l cc mL own ret rm) {x : Int32} (d : decode cc pc = .ok (.ineg, 1)) (k : V X g kc ks (pc + 1) lo (.int (-x) :: st) M) : V X g kc ks pc lo (.int x :: st) M := fun H locs ls h1 h2 h3 => lv_ineg C.1 C.2.1 d (k H locs ls h1 h2 h3)
theorem x_i2l (C : Cx X g l cc mL own ret rm) {x : Int32} (d : decode cc pc = .ok (.i2l, 1)) (k : V X g kc ks (pc + 1) lo (.long x.toInt64 :: st) M) : V X g kc ks pc lo (.int x :: st) M := fun H locs ls h1 h2 h3 => lv_i2l C.1 C.2.1 d rfl (k H locs ls h1 h2 h3)
theorem x_i2d (C : Cx X g l cc mL own ret rm) {x : Int32} (d : decode cc pc = .ok (.i2d, 1)) (k : V X g kc ks (pc + 1) lo (.double (FP.i2d x) :: st) M) : V X g kc ks pc lo (.int x :: st) M := fun H locs ls h1 h2 h3 => lv_i2d C.1 C.2.1 d (k H locs ls h1 h2 h3)
theorem x_ddiv (C : Cx X g l cc mL own ret rm) {x y : UInt64} (d : decode cc pc = .ok (.ddiv, 1)) (hne : vf_n64 (FP.ddiv x y)) (k : V X g kc ks (pc + 1) lo (.double (FP.ddiv x y) :: st) M) : V X g kc ks pc lo (.double y :: .double x :: st) M := fun H locs ls h1 h2 h3 => lv_ddiv C.1 C.2.1 d hne (k H locs ls h1 h2 h3)
theorem x_dcmp (C : Cx X g l cc mL own ret rm) {x y : UInt64} {op : CmpOp} (d : decode cc pc = .ok (.dcmp op, 1)) (k : V X g kc ks (pc + 1) lo (.int (Op.cmpValue (FP.dcmp x y) op) :: st) M) : V X g kc ks pc lo (.double y :: .double x :: st) M := fun H locs ls h1 h2 h3 => lv_dcmp C.1 C.2.1 d (k H locs ls h1 h2 h3)
theorem x_icmp_eq (C : Cx X g l cc mL own ret rm) {x y : Int32} {off : Int} {tgt : Nat} (d : decode cc pc = .ok (.if_icmp .eq off, 3)) (ht : (pc : Int) + off = (tgt : Int)) (kt : x = y → V X g kc ks tgt lo st M) (kf : ¬ (x = y) → V X g kc ks (pc + 3) lo st M) : V X g kc ks pc lo (.int y :: .int x :: st) M := fun H locs ls h1 h2 h3 => lv_icmp_eq C.1 C.2.1 d ht (fun c => kt c H locs ls h1 h2 h3) (fun c => kf c H locs ls h1 h2 h3)
theorem x_icmp_ne (C : Cx X g l cc mL own ret rm) {x y : Int32} {off : Int} {tgt : Nat} (d : decode cc pc = .ok (.if_icmp .ne off, 3)) (ht : (pc : Int) + off = (tgt : Int)) (kt : x ≠ y → V X g kc ks tgt lo st M) (kf : x = y → V X g kc ks (pc + 3) lo st M) : V X g kc ks pc lo (.int y :: .int x :: st) M := fun H locs ls h1 h2 h3 => lv_icmp_ne C.1 C.2.1 d ht (fun c => kt c H locs ls h1 h2 h3) (fun c => kf c H locs ls h1 h2 h3)
theorem x_icmp_lt (C : Cx X g l cc mL own ret rm) {x y : Int32} {off : Int} {tgt : Nat} (d : decode cc pc = .ok (.if_icmp .lt off, 3)) (ht : (pc : Int) + off = (tgt : Int)) (kt : x < y → V X g kc ks tgt lo st M) (kf : ¬ (x < y) → V X g kc ks (pc + 3) lo st M) : V X g kc ks pc lo (.int y :: .int x :: st) M := fun H locs ls h1 h2 h3 => lv_icmp_lt C.1 C.2.1 d ht (fun c => kt c H locs ls h1 h2 h3) (fun c => kf c H locs ls h1 h2 h3)
theorem x_icmp_ge (C : Cx X g l cc mL own ret rm) {x y : Int32} {off : Int} {tgt : Nat} (d : decode cc pc = .ok (.if_icmp .ge off, 3)) (ht : (pc : Int) + off = (tgt : Int)) (kt : x ≥ y → V X g kc ks tgt lo st M) (kf : ¬ (x ≥ y) → V X g kc ks (pc + 3) lo st M) : V X g kc ks pc lo (.int y :: .int x :: st) M := fun H locs ls h1 h2 h3 => lv_icmp_ge C.1 C.2.1 d ht (fun c => kt c H locs ls h1 h2 h3) (fun c => kf c H locs ls h1 h2 h3)
theorem x_icmp_gt (C : Cx X g l cc mL own ret rm) {x y : Int32} {off : Int} {tgt : Nat} (d : decode cc pc = .ok (.if_icmp .gt off, 3)) (ht : (pc : Int) + off = (tgt : Int)) (kt : x > y → V X g kc ks tgt lo st M) (kf : ¬ (x > y) → V X g kc ks (pc + 3) lo st M) : V X g kc ks pc lo (.int y :: .int x :: st) M := fun H locs ls h1 h2 h3 => lv_icmp_gt C.1 C.2.1 d ht (fun c => kt c H locs ls h1 h2 h3) (fun c => kf c H locs ls h1 h2 h3)
theorem x_icmp_le (C : Cx X g l cc mL own ret rm) {x y : Int32} {off : Int} {tgt : Nat} (d : decode cc pc = .ok (.if_icmp .le off, 3)) (ht : (pc : Int) + off = (tgt : Int)) (kt : x ≤ y → V X g kc ks tgt lo st M) (kf : ¬ (x ≤ y) → V X g kc ks (pc + 3) lo st M) : V X g kc ks pc lo (.int y :: .int x :: st) M := fun H locs ls h1 h2 h3 => lv_icmp_le C.1 C.2.1 d ht (fun c => kt c H locs ls h1 h2 h3) (fun c => kf c H locs ls h1 h2 h3)
theorem x_if_eq (C : Cx X g l cc mL own ret rm) {x : Int32} {off : Int} {tgt : Nat} (d : decode cc pc = .ok (.ifCond .eq off, 3)) (ht : (pc : Int) + off = (tgt : Int)) (kt : x = 0 → V X g kc ks tgt lo st M) (kf : ¬ (x = 0) → V X g kc ks (pc + 3) lo st M) : V X g kc ks pc lo (.int x :: st) M := fun H locs ls h1 h2 h3 => lv_if_eq C.1 C.2.1 d ht (fun c => kt c H locs ls h1 h2 h3) (fun c => kf c H locs ls h1 h2 h3)
theorem x_if_ne (C : Cx X g l cc mL own ret rm) {x : Int32} {off : Int} {tgt : Nat} (d : decode cc pc = .ok (.ifCond .ne off, 3)) (ht : (pc : Int) + off = (tgt : Int)) (kt : x ≠ 0 → V X g kc ks tgt lo st M) (kf : x = 0 → V X g kc ks (pc + 3) lo st M) : V X g kc ks pc lo (.int x :: st) M := fun H locs ls h1 h2 h3 => lv_if_ne C.1 C.2.1 d ht (fun c => kt c H locs ls h1 h2 h3) (fun c => kf c H locs ls h1 h2 h3)
theorem x_if_lt (C : Cx X g l cc mL own ret rm) {x : Int32} {off : Int} {tgt : Nat} (d : decode cc pc = .ok (.ifCond .lt off, 3)) (ht : (pc : Int) + off = (tgt : Int)) (kt : x < 0 → V X g kc ks tgt lo st M) (kf : ¬ (x < 0) → V X g kc ks (pc + 3) lo st M) : V X g kc ks pc lo (.int x :: st) M := fun H locs ls h1 h2 h3 => lv_if_lt C.1 C.2.1 d ht (fun c => kt c H locs ls h1 h2 h3) (fun c => kf c H locs ls h1 h2 h3)
theorem x_if_ge (C : Cx X g l cc mL own ret rm) {x : Int32} {off : Int} {tgt : Nat} (d : decode cc pc = .ok (.ifCond .ge off, 3)) (ht : (pc : Int) + off = (tgt : Int)) (kt : x ≥ 0 → V X g kc ks tgt lo st M) (kf : ¬ (x ≥ 0) → V X g kc ks (pc + 3) lo st M) : V X g kc ks pc lo (.int x :: st) M := fun H locs ls h1 h2 h3 => lv_if_ge C.1 C.2.1 d ht (fun c => kt c H locs ls h1 h2 h3) (fun c => kf c H locs ls h1 h2 h3)
theorem x_if_gt (C : Cx X g l cc mL own ret rm) {x : Int32} {off : Int} {tgt : Nat} (d : decode cc pc = .ok (.ifCond .gt off, 3)) (ht : (pc : Int) + off = (tgt : Int)) (kt : x > 0 → V X g kc ks tgt lo st M) (kf : ¬ (x > 0) → V X g kc ks (pc + 3) lo st M) : V X g kc ks pc lo (.int x :: st) M := fun H locs ls h1 h2 h3 => lv_if_gt C.1 C.2.1 d ht (fun c => kt c H locs ls h1 h2 h3) (fun c => kf c H locs ls h1 h2 h3)
theorem x_if_le (C : Cx X g l cc mL own ret rm) {x : Int32} {off : Int} {tgt : Nat} (d : decode cc pc = .ok (.ifCond .le off, 3)) (ht : (pc : Int) + off = (tgt : Int)) (kt : x ≤ 0 → V X g kc ks tgt lo st M) (kf : ¬ (x ≤ 0) → V X g kc ks (pc + 3) lo st M) : V X g kc ks pc lo (.int x :: st) M := fun H locs ls h1 h2 h3 => lv_if_le C.1 C.2.1 d ht (fun c => kt c H locs ls h1 h2 h3) (fun c => kf c H locs ls h1 h2 h3)
theorem x_goto (C : Cx X g l cc mL own ret rm) {off : Int} {tgt : Nat} (d : decode cc pc = .ok (.goto off, 3)) (ht : (pc : Int) + off = (tgt : Int)) (k : V X g kc ks tgt lo st M) : V X g kc ks pc lo st M := fun H locs ls h1 h2 h3 => lv_goto C.1 C.2.1 d ht (k H locs ls h1 h2 h3)
/-- a truth value as an int -/
def b2i (c : Prop) [Decidable c] : Int32 := if c then 1 else 0
theorem b2i_t {c : Prop} [Decidable c] (h : c) : b2i c = 1 := if_pos h
theorem b2i_f {c : Prop} [Decidable c] (h : ¬ c) : b2i c = 0 := if_neg h
theorem b2i_nar (c : Prop) [Decidable c] : narrow .boolean (.int (b2i c)) = .int (b2i c) := by
  by_cases h : c
  · rw [b2i_t h]; rfl
  · rw [b2i_f h]; rfl
theorem x_bif_eq (C : Cx X g l cc mL own ret rm) {c : Prop} [Decidable c] {off : Int} {tgt : Nat} (d : decode cc pc = .ok (.ifCond .eq off, 3)) (ht : (pc : Int) + off = (tgt : Int)) (kt : ¬ c → V X g kc ks tgt lo st M) (kf : c → V X g kc ks (pc + 3) lo st M) : V X g kc ks pc lo (.int (b2i c) :: st) M := by
  refine x_if_eq C d ht (fun h => kt (fun hc => ?_)) (fun h => kf ?_)
  · rw [b2i_t hc] at h; exact absurd h (by decide)
  · by_cases hc : c
    · exact hc
    · exact absurd (b2i_f hc) h
theorem x_bif_ne (C : Cx X g l cc mL own ret rm) {c : Prop} [Decidable c] {off : Int} {tgt : Nat} (d : decode cc pc = .ok (.ifCond .ne off, 3)) (ht : (pc : Int) + off = (tgt : Int)) (kt : c → V X g kc ks tgt lo st M) (kf : ¬ c → V X g kc ks (pc + 3) lo st M) : V X g kc ks pc lo (.int (b2i c) :: st) M := by
  refine x_if_ne C d ht (fun h => kt ?_) (fun h => kf (fun hc => ?_))
  · by_cases hc : c
    · exact hc
    · exact absurd (b2i_f hc) h
  · rw [b2i_t hc] at h; exact absurd h (by decide)
/-- fewer locals, in any order -/
theorem x_lsub (ks' : List Nat) (hl : lv_pick lo ks' = lo') (k : V X g kc ks pc lo' st M) : V X g kc ks pc lo st M := fun H locs ls h1 h2 h3 => k H locs ls h1 h2 (lv_sub h3 ks' hl)
theorem x_mem {M' : Mem} (h : M = M') (k : V X g kc ks pc lo st M') : V X g kc ks pc lo st M := h ▸ k
theorem x_widen {kc' ks' : Nat} (h1 : kc ≤ kc') (h2 : ks ≤ ks') (k : V X g kc' ks' pc lo st M) : V X g kc ks pc lo st M := fun H locs ls a b c => W.widen h1 h2 (k H locs ls a b c)
end RULES
