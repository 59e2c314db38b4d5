/-! .. more instructions: division, shifts, constants, tables, null, clones, casts, new objects. -/
section UOPS
variable {X : XT} {g : GT} {l : Launch} {cc : ByteArray} {mL : Nat} {own : String} {ret : Option FieldType} {rm : Room} {kc ks pc : Nat} {lo lo' : List (Nat × Value)} {st : List Value} {M : Mem} {D : DM}
theorem u_dm {D' : DM} (h : D = D') (k : UX X g kc ks pc lo st M D') : UX X g kc ks pc lo st M D := h ▸ k
theorem u_le {D' : DM} (h : Le D' D) (k : UX X g kc ks pc lo st M D') : UX X g kc ks pc lo st M D := fun H locs ls h1 h2 h3 => by
  obtain ⟨Wl, p, dd, hD⟩ := h1
  exact k H locs ls ⟨Wl, p, dd, fun a e x => hD a e (h a e x)⟩ h2 h3
theorem u_imul (C : Cx X g l cc mL own ret rm) {x y : Int32} (d : decode cc pc = .ok (.imul, 1)) (k : UX X g kc ks (pc + 1) lo (.int (x * y) :: st) M D) : UX X g kc ks pc lo (.int y :: .int x :: st) M D := fun H locs ls h1 h2 h3 => lv_imul C.1 C.2.1 d (k H locs ls h1 h2 h3)
theorem u_idiv (C : Cx X g l cc mL own ret rm) {x y : Int32} (hy : ¬ y = 0) (d : decode cc pc = .ok (.idiv, 1)) (k : UX X g kc ks (pc + 1) lo (.int (x / y) :: st) M D) : UX X g kc ks pc lo (.int y :: .int x :: st) M D := fun H locs ls h1 h2 h3 => lv_idiv C.1 C.2.1 d hy (k H locs ls h1 h2 h3)
theorem u_irem (C : Cx X g l cc mL own ret rm) {x y : Int32} (hy : ¬ y = 0) (d : decode cc pc = .ok (.irem, 1)) (k : UX X g kc ks (pc + 1) lo (.int (x - x / y * y) :: st) M D) : UX X g kc ks pc lo (.int y :: .int x :: st) M D := fun H locs ls h1 h2 h3 => lv_irem C.1 C.2.1 d hy (k H locs ls h1 h2 h3)
theorem u_ishr (C : Cx X g l cc mL own ret rm) {x y : Int32} (d : decode cc pc = .ok (.ishr, 1)) (k : UX X g kc ks (pc + 1) lo (.int (x >>> (y &&& 31)) :: st) M D) : UX X g kc ks pc lo (.int y :: .int x :: st) M D := fun H locs ls h1 h2 h3 => lv_ishr C.1 C.2.1 d (k H locs ls h1 h2 h3)
theorem u_ldc (C : Cx X g l cc mL own ret rm) {idx : Nat} {v : Int32} (hl : (Cond.constant own idx v) ∈ lw_tbl) (d : decode cc pc = .ok (.ldc idx, 2)) (k : UX X g kc ks (pc + 2) lo (.int v :: st) M D) : UX X g kc ks pc lo st M D := fun H locs ls h1 h2 h3 => lv_ldc C.1 C.2.1 C.2.2.2.1 (C.wm hl rfl) d (k H locs ls h1 h2 h3)
theorem u_lcmp (C : Cx X g l cc mL own ret rm) {x y : Int64} (d : decode cc pc = .ok (.lcmp, 1)) (k : UX X g kc ks (pc + 1) lo (.int (lg_cmp x y) :: st) M D) : UX X g kc ks pc lo (.long y :: .long x :: st) M D := fun H locs ls h1 h2 h3 => W.lcmp C.1 C.2.1 d (k H locs ls h1 h2 h3)
theorem u_lload (C : Cx X g l cc mL own ret rm) {n : Nat} {v : Int64} (d : decode cc pc = .ok (.lload n, 2)) (h : lk lo n = some (.long v)) (k : UX X g kc ks (pc + 2) lo (.long v :: st) M D) : UX X g kc ks pc lo st M D := fun H locs ls h1 h2 h3 => lv_lload C.1 C.2.1 d (lk_at h3 h) (k H locs ls h1 h2 h3)
theorem u_lstore (C : Cx X g l cc mL own ret rm) {n : Nat} {v : Int64} (d : decode cc pc = .ok (.lstore n, 2)) (hn : n + 1 < mL) (h : (n, Value.long v) :: lo.filter (fun q => !(q.1 == n) && (!(q.1 == n + 1) && !(q.1 + 1 == n && q.2.category == 2))) = lo') (k : UX X g kc ks (pc + 2) lo' st M D) : UX X g kc ks pc lo (.long v :: st) M D := fun H locs ls h1 h2 h3 => lv_lstore C.1 C.2.1 d h3 (by rw [C.2.2.1]; exact hn) h (fun ls' h4 => k H locs ls' h1 h2 h4)
theorem u_tabOut (C : Cx X g l cc mL own ret rm) {dflt lo1 hi : Int} {offs : Array Int} {len : Nat} {x : Int32} {tgt : Nat} (d : decode cc pc = .ok (.tableswitch dflt lo1 hi offs, len)) (h : x.toInt < lo1 ∨ hi < x.toInt) (ht : (pc : Int) + dflt = (tgt : Int)) (k : UX X g kc ks tgt lo st M D) : UX X g kc ks pc lo (.int x :: st) M D := fun H locs ls h1 h2 h3 => lv_tableOut C.1 C.2.1 d h ht (k H locs ls h1 h2 h3)
theorem u_tabIn (C : Cx X g l cc mL own ret rm) {dflt lo1 hi : Int} {offs : Array Int} {len : Nat} {x : Int32} {off : Int} {tgt : Nat} (d : decode cc pc = .ok (.tableswitch dflt lo1 hi offs, len)) (a1 : ¬ x.toInt < lo1) (a2 : ¬ hi < x.toInt) (ho : offs[(x.toInt - lo1).toNat]? = some off) (ht : (pc : Int) + off = (tgt : Int)) (k : UX X g kc ks tgt lo st M D) : UX X g kc ks pc lo (.int x :: st) M D := fun H locs ls h1 h2 h3 => lv_tableIn C.1 C.2.1 d a1 a2 ho ht (k H locs ls h1 h2 h3)
theorem u_ifnonnull (C : Cx X g l cc mL own ret rm) {x : Nat} {off : Int} {tgt : Nat} (d : decode cc pc = .ok (.ifnonnull off, 3)) (ht : (pc : Int) + off = (tgt : Int)) (k : UX X g kc ks tgt lo st M D) : UX X g kc ks pc lo (.ref x :: st) M D := fun H locs ls h1 h2 h3 => lv_ifnonnull C.1 C.2.1 d ht (k H locs ls h1 h2 h3)
theorem u_castA (C : Cx X g l cc mL own ret rm) {idx a n : Nat} {f : Nat → Int32} (hl : (Cond.classLink own idx "[I") ∈ lw_tbl) (ha : IA g D a n f) (d : decode cc pc = .ok (.checkcast idx, 3)) (kk : UX X g kc ks (pc + 3) lo (.ref a :: st) M D) : UX X g kc ks pc lo (.ref a :: st) M D := by
  intro H locs ls h1 h2 h3
  have h1' := h1
  obtain ⟨Wl, p, dd, hD⟩ := h1'
  obtain ⟨f', ha, he⟩ := ha
  obtain ⟨i0, -, hat⟩ := dd_at g M hD ha
  exact va_castA C.1 C.2.1 C.2.2.2.1 (C.wm hl rfl) p _ hat (va_nm_int (C.2.2.2.2.1.2.1.2 0 _ rfl).2) d (kk H locs ls h1 h2 h3)
theorem u_clone (C : Cx X g l cc mL own ret rm) {idx a n : Nat} {f : Nat → Int32} (hl : (Cond.methodLink own idx ⟨"[I", "clone", "()Ljava/lang/Object;"⟩) ∈ lw_tbl) (ha : IA g D a n f) (hR : 1 ≤ rm.frames ∧ (st.map fun v => v.category).sum + 14 ≤ rm.locals ∧ kc + 1 ≤ rm.cells ∧ ks + n ≤ rm.slots) (d : decode cc pc = .ok (.invokevirtual idx, 3)) (kk : ∀ (q : Nat) (D' : DM), D q = none → Ot D D' q → IA g D' q n f → UX X g (kc + 1) (ks + n) (pc + 3) lo (.ref q :: st) M D') : UX X g kc ks pc lo (.ref a :: st) M D := by
  intro H locs ls h1 h2 h3
  obtain ⟨Wl, p, dd, hD⟩ := h1
  obtain ⟨f', ha, he⟩ := ha
  obtain ⟨i0, -, hat⟩ := dd_at g M hD ha
  have hR' : xR X = rm := C.2.2.2.2.2.2.2.2.1
  have w1 : (Cond.sameMethod "[I" "java/lang/Object" "clone" "()Ljava/lang/Object;") ∈ lw_tbl := by decide +kernel
  have w2 : (Cond.native ⟨"java/lang/Object", "clone", "()Ljava/lang/Object;"⟩) ∈ lw_tbl := by decide +kernel
  have w3 : (Cond.instanceMethod ⟨"java/lang/Object", "clone", "()Ljava/lang/Object;"⟩) ∈ lw_tbl := by decide +kernel
  have w4 : (Cond.selects "[I" ⟨"[I", "clone", "()Ljava/lang/Object;"⟩ ⟨"java/lang/Object", "clone", "()Ljava/lang/Object;"⟩) ∈ lw_tbl := by decide +kernel
  have w5 : (Cond.castable "[I" "java/lang/Cloneable") ∈ lw_tbl := by decide +kernel
  refine va_clone C.1 C.2.1 h3.1.symm C.2.2.2.1 (C.wm hl rfl) (C.wm w1 rfl) (C.wm w2 rfl) (C.wm w3 rfl) (C.wm w4 rfl) (va_Nw.of rfl (C.wm w5 rfl)) C.2.2.2.2.1.2.1 p dd h2 C.2.2.2.2.2.1.1 _ 0 hat rfl (va_nm_int (C.2.2.2.2.1.2.1.2 0 _ rfl).2) (va_fit (fun i _ => rfl)) (by rw [hR']; exact hR.1) (by rw [hR']; exact hR.2.1) (by rw [hR']; exact hR.2.2.1) (by rw [hR']; exact hR.2.2.2) d (fun q H1 k1 k2 k3 k4 => ?_)
  obtain ⟨a1, a2⟩ := dd_push hD k2 k3
  exact kk q _ a1 (Ot.dset _ _ _) ⟨f', dset_eq _ _ _, he⟩ H1 locs ls a2 k4 h3
/-- what an object of the class ci is as it is made -/
def NW (own : String) (idx ci N : Nat) (vs : List Value) : Prop := ∃ (Cn : String) (T : u_T), CI ci Cn T N ∧ (Cond.classLink own idx Cn) ∈ lw_tbl ∧ (Cond.instantiable Cn N) ∈ lw_tbl ∧ (Cond.initialized Cn) ∈ lw_tbl ∧ ∃ ty : Nat → FieldType, (∀ k, k < N → parseFieldDescriptor (T k).2.2.1 = some (ty k)) ∧ ∀ j, j < N → defaultValue (ty j) = vp_V vs j
theorem u_new (C : Cx X g l cc mL own ret rm) {idx ci N : Nat} {vs : List Value} (hw : NW own idx ci N vs) (hR : kc + 1 ≤ rm.cells ∧ ks + N ≤ rm.slots) (d : decode cc pc = .ok (.new idx, 3)) (kk : ∀ (q : Nat) (D' : DM), D q = none → Ot D D' q → OB D' q ci vs → UX X g (kc + 1) (ks + N) (pc + 3) lo (.ref q :: st) M D') : UX X g kc ks pc lo st M D := by
  intro H locs ls h1 h2 h3
  obtain ⟨Wl, p, dd, hD⟩ := h1
  obtain ⟨Cn, T, hc, w1, w2, w3, ty, hty, hfs⟩ := hw
  have hR' : xR X = rm := C.2.2.2.2.2.2.2.2.1
  refine va_new (ci := ci) (fs := vs) C.1 C.2.1 (fun w hw => C.wm (hc.2.2.2.2 w hw).1 (hc.2.2.2.2 w hw).2) (fun _ h => h) ty hty C.2.2.2.1 (C.wm w1 rfl) (C.wm w2 rfl) (C.wm w3 rfl) C.2.2.2.2.1.2.1 p dd h2 C.2.2.2.2.2.1.1 hc.1 hfs (by rw [hR']; exact hR.1) (by rw [hR']; exact hR.2) d (fun q H1 p1 p2 p3 => ?_)
  obtain ⟨a1, a2⟩ := dd_push hD p1 p2
  exact kk q _ a1 (Ot.dset _ _ _) (dset_eq _ _ _) H1 locs ls a2 p3 h3
theorem u_objInit (C : Cx X g l cc mL own ret rm) {a i idx : Nat} (hl : lw_tbl[i]? = some (.methodLink own idx Lib.objectInit)) (hR : 1 ≤ rm.frames ∧ (st.map fun v => v.category).sum + 12 ≤ rm.locals) (d : decode cc pc = .ok (.invokespecial idx, 3)) (kk : UX X g kc ks (pc + 3) lo st M D) : UX X g kc ks pc lo (.ref a :: st) M D := by
  intro H locs ls h1 h2 h3
  have w1 : (Cond.instanceMethod Lib.objectInit) ∈ lw_tbl := by decide +kernel
  have w2 : (Cond.code Lib.objectInit ⟨#[0xb1]⟩ 1 none) ∈ lw_tbl := by decide +kernel
  have hR' : xR X = rm := C.2.2.2.2.2.2.2.2.1
  refine W.objInit C.1 C.2.1 C.2.2.2.1 (C.w hl rfl) (C.wm w1 rfl) (C.wm w2 rfl) rfl h3.1 rfl d (by rw [hR']; exact hR.1) ?_ (W.eq (g2 := F0 (xM X) (pc + 3) ls st) rfl (kk H locs ls h1 h2 h3))
  rw [hR']
  show 2 * 0 + _ + 12 ≤ _
  omega
theorem u_max (C : Cx X g l cc mL own ret rm) {idx i : Nat} {x y : Int32} (hl : lw_tbl[i]? = some (.methodLink own idx Lib.Math.max.name)) (hR : 1 ≤ rm.frames ∧ (st.map fun v => v.category).sum + 13 ≤ rm.locals ∧ kc ≤ rm.cells ∧ ks ≤ rm.slots) (d : decode cc pc = .ok (.invokestatic idx, 3)) (kk : UX X g kc ks (pc + 3) lo (.int (if x < y then y else x) :: st) M D) : UX X g kc ks pc lo (.int y :: .int x :: st) M D := by
  intro H locs ls h1 h2 h3
  have w1 : (Cond.static Lib.Math.max.name) ∈ lw_tbl := by decide +kernel
  have w2 : (Cond.initialized "java/lang/Math") ∈ lw_tbl := by decide +kernel
  have w3 : (Cond.code Lib.Math.max.name Lib.Math.max.code 2 (some .int)) ∈ lw_tbl := by decide +kernel
  have hR' : xR X = rm := C.2.2.2.2.2.2.2.2.1
  exact va_mmax C.1 C.2.1 h3.1.symm C.2.2.2.1 (C.w hl rfl) (C.wm w1 rfl) (C.wm w2 rfl) (C.wm w3 rfl) (by rw [hR']; exact hR.1) (by rw [hR']; exact hR.2.1) (by rw [hR']; exact hR.2.2.1) (by rw [hR']; exact hR.2.2.2) d (kk H locs ls h1 h2 h3)
end UOPS
