/-! Rules: fields, arrays, calls, ends. -/
theorem xlen_le (k : Nat) : xlen k ≤ 40 := by
  by_cases h : k < 29
  · have : ∀ k, k < 29 → xlen k ≤ 40 := by decide +kernel
    exact this k h
  · have : xlen k = 0 := by
      unfold xlen
      rw [List.getD_eq_getElem?_getD, List.getElem?_eq_none (by simp; omega)]
      rfl
    omega
def CI (ci : Nat) (Cn : String) (T : u_T) (N : Nat) : Prop := vwCl[ci]? = some (Cn, T, N) ∧ ci < 3 ∧ (∃ ty0 : Nat → FieldType, ∀ k, k < N → parseFieldDescriptor (T k).2.2.1 = some (ty0 k)) ∧ (∀ a, a < N → ∀ b, b < N → a ≠ b → (T a).2.1 ≠ (T b).2.1) ∧ ∀ w ∈ u_ws Cn T N, w ∈ lw_tbl ∧ xw w = true
theorem ci0 : CI 0 RX0 TX0 19 := ⟨rfl, by decide, ⟨tyX0, tyX0_ok⟩, nmX0, fun w h => ⟨inX0 w h, (by decide +kernel : ∀ w ∈ wsX00, xw w = true) w h⟩⟩
theorem ci1 : CI 1 RX1 TX1 2 := ⟨rfl, by decide, ⟨tyX1, tyX1_ok⟩, nmX1, fun w h => ⟨inX1 w h, (by decide +kernel : ∀ w ∈ wsX10, xw w = true) w h⟩⟩
theorem ci2 : CI 2 RX2 TX2 8 := ⟨rfl, by decide, ⟨tyX2, tyX2_ok⟩, nmX2, fun w h => ⟨inX2 w h, (by decide +kernel : ∀ w ∈ wsX20, xw w = true) w h⟩⟩
/-- a field's entry in the pool of the class own: which class, which slot -/
def FL (own : String) (idx ci j : Nat) : Prop := ∃ (Cn : String) (T : u_T) (N : Nat), CI ci Cn T N ∧ j < N ∧ (T j).1 = Cn ∧ ((∃ i : Nat, lw_tbl[i]? = some (.fieldLink own idx Cn (T j).2.1 (T j).2.2.1)) ∨ ∃ (i : Nat) (h : String), lw_tbl[i]? = some (.fieldLinkNest own idx Cn (T j).2.1 (T j).2.2.1 h))
/-- .. of an int that isn't final -/
def FLI (own : String) (idx ci j : Nat) : Prop := ∃ (Cn : String) (T : u_T) (N : Nat), CI ci Cn T N ∧ j < N ∧ (T j).1 = Cn ∧ ((∃ i : Nat, lw_tbl[i]? = some (.fieldLink own idx Cn (T j).2.1 (T j).2.2.1)) ∨ ∃ (i : Nat) (h : String), lw_tbl[i]? = some (.fieldLinkNest own idx Cn (T j).2.1 (T j).2.2.1 h)) ∧ (T j).2.2.2 = false ∧ parseFieldDescriptor (T j).2.2.1 = some .int
theorem FLI.fl {own : String} {idx ci j : Nat} (h : FLI own idx ci j) : FL own idx ci j := by
  obtain ⟨Cn, T, N, h1, h2, h3, h4, -⟩ := h
  exact ⟨Cn, T, N, h1, h2, h3, h4⟩
section RULES2
variable {X : XT} {g : GT} {l : Launch} {cc : ByteArray} {mL : Nat} {own : String} {ret : Option FieldType} {rm : Room} {kc ks pc : Nat} {lo lo' : List (Nat × Value)} {st : List Value} {M : Mem}
theorem Cx.w (C : Cx X g l cc mL own ret rm) {w : Cond} {i : Nat} (h : lw_tbl[i]? = some w) (hx : xw w = true) : w.before (xA X) (xS X) = true := xw_at (State.WarmedH.refl _) hx (C.2.2.2.2.1.1 w (List.mem_of_getElem? h) hx)
theorem Cx.wm (C : Cx X g l cc mL own ret rm) {w : Cond} (h : w ∈ lw_tbl) (hx : xw w = true) : w.before (xA X) (xS X) = true := xw_at (State.WarmedH.refl _) hx (C.2.2.2.2.1.1 w h hx)
theorem Cx.lt (C : Cx X g l cc mL own ret rm) {k : Nat} (h : k < 29) : k < gn g := Nat.lt_of_lt_of_le h C.2.2.2.2.1.2.2.2.2.2.2.1
theorem Cx.D (C : Cx X g l cc mL own ret rm) (M : Mem) : va_D (gA g) (wl g M) := C.2.2.2.2.1.wdD M
theorem x_getF (C : Cx X g l cc mL own ret rm) {idx ci j k : Nat} {v : Value} (hf : FL own idx ci j) (hk : xk k = ci) (hn : k < 29) (hv : (xfl (ga g) (M k) (xrow k) 0)[j]? = some v) (d : decode cc pc = .ok (.getfield idx, 3)) (kk : V X g kc ks (pc + 3) lo (v :: st) M) : V X g kc ks pc lo (.ref (ga g k) :: st) M := by
  intro H locs ls h1 h2 h3
  obtain ⟨Cn, T, N, hc, hj, hT, hl⟩ := hf
  have hK := C.2.2.2.2.1
  have hts : ∀ w ∈ u_ws Cn T N, w.before (xA X) (xS X) = true := fun w hw => C.wm (hc.2.2.2.2 w hw).1 (hc.2.2.2.2 w hw).2
  have hat := wl_at g M (C.lt hn)
  rw [xe_O g (M k) hk hc.2.1] at hat
  have hs : ∀ x, (xS X).fieldFound? (T j).1 (T j).2.1 (T j).2.2.1 = some x → (xS X).fieldFound? Cn (T j).2.1 (T j).2.2.1 = some x := fun x hx => by rw [hT] at hx; exact hx
  rcases hl with ⟨i, hl⟩ | ⟨i, h, hl⟩
  · exact va_get C.1 C.2.1 hts (fun _ h => h) C.2.2.2.1 hK.2.1 h1 k hat hc.1 j hj (C.w hl rfl) hs hv d (kk H locs ls h1 h2 h3)
  · exact va_getN C.1 C.2.1 hts (fun _ h => h) C.2.2.2.1 hK.2.1 h1 k hat hc.1 j hj (C.w hl rfl) hs hv d (kk H locs ls h1 h2 h3)
theorem x_getR (C : Cx X g l cc mL own ret rm) {idx ci j k t : Nat} (hf : FL own idx ci j) (hk : xk k = ci) (hn : k < 29) (hr : (xrow k)[j]? = some (some t)) (d : decode cc pc = .ok (.getfield idx, 3)) (kk : V X g kc ks (pc + 3) lo (.ref (ga g t) :: st) M) : V X g kc ks pc lo (.ref (ga g k) :: st) M :=
  x_getF C hf hk hn (xfl_ref _ _ _ 0 j t hr) d kk
theorem x_getI (C : Cx X g l cc mL own ret rm) {idx ci j k : Nat} (hf : FLI own idx ci j) (hk : xk k = ci) (hn : k < 29) (hr : (xrow k)[j]? = some none) (d : decode cc pc = .ok (.getfield idx, 3)) (kk : V X g kc ks (pc + 3) lo (.int (M k j) :: st) M) : V X g kc ks pc lo (.ref (ga g k) :: st) M :=
  x_getF C hf.fl hk hn (by rw [xfl_int _ _ _ 0 j hr, Nat.zero_add]) d kk
theorem x_putI (C : Cx X g l cc mL own ret rm) {idx ci j k : Nat} {v : Int32} (hf : FLI own idx ci j) (hk : xk k = ci) (hn : k < 29) (hr : (xrow k)[j]? = some none) (d : decode cc pc = .ok (.putfield idx, 3)) (kk : V X g kc ks (pc + 3) lo st (wr M k j v)) : V X g kc ks pc lo (.int v :: .ref (ga g k) :: st) M := by
  intro H locs ls h1 h2 h3
  obtain ⟨Cn, T, N, hc, hj, hT, hl, hfin, hd⟩ := hf
  have hK := C.2.2.2.2.1
  have hts : ∀ w ∈ u_ws Cn T N, w.before (xA X) (xS X) = true := fun w hw => C.wm (hc.2.2.2.2 w hw).1 (hc.2.2.2.2 w hw).2
  have hat := wl_at g M (C.lt hn)
  rw [xe_O g (M k) hk hc.2.1] at hat
  have hs : ∀ x, (xS X).fieldFound? (T j).1 (T j).2.1 (T j).2.2.1 = some x → (xS X).fieldFound? Cn (T j).2.1 (T j).2.2.1 = some x := fun x hx => by rw [hT] at hx; exact hx
  have hset : (wl g M).set k (ga g k, .inr (ci, (xfl (ga g) (M k) (xrow k) 0).set j (.int v))) = wl g (wr M k j v) := by
    rw [xfl_set _ _ v _ 0 j hr, Nat.zero_add, wl_set g M (upd (M k) j v) (xe_O g _ hk hc.2.1).symm]
    rfl
  have hlen : j < (xfl (ga g) (M k) (xrow k) 0).length := by rw [xfl_len]; exact (List.getElem?_eq_some_iff.mp hr).1
  obtain ⟨ty0, hty⟩ := hc.2.2.1
  rcases hl with ⟨i, hl⟩ | ⟨i, h, hl⟩
  · exact va_put C.1 C.2.1 hts (fun _ h => h) ty0 hty hc.2.2.2.1 C.2.2.2.1 hK.2.1 h1 (C.D M) h2 k hat hc.1 j hj (C.w hl rfl) hs hfin hd rfl rfl hlen d (fun H1 locs1 p1 _ p3 => kk H1 locs1 ls (by rw [hset] at p1; exact p1) p3 h3)
  · exact va_putN C.1 C.2.1 hts (fun _ h => h) ty0 hty hc.2.2.2.1 C.2.2.2.1 hK.2.1 h1 (C.D M) h2 k hat hc.1 j hj (C.w hl rfl) hs hfin hd rfl rfl hlen d (fun H1 locs1 p1 _ p3 => kk H1 locs1 ls (by rw [hset] at p1; exact p1) p3 h3)
theorem x_ialdG (C : Cx X g l cc mL own ret rm) {k n j : Nat} {i : Int32} (hk : xk k = 3) (hn : k < gn g) (hl : xlen k = n) (hi : i = nI j) (hj : j < n) (d : decode cc pc = .ok (.iaload, 1)) (kk : V X g kc ks (pc + 1) lo (.int (M k j) :: st) M) : V X g kc ks pc lo (.int i :: .ref (ga g k) :: st) M := by
  intro H locs ls h1 h2 h3
  subst hi; subst hl
  have hK := C.2.2.2.2.1
  have hle := xlen_le k
  have hat := wl_at g M hn
  rw [xe_I g (M k) hk] at hat
  refine va_iald C.1 C.2.1 hK.2.1 h1 k 0 hat rfl (vp_in_nI hj (by omega)) d ?_
  rw [nI_clamp (by omega)]
  exact kk H locs ls h1 h2 h3
theorem x_iald (C : Cx X g l cc mL own ret rm) {k n j : Nat} {i : Int32} (hk : xk k = 3) (hn : k < 29) (hl : xlen k = n) (hi : i = nI j) (hj : j < n) (d : decode cc pc = .ok (.iaload, 1)) (kk : V X g kc ks (pc + 1) lo (.int (M k j) :: st) M) : V X g kc ks pc lo (.int i :: .ref (ga g k) :: st) M := x_ialdG C hk (C.lt hn) hl hi hj d kk
theorem x_iastG (C : Cx X g l cc mL own ret rm) {k n j : Nat} {i v : Int32} (hk : xk k = 3) (hn : k < gn g) (hl : xlen k = n) (hi : i = nI j) (hj : j < n) (d : decode cc pc = .ok (.iastore, 1)) (kk : V X g kc ks (pc + 1) lo st (wr M k j v)) : V X g kc ks pc lo (.int v :: .int i :: .ref (ga g k) :: st) M := by
  intro H locs ls h1 h2 h3
  subst hi; subst hl
  have hK := C.2.2.2.2.1
  have hle := xlen_le k
  have hat := wl_at g M hn
  rw [xe_I g (M k) hk] at hat
  refine va_iast C.1 C.2.1 hK.2.1 h1 (C.D M) h2 k 0 hat rfl (vp_in_nI hj (by omega)) d (fun H1 locs1 p1 _ p3 => ?_)
  rw [nI_clamp (by omega), wl_set g M (upd (M k) j v) (xe_I g _ hk).symm] at p1
  exact kk H1 locs1 ls p1 p3 h3
theorem x_iast (C : Cx X g l cc mL own ret rm) {k n j : Nat} {i v : Int32} (hk : xk k = 3) (hn : k < 29) (hl : xlen k = n) (hi : i = nI j) (hj : j < n) (d : decode cc pc = .ok (.iastore, 1)) (kk : V X g kc ks (pc + 1) lo st (wr M k j v)) : V X g kc ks pc lo (.int v :: .int i :: .ref (ga g k) :: st) M := x_iastG C hk (C.lt hn) hl hi hj d kk
theorem x_alen (C : Cx X g l cc mL own ret rm) {k n : Nat} (hk : xk k = 3) (hn : k < gn g) (hl : xlen k = n) (d : decode cc pc = .ok (.arraylength, 1)) (kk : V X g kc ks (pc + 1) lo (.int (nI n) :: st) M) : V X g kc ks pc lo (.ref (ga g k) :: st) M := by
  intro H locs ls h1 h2 h3
  subst hl
  have hK := C.2.2.2.2.1
  have hat := wl_at g M hn
  rw [xe_I g (M k) hk] at hat
  exact va_alen C.1 C.2.1 hK.2.1 h1 k 0 hat rfl rfl d (kk H locs ls h1 h2 h3)
/-- a row's first n places out of another -/
def cpn (f h : Nat → Int32) (n : Nat) : Nat → Int32 := fun j => if j < n then f j else h j
theorem x_acopy (C : Cx X g l cc mL own ret rm) {idx a b i : Nat} {n : Int32} {N : Nat} (hl : lw_tbl[i]? = some (.methodLink own idx arraycopyName)) (hk1 : xk a = 3) (hk2 : xk b = 3) (hn1 : a < 29) (hn2 : b < 29) (hN : xlen a = N) (hN2 : xlen b = N) (hi : n = nI N) (hR : 1 ≤ rm.frames ∧ (st.map fun v => v.category).sum + (nativeFrameWords "java/lang/System" "arraycopy" 5 + 11) ≤ rm.locals) (d : decode cc pc = .ok (.invokestatic idx, 3)) (kk : V X g kc ks (pc + 3) lo st (wrc M b (cpn (M a) (M b) N))) : V X g kc ks pc lo (.int n :: .int 0 :: .ref (ga g b) :: .int 0 :: .ref (ga g a) :: st) M := by
  intro H locs ls h1 h2 h3
  subst hi
  have hK := C.2.2.2.2.1
  have hle := xlen_le a
  have hat := wl_at g M (C.lt hn1)
  rw [xe_I g (M a) hk1, hN] at hat
  have hbt := wl_at g M (C.lt hn2)
  rw [xe_I g (M b) hk2, hN2] at hbt
  have hc : (nI N).toNatClampNeg = N := nI_clamp (by omega)
  have hn0 : ¬ nI N < 0 := nI_pos (by omega)
  have w1 : (Cond.native arraycopyName) ∈ lw_tbl := by decide +kernel
  have w2 : (Cond.static arraycopyName) ∈ lw_tbl := by decide +kernel
  have w3 : (Cond.initialized "java/lang/System") ∈ lw_tbl := by decide +kernel
  have hR' := C.2.2.2.2.2.2.2.2.1
  refine va_copyi C.1 C.2.1 h3.1.symm C.2.2.2.1 (C.w hl rfl) (C.wm w1 rfl) (C.wm w2 rfl) (C.wm w3 rfl) hK.2.1 h1 (C.D M) h2 a b 0 0 (ty := .int) hat hbt rfl rfl rfl (sp := 0) (dp := 0) (n := nI N) (by decide) (by decide) hn0 ?_ ?_ (fun i _ => rfl) (by rw [hR']; exact hR.1) (by rw [hR']; exact hR.2) d (fun H1 locs1 p1 _ p3 => ?_)
  · rw [hc]; exact Nat.le_of_eq (Nat.zero_add N)
  · rw [hc]; exact Nat.le_of_eq (Nat.zero_add N)
  have e : (Sum.inl (gI g, N, Sum.inl (va_cpy (M a) (M b) (0 : Int32).toNatClampNeg (0 : Int32).toNatClampNeg (nI N).toNatClampNeg)) : va_E) = xe g (cpn (M a) (M b) N) b := by
    rw [xe_I g _ hk2, hc, hN2]
    congr 4
    funext q
    unfold va_cpy cpn
    show (if 0 ≤ q ∧ q < 0 + N then M a (0 + (q - 0)) else M b q) = _
    by_cases hq : q < N
    · rw [if_pos ⟨Nat.zero_le q, by omega⟩, if_pos hq, Nat.zero_add, Nat.sub_zero]
    · rw [if_neg (fun z => hq (by omega)), if_neg hq]
  rw [wl_set g M _ e] at p1
  exact kk H1 locs1 ls p1 p3 h3
theorem x_max (C : Cx X g l cc mL own ret rm) {idx i : Nat} {x y : Int32} (hl : lw_tbl[i]? = some (.methodLink own idx Lib.Math.max.name)) (hR : 1 ≤ rm.frames ∧ (st.map fun v => v.category).sum + 13 ≤ rm.locals ∧ kc ≤ rm.cells ∧ ks ≤ rm.slots) (d : decode cc pc = .ok (.invokestatic idx, 3)) (kk : V X g kc ks (pc + 3) lo (.int (if x < y then y else x) :: st) M) : V X g kc ks pc lo (.int y :: .int x :: st) M := by
  intro H locs ls h1 h2 h3
  have w1 : (Cond.static Lib.Math.max.name) ∈ lw_tbl := by decide +kernel
  have w2 : (Cond.initialized "java/lang/Math") ∈ lw_tbl := by decide +kernel
  have w3 : (Cond.code Lib.Math.max.name Lib.Math.max.code 2 (some .int)) ∈ lw_tbl := by decide +kernel
  have hR' := C.2.2.2.2.2.2.2.2.1
  exact va_mmax C.1 C.2.1 h3.1.symm C.2.2.2.1 (C.w hl rfl) (C.wm w1 rfl) (C.wm w2 rfl) (C.wm w3 rfl) (by rw [hR']; exact hR.1) (by rw [hR']; exact hR.2.1) (by rw [hR']; exact hR.2.2.1) (by rw [hR']; exact hR.2.2.2) d (kk H locs ls h1 h2 h3)
end RULES2
