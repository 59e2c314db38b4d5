/-! .. cells told by their addresses: fields, arrays, new ones. -/
theorem dd_at (g : GT) (M : Mem) {D : DM} {Wl : va_W} {a : Nat} {e : va_E} (hD : ∀ (a : Nat) (e : va_E), D a = some e → (a, e) ∈ Wl) (h : D a = some e) : ∃ i : Nat, Wl[i]? = some (a, e) ∧ (wl g M ++ Wl)[(wl g M).length + i]? = some (a, e) := by
  obtain ⟨i, hi⟩ := List.getElem?_of_mem (hD a e h)
  refine ⟨i, hi, ?_⟩
  rw [List.getElem?_append_right (by omega), Nat.add_sub_cancel_left]
  exact hi
theorem dd_set {g : GT} {M : Mem} {D : DM} {Wl : va_W} {a i : Nat} {e e' : va_E} {H1 : Heap} (hD : ∀ (a : Nat) (e : va_E), D a = some e → (a, e) ∈ Wl) (hi : Wl[i]? = some (a, e)) (p : va_P (gD g) vwCl ((wl g M ++ Wl).set ((wl g M).length + i) (a, e')) H1) (d : va_D (gA g) ((wl g M ++ Wl).set ((wl g M).length + i) (a, e'))) : HD g M (dset D a e') H1 := by
  have hs : (wl g M ++ Wl).set ((wl g M).length + i) (a, e') = wl g M ++ Wl.set i (a, e') := by
    rw [List.set_append_right _ _ (by omega), Nat.add_sub_cancel_left]
  rw [hs] at p d
  refine ⟨Wl.set i (a, e'), p, d, fun q x hq => ?_⟩
  by_cases c : q = a
  · subst c
    rw [dset_eq] at hq
    cases hq
    exact List.mem_of_getElem? (i := i) (by rw [List.getElem?_set_self (List.getElem?_eq_some_iff.mp hi).1])
  · rw [dset_ne c] at hq
    obtain ⟨j, hj⟩ := List.getElem?_of_mem (hD q x hq)
    have hij : i ≠ j := fun z => by
      subst z
      rw [hi] at hj
      cases hj
      exact c rfl
    exact List.mem_of_getElem? (i := j) (by rw [List.getElem?_set_ne hij]; exact hj)
theorem dd_push {g : GT} {M : Mem} {D : DM} {Wl : va_W} {q : Nat} {e : va_E} {H1 : Heap} (hD : ∀ (a : Nat) (e : va_E), D a = some e → (a, e) ∈ Wl) (p : va_P (gD g) vwCl ((wl g M ++ Wl) ++ [(q, e)]) H1) (d : va_D (gA g) ((wl g M ++ Wl) ++ [(q, e)])) : D q = none ∧ HD g M (dset D q e) H1 := by
  have hlast : ((wl g M ++ Wl) ++ [(q, e)])[(wl g M ++ Wl).length]? = some (q, e) := by
    rw [List.getElem?_append_right (Nat.le_refl _), Nat.sub_self]
    rfl
  have hn : D q = none := by
    cases hq : D q with
    | none => rfl
    | some x =>
      obtain ⟨i, hi, hb⟩ := dd_at g M hD hq
      have hlt : i < Wl.length := (List.getElem?_eq_some_iff.mp hi).1
      have hlt2 : (wl g M).length + i < (wl g M ++ Wl).length := by rw [List.length_append]; omega
      have hb2 : ((wl g M ++ Wl) ++ [(q, e)])[(wl g M).length + i]? = some (q, x) := by
        rw [List.getElem?_append_left hlt2]
        exact hb
      have := d.1 _ _ _ _ hb2 hlast rfl
      omega
  refine ⟨hn, Wl ++ [(q, e)], by rw [← List.append_assoc]; exact p, by rw [← List.append_assoc]; exact d, fun a x ha => ?_⟩
  by_cases c : a = q
  · subst c
    rw [dset_eq] at ha
    cases ha
    exact List.mem_append.mpr (Or.inr (List.mem_singleton.mpr rfl))
  · rw [dset_ne c] at ha
    exact List.mem_append.mpr (Or.inl (hD a x ha))
/-- all cells but a are as they were -/
def Ot (D D' : DM) (a : Nat) : Prop := ∀ q, q ≠ a → D' q = D q
theorem Ot.dset (D : DM) (a : Nat) (e : va_E) : Ot D (dset D a e) a := fun _ h => dset_ne h
/-- an array of ints, of booleans, of arrays of ints -/
def IA (g : GT) (D : DM) (a n : Nat) (f : Nat → Int32) : Prop := ∃ f' : Nat → Int32, D a = some (.inl (gI g, n, .inl f')) ∧ ∀ j, j < n → f' j = f j
def ZA (g : GT) (D : DM) (a n : Nat) (f : Nat → Int32) : Prop := ∃ f' : Nat → Int32, D a = some (.inl (gZ g, n, .inl f')) ∧ ∀ j, j < n → f' j = f j
def RA (g : GT) (D : DM) (a n : Nat) (f : Nat → Option Nat) : Prop := ∃ f' : Nat → Option Nat, D a = some (.inl (gJ g, n, .inr (.inr (.inr (.inr f'))))) ∧ ∀ j, j < n → f' j = f j
def OB (D : DM) (a ci : Nat) (vs : List Value) : Prop := D a = some (.inr (ci, vs))
theorem IA.ot {g : GT} {D D' : DM} {a b n : Nat} {f : Nat → Int32} (h : IA g D a n f) (o : Ot D D' b) (hn : a ≠ b) : IA g D' a n f := by
  obtain ⟨f', h1, h2⟩ := h
  exact ⟨f', by rw [o a hn]; exact h1, h2⟩
theorem ZA.ot {g : GT} {D D' : DM} {a b n : Nat} {f : Nat → Int32} (h : ZA g D a n f) (o : Ot D D' b) (hn : a ≠ b) : ZA g D' a n f := by
  obtain ⟨f', h1, h2⟩ := h
  exact ⟨f', by rw [o a hn]; exact h1, h2⟩
theorem RA.ot {g : GT} {D D' : DM} {a b n : Nat} {f : Nat → Option Nat} (h : RA g D a n f) (o : Ot D D' b) (hn : a ≠ b) : RA g D' a n f := by
  obtain ⟨f', h1, h2⟩ := h
  exact ⟨f', by rw [o a hn]; exact h1, h2⟩
theorem OB.ot {D D' : DM} {a b ci : Nat} {vs : List Value} (h : OB D a ci vs) (o : Ot D D' b) (hn : a ≠ b) : OB D' a ci vs := (o a hn).trans h
theorem IA.ext {g : GT} {D : DM} {a n : Nat} {f h : Nat → Int32} (i : IA g D a n f) (e : ∀ j, j < n → f j = h j) : IA g D a n h := by
  obtain ⟨f', h1, h2⟩ := i
  exact ⟨f', h1, fun j hj => (h2 j hj).trans (e j hj)⟩
theorem ZA.ext {g : GT} {D : DM} {a n : Nat} {f h : Nat → Int32} (i : ZA g D a n f) (e : ∀ j, j < n → f j = h j) : ZA g D a n h := by
  obtain ⟨f', h1, h2⟩ := i
  exact ⟨f', h1, fun j hj => (h2 j hj).trans (e j hj)⟩
theorem RA.ext {g : GT} {D : DM} {a n : Nat} {f h : Nat → Option Nat} (i : RA g D a n f) (e : ∀ j, j < n → f j = h j) : RA g D a n h := by
  obtain ⟨f', h1, h2⟩ := i
  exact ⟨f', h1, fun j hj => (h2 j hj).trans (e j hj)⟩
theorem IA.some {g : GT} {D : DM} {a n : Nat} {f : Nat → Int32} (i : IA g D a n f) : D a ≠ none := by
  obtain ⟨f', h1, -⟩ := i
  rw [h1]
  exact fun h => by cases h
theorem ZA.some {g : GT} {D : DM} {a n : Nat} {f : Nat → Int32} (i : ZA g D a n f) : D a ≠ none := by
  obtain ⟨f', h1, -⟩ := i
  rw [h1]
  exact fun h => by cases h
theorem RA.some {g : GT} {D : DM} {a n : Nat} {f : Nat → Option Nat} (i : RA g D a n f) : D a ≠ none := by
  obtain ⟨f', h1, -⟩ := i
  rw [h1]
  exact fun h => by cases h
theorem OB.some {D : DM} {a ci : Nat} {vs : List Value} (i : OB D a ci vs) : D a ≠ none := by
  rw [show D a = _ from i]
  exact fun h => by cases h
/-- what is known of D is known of D' -/
def Le (D D' : DM) : Prop := ∀ (a : Nat) (e : va_E), D a = some e → D' a = some e
theorem Le.rf {D : DM} : Le D D := fun _ _ h => h
theorem Le.tr {D D' D'' : DM} (h : Le D D') (k : Le D' D'') : Le D D'' := fun a e x => k a e (h a e x)
theorem Le.ot {D D' : DM} {a : Nat} (o : Ot D D' a) (h : D a = none) : Le D D' := fun q e x => by
  rw [o q (fun z => by subst z; rw [h] at x; cases x)]
  exact x
theorem IA.le {g : GT} {D D' : DM} {a n : Nat} {f : Nat → Int32} (h : IA g D a n f) (o : Le D D') : IA g D' a n f := by
  obtain ⟨f', h1, h2⟩ := h
  exact ⟨f', o _ _ h1, h2⟩
theorem ZA.le {g : GT} {D D' : DM} {a n : Nat} {f : Nat → Int32} (h : ZA g D a n f) (o : Le D D') : ZA g D' a n f := by
  obtain ⟨f', h1, h2⟩ := h
  exact ⟨f', o _ _ h1, h2⟩
theorem RA.le {g : GT} {D D' : DM} {a n : Nat} {f : Nat → Option Nat} (h : RA g D a n f) (o : Le D D') : RA g D' a n f := by
  obtain ⟨f', h1, h2⟩ := h
  exact ⟨f', o _ _ h1, h2⟩
theorem OB.le {D D' : DM} {a ci : Nat} {vs : List Value} (h : OB D a ci vs) (o : Le D D') : OB D' a ci vs := o _ _ h
/-- a field that isn't final and holds a reference -/
def FLN (own : String) (idx ci j : Nat) : Prop := ∃ (Cn : String) (T : u_T) (N : Nat), CI ci Cn T N ∧ j < N ∧ (T j).1 = Cn ∧ ((∃ i : Nat, lw_tbl[i]? = some (.fieldLink own idx Cn (T j).2.1 (T j).2.2.1)) ∨ ∃ (i : Nat) (h : String), lw_tbl[i]? = some (.fieldLinkNest own idx Cn (T j).2.1 (T j).2.2.1 h)) ∧ (T j).2.2.2 = false ∧ ∃ ty, parseFieldDescriptor (T j).2.2.1 = some ty ∧ (∀ q, narrow ty (.ref q) = .ref q) ∧ ∀ q, fits ty (.ref q) = true
section UDATA
variable {X : XT} {g : GT} {l : Launch} {cc : ByteArray} {mL : Nat} {own : String} {ret : Option FieldType} {rm : Room} {kc ks pc : Nat} {lo lo' : List (Nat × Value)} {st : List Value} {M : Mem} {D : DM}
theorem u_getF (C : Cx X g l cc mL own ret rm) {idx ci j a : Nat} {v : Value} {vs : List Value} (hf : FL own idx ci j) (ha : OB D a ci vs) (hv : vs[j]? = some v) (d : decode cc pc = .ok (.getfield idx, 3)) (kk : UX X g kc ks (pc + 3) lo (v :: st) M D) : UX X g kc ks pc lo (.ref a :: st) M D := by
  intro H locs ls h1 h2 h3
  have h1' := h1
  obtain ⟨Wl, p, dd, hD⟩ := h1'
  obtain ⟨i0, -, hat⟩ := dd_at g M hD ha
  obtain ⟨Cn, T, N, hc, hj, hT, hl⟩ := hf
  have hK := C.2.2.2.2.1
  have hts : ∀ w ∈ u_ws Cn T N, w.before (xA X) (xS X) = true := fun w hw => C.wm (hc.2.2.2.2 w hw).1 (hc.2.2.2.2 w hw).2
  have hs : ∀ x, (xS X).fieldFound? (T j).1 (T j).2.1 (T j).2.2.1 = some x → (xS X).fieldFound? Cn (T j).2.1 (T j).2.2.1 = some x := fun x hx => by rw [hT] at hx; exact hx
  rcases hl with ⟨i, hl⟩ | ⟨i, h, hl⟩
  · exact va_get C.1 C.2.1 hts (fun _ h => h) C.2.2.2.1 hK.2.1 p _ hat hc.1 j hj (C.w hl rfl) hs hv d (kk H locs ls h1 h2 h3)
  · exact va_getN C.1 C.2.1 hts (fun _ h => h) C.2.2.2.1 hK.2.1 p _ hat hc.1 j hj (C.w hl rfl) hs hv d (kk H locs ls h1 h2 h3)
theorem u_putI (C : Cx X g l cc mL own ret rm) {idx ci j a : Nat} {v : Int32} {vs : List Value} (hf : FLI own idx ci j) (ha : OB D a ci vs) (hl : j < vs.length) (d : decode cc pc = .ok (.putfield idx, 3)) (kk : ∀ D', Ot D D' a → OB D' a ci (vs.set j (.int v)) → UX X g kc ks (pc + 3) lo st M D') : UX X g kc ks pc lo (.int v :: .ref a :: st) M D := by
  intro H locs ls h1 h2 h3
  obtain ⟨Wl, p, dd, hD⟩ := h1
  obtain ⟨i0, hi0, hat⟩ := dd_at g M hD ha
  obtain ⟨Cn, T, N, hc, hj, hT, hl1, hfin, hd⟩ := hf
  have hK := C.2.2.2.2.1
  have hts : ∀ w ∈ u_ws Cn T N, w.before (xA X) (xS X) = true := fun w hw => C.wm (hc.2.2.2.2 w hw).1 (hc.2.2.2.2 w hw).2
  have hs : ∀ x, (xS X).fieldFound? (T j).1 (T j).2.1 (T j).2.2.1 = some x → (xS X).fieldFound? Cn (T j).2.1 (T j).2.2.1 = some x := fun x hx => by rw [hT] at hx; exact hx
  obtain ⟨ty0, hty⟩ := hc.2.2.1
  rcases hl1 with ⟨i, hl1⟩ | ⟨i, h, hl1⟩
  · exact va_put C.1 C.2.1 hts (fun _ h => h) ty0 hty hc.2.2.2.1 C.2.2.2.1 hK.2.1 p dd h2 _ hat hc.1 j hj (C.w hl1 rfl) hs hfin hd rfl rfl hl d (fun H1 locs1 p1 p2 p3 => kk _ (Ot.dset _ _ _) (dset_eq _ _ _) H1 locs1 ls (dd_set hD hi0 p1 p2) p3 h3)
  · exact va_putN C.1 C.2.1 hts (fun _ h => h) ty0 hty hc.2.2.2.1 C.2.2.2.1 hK.2.1 p dd h2 _ hat hc.1 j hj (C.w hl1 rfl) hs hfin hd rfl rfl hl d (fun H1 locs1 p1 p2 p3 => kk _ (Ot.dset _ _ _) (dset_eq _ _ _) H1 locs1 ls (dd_set hD hi0 p1 p2) p3 h3)
theorem u_putR (C : Cx X g l cc mL own ret rm) {idx ci j a q : Nat} {vs : List Value} (hf : FLN own idx ci j) (ha : OB D a ci vs) (hl : j < vs.length) (d : decode cc pc = .ok (.putfield idx, 3)) (kk : ∀ D', Ot D D' a → OB D' a ci (vs.set j (.ref q)) → UX X g kc ks (pc + 3) lo st M D') : UX X g kc ks pc lo (.ref q :: .ref a :: st) M D := by
  intro H locs ls h1 h2 h3
  obtain ⟨Wl, p, dd, hD⟩ := h1
  obtain ⟨i0, hi0, hat⟩ := dd_at g M hD ha
  obtain ⟨Cn, T, N, hc, hj, hT, hl1, hfin, ty, hd, hnw, hft⟩ := hf
  have hK := C.2.2.2.2.1
  have hts : ∀ w ∈ u_ws Cn T N, w.before (xA X) (xS X) = true := fun w hw => C.wm (hc.2.2.2.2 w hw).1 (hc.2.2.2.2 w hw).2
  have hs : ∀ x, (xS X).fieldFound? (T j).1 (T j).2.1 (T j).2.2.1 = some x → (xS X).fieldFound? Cn (T j).2.1 (T j).2.2.1 = some x := fun x hx => by rw [hT] at hx; exact hx
  obtain ⟨ty0, hty⟩ := hc.2.2.1
  rcases hl1 with ⟨i, hl1⟩ | ⟨i, h, hl1⟩
  · exact va_put C.1 C.2.1 hts (fun _ h => h) ty0 hty hc.2.2.2.1 C.2.2.2.1 hK.2.1 p dd h2 _ hat hc.1 j hj (C.w hl1 rfl) hs hfin hd (hnw q) (hft q) hl d (fun H1 locs1 p1 p2 p3 => kk _ (Ot.dset _ _ _) (dset_eq _ _ _) H1 locs1 ls (dd_set hD hi0 p1 p2) p3 h3)
  · exact va_putN C.1 C.2.1 hts (fun _ h => h) ty0 hty hc.2.2.2.1 C.2.2.2.1 hK.2.1 p dd h2 _ hat hc.1 j hj (C.w hl1 rfl) hs hfin hd (hnw q) (hft q) hl d (fun H1 locs1 p1 p2 p3 => kk _ (Ot.dset _ _ _) (dset_eq _ _ _) H1 locs1 ls (dd_set hD hi0 p1 p2) p3 h3)
theorem u_iald (C : Cx X g l cc mL own ret rm) {a n j : Nat} {i : Int32} {f : Nat → Int32} (ha : IA g D a n f) (hi : i = nI j) (hj : j < n) (hn : n ≤ 1000) (d : decode cc pc = .ok (.iaload, 1)) (kk : UX X g kc ks (pc + 1) lo (.int (f j) :: st) M D) : UX X g kc ks pc lo (.int i :: .ref a :: st) M D := by
  intro H locs ls h1 h2 h3
  subst hi
  have h1' := h1
  obtain ⟨Wl, p, dd, hD⟩ := h1'
  obtain ⟨f', ha, he⟩ := ha
  obtain ⟨i0, -, hat⟩ := dd_at g M hD ha
  refine va_iald C.1 C.2.1 C.2.2.2.2.1.2.1 p _ 0 hat rfl (vp_in_nI hj (by omega)) d ?_
  rw [nI_clamp (by omega), he j hj]
  exact kk H locs ls h1 h2 h3
theorem u_zald (C : Cx X g l cc mL own ret rm) {a n j : Nat} {i : Int32} {f : Nat → Int32} (ha : ZA g D a n f) (hi : i = nI j) (hj : j < n) (hn : n ≤ 1000) (d : decode cc pc = .ok (.baload, 1)) (kk : UX X g kc ks (pc + 1) lo (.int (f j) :: st) M D) : UX X g kc ks pc lo (.int i :: .ref a :: st) M D := by
  intro H locs ls h1 h2 h3
  subst hi
  have h1' := h1
  obtain ⟨Wl, p, dd, hD⟩ := h1'
  obtain ⟨f', ha, he⟩ := ha
  obtain ⟨i0, -, hat⟩ := dd_at g M hD ha
  refine va_zald C.1 C.2.1 C.2.2.2.2.1.2.1 p _ 1 hat rfl (vp_in_nI hj (by omega)) d ?_
  rw [nI_clamp (by omega), he j hj]
  exact kk H locs ls h1 h2 h3
theorem u_iast (C : Cx X g l cc mL own ret rm) {a n j : Nat} {i v : Int32} {f : Nat → Int32} (ha : IA g D a n f) (hi : i = nI j) (hj : j < n) (hn : n ≤ 1000) (d : decode cc pc = .ok (.iastore, 1)) (kk : ∀ D', Ot D D' a → IA g D' a n (upd f j v) → UX X g kc ks (pc + 1) lo st M D') : UX X g kc ks pc lo (.int v :: .int i :: .ref a :: st) M D := by
  intro H locs ls h1 h2 h3
  subst hi
  obtain ⟨Wl, p, dd, hD⟩ := h1
  obtain ⟨f', ha, he⟩ := ha
  obtain ⟨i0, hi0, hat⟩ := dd_at g M hD ha
  refine va_iast C.1 C.2.1 C.2.2.2.2.1.2.1 p dd h2 _ 0 hat rfl (vp_in_nI hj (by omega)) d (fun H1 locs1 p1 p2 p3 => ?_)
  rw [nI_clamp (by omega)] at p1 p2
  exact kk _ (Ot.dset _ _ _) ⟨_, dset_eq _ _ _, fun q hq => by unfold upd; by_cases c : q = j <;> simp [c, he q hq]⟩ H1 locs1 ls (dd_set hD hi0 p1 p2) p3 h3
theorem u_zast (C : Cx X g l cc mL own ret rm) {a n j : Nat} {i v v' : Int32} {f : Nat → Int32} (ha : ZA g D a n f) (hi : i = nI j) (hj : j < n) (hn : n ≤ 1000) (hv : vp_nar .boolean v = v') (d : decode cc pc = .ok (.bastore, 1)) (kk : ∀ D', Ot D D' a → ZA g D' a n (upd f j v') → UX X g kc ks (pc + 1) lo st M D') : UX X g kc ks pc lo (.int v :: .int i :: .ref a :: st) M D := by
  intro H locs ls h1 h2 h3
  subst hi; subst hv
  obtain ⟨Wl, p, dd, hD⟩ := h1
  obtain ⟨f', ha, he⟩ := ha
  obtain ⟨i0, hi0, hat⟩ := dd_at g M hD ha
  refine va_zast C.1 C.2.1 C.2.2.2.2.1.2.1 p dd h2 _ 1 hat rfl (vp_in_nI hj (by omega)) d (fun H1 locs1 p1 p2 p3 => ?_)
  rw [nI_clamp (by omega)] at p1 p2
  exact kk _ (Ot.dset _ _ _) ⟨_, dset_eq _ _ _, fun q hq => by unfold upd; by_cases c : q = j <;> simp [c, he q hq]⟩ H1 locs1 ls (dd_set hD hi0 p1 p2) p3 h3
theorem u_ialen (C : Cx X g l cc mL own ret rm) {a n : Nat} {f : Nat → Int32} (ha : IA g D a n f) (d : decode cc pc = .ok (.arraylength, 1)) (kk : UX X g kc ks (pc + 1) lo (.int (nI n) :: st) M D) : UX X g kc ks pc lo (.ref a :: st) M D := by
  intro H locs ls h1 h2 h3
  have h1' := h1
  obtain ⟨Wl, p, dd, hD⟩ := h1'
  obtain ⟨f', ha, he⟩ := ha
  obtain ⟨i0, -, hat⟩ := dd_at g M hD ha
  exact va_alen C.1 C.2.1 C.2.2.2.2.1.2.1 p _ 0 hat rfl rfl d (kk H locs ls h1 h2 h3)
theorem u_ralen (C : Cx X g l cc mL own ret rm) {a n : Nat} {f : Nat → Option Nat} (ha : RA g D a n f) (d : decode cc pc = .ok (.arraylength, 1)) (kk : UX X g kc ks (pc + 1) lo (.int (nI n) :: st) M D) : UX X g kc ks pc lo (.ref a :: st) M D := by
  intro H locs ls h1 h2 h3
  have h1' := h1
  obtain ⟨Wl, p, dd, hD⟩ := h1'
  obtain ⟨f', ha, he⟩ := ha
  obtain ⟨i0, -, hat⟩ := dd_at g M hD ha
  exact va_alen C.1 C.2.1 C.2.2.2.2.1.2.1 p _ 2 hat rfl rfl d (kk H locs ls h1 h2 h3)
theorem u_aald (C : Cx X g l cc mL own ret rm) {a n j q : Nat} {i : Int32} {f : Nat → Option Nat} (ha : RA g D a n f) (hi : i = nI j) (hj : j < n) (hn : n ≤ 1000) (hq : f j = some q) (d : decode cc pc = .ok (.aaload, 1)) (kk : UX X g kc ks (pc + 1) lo (.ref q :: st) M D) : UX X g kc ks pc lo (.int i :: .ref a :: st) M D := by
  intro H locs ls h1 h2 h3
  subst hi
  have h1' := h1
  obtain ⟨Wl, p, dd, hD⟩ := h1'
  obtain ⟨f', ha, he⟩ := ha
  obtain ⟨i0, -, hat⟩ := dd_at g M hD ha
  have hc : H[a]? = some (vp_cell (gJ g) (n, .inr (.inr (.inr (.inr f'))))) := p _ _ hat
  rw [vp_cell_q] at hc
  refine W.aald (v := va_rf (f' (nI j).toNatClampNeg)) (ty := .array .int) C.1 C.2.1 hc ((C.2.2.2.2.1.2.1.2 2 _ rfl).1 n (fun j => va_rf (f' j))) rfl (fun q => by cases q) (by show ¬ (nI j < 0 ∨ (arrV _ _ _).slots.size ≤ _); rw [arrV_size]; exact vp_in_nI hj (by omega)) (by show (arrV _ _ _).slots[_]? = _; rw [arrV_read _ _ (by rw [nI_clamp (by omega)]; exact hj)]) rfl rfl d ?_
  rw [nI_clamp (by omega), he j hj, hq]
  exact kk H locs ls h1 h2 h3
theorem u_aast (C : Cx X g l cc mL own ret rm) {a n j q n' : Nat} {i : Int32} {f : Nat → Option Nat} {f2 : Nat → Int32} (ha : RA g D a n f) (hb : IA g D q n' f2) (hi : i = nI j) (hj : j < n) (hn : n ≤ 1000) (d : decode cc pc = .ok (.aastore, 1)) (kk : ∀ D', Ot D D' a → RA g D' a n (fun t => if t = j then some q else f t) → UX X g kc ks (pc + 1) lo st M D') : UX X g kc ks pc lo (.ref q :: .int i :: .ref a :: st) M D := by
  intro H locs ls h1 h2 h3
  subst hi
  obtain ⟨Wl, p, dd, hD⟩ := h1
  obtain ⟨f', ha, he⟩ := ha
  obtain ⟨f2', hb, -⟩ := hb
  obtain ⟨i0, hi0, hat⟩ := dd_at g M hD ha
  obtain ⟨i2, -, hbt⟩ := dd_at g M hD hb
  have hc : H[a]? = some (vp_cell (gJ g) (n, .inr (.inr (.inr (.inr f'))))) := p _ _ hat
  have hc2 : H[q]? = some (vp_cell (gI g) (n', .inl f2')) := p _ _ hbt
  rw [vp_cell_q] at hc
  obtain ⟨kA, k1, k2, k3, k4⟩ := C.2.2.2.2.1.2.2.2.1
  obtain ⟨-, kI, hkI, -, -⟩ := (C.2.2.2.2.1.2.1.2 0 _ rfl).1 0 (fun _ => .null)
  refine W.aast C.1 C.2.1 hc (fun q h => by cases h) (fun h => by cases h) k1 k2 rfl hkI ⟨nI_pos (by omega), by show _ < (arrV _ _ _).slots.size; rw [arrV_size, nI_clamp (by omega)]; exact hj⟩ hc2 (fun q h => by cases h) hkI (va_asg _ _) rfl rfl d fun H1 e z oq => ?_
  have p1 : va_P (gD g) vwCl ((wl g M ++ Wl).set ((wl g M).length + i0) (a, .inl (gJ g, n, .inr (.inr (.inr (.inr (va_up f' j (some q)))))))) H1 := by
    refine p.set dd hat ?_ oq
    show H1[a]? = some (vp_cell _ _)
    rw [e, vp_cell_q, arrV_store, nI_clamp (by omega)]
    congr 2
    funext t
    by_cases hq : t = j
    · subst hq
      simp [updV, va_up, va_rf]
    · simp [updV, va_up, hq]
  exact kk _ (Ot.dset _ _ _) ⟨_, dset_eq _ _ _, fun t ht => by by_cases c : t = j <;> simp [va_up, c, he t ht]⟩ H1 _ ls (dd_set hD hi0 p1 (dd.set hat)) (h2.put z oq (dd.2 _ _ hat)) h3
theorem u_newI (C : Cx X g l cc mL own ret rm) {N : Nat} {n : Int32} (hn : n = nI N) (hb : N ≤ 1000) (hR : kc + 1 ≤ rm.cells ∧ ks + N ≤ rm.slots) (d : decode cc pc = .ok (.newarray .int, 2)) (kk : ∀ (q : Nat) (D' : DM), D q = none → Ot D D' q → IA g D' q N (fun _ => 0) → UX X g (kc + 1) (ks + N) (pc + 2) lo (.ref q :: st) M D') : UX X g kc ks pc lo (.int n :: st) M D := by
  intro H locs ls h1 h2 h3
  subst hn
  obtain ⟨Wl, p, dd, hD⟩ := h1
  have w1 : (Cond.arrayClass .int) ∈ lw_tbl := by decide +kernel
  have hR' : xR X = rm := C.2.2.2.2.2.2.2.2.1
  refine va_newa (atype := .int) (ty := .int) (N' := N) (a0 := (N, .inl (fun _ => 0))) C.1 C.2.1 (C.wm w1 rfl) rfl C.2.2.2.2.1.2.1 p dd h2 C.2.2.2.2.2.1.1 (fun cA => rfl) (nI_pos (by omega)) (nI_clamp (by omega)) (by show N * 4 ≤ _; omega) (by rw [hR']; exact hR.1) (by rw [hR']; exact hR.2) d (fun q cA H1 k1 k2 k3 k4 => ?_)
  have e : cA = gI g := by
    have q1 : (xS X).vm.findClass ("[" ++ (FieldType.int).toString) = some cA := (k1.2 3 _ rfl).2
    have q2 : (xS X).vm.findClass ("[" ++ (FieldType.int).toString) = some (gI g) := (k1.2 0 _ rfl).2
    exact Option.some.inj (q1.symm.trans q2)
  subst e
  obtain ⟨a1, a2⟩ := dd_push hD k2 k3
  exact kk q _ a1 (Ot.dset _ _ _) ⟨_, dset_eq _ _ _, fun _ _ => rfl⟩ H1 locs ls a2 k4 h3
theorem u_newZ (C : Cx X g l cc mL own ret rm) {N : Nat} {n : Int32} (hn : n = nI N) (hb : N ≤ 1000) (hR : kc + 1 ≤ rm.cells ∧ ks + N ≤ rm.slots) (d : decode cc pc = .ok (.newarray .boolean, 2)) (kk : ∀ (q : Nat) (D' : DM), D q = none → Ot D D' q → ZA g D' q N (fun _ => 0) → UX X g (kc + 1) (ks + N) (pc + 2) lo (.ref q :: st) M D') : UX X g kc ks pc lo (.int n :: st) M D := by
  intro H locs ls h1 h2 h3
  subst hn
  obtain ⟨Wl, p, dd, hD⟩ := h1
  have w1 : (Cond.arrayClass .boolean) ∈ lw_tbl := by decide +kernel
  have hR' : xR X = rm := C.2.2.2.2.2.2.2.2.1
  refine va_newa (atype := .boolean) (ty := .boolean) (N' := N) (a0 := (N, .inl (fun _ => 0))) C.1 C.2.1 (C.wm w1 rfl) rfl C.2.2.2.2.1.2.1 p dd h2 C.2.2.2.2.2.1.1 (fun cA => rfl) (nI_pos (by omega)) (nI_clamp (by omega)) (by show N * 1 ≤ _; omega) (by rw [hR']; exact hR.1) (by rw [hR']; exact hR.2) d (fun q cA H1 k1 k2 k3 k4 => ?_)
  have e : cA = gZ g := by
    have q1 : (xS X).vm.findClass ("[" ++ (FieldType.boolean).toString) = some cA := (k1.2 3 _ rfl).2
    have q2 : (xS X).vm.findClass ("[" ++ (FieldType.boolean).toString) = some (gZ g) := (k1.2 1 _ rfl).2
    exact Option.some.inj (q1.symm.trans q2)
  subst e
  obtain ⟨a1, a2⟩ := dd_push hD k2 k3
  exact kk q _ a1 (Ot.dset _ _ _) ⟨_, dset_eq _ _ _, fun _ _ => rfl⟩ H1 locs ls a2 k4 h3
theorem u_newR (C : Cx X g l cc mL own ret rm) {N idx : Nat} {n : Int32} (hl : (Cond.classLink own idx "[I") ∈ lw_tbl) (hn : n = nI N) (hb : N ≤ 1000) (hR : kc + 1 ≤ rm.cells ∧ ks + N ≤ rm.slots) (d : decode cc pc = .ok (.anewarray idx, 3)) (kk : ∀ (q : Nat) (D' : DM), D q = none → Ot D D' q → RA g D' q N (fun _ => none) → UX X g (kc + 1) (ks + N) (pc + 3) lo (.ref q :: st) M D') : UX X g kc ks pc lo (.int n :: st) M D := by
  intro H locs ls h1 h2 h3
  subst hn
  obtain ⟨Wl, p, dd, hD⟩ := h1
  have w1 : (Cond.arrayOver (.array .int)) ∈ lw_tbl := by decide +kernel
  have hR' : xR X = rm := C.2.2.2.2.2.2.2.2.1
  have hc0 : (nI N).toNatClampNeg = N := nI_clamp (by omega)
  have w2 : (Cond.classLink own idx (FieldType.array .int).toString).before (xA X) (xS X) = true := by
    have e : (FieldType.array .int).toString = "[I" := by decide +kernel
    rw [e]
    exact C.wm hl rfl
  refine W.anewA (t := .int) C.1 C.2.1 C.2.2.2.1 w2 (C.wm w1 rfl) rfl d rfl (nI_pos (by omega)) (by rw [hc0]; omega) (by rw [hR']; exact hR.1) (by rw [hR', hc0]; exact hR.2) fun cA kA comp f1 f2 f3 f4 => ?_
  have e : cA = gJ g := by
    obtain ⟨kA, -, -, k3, -⟩ := C.2.2.2.2.1.2.2.2.1
    have e : "[" ++ (FieldType.array .int).toString = "[[I" := by decide +kernel
    rw [e] at f1
    exact Option.some.inj (f1.symm.trans k3)
  subst e
  rw [hc0]
  generalize hH1 : H.push ({ cls := gJ g, slots := Array.replicate N .null, vm := .none } : Cell) = H1
  have z1 : H1.size = H.size + 1 := by rw [← hH1, Array.size_push]
  have e1 : H1[H.size]? = some (arrV (gJ g) N (fun _ => .null)) := by rw [← hH1, Array.getElem?_push_size, ← arrV_new]
  have o1 : ∀ q : Nat, q < H.size → H1[q]? = H[q]? := fun q hq => by rw [← hH1, Array.getElem?_push, if_neg (Nat.ne_of_lt hq)]
  have hk : ∀ (k : Nat) (x : Nat × va_E), (wl g M ++ Wl)[k]? = some x → H1[x.1]? = H[x.1]? := fun k x hx => o1 x.1 ((p k x hx).lt)
  have k2 : va_P (gD g) vwCl ((wl g M ++ Wl) ++ [(H.size, .inl (gJ g, N, .inr (.inr (.inr (.inr (fun _ => none))))))]) H1 := by
    refine (p.kept hk).app (fun k x hx => ?_)
    have hz : k < 1 := (List.getElem?_eq_some_iff.mp hx).1
    rw [show k = 0 by omega] at hx
    cases hx
    show H1[H.size]? = some (vp_cell _ _)
    rw [vp_cell_q]
    exact e1
  have hA : ∀ q : Nat, (xS X).heap.size ≤ q → gA g q := C.2.2.2.2.2.1.1
  obtain ⟨a1, a2⟩ := dd_push hD k2 (dd.push p rfl (hA _ h2.1))
  exact kk H.size _ a1 (Ot.dset _ _ _) ⟨_, dset_eq _ _ _, fun _ _ => rfl⟩ H1 locs ls a2 ⟨Nat.le_trans h2.1 (by omega), fun x b1 b2 => (o1 x (Nat.lt_of_lt_of_le b1 h2.1)).trans (h2.2.1 x b1 b2), h2.2.2⟩ h3
end UDATA
