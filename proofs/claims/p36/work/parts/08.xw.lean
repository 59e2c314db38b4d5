/-! The walk's own layer: memory as numbers (cell, slot), one predicate for all that stays, contracts with an answer and a new memory. -/
abbrev Mem : Type := Nat → Nat → Int32
abbrev GT : Type := (Nat → Prop) × va_G × (ClassId × ClassId × ClassId) × (Nat → Nat) × Nat
def gD (g : GT) : va_G := g.2.1
def gI (g : GT) : ClassId := g.2.2.1.1
def gZ (g : GT) : ClassId := g.2.2.1.2.1
def gJ (g : GT) : ClassId := g.2.2.1.2.2
def ga (g : GT) : Nat → Nat := g.2.2.2.1
def gn (g : GT) : Nat := g.2.2.2.2
def gA (g : GT) : Nat → Prop := g.1
def gty (g : GT) : List (ClassId × FieldType) := [(gI g, .int), (gZ g, .boolean), (gJ g, .array .int)]
/-- one slot of one cell anew -/
def wr (M : Mem) (k j : Nat) (v : Int32) : Mem := fun k' => if k' = k then upd (M k) j v else M k'
def wrc (M : Mem) (k : Nat) (c : Nat → Int32) : Mem := fun k' => if k' = k then c else M k'
/-- the cells' lengths; their kinds: 0 Canyon, 1 CanyonEchoes, 3 int[] -/
def xlen (k : Nat) : Nat := [0, 0, 32, 32, 32, 10, 10, 10, 10, 2, 2, 40, 40, 40, 40, 0, 32, 32, 32, 10, 10, 10, 10, 2, 2, 40, 40, 40, 40].getD k 0
def xk (k : Nat) : Nat := [1, 0, 3, 3, 3, 3, 3, 3, 3, 3, 3, 3, 3, 3, 3, 0, 3, 3, 3, 3, 3, 3, 3, 3, 3, 3, 3, 3, 3].getD k 9
def xrow (k : Nat) : List (Option Nat) := match k with
  | 0 => [some 1, some 15]
  | 1 => [none, none, none, none, none, none, some 2, some 3, some 4, some 5, some 6, some 7, some 8, some 9, some 10, some 11, some 12, some 13, some 14]
  | 15 => [none, none, none, none, none, none, some 16, some 17, some 18, some 19, some 20, some 21, some 22, some 23, some 24, some 25, some 26, some 27, some 28]
  | _ => []
def xfl (a : Nat → Nat) (c : Nat → Int32) : List (Option Nat) → Nat → List Value
  | [], _ => []
  | some t :: r, j => .ref (a t) :: xfl a c r (j + 1)
  | none :: r, j => .int (c j) :: xfl a c r (j + 1)
theorem xfl_len (a : Nat → Nat) (c : Nat → Int32) : ∀ (r : List (Option Nat)) (j : Nat), (xfl a c r j).length = r.length
  | [], _ => rfl
  | some _ :: r, j => congrArg (· + 1) (xfl_len a c r (j + 1))
  | none :: r, j => congrArg (· + 1) (xfl_len a c r (j + 1))
theorem xfl_ref (a : Nat → Nat) (c : Nat → Int32) : ∀ (r : List (Option Nat)) (j0 j t : Nat), r[j]? = some (some t) → (xfl a c r j0)[j]? = some (.ref (a t))
  | [], _, _, _, h => by simp at h
  | some t :: r, j0, 0, t', h => by simp at h; subst h; rfl
  | none :: r, j0, 0, t', h => by simp at h
  | some t :: r, j0, j + 1, t', h => by
    rw [List.getElem?_cons_succ] at h
    exact xfl_ref a c r (j0 + 1) j t' h
  | none :: r, j0, j + 1, t', h => by
    rw [List.getElem?_cons_succ] at h
    exact xfl_ref a c r (j0 + 1) j t' h
theorem xfl_int (a : Nat → Nat) (c : Nat → Int32) : ∀ (r : List (Option Nat)) (j0 j : Nat), r[j]? = some none → (xfl a c r j0)[j]? = some (.int (c (j0 + j)))
  | [], _, _, h => by simp at h
  | some t :: r, j0, 0, h => by simp at h
  | none :: r, j0, 0, h => rfl
  | some t :: r, j0, j + 1, h => by
    rw [List.getElem?_cons_succ] at h
    have := xfl_int a c r (j0 + 1) j h
    rw [show j0 + (j + 1) = j0 + 1 + j by omega]
    exact this
  | none :: r, j0, j + 1, h => by
    rw [List.getElem?_cons_succ] at h
    have := xfl_int a c r (j0 + 1) j h
    rw [show j0 + (j + 1) = j0 + 1 + j by omega]
    exact this
theorem xfl_new (a : Nat → Nat) (c c' : Nat → Int32) : ∀ (r : List (Option Nat)) (j0 : Nat), (∀ j, j0 ≤ j → c j = c' j) → xfl a c r j0 = xfl a c' r j0
  | [], _, _ => rfl
  | some t :: r, j0, h => congrArg (Value.ref (a t) :: ·) (xfl_new a c c' r (j0 + 1) (fun j hj => h j (by omega)))
  | none :: r, j0, h => by
    show Value.int (c j0) :: _ = Value.int (c' j0) :: _
    rw [h j0 (Nat.le_refl _), xfl_new a c c' r (j0 + 1) (fun j hj => h j (by omega))]
theorem xfl_set (a : Nat → Nat) (c : Nat → Int32) (v : Int32) : ∀ (r : List (Option Nat)) (j0 j : Nat), r[j]? = some none → (xfl a c r j0).set j (.int v) = xfl a (upd c (j0 + j) v) r j0
  | [], _, _, h => by simp at h
  | some t :: r, j0, 0, h => by simp at h
  | none :: r, j0, 0, h => by
    show Value.int v :: xfl a c r (j0 + 1) = Value.int (upd c (j0 + 0) v j0) :: xfl a (upd c (j0 + 0) v) r (j0 + 1)
    rw [xfl_new a c (upd c (j0 + 0) v) r (j0 + 1) (fun j hj => by rw [Nat.add_zero]; exact (by unfold upd; rw [if_neg (by omega)]))]
    simp [upd]
  | some t :: r, j0, j + 1, h => by
    rw [List.getElem?_cons_succ] at h
    have := xfl_set a c v r (j0 + 1) j h
    rw [show j0 + (j + 1) = j0 + 1 + j by omega]
    show Value.ref (a t) :: (xfl a c r (j0 + 1)).set j (.int v) = _
    rw [this]
    rfl
  | none :: r, j0, j + 1, h => by
    rw [List.getElem?_cons_succ] at h
    have := xfl_set a c v r (j0 + 1) j h
    rw [show j0 + (j + 1) = j0 + 1 + j by omega]
    show Value.int (c j0) :: (xfl a c r (j0 + 1)).set j (.int v) = Value.int (upd c (j0 + 1 + j) v j0) :: xfl a (upd c (j0 + 1 + j) v) r (j0 + 1)
    rw [this]
    simp [upd, show ¬ j0 = j0 + 1 + j by omega]
def xe (g : GT) (c : Nat → Int32) (k : Nat) : va_E :=
  if xk k = 3 then .inl (gI g, xlen k, .inl c) else .inr (xk k, xfl (ga g) c (xrow k) 0)
theorem xe_I (g : GT) (c : Nat → Int32) {k : Nat} (h : xk k = 3) : xe g c k = .inl (gI g, xlen k, .inl c) := by rw [xe, if_pos h]
theorem xe_O (g : GT) (c : Nat → Int32) {k ci : Nat} (h : xk k = ci) (hc : ci < 3) : xe g c k = .inr (ci, xfl (ga g) c (xrow k) 0) := by rw [xe, if_neg (by omega), h]
/-- the world: all cells below n -/
def wl (g : GT) (M : Mem) : va_W := (List.range (gn g)).map (fun k => (ga g k, xe g (M k) k))
theorem wl_at (g : GT) (M : Mem) {k : Nat} (h : k < gn g) : (wl g M)[k]? = some (ga g k, xe g (M k) k) := by
  simp [wl, h]
theorem wl_len (g : GT) (M : Mem) : (wl g M).length = gn g := by simp [wl]
theorem wl_set (g : GT) (M : Mem) {k : Nat} (c : Nat → Int32) {e : va_E} (he : e = xe g c k) : (wl g M).set k (ga g k, e) = wl g (wrc M k c) := by
  subst he
  apply List.ext_getElem?
  intro j
  by_cases hj : j < gn g
  · rw [wl_at g _ hj]
    by_cases hk : j = k
    · subst hk
      rw [List.getElem?_set_self (by rw [wl_len]; exact hj)]
      simp [wrc]
    · rw [List.getElem?_set_ne (Ne.symm hk), wl_at g _ hj]
      simp [wrc, hk]
  · rw [List.getElem?_eq_none (by rw [List.length_set, wl_len]; omega), List.getElem?_eq_none (by rw [wl_len]; omega)]
theorem wrc_upd (M : Mem) (k j : Nat) (v : Int32) : wrc M k (upd (M k) j v) = wr M k j v := rfl
def Hd (g : GT) (M : Mem) (H : Heap) : Prop := va_P (gD g) vwCl (wl g M) H
theorem aoA_moved {A A' : Array Value} {u U : State} (hvm : u.vm.Alike U.vm) (h : (Cond.arrayOver (.array .int)).before A u = true) : (Cond.arrayOver (.array .int)).before A' U = true := by
  obtain ⟨comp, c, k, h1, h2, h3, h4, h5⟩ := arrayOverA_spec h
  obtain ⟨k', hk', he⟩ := hvm.2.2 _ _ h3
  have hi : (U.vm.classes.findIdx? fun (x : Class) => match x.kind with | .array component _ => component == comp | _ => false) = some c := by
    rw [hvm.findIdx?_eq _ (fun _ => rfl)]
    exact h2
  have hkind : k'.kind = .array comp (.array .int) := by rw [he]; exact h4
  have f1 : U.vm.findClass (FieldType.array .int).toString = some comp := by rw [hvm.findClass]; exact h1
  have f2 : U.vm.findClass ("[" ++ (FieldType.array .int).toString) = some c := by rw [hvm.findClass]; exact h5
  unfold Cond.before Cond.holds
  simp only [Cond.value]
  rw [f1, Option.bind_some]
  refine (congrArg (fun o : Option Nat => (o.bind (fun c => (U.vm.classes[c]?).map fun (k : Class) => match k.kind with | .array _ ty => decide (ty = FieldType.array .int) && decide (U.vm.findClass ("[" ++ (FieldType.array .int).toString) = some c) | _ => false) == some true)) hi).trans ?_
  simp [hk', hkind, f2]
/-- words that stay true while the tables are warmed -/
def xw (w : Cond) : Bool := decide (w = Cond.arrayOver (.array .int)) || goodWord w || match w with
  | .fieldLinkNest .. => true
  | .methodLinkNest .. => true
  | .castable .. => true
  | .declares .. => true
  | _ => false
theorem xw_at {args a' : Array Value} {s U : State} {w : Cond} (hW : s.WarmedH U.vm) (hg : xw w = true) (h : w.before args s = true) : w.before a' U = true := by
  by_cases hao : w = Cond.arrayOver (.array .int)
  · subst hao
    exact aoA_moved hW.alike h
  by_cases hgw : goodWord w = true
  · exact word_at hW (good_of_word hgw) h
  · have hv : (s.setVm U.vm).vm = U.vm := rfl
    cases w <;> first
      | exact va_tabs rfl hv (Cond.fieldLinkNest_warmed (args := args) hW h)
      | exact va_tabs rfl hv (Cond.methodLinkNest_warmed (args := args) hW h)
      | exact va_tabs (A := args) rfl hv (by rw [Cond.castable_setVm hW.alike]; exact h)
      | exact va_tabs (A := args) rfl hv (by rw [Cond.declares_setVm hW.alike]; exact h)
      | (exfalso; simp [xw, hgw] at hg; exact hao (by rw [hg])) | (exfalso; simp [xw] at hg; rcases hg with hg | hg; exact hao (by rw [hg]); exact hgw hg) | (exfalso; simp [xw] at hg; exact hgw hg)
/-- the strings that the class throws; the pairs that a handler passes by -/
def strL : List (String × Nat × String) := [(RX1, 257, "loud is not 1 to 99"), (RX1, 251, "no such echo"), (RX1, 259, "beats is not 1 to 100"), (RX1, 253, "no such wall"), (RX1, 255, "no such shout"), (RX1, 248, "no such stone"), (RX1, 28, "soaks is not 0 to 5"), (RX1, 43, "there are 10 walls, or one stands there"), (RX1, 60, "snow is not 0 to 5"), (RX1, 74, "there were 40 shouts, or 8 are not gone"), (RX1, 79, "a shout is on this stone")]
def eB : String := "java/lang/IndexOutOfBoundsException"
def eA : String := "java/lang/IllegalArgumentException"
def eS : String := "java/lang/IllegalStateException"
def ncL : List (String × String) := []
/-- the class int[][]: its name, its component -/
def RK (cR cI : ClassId) (U : State) : Prop := ∃ kA : Class, U.vm.classes[cR]? = some kA ∧ kA.kind = .array cI (.array .int) ∧ U.vm.findClass "[[I" = some cR ∧ U.vm.findClass "[I" = some cI
theorem RK.moved {cR cI : ClassId} {u U : State} (hvm : u.vm.Alike U.vm) (h : RK cR cI u) : RK cR cI U := by
  obtain ⟨kA, h1, h2, h3, h4⟩ := h
  obtain ⟨k', hk', he⟩ := hvm.2.2 _ _ h1
  exact ⟨k', hk', by rw [he]; exact h2, by rw [hvm.findClass]; exact h3, by rw [hvm.findClass]; exact h4⟩
/-- what stays of the tables, and of the addresses -/
def GK (g : GT) (U : State) : Prop :=
  (∀ w ∈ lw_tbl, xw w = true → w.before #[] U = true) ∧ va_K (gD g) vwCl (gty g) U ∧ (∀ q ∈ strL, ∃ sa, vk_R q.1 q.2.1 q.2.2 sa U) ∧ RK (gJ g) (gI g) U ∧
  (∀ j k, j < gn g → k < gn g → ga g j = ga g k → j = k) ∧ (∀ k, k < gn g → gA g (ga g k)) ∧ 29 ≤ gn g ∧ gn g ≤ 29
def GH (g : GT) (U : State) (H : Heap) : Prop := (∀ q : Nat, H.size ≤ q → gA g q) ∧ vx_Zq Bundle.tN "UNASSIGNED_STACK" Bundle.steD (gA g) U H ∧ vx_Zq Bundle.tN "SUPPRESSED_SENTINEL" Bundle.listD (gA g) U H
theorem GK.warm {g : GT} {s U : State} (hW : s.WarmedH U.vm) (h : GK g s) : GK g U := by
  obtain ⟨h1, h2, h3, h4, h5⟩ := h
  refine ⟨fun w hw hx => xw_at hW hx (h1 w hw hx), va_K.moved hW.alike h2, fun q hq => ?_, RK.moved hW.alike h4, h5⟩
  obtain ⟨sa, hsa⟩ := h3 q hq
  exact ⟨sa, vk_R.warm hW hsa⟩
theorem GK.blind {g : GT} {U : State} (f : JFrame) (mk : MethodId) (a : Array Value) (h : GK g U) : GK g (U.calling f mk a) := GK.warm (State.WarmedH.refl U) h
theorem GH.moved {g : GT} {u U : State} {H : Heap} (hvm : u.vm.Alike U.vm) (h : GH g u H) : GH g U H := ⟨h.1, vx_Zq.moved hvm h.2.1, vx_Zq.moved hvm h.2.2⟩
theorem GH.kept {g : GT} {U : State} {H H1 : Heap} (h : GH g U H) (hz : H.size ≤ H1.size) (hq : ∀ a : Nat, a < H.size → ¬ gA g a → H1[a]? = H[a]?) : GH g U H1 := ⟨fun q hq => h.1 q (Nat.le_trans hz hq), vx_Zq.kept h.2.1 hq, vx_Zq.kept h.2.2 hq⟩
theorem GK.wdD {g : GT} {U : State} (h : GK g U) (M : Mem) : va_D (gA g) (wl g M) := by
  obtain ⟨-, -, -, -, h5, h6, -⟩ := h
  have at' : ∀ (i : Nat) (p : Nat × va_E), (wl g M)[i]? = some p → i < gn g ∧ p.1 = ga g i := by
    intro i p hp
    have hi : i < gn g := by rw [← wl_len g M]; exact (List.getElem?_eq_some_iff.mp hp).1
    rw [wl_at g M hi] at hp
    cases hp
    exact ⟨hi, rfl⟩
  refine ⟨fun i j p q hi hj hpq => ?_, fun k q hk => ?_⟩
  · obtain ⟨a1, a2⟩ := at' i p hi
    obtain ⟨b1, b2⟩ := at' j q hj
    exact h5 i j a1 b1 (by rw [← a2, ← b2]; exact hpq)
  · obtain ⟨a1, a2⟩ := at' k q hk
    rw [a2]
    exact h6 k a1
