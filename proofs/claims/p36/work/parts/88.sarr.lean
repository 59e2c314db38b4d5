/-! The law's own arrays: apart from each other and from Sim's cells. -/
abbrev AE : Type := Nat × Nat × ((Nat → Int32) ⊕ (Nat → Int32))
def aeP (g : GT) (D : DM) (x : AE) : Prop := match x.2.2 with
  | .inl f => IA g D x.1 x.2.1 f
  | .inr f => ZA g D x.1 x.2.1 f
theorem aeP.le {g : GT} {D D' : DM} {x : AE} (h : aeP g D x) (o : Le D D') : aeP g D' x := by
  obtain ⟨a, n, c⟩ := x
  cases c with
  | inl f => exact IA.le h o
  | inr f => exact ZA.le h o
theorem aeP.ot {g : GT} {D D' : DM} {x : AE} {b : Nat} (h : aeP g D x) (o : Ot D D' b) (hn : x.1 ≠ b) : aeP g D' x := by
  obtain ⟨a, n, c⟩ := x
  cases c with
  | inl f => exact IA.ot h o hn
  | inr f => exact ZA.ot h o hn
theorem aeP.some {g : GT} {D : DM} {x : AE} (h : aeP g D x) : D x.1 ≠ none := by
  obtain ⟨a, n, c⟩ := x
  cases c with
  | inl f => exact IA.some h
  | inr f => exact ZA.some h
theorem aeP.fr {g : GT} {D D' : DM} {x : AE} {nW nS : Nat} {ad : Nat → Nat} (h : aeP g D x) (f : Fr ad nW nS D D') (hn : ∀ i, su nW nS i → ad i ≠ x.1) : aeP g D' x := by
  obtain ⟨a, n, c⟩ := x
  cases c with
  | inl f' =>
    obtain ⟨f1, h1, h2⟩ := h
    exact ⟨f1, f _ _ h1 (fun i hi _ e => hn i hi e.symm), h2⟩
  | inr f' =>
    obtain ⟨f1, h1, h2⟩ := h
    exact ⟨f1, f _ _ h1 (fun i hi _ e => hn i hi e.symm), h2⟩
def AR (g : GT) (D : DM) (nW nS : Nat) (ad : Nat → Nat) (L : List AE) : Prop := (∀ (i j : Nat) (x y : AE), L[i]? = some x → L[j]? = some y → x.1 = y.1 → i = j) ∧ (∀ x, x ∈ L → aeP g D x) ∧ ∀ x, x ∈ L → ∀ i, su nW nS i → ad i ≠ x.1
section ARS
variable {g : GT} {D D' : DM} {nW nS : Nat} {ad : Nat → Nat} {L : List AE}
theorem AR.nil : AR g D nW nS ad [] := ⟨fun i j x y h => by simp at h, fun x h => absurd h List.not_mem_nil, fun x h => absurd h List.not_mem_nil⟩
theorem AR.i (h : AR g D nW nS ad L) {k a n : Nat} {f : Nat → Int32} (e : L[k]? = some (a, n, .inl f)) : IA g D a n f := h.2.1 _ (List.mem_of_getElem? e)
theorem AR.z (h : AR g D nW nS ad L) {k a n : Nat} {f : Nat → Int32} (e : L[k]? = some (a, n, .inr f)) : ZA g D a n f := h.2.1 _ (List.mem_of_getElem? e)
theorem AR.le (h : AR g D nW nS ad L) (o : Le D D') : AR g D' nW nS ad L := ⟨h.1, fun x hx => (h.2.1 x hx).le o, h.2.2⟩
theorem AR.fr (h : AR g D nW nS ad L) (f : Fr ad nW nS D D') : AR g D' nW nS ad L := ⟨h.1, fun x hx => (h.2.1 x hx).fr f (h.2.2 x hx), h.2.2⟩
theorem AR.tl {x : AE} (h : AR g D nW nS ad (x :: L)) : AR g D nW nS ad L := ⟨fun i j y z a b c => by have := h.1 (i + 1) (j + 1) y z a b c; omega, fun y hy => h.2.1 y (List.mem_cons_of_mem _ hy), fun y hy => h.2.2 y (List.mem_cons_of_mem _ hy)⟩
theorem AR.st (h : AR g D nW nS ad L) {k a n : Nat} {c c' : (Nat → Int32) ⊕ (Nat → Int32)} (e : L[k]? = some (a, n, c)) (o : Ot D D' a) (r : aeP g D' (a, n, c')) : AR g D' nW nS ad (L.set k (a, n, c')) := by
  have hk : k < L.length := (List.getElem?_eq_some_iff.mp e).1
  have tr : ∀ (i : Nat) (x : AE), (L.set k (a, n, c'))[i]? = some x → (i = k ∧ x = (a, n, c')) ∨ (i ≠ k ∧ L[i]? = some x) := fun i x hx => by
    by_cases z : i = k
    · subst z
      rw [List.getElem?_set_self hk] at hx
      exact Or.inl ⟨rfl, (Option.some.inj hx).symm⟩
    · rw [List.getElem?_set_ne (Ne.symm z)] at hx
      exact Or.inr ⟨z, hx⟩
  have ad1 : ∀ (i : Nat) (x : AE), (L.set k (a, n, c'))[i]? = some x → ∃ y : AE, L[i]? = some y ∧ y.1 = x.1 := fun i x hx => by
    rcases tr i x hx with ⟨rfl, rfl⟩ | ⟨_, h2⟩
    · exact ⟨_, e, rfl⟩
    · exact ⟨_, h2, rfl⟩
  refine ⟨fun i j x y hx hy hxy => ?_, fun x hx => ?_, fun x hx i hi => ?_⟩
  · obtain ⟨x', a1, a2⟩ := ad1 i x hx
    obtain ⟨y', b1, b2⟩ := ad1 j y hy
    exact h.1 i j x' y' a1 b1 (by rw [a2, b2]; exact hxy)
  · obtain ⟨i, hi⟩ := List.mem_iff_getElem?.mp hx
    rcases tr i x hi with ⟨-, rfl⟩ | ⟨h1, h2⟩
    · exact r
    · refine (h.2.1 x (List.mem_of_getElem? h2)).ot o (fun z => h1 ?_)
      exact h.1 i k x _ h2 e z
  · obtain ⟨j, hj⟩ := List.mem_iff_getElem?.mp hx
    obtain ⟨y, b1, b2⟩ := ad1 j x hj
    rw [← b2]
    exact h.2.2 y (List.mem_of_getElem? b1) i hi
theorem AR.si (h : AR g D nW nS ad L) {k a n : Nat} {f f' : Nat → Int32} (e : L[k]? = some (a, n, .inl f)) (o : Ot D D' a) (r : IA g D' a n f') : AR g D' nW nS ad (L.set k (a, n, .inl f')) := h.st e o r
theorem AR.sz (h : AR g D nW nS ad L) {k a n : Nat} {f f' : Nat → Int32} (e : L[k]? = some (a, n, .inr f)) (o : Ot D D' a) (r : ZA g D' a n f') : AR g D' nW nS ad (L.set k (a, n, .inr f')) := h.st e o r
theorem AR.new (h : AR g D nW nS ad L) (hs : ∀ i, su nW nS i → D (ad i) ≠ none) {q : Nat} (z : D q = none) (o : Ot D D' q) {n : Nat} {c : (Nat → Int32) ⊕ (Nat → Int32)} (r : aeP g D' (q, n, c)) : AR g D' nW nS ad ((q, n, c) :: L) := by
  have hne : ∀ x, x ∈ L → x.1 ≠ q := fun x hx y => (h.2.1 x hx).some (by rw [y]; exact z)
  refine ⟨fun i j x y hx hy hxy => ?_, fun x hx => ?_, fun x hx i hi => ?_⟩
  · rcases i with _ | i <;> rcases j with _ | j
    · rfl
    · have hx : (q, n, c) = x := Option.some.inj hx
      have hy : L[j]? = some y := hy
      subst hx
      exact absurd hxy.symm (hne y (List.mem_of_getElem? hy))
    · have hy : (q, n, c) = y := Option.some.inj hy
      have hx : L[i]? = some x := hx
      subst hy
      exact absurd hxy (hne x (List.mem_of_getElem? hx))
    · rw [h.1 i j x y hx hy hxy]
  · rcases List.mem_cons.mp hx with rfl | hx
    · exact r
    · exact (h.2.1 x hx).ot o (hne x hx)
  · rcases List.mem_cons.mp hx with rfl | hx
    · exact fun e => hs i hi (by rw [e]; exact z)
    · exact h.2.2 x hx i hi
theorem AR.ni (h : AR g D nW nS ad L) (hs : ∀ i, su nW nS i → D (ad i) ≠ none) {q n : Nat} (z : D q = none) (o : Ot D D' q) {f : Nat → Int32} (r : IA g D' q n f) : AR g D' nW nS ad ((q, n, .inl f) :: L) := h.new hs z o r
theorem AR.nz (h : AR g D nW nS ad L) (hs : ∀ i, su nW nS i → D (ad i) ≠ none) {q n : Nat} (z : D q = none) (o : Ot D D' q) {f : Nat → Int32} (r : ZA g D' q n f) : AR g D' nW nS ad ((q, n, .inr f) :: L) := h.new hs z o r
/-- told by another function -/
theorem AR.xi (h : AR g D nW nS ad L) {k a n : Nat} {f f' : Nat → Int32} (e : L[k]? = some (a, n, .inl f)) (x : ∀ j, j < n → f j = f' j) : AR g D nW nS ad (L.set k (a, n, .inl f')) := h.st e (fun _ _ => rfl) ((h.i e).ext x)
theorem AR.xz (h : AR g D nW nS ad L) {k a n : Nat} {f f' : Nat → Int32} (e : L[k]? = some (a, n, .inr f)) (x : ∀ j, j < n → f j = f' j) : AR g D nW nS ad (L.set k (a, n, .inr f')) := h.st e (fun _ _ => rfl) ((h.z e).ext x)
/-- Sim is kept when one of them is written -/
theorem SM.ar {P : Mem} {c : Nat → Int32} {k a n : Nat} {x : (Nat → Int32) ⊕ (Nat → Int32)} (h : SM g D ad P c []) (A : AR g D (mWs P) (mSh P) ad L) (e : L[k]? = some (a, n, x)) (o : Ot D D' a) : SM g D' ad P c [] := h.ot o (fun i hi _ => A.2.2 _ (List.mem_of_getElem? e) i hi)
theorem SM.ts {P : Mem} {c : Nat → Int32} (h : SM g D ad P c []) : ∀ i, su (mWs P) (mSh P) i → D (ad i) ≠ none := fun i hi => h.told hi List.not_mem_nil
theorem AR.nn {nW' nS' : Nat} (h : AR g D nW nS ad L) (e1 : nW' = nW) (e2 : nS' = nS) : AR g D nW' nS' ad L := by
  subst e1; subst e2; exact h
end ARS
