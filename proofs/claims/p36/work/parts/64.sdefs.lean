/-! The law's own canyon (Sim) as cells of D: it holds the state P (cells 29 .. 34 of the model's memory). Logical cells: 0 the object, 1 snow, 2 walls, 3 shouts, 4 coins, 5 silent, 10 + w a wall's row, 20 + k a shout's row; ad tells their addresses. -/
def su (nW nS i : Nat) : Prop := i < 6 ∨ (10 ≤ i ∧ i < 10 + nW) ∨ (20 ≤ i ∧ i < 20 + nS)
def rW (P : Mem) (w j : Nat) : Int32 := if j = 0 then P 32 w else if j = 1 then P 34 (7 + w) else if j = 2 then P 33 w else P 34 (17 + w)
/-- a shout's row: place and way only while it isn't gone -/
def RS (P : Mem) (k : Nat) (f : Nat → Int32) : Prop := f 0 = P 34 (27 + k) ∧ f 3 = P 34 (147 + k) ∧ (0 < P 34 (27 + k) → f 1 = P 34 (67 + k) ∧ f 2 = P 34 (107 + k))
def sc (g : GT) (D : DM) (ad : Nat → Nat) (P : Mem) (c : Nat → Int32) (i : Nat) : Prop :=
  (i = 0 → OB D (ad 0) 2 [.ref (ad 1), .ref (ad 2), .ref (ad 3), .ref (ad 4), .ref (ad 5), .int (P 34 0), .int (P 34 1), .int (P 34 2)]) ∧
  (i = 1 → IA g D (ad 1) 32 (P 30)) ∧ (i = 2 → RA g D (ad 2) (mWs P) (fun w => some (ad (10 + w)))) ∧ (i = 3 → RA g D (ad 3) (mSh P) (fun k => some (ad (20 + k)))) ∧
  (i = 4 → IA g D (ad 4) 2 c) ∧ (i = 5 → IA g D (ad 5) 2 (fun e => P 34 (5 + e))) ∧
  (∀ w, i = 10 + w → w < mWs P → IA g D (ad i) 4 (rW P w)) ∧ (∀ k, i = 20 + k → k < mSh P → ∃ f, IA g D (ad i) 4 f ∧ RS P k f)
def SM (g : GT) (D : DM) (ad : Nat → Nat) (P : Mem) (c : Nat → Int32) (mk : List Nat) : Prop :=
  (mWs P ≤ 10 ∧ mSh P ≤ 40) ∧ (∀ i j, su (mWs P) (mSh P) i → su (mWs P) (mSh P) j → ad i = ad j → i = j) ∧ ∀ i, i ∉ mk → sc g D ad P c i
abbrev SP (g : GT) (D : DM) (ad : Nat → Nat) (P : Mem) : Prop := SM g D ad P (fun e => P 34 (3 + e)) []
section SMS
variable {g : GT} {D D' : DM} {ad : Nat → Nat} {P P' : Mem} {c c' : Nat → Int32} {mk mk' : List Nat}
theorem SM.ob (h : SM g D ad P c mk) (m : 0 ∉ mk) : OB D (ad 0) 2 [.ref (ad 1), .ref (ad 2), .ref (ad 3), .ref (ad 4), .ref (ad 5), .int (P 34 0), .int (P 34 1), .int (P 34 2)] := (h.2.2 0 m).1 rfl
theorem SM.snow (h : SM g D ad P c mk) (m : 1 ∉ mk) : IA g D (ad 1) 32 (P 30) := (h.2.2 1 m).2.1 rfl
theorem SM.walls (h : SM g D ad P c mk) (m : 2 ∉ mk) : RA g D (ad 2) (mWs P) (fun w => some (ad (10 + w))) := (h.2.2 2 m).2.2.1 rfl
theorem SM.shouts (h : SM g D ad P c mk) (m : 3 ∉ mk) : RA g D (ad 3) (mSh P) (fun k => some (ad (20 + k))) := (h.2.2 3 m).2.2.2.1 rfl
theorem SM.coins (h : SM g D ad P c mk) (m : 4 ∉ mk) : IA g D (ad 4) 2 c := (h.2.2 4 m).2.2.2.2.1 rfl
theorem SM.silent (h : SM g D ad P c mk) (m : 5 ∉ mk) : IA g D (ad 5) 2 (fun e => P 34 (5 + e)) := (h.2.2 5 m).2.2.2.2.2.1 rfl
theorem SM.wrow (h : SM g D ad P c mk) {w : Nat} (hw : w < mWs P) (m : 10 + w ∉ mk) : IA g D (ad (10 + w)) 4 (rW P w) := (h.2.2 _ m).2.2.2.2.2.2.1 w rfl hw
theorem SM.srow (h : SM g D ad P c mk) {k : Nat} (hk : k < mSh P) (m : 20 + k ∉ mk) : ∃ f, IA g D (ad (20 + k)) 4 f ∧ RS P k f := (h.2.2 _ m).2.2.2.2.2.2.2 k rfl hk
theorem SM.n (h : SM g D ad P c mk) : mWs P ≤ 10 ∧ mSh P ≤ 40 := h.1
theorem su_w {nW nS w : Nat} (h : w < nW) : su nW nS (10 + w) := Or.inr (Or.inl ⟨by omega, by omega⟩)
theorem su_s {nW nS k : Nat} (h : k < nS) : su nW nS (20 + k) := Or.inr (Or.inr ⟨by omega, by omega⟩)
theorem su_c {nW nS i : Nat} (h : i < 6) : su nW nS i := Or.inl h
/-- a cell that is told stands somewhere -/
theorem SM.told (h : SM g D ad P c mk) {i : Nat} (hi : su (mWs P) (mSh P) i) (m : i ∉ mk) : D (ad i) ≠ none := by
  have k := h.2.2 i m
  rcases hi with hi | ⟨h1, h2⟩ | ⟨h1, h2⟩
  · rcases (show i = 0 ∨ i = 1 ∨ i = 2 ∨ i = 3 ∨ i = 4 ∨ i = 5 by omega) with e | e | e | e | e | e
    · have z := (k.1 e).some; rw [e]; exact z
    · have z := (k.2.1 e).some; rw [e]; exact z
    · have z := (k.2.2.1 e).some; rw [e]; exact z
    · have z := (k.2.2.2.1 e).some; rw [e]; exact z
    · have z := (k.2.2.2.2.1 e).some; rw [e]; exact z
    · have z := (k.2.2.2.2.2.1 e).some; rw [e]; exact z
  · exact (k.2.2.2.2.2.2.1 (i - 10) (by omega) (by omega)).some
  · obtain ⟨f, z, -⟩ := k.2.2.2.2.2.2.2 (i - 20) (by omega) (by omega)
    exact z.some
/-- where all told cells stay, the canyon stays -/
theorem SM.kept (h : SM g D ad P c mk) (e : ∀ i, su (mWs P) (mSh P) i → i ∉ mk → ∀ x, D (ad i) = some x → D' (ad i) = some x) : SM g D' ad P c mk := by
  refine ⟨h.1, h.2.1, fun i hi => ?_⟩
  have k := h.2.2 i hi
  have ia : ∀ {q n : Nat} {f : Nat → Int32}, su (mWs P) (mSh P) i → q = i → IA g D (ad q) n f → IA g D' (ad q) n f := fun hs hq z => by
    subst hq
    obtain ⟨f', a1, a2⟩ := z
    exact ⟨f', e _ hs hi _ a1, a2⟩
  have ra : ∀ {q n : Nat} {f : Nat → Option Nat}, su (mWs P) (mSh P) i → q = i → RA g D (ad q) n f → RA g D' (ad q) n f := fun hs hq z => by
    subst hq
    obtain ⟨f', a1, a2⟩ := z
    exact ⟨f', e _ hs hi _ a1, a2⟩
  refine ⟨fun z => ?_, fun z => ia (su_c (by omega)) z.symm (k.2.1 z), fun z => ra (su_c (by omega)) z.symm (k.2.2.1 z), fun z => ra (su_c (by omega)) z.symm (k.2.2.2.1 z), fun z => ia (su_c (by omega)) z.symm (k.2.2.2.2.1 z), fun z => ia (su_c (by omega)) z.symm (k.2.2.2.2.2.1 z), fun w z hw => ia (by rw [z]; exact su_w hw) rfl (k.2.2.2.2.2.2.1 w z hw), fun q z hq => ?_⟩
  · subst z
    exact e _ (su_c (by omega)) hi _ (k.1 rfl)
  · obtain ⟨f, a1, a2⟩ := k.2.2.2.2.2.2.2 q z hq
    exact ⟨f, ia (by rw [z]; exact su_s hq) rfl a1, a2⟩
theorem SM.ot (h : SM g D ad P c mk) {a : Nat} (o : Ot D D' a) (hn : ∀ i, su (mWs P) (mSh P) i → i ∉ mk → ad i ≠ a) : SM g D' ad P c mk :=
  h.kept (fun i hi hm x hx => by rw [o _ (hn i hi hm)]; exact hx)
/-- a write to a cell that isn't told -/
theorem SM.otm (h : SM g D ad P c mk) {j : Nat} (o : Ot D D' (ad j)) (hj : su (mWs P) (mSh P) j) (m : j ∈ mk) : SM g D' ad P c mk :=
  h.ot o (fun i hi hm e => by have := h.2.1 i j hi hj e; subst this; exact hm m)
theorem SM.le (h : SM g D ad P c mk) (o : Le D D') : SM g D' ad P c mk := h.kept (fun _ _ _ x hx => o _ _ hx)
/-- the addresses differ -/
theorem SM.ne (h : SM g D ad P c mk) {i j : Nat} (hi : su (mWs P) (mSh P) i) (hj : su (mWs P) (mSh P) j) (n : i ≠ j) : ad i ≠ ad j := fun e => n (h.2.1 i j hi hj e)
theorem SM.mask (h : SM g D ad P c mk) (s : ∀ i, i ∈ mk → i ∈ mk') : SM g D ad P c mk' := ⟨h.1, h.2.1, fun i hi => h.2.2 i (fun z => hi (s i z))⟩
/-- another state that says the same of the told cells -/
theorem SM.cong (h : SM g D ad P c mk) (en : P' 29 1 = P 29 1 ∧ P' 29 2 = P 29 2) (e0 : 0 ∉ mk → ∀ j, j < 3 → P' 34 j = P 34 j) (e1 : 1 ∉ mk → ∀ s, s < 32 → P' 30 s = P 30 s) (e4 : 4 ∉ mk → ∀ e, e < 2 → c' e = c e) (e5 : 5 ∉ mk → ∀ e, e < 2 → P' 34 (5 + e) = P 34 (5 + e))
    (ew : ∀ w, w < mWs P → 10 + w ∉ mk → ∀ j, j < 4 → rW P' w j = rW P w j) (es : ∀ k, k < mSh P → 20 + k ∉ mk → P' 34 (27 + k) = P 34 (27 + k) ∧ P' 34 (67 + k) = P 34 (67 + k) ∧ P' 34 (107 + k) = P 34 (107 + k) ∧ P' 34 (147 + k) = P 34 (147 + k)) : SM g D ad P' c' mk := by
  have w1 : mWs P' = mWs P := by show tn (P' 29 1) = tn (P 29 1); rw [en.1]
  have w2 : mSh P' = mSh P := by show tn (P' 29 2) = tn (P 29 2); rw [en.2]
  refine ⟨by rw [w1, w2]; exact h.1, by rw [w1, w2]; exact h.2.1, fun i hi => ?_⟩
  have k := h.2.2 i hi
  refine ⟨fun z => ?_, fun z => ?_, fun z => ?_, fun z => ?_, fun z => ?_, fun z => ?_, fun w z hw => ?_, fun q z hq => ?_⟩
  · subst z
    rw [e0 hi 0 (by omega), e0 hi 1 (by omega), e0 hi 2 (by omega)]
    exact k.1 rfl
  · subst z
    exact (k.2.1 rfl).ext (fun s hs => (e1 hi s hs).symm)
  · rw [w1]; exact k.2.2.1 z
  · rw [w2]; exact k.2.2.2.1 z
  · subst z
    exact (k.2.2.2.2.1 rfl).ext (fun s hs => (e4 hi s hs).symm)
  · subst z
    exact (k.2.2.2.2.2.1 rfl).ext (fun s hs => (e5 hi s hs).symm)
  · subst z
    rw [w1] at hw
    exact (k.2.2.2.2.2.2.1 w rfl hw).ext (fun j hj => (ew w hw hi j hj).symm)
  · subst z
    rw [w2] at hq
    obtain ⟨f, a1, a2⟩ := k.2.2.2.2.2.2.2 q rfl hq
    obtain ⟨b1, b2, b3, b4⟩ := es q hq hi
    refine ⟨f, a1, ?_⟩
    unfold RS
    rw [b1, b2, b3, b4]
    exact a2
/-- a cell told again: one shout's row -/
theorem SM.putS (h : SM g D ad P c mk) {k : Nat} {f : Nat → Int32} (r : IA g D (ad (20 + k)) 4 f) (hf : RS P k f) (hm : ∀ i, i ∈ mk → i = 20 + k) (hk : k < mSh P) : SM g D ad P c [] := by
  refine ⟨h.1, h.2.1, fun i _ => ?_⟩
  by_cases e : i = 20 + k
  · have hw := h.1
    refine ⟨fun z => by omega, fun z => by omega, fun z => by omega, fun z => by omega, fun z => by omega, fun z => by omega, fun w z hw => by omega, fun q z hq => ?_⟩
    obtain rfl : q = k := by omega
    subst e
    exact ⟨f, r, hf⟩
  · exact h.2.2 i (fun z => e (hm i z))
theorem SM.putW (h : SM g D ad P c mk) {w : Nat} (r : IA g D (ad (10 + w)) 4 (rW P w)) (hm : ∀ i, i ∈ mk → i = 10 + w ∨ i ∈ mk') (hw : w < mWs P) : SM g D ad P c mk' := by
  refine ⟨h.1, h.2.1, fun i hi => ?_⟩
  by_cases e : i = 10 + w
  · have hw10 := h.1
    refine ⟨fun z => by omega, fun z => by omega, fun z => by omega, fun z => by omega, fun z => by omega, fun z => by omega, fun q z hq => ?_, fun q z hq => by omega⟩
    obtain rfl : q = w := by omega
    subst e
    exact r
  · exact h.2.2 i (fun z => (hm i z).elim e hi)
theorem SM.put0 (h : SM g D ad P c mk) (r : OB D (ad 0) 2 [.ref (ad 1), .ref (ad 2), .ref (ad 3), .ref (ad 4), .ref (ad 5), .int (P 34 0), .int (P 34 1), .int (P 34 2)]) (hm : ∀ i, i ∈ mk → i = 0 ∨ i ∈ mk') : SM g D ad P c mk' := by
  refine ⟨h.1, h.2.1, fun i hi => ?_⟩
  by_cases e : i = 0
  · refine ⟨fun z => r, fun z => by omega, fun z => by omega, fun z => by omega, fun z => by omega, fun z => by omega, fun q z hq => by omega, fun q z hq => by omega⟩
  · exact h.2.2 i (fun z => (hm i z).elim e hi)
theorem SM.put4 (h : SM g D ad P c mk) (r : IA g D (ad 4) 2 c) (hm : ∀ i, i ∈ mk → i = 4 ∨ i ∈ mk') : SM g D ad P c mk' := by
  refine ⟨h.1, h.2.1, fun i hi => ?_⟩
  by_cases e : i = 4
  · refine ⟨fun z => by omega, fun z => by omega, fun z => by omega, fun z => by omega, fun z => r, fun z => by omega, fun q z hq => by omega, fun q z hq => by omega⟩
  · exact h.2.2 i (fun z => (hm i z).elim e hi)
theorem SM.put5 (h : SM g D ad P c mk) (r : IA g D (ad 5) 2 (fun e => P 34 (5 + e))) (hm : ∀ i, i ∈ mk → i = 5 ∨ i ∈ mk') : SM g D ad P c mk' := by
  refine ⟨h.1, h.2.1, fun i hi => ?_⟩
  by_cases e : i = 5
  · refine ⟨fun z => by omega, fun z => by omega, fun z => by omega, fun z => by omega, fun z => by omega, fun z => r, fun q z hq => by omega, fun q z hq => by omega⟩
  · exact h.2.2 i (fun z => (hm i z).elim e hi)
end SMS
theorem nm0 {i : Nat} : i ∉ ([] : List Nat) := List.not_mem_nil
theorem nm1 {i j : Nat} (h : i ≠ j) : i ∉ [j] := fun z => h (List.mem_singleton.mp z)
/-- what a method of a canyon at ad may change: its own cells but the snow -/
def Fr (ad : Nat → Nat) (nW nS : Nat) (D D' : DM) : Prop := ∀ (a : Nat) (e : va_E), D a = some e → (∀ i, su nW nS i → i ≠ 1 → a ≠ ad i) → D' a = some e
theorem Fr.rf {ad : Nat → Nat} {nW nS : Nat} {D : DM} : Fr ad nW nS D D := fun _ _ h _ => h
theorem Fr.tr {ad : Nat → Nat} {nW nS : Nat} {D D' D'' : DM} (h : Fr ad nW nS D D') (k : Fr ad nW nS D' D'') : Fr ad nW nS D D'' := fun a e x z => k a e (h a e x z) z
theorem Fr.le {ad : Nat → Nat} {nW nS : Nat} {D D' : DM} (h : Le D D') : Fr ad nW nS D D' := fun a e x _ => h a e x
theorem Fr.ot {ad : Nat → Nat} {nW nS j : Nat} {D D' : DM} (o : Ot D D' (ad j)) (hj : su nW nS j) (h1 : j ≠ 1) : Fr ad nW nS D D' := fun a e x z => by
  rw [o a (z j hj h1)]
  exact x
