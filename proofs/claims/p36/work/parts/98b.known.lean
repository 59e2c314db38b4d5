/-! What the law's entry gives: classes, arrays, strings, pairs. -/
theorem ky_start {s : State} {args : Array Value} (hts : ∀ w ∈ lw_tbl, w.before args s = true) : ∃ t : YT, Ky t s ∧ RK t.2.2.2 t.2.1 s := by
  obtain ⟨c0, i0, k0⟩ := u_known (C := RX0) (T := TX0) (N := 19) (n := 19) (ws := lw_tbl) hts inX0 (hts (.instantiable RX0 19) (by decide +kernel))
  obtain ⟨c1, i1, k1⟩ := u_known (C := RX1) (T := TX1) (N := 2) (n := 2) (ws := lw_tbl) hts inX1 (hts (.instantiable RX1 2) (by decide +kernel))
  obtain ⟨c2, i2, k2⟩ := u_known (C := RX2) (T := TX2) (N := 8) (n := 8) (ws := lw_tbl) hts inX2 (hts (.instantiable RX2 8) (by decide +kernel))
  obtain ⟨dC, dI, hKc⟩ : ∃ (dC : Nat → ClassId) (dI : Nat → Nat → Nat), ∀ (k : Nat) (q : vw_C), vwCl[k]? = some q → u_Kn s q.1 q.2.1 q.2.2 (dC k) (dI k) := by
    refine ⟨fun k => match k with | 0 => c0 | 1 => c1 | _ => c2, fun k => match k with | 0 => i0 | 1 => i1 | _ => i2, ?_⟩
    intro k q hq
    match k, hq with
    | 0, hq => cases hq; exact k0
    | 1, hq => cases hq; exact k1
    | 2, hq => cases hq; exact k2
    | k + 3, hq => simp [vwCl] at hq
  obtain ⟨aI, kI, pI, f1, f2, f3⟩ := Cond.arrayClass_spec (hts (.arrayClass .int) (by decide +kernel))
  obtain ⟨aZ, kZ, pZ, g1, g2, g3⟩ := Cond.arrayClass_spec (hts (.arrayClass .boolean) (by decide +kernel))
  obtain ⟨pJ, aJ, kJ, g7, -, h2, h3, h1⟩ := arrayOverA_spec (hts (.arrayOver (.array .int)) (by decide +kernel))
  have epI : pJ = aI := by
    have e1 : s.vm.findClass "[I" = some pJ := g7
    have e2 : s.vm.findClass "[I" = some aI := f1
    rw [e1] at e2
    exact Option.some.inj e2
  refine ⟨((dC, dI), aI, aZ, aJ), ⟨fun w hw hx => xw_at (State.WarmedH.refl _) hx (hts w hw), hKc, fun k q hk => ?_⟩, ⟨kJ, h2, by rw [← epI]; exact h3, h1, by rw [← epI]; exact g7⟩⟩
  match k, hk with
  | 0, hk => cases hk; exact ⟨fun n z => ⟨fun k h => (by cases h), kI, f2, pI, f3⟩, f1⟩
  | 1, hk => cases hk; exact ⟨fun n z => ⟨fun k h => (by cases h), kZ, g2, pZ, g3⟩, g1⟩
  | 2, hk => cases hk; exact ⟨fun n z => ⟨fun k h => (by cases h), kJ, h2, pJ, h3⟩, h1⟩
  | k + 3, hk => simp [yty] at hk
