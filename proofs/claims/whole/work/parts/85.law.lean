/-! The law from its entry. -/
set_option maxHeartbeats 4000000 in
set_option maxRecDepth 100000 in
theorem whole_start {p : Program} {e : Env} {s : State} {m : MethodId} {below : List Frame} {meth : Method} {c : Code} (l : Launch) (hflags : l.flags = flags0) {b L : Nat} {xs : Nat → Int32} (hL : L ≤ 2048) (C0 : lw_At p s m meth c b L xs) : W p l e room_1 s m #[Value.ref b] below meth c s.heap [] 0 0 (lw_Z below #[Value.ref b] s) (entryFrame m ([Value.ref b] : List Value).toArray 9) := by
  obtain ⟨hx, hb, hr, hml, hown, hts, hX, hbl, hlocks, hgv⟩ := C0
  have hs := flat_of_before _ hgv
  have hst : l.stackTraces = false := by
    unfold Launch.stackTraces
    rw [hflags]
    rfl
  obtain ⟨t, hK⟩ := ky_start hts
  have hn : KnX s := ⟨str_start hts hs, nc_start hs⟩
  have hz : KzX s.heap.size s s.heap := z_start hts hs
  refine W.base ?_
  have hd0 := Drawn.sameBut.refl s.drawn lw_cs
  have hl := lv_entry ([.ref b]) (n := 9) (Nat.le_of_ble_eq_true rfl)
  rw [lg_entry_eq]
  obtain ⟨B, hB⟩ : ∃ B : Nat, B = s.heap.size := ⟨_, rfl⟩
  have hes : s.setDrawn s.drawn = s := rfl
  obtain ⟨U, hU⟩ : ∃ U : State, U = s.setDrawn s.drawn := ⟨_, rfl⟩
  have hUs : U = s := hU.trans hes
  rw [← hB] at hz hbl
  rw [← hUs] at hn hz hX hown hK hB
  have hH : s.heap = U.heap := by rw [hUs]
  rw [hH, ← hU]
  sorry
