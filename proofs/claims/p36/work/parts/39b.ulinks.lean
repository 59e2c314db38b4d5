/-! Entries for the law's own objects. -/
theorem fn_L_15 : FLN RL 15 2 1 := ⟨RX2, TX2, 8, ci2, by decide, rfl, Or.inl ⟨503, by decide +kernel⟩, rfl, _, rfl, fun _ => rfl, fun _ => rfl⟩
theorem fn_L_38 : FLN RL 38 2 0 := ⟨RX2, TX2, 8, ci2, by decide, rfl, Or.inl ⟨501, by decide +kernel⟩, rfl, _, rfl, fun _ => rfl, fun _ => rfl⟩
theorem fn_L_50 : FLN RL 50 2 2 := ⟨RX2, TX2, 8, ci2, by decide, rfl, Or.inl ⟨505, by decide +kernel⟩, rfl, _, rfl, fun _ => rfl, fun _ => rfl⟩
theorem fn_X2_7 : FLN RX2 7 2 0 := ⟨RX2, TX2, 8, ci2, by decide, rfl, Or.inl ⟨500, by decide +kernel⟩, rfl, _, rfl, fun _ => rfl, fun _ => rfl⟩
theorem fn_X2_14 : FLN RX2 14 2 1 := ⟨RX2, TX2, 8, ci2, by decide, rfl, Or.inl ⟨502, by decide +kernel⟩, rfl, _, rfl, fun _ => rfl, fun _ => rfl⟩
theorem fn_X2_18 : FLN RX2 18 2 2 := ⟨RX2, TX2, 8, ci2, by decide, rfl, Or.inl ⟨504, by decide +kernel⟩, rfl, _, rfl, fun _ => rfl, fun _ => rfl⟩
theorem fn_X2_21 : FLN RX2 21 2 3 := ⟨RX2, TX2, 8, ci2, by decide, rfl, Or.inl ⟨506, by decide +kernel⟩, rfl, _, rfl, fun _ => rfl, fun _ => rfl⟩
theorem fn_X2_24 : FLN RX2 24 2 4 := ⟨RX2, TX2, 8, ci2, by decide, rfl, Or.inl ⟨507, by decide +kernel⟩, rfl, _, rfl, fun _ => rfl, fun _ => rfl⟩
abbrev simV : List Value := [.null, .null, .null, .null, .null, .int 0, .int 0, .int 0]
theorem nw_X2_8 : NW RX2 8 2 8 simV := ⟨RX2, TX2, ci2, by decide +kernel, by decide +kernel, by decide +kernel, tyX2, tyX2_ok, by decide +kernel⟩
theorem nw_L_16 : NW RL 16 2 8 simV := ⟨RX2, TX2, ci2, by decide +kernel, by decide +kernel, by decide +kernel, tyX2, tyX2_ok, by decide +kernel⟩
theorem cd_X2_init : CD yX2_init cX2_init 1 none 0 := ⟨⟨496, by decide +kernel⟩, List.mem_of_getElem? (i := 26) (by decide +kernel), by decide, by decide, by decide⟩
theorem ki_X2_27 : (∃ i : Nat, lw_tbl[i]? = some (.methodLink RX2 27 yX2_init)) ∧ ∃ i : Nat, lw_tbl[i]? = some (.instanceMethod yX2_init) := ⟨⟨494, by decide +kernel⟩, ⟨495, by decide +kernel⟩⟩
theorem ki_L_70 : (∃ (i : Nat) (h : String), lw_tbl[i]? = some (.methodLinkNest RL 70 yX2_init h)) ∧ ∃ i : Nat, lw_tbl[i]? = some (.instanceMethod yX2_init) := ⟨⟨637, RL, by decide +kernel⟩, ⟨495, by decide +kernel⟩⟩
abbrev hhL_act : List (Nat × Nat × Nat × Nat) := [(12, 174, 487, 68), (175, 184, 487, 68), (185, 240, 487, 68), (241, 299, 487, 68), (300, 437, 487, 68), (438, 486, 487, 68)]
theorem cw_L_act : CDW yL_act cL_act 8 (some .boolean) hhL_act 3 := ⟨⟨577, by decide +kernel⟩, by decide +kernel, by decide, by decide, by decide⟩
