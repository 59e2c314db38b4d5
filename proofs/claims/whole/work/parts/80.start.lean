/-! The first memory, and that all holds in it. -/
def M0 : Mem := fun k => if k = 3 ∨ k = 4 ∨ k = 17 ∨ k = 18 ∨ k = 31 then cpn (fun _ => -1) (fun _ => 0) 32 else fun _ => 0
theorem M0_0 {k : Nat} (h : ¬ (k = 3 ∨ k = 4 ∨ k = 17 ∨ k = 18 ∨ k = 31)) : M0 k = fun _ => 0 := by
  unfold M0
  rw [if_neg h]
theorem M0_1 {k j : Nat} (h : k = 3 ∨ k = 4 ∨ k = 17 ∨ k = 18 ∨ k = 31) (hj : j < 32) : M0 k j = -1 := by
  unfold M0
  rw [if_pos h]
  exact if_pos hj
theorem inv_0 : Inv 0 M0 := by
  have z : ∀ k j, ¬ (k = 3 ∨ k = 4 ∨ k = 17 ∨ k = 18 ∨ k = 31) → M0 k j = 0 := fun k j h => by rw [M0_0 h]
  have e11 : ∀ k, ¬ 0 < M0 (1 + 10) k := fun k => by rw [z (1 + 10) k (by omega)]; decide
  have hl0 : liveN (M0 (1 + 10)) 40 = 0 := liveN_zero 40 (fun k _ => e11 k)
  have hsh : mSh M0 = 0 := by
    show tn (M0 29 2) = 0
    rw [z 29 2 (by omega)]
    rfl
  refine ⟨⟨⟨?_, fun s hs => ?_, fun w hw => ?_, fun e he => ?_, fun k hk => ?_, fun k hk hl => absurd hl (e11 k), fun k hk _ => ?_, fun k _ _ => e11 k, ?_⟩, fun s hs => ?_, ⟨?_, ?_, fun s hs => ?_, fun w hw => ?_, fun s hs => ?_, fun k hk hl => absurd hl (e11 k)⟩, ⟨?_, ?_, fun s hs => ?_, fun w hw => ?_⟩, ⟨fun s hs => ?_, fun w hw => ?_⟩, fun k hk => ?_, fun e he => ?_, fun e he => ?_⟩, ⟨fun w hw hw2 => ?_, fun s hs => ?_⟩, ?_⟩
  · simp only [z 1 _ (by omega), z 34 _ (by omega), z 29 _ (by omega)]
    exact ⟨trivial, trivial, trivial, trivial, trivial⟩
  · rw [z (1 + 1) s (by omega), z 30 s (by omega), M0_1 (k := 1 + 2) (by omega) hs, M0_1 (k := 31) (by omega) hs]
    exact ⟨rfl, rfl⟩
  · rw [z (1 + 4) w (by omega), z (1 + 5) w (by omega), z (1 + 6) w (by omega), z (1 + 7) w (by omega), z 32 w (by omega), z 33 w (by omega), z 34 _ (by omega), z 34 _ (by omega)]
    exact ⟨rfl, rfl, rfl, rfl⟩
  · rw [z (1 + 8) e (by omega), z (1 + 9) e (by omega), z 34 _ (by omega), z 34 _ (by omega)]
    exact ⟨rfl, rfl⟩
  · rw [z (1 + 10) k (by omega), z (1 + 13) k (by omega), z 34 _ (by omega), z 34 _ (by omega)]
    exact ⟨rfl, rfl⟩
  · rw [hsh] at hk
    omega
  · rw [hl0, z 1 3 (by omega)]
    rfl
  · rw [M0_1 (k := 1 + 3) (by omega) hs]
    unfold mLoudest
    rw [hsh]
    rfl
  · rw [z 1 1 (by omega)]; decide
  · rw [z 1 2 (by omega)]; decide
  · exact Or.inl (M0_1 (by omega) hs)
  · rw [z (1 + 5) w (by omega)]; decide
  · exact Or.inl (M0_1 (by omega) hs)
  · rw [z 29 1 (by omega)]; decide
  · rw [z 29 2 (by omega)]; decide
  · exact Or.inl (M0_1 (by omega) hs)
  · rw [z 34 _ (by omega)]; decide
  · rw [z 30 s (by omega)]; decide
  · rw [z 33 w (by omega)]; decide
  · rw [z (1 + 10) k (by omega)]; decide
  · rw [z (1 + 8) e (by omega)]
    exact ⟨by decide, by rw [i_c0]; omega⟩
  · rw [z (1 + 9) e (by omega)]; decide
  · exact z _ w (by omega)
  · exact Or.inl (M0_1 (by omega) hs)
  · show liveN (M0 (1 + 10)) 40 ≤ 8
    rw [hl0]
    decide
