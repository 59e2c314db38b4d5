/-! The loudest one on a stone: what it is, and that hushing others leaves it. -/
def Win (f at_ : Nat → Int32) (s : Int32) (n : Nat) (r : Int32) : Prop :=
  (r = -1 ∧ ∀ j, j < n → 0 < f j → at_ j ≠ s) ∨ ∃ j, j < n ∧ r = nI j ∧ 0 < f j ∧ at_ j = s ∧ (∀ i, i < n → 0 < f i → at_ i = s → f i ≤ f j) ∧ (∀ i, i < j → 0 < f i → at_ i = s → f i < f j)
theorem nI_inj' {i j : Nat} (hi : i < 1000) (hj : j < 1000) (h : nI i = nI j) : i = j := by
  rw [← tn_nI (j := i) (by omega), ← tn_nI (j := j) (by omega), h]
theorem nI_m1 {j : Nat} (hj : j < 1000) : nI j ≠ -1 := fun e => by
  have := nI_pos' (n := j) (by omega)
  rw [e] at this
  exact absurd this (by decide)
theorem Win.uniq {f at_ : Nat → Int32} {s : Int32} {n : Nat} {r r' : Int32} (hn : n < 1000) (h : Win f at_ s n r) (h' : Win f at_ s n r') : r = r' := by
  rcases h with ⟨e, a⟩ | ⟨j, hj, e, a1, a2, a3, a4⟩
  · rcases h' with ⟨e', -⟩ | ⟨j', hj', e', b1, b2, -⟩
    · rw [e, e']
    · exact absurd b2 (a j' hj' b1)
  · rcases h' with ⟨e', b⟩ | ⟨j', hj', e', b1, b2, b3, b4⟩
    · exact absurd a2 (b j hj a1)
    · rw [e, e']
      have c1 := a3 j' hj' b1 b2
      have c2 := b3 j hj a1 a2
      rcases Nat.lt_trichotomy j j' with c | c | c
      · have := b4 j c a1 a2
        exact absurd this (Int32.not_lt.mpr c1)
      · rw [c]
      · have := a4 j' c b1 b2
        exact absurd this (Int32.not_lt.mpr c2)
theorem mLdL_win (P : Mem) (s : Int32) : ∀ n, n < 1000 → Win (fun k => P 34 (27 + k)) (fun k => P 34 (67 + k)) s n (mLdL P s n)
  | 0, _ => Or.inl ⟨rfl, fun j hj => by omega⟩
  | k + 1, hn => by
    have ih := mLdL_win P s k (by omega)
    unfold mLdL
    rcases ih with ⟨e, a⟩ | ⟨j, hj, e, a1, a2, a3, a4⟩
    · rw [e]
      by_cases c : 0 < P 34 (27 + k) ∧ P 34 (67 + k) = s
      · rw [if_pos ⟨c.1, c.2, Or.inl rfl⟩]
        refine Or.inr ⟨k, by omega, rfl, c.1, c.2, fun i hi h1 h2 => ?_, fun i hi h1 h2 => absurd h2 (a i hi h1)⟩
        by_cases hik : i = k
        · subst hik; exact Int32.le_refl _
        · exact absurd h2 (a i (by omega) h1)
      · rw [if_neg (fun z => c ⟨z.1, z.2.1⟩)]
        refine Or.inl ⟨rfl, fun i hi h1 h2 => ?_⟩
        by_cases hik : i = k
        · subst hik; exact c ⟨h1, h2⟩
        · exact a i (by omega) h1 h2
    · rw [e, tn_nI (by omega)]
      have a1' : 0 < P 34 (27 + j) := a1
      have a2' : P 34 (67 + j) = s := a2
      by_cases c : 0 < P 34 (27 + k) ∧ P 34 (67 + k) = s ∧ P 34 (27 + j) < P 34 (27 + k)
      · rw [if_pos ⟨c.1, c.2.1, Or.inr c.2.2⟩]
        refine Or.inr ⟨k, by omega, rfl, c.1, c.2.1, fun i hi h1 h2 => ?_, fun i hi h1 h2 => ?_⟩
        · by_cases hik : i = k
          · subst hik; exact Int32.le_refl _
          · exact Int32.le_trans (a3 i (by omega) h1 h2) (Int32.le_of_lt c.2.2)
        · exact Int32.lt_of_le_of_lt (a3 i hi h1 h2) c.2.2
      · rw [if_neg (fun z => c ⟨z.1, z.2.1, z.2.2.resolve_left (nI_m1 (by omega))⟩)]
        refine Or.inr ⟨j, by omega, rfl, a1, a2, fun i hi h1 h2 => ?_, a4⟩
        by_cases hik : i = k
        · subst hik; exact Int32.not_lt.mp (fun z => c ⟨h1, h2, z⟩)
        · exact a3 i (by omega) h1 h2
/-- losers hushed: who wins stays -/
theorem win_hush {P Q : Mem} {n : Nat} (hn : n < 1000) (hat : ∀ j, j < n → Q 34 (67 + j) = P 34 (67 + j)) (hf : ∀ j, j < n → Q 34 (27 + j) = P 34 (27 + j) ∨ (Q 34 (27 + j) = 0 ∧ mLdL P (P 34 (67 + j)) n ≠ nI j)) (s : Int32) : mLdL Q s n = mLdL P s n := by
  refine Win.uniq hn (mLdL_win Q s n hn) ?_
  rcases mLdL_win P s n hn with ⟨e, a⟩ | ⟨j, hj, e, a1, a2, a3, a4⟩
  · refine Or.inl ⟨e, fun i hi h1 => ?_⟩
    have h1' : 0 < Q 34 (27 + i) := h1
    show Q 34 (67 + i) ≠ s
    rw [hat i hi]
    rcases hf i hi with z | ⟨z, -⟩
    · exact a i hi (show 0 < P 34 (27 + i) by rw [← z]; exact h1')
    · rw [z] at h1'; exact absurd h1' (by decide)
  · have a2' : P 34 (67 + j) = s := a2
    have hj' : Q 34 (27 + j) = P 34 (27 + j) := (hf j hj).resolve_right (fun z => z.2 (by rw [a2', e]))
    have hle : ∀ i, i < n → 0 < Q 34 (27 + i) → 0 < P 34 (27 + i) ∧ Q 34 (27 + i) = P 34 (27 + i) := fun i hi h1 => by
      rcases hf i hi with z | ⟨z, -⟩
      · exact ⟨by rw [← z]; exact h1, z⟩
      · rw [z] at h1; exact absurd h1 (by decide)
    refine Or.inr ⟨j, hj, e, (show 0 < Q 34 (27 + j) by rw [hj']; exact a1), (show Q 34 (67 + j) = s by rw [hat j hj]; exact a2), fun i hi h1 h2 => ?_, fun i hi h1 h2 => ?_⟩
    · obtain ⟨b1, b2⟩ := hle i hi h1
      show Q 34 (27 + i) ≤ Q 34 (27 + j)
      rw [b2, hj']
      exact a3 i hi b1 (show P 34 (67 + i) = s by rw [← hat i hi]; exact h2)
    · obtain ⟨b1, b2⟩ := hle i (by omega) h1
      show Q 34 (27 + i) < Q 34 (27 + j)
      rw [b2, hj']
      exact a4 i hi b1 (show P 34 (67 + i) = s by rw [← hat i (by omega)]; exact h2)
