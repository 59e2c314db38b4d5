/-! All moves of a beat, both sides. -/
def Mv (b n : Nat) (M M' P' : Mem) : Prop :=
  (∀ e, e < 2 → ((P' 36 e = 0 ∧ M' (b + 8) e = M (b + 8) e) ∨ (P' 36 e ≠ 0 ∧ (M (b + 8) e).toInt < (M' (b + 8) e).toInt)) ∧ (M (b + 8) e).toInt ≤ (M' (b + 8) e).toInt ∧ (M' (b + 8) e).toInt ≤ (M (b + 8) e).toInt + n) ∧
  (∀ j, (n ≤ j ∨ ¬ 0 < M (b + 10) j) → M' (b + 10) j = M (b + 10) j) ∧
  (∀ j, j < n → 0 < M (b + 10) j → M' (b + 10) j = 0 ∨ (0 < M' (b + 10) j ∧ (M' (b + 10) j).toInt + 1 ≤ (M (b + 10) j).toInt))
theorem i_inc {a : Int32} (h1 : 0 ≤ a.toInt) (h2 : a.toInt ≤ 9000000) : (a + 1).toInt = a.toInt + 1 := by
  rw [Int32.toInt_add]
  exact Int.bmod_eq_of_le (by rw [i_c1]; omega) (by rw [i_c1]; omega)
theorem mv_all {b : Nat} {M P : Mem} (h : Rw b M P) (hc : cOK b M) (ho : mOK P) (ho2 : mOK2 P) (h99 : ∀ k, k < 40 → M (b + 10) k ≤ 99) (hg : ∀ e, e < 2 → P 36 e = 0) (hcn : ∀ e, e < 2 → 0 ≤ (M (b + 8) e).toInt ∧ (M (b + 8) e).toInt ≤ 5000000) :
    ∀ n, n ≤ mSh P → Rw b (cMoveL b M n) (mStepL P n) ∧ Mv b n M (cMoveL b M n) (mStepL P n)
  | 0, _ => ⟨h, fun e he => ⟨Or.inl ⟨hg e he, rfl⟩, Int.le_refl _, by show (M (b + 8) e).toInt ≤ (M (b + 8) e).toInt + ((0 : Nat) : Int); omega⟩, fun _ _ => rfl, fun _ hj => by omega⟩
  | n + 1, hn => by
    obtain ⟨r, m1, m2, m3⟩ := mv_all h hc ho ho2 h99 hg hcn n (by omega)
    have hsh := ho.sh
    have hfr := mStepL_fr P n
    have hcs : cOK b (cMoveL b M n) := hc.mk (cMoveL_same b M n) (cMoveL_s hc.s n)
    have hlq := (r.2.2.2.2.1 n (by omega)).1
    have hm2 := m2 n (Or.inl (Nat.le_refl n))
    have hsame : mSh (mStepL P n) = mSh P := by
      show tn (mStepL P n 29 2) = tn (P 29 2)
      rw [hfr 29 (by decide) (by decide)]
    have ho2' : mOK2 (mStepL P n) := by
      obtain ⟨a1, a2⟩ := ho2
      exact ⟨by rw [hfr 30 (by decide) (by decide)]; exact a1, by rw [hfr 33 (by decide) (by decide)]; exact a2⟩
    unfold cMoveL mStepL
    rw [← hlq]
    by_cases hl : 0 < cMoveL b M n (b + 10) n
    · rw [if_pos hl, if_pos hl]
      obtain ⟨s1, s2, s3, s4⟩ := st_step r hcs ho2' (by rw [hm2]; exact h99 n (by omega)) (by omega) (by rw [hsame]; omega) hl
      generalize cMoveL b M n = A at *
      generalize mStepL P n = B at *
      generalize cMove b A n = A' at *
      generalize mStep B n = B' at *
      refine ⟨s1, fun e he => ?_, fun j hj => ?_, fun j hj hlj => ?_⟩
      · obtain ⟨c1, c2, c3⟩ := m1 e he
        have hce := hcn e he
        rcases s2 with s2 | ⟨e0, he0, s2⟩
        · rw [(s2 e).1, (s2 e).2]
          exact ⟨c1, c2, by omega⟩
        · rw [(s2 e).1, (s2 e).2]
          by_cases hee : e = e0
          · rw [if_pos hee, if_pos hee]
            have e1 : (A (b + 8) e + 1).toInt = (A (b + 8) e).toInt + 1 := i_inc (by omega) (by omega)
            rw [e1]
            exact ⟨Or.inr ⟨by decide, by omega⟩, by omega, by omega⟩
          · rw [if_neg hee, if_neg hee]
            exact ⟨c1, c2, by omega⟩
      · by_cases hjn : j = n
        · subst hjn
          rw [hm2] at hl
          rcases hj with hj | hj
          · omega
          · exact absurd hl hj
        · rw [s3 j hjn]
          exact m2 j (hj.imp (fun z => by omega) id)
      · by_cases hjn : j = n
        · subst hjn
          rw [hm2] at s4
          exact s4
        · rw [s3 j hjn]
          exact m3 j (by omega) hlj
    · rw [if_neg hl, if_neg hl]
      refine ⟨r, fun e he => ?_, fun j hj => m2 j (hj.imp (fun z => by omega) id), fun j hj hlj => ?_⟩
      · obtain ⟨c1, c2, c3⟩ := m1 e he
        exact ⟨c1, c2, by omega⟩
      · by_cases hjn : j = n
        · subst hjn
          rw [hm2] at hl
          exact absurd hlj hl
        · exact m3 j (by omega) hlj
