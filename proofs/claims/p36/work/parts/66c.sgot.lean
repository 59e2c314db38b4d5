/-! What a beat of Sim keeps beside the state: what was got; who goes on. -/
theorem Fr.fresh {ad : Nat → Nat} {nW nS a : Nat} {D0 D D' : DM} (h : Fr ad nW nS D0 D) (o : Ot D D' a) (z : D0 a = none) : Fr ad nW nS D0 D' := fun q e x y => by
  rw [o q (fun w => by subst w; rw [z] at x; cases x)]
  exact h q e x y
theorem Fr.ad {ad : Nat → Nat} {nW nS j : Nat} {D0 D D' : DM} (h : Fr ad nW nS D0 D) (o : Ot D D' (ad j)) (hj : su nW nS j) (h1 : j ≠ 1) : Fr ad nW nS D0 D' := h.tr (Fr.ot o hj h1)
def GG (P Q : Mem) (gf : Nat → Int32) (k : Nat) : Prop := ∀ e, e < 2 → gf e = Q 34 (3 + e) - P 34 (3 + e) ∧ (0 ≤ (gf e).toInt ∧ (gf e).toInt ≤ k) ∧ (Q 36 e = 0 ↔ gf e = 0)
theorem GG.same {P Q Q' : Mem} {gf : Nat → Int32} {k : Nat} (h : GG P Q gf k) (e : ∀ e, e < 2 → Q' 34 (3 + e) = Q 34 (3 + e) ∧ Q' 36 e = Q 36 e) : GG P Q' gf (k + 1) := fun i hi => by
  obtain ⟨a1, a2, a3⟩ := h i hi
  obtain ⟨e1, e2⟩ := e i hi
  exact ⟨by rw [e1]; exact a1, ⟨a2.1, by omega⟩, by rw [e2]; exact a3⟩
theorem GG.hit {P Q Q' : Mem} {gf : Nat → Int32} {k e0 : Nat} (h : GG P Q gf k) (hk : k ≤ 1000) (e : ∀ e, e < 2 → Q' 34 (3 + e) = (if e = e0 then Q 34 (3 + e) + 1 else Q 34 (3 + e)) ∧ Q' 36 e = if e = e0 then 1 else Q 36 e) : GG P Q' (upd gf e0 (gf e0 + 1)) (k + 1) := fun i hi => by
  obtain ⟨a1, a2, a3⟩ := h i hi
  obtain ⟨e1, e2⟩ := e i hi
  unfold upd
  by_cases c : i = e0
  · subst c
    rw [if_pos rfl] at e1 e2
    rw [if_pos rfl, e1, e2]
    have t : (gf i + 1).toInt = (gf i).toInt + 1 := by rw [i_add] <;> rw [i_c1] <;> omega
    refine ⟨by rw [a1]; grind, ⟨by rw [t]; omega, by rw [t]; omega⟩, ⟨fun z => absurd z (by decide), fun z => ?_⟩⟩
    rw [z, i_c0] at t
    omega
  · rw [if_neg c] at e1 e2
    rw [if_neg c, e1, e2]
    exact ⟨a1, ⟨a2.1, by omega⟩, a3⟩
/-- another state: all but a shout's own slots, coins and flags -/
theorem SM.shout {g : GT} {D : DM} {ad : Nat → Nat} {Q Q' : Mem} {c : Nat → Int32} {k : Nat} {f : Nat → Int32} (h : SM g D ad Q c [20 + k]) (hk : k < mSh Q) (e29 : Q' 29 = Q 29) (e : ∀ c j, 30 ≤ c → c ≤ 34 → (c ≠ 34 ∨ (j ≠ 27 + k ∧ j ≠ 67 + k ∧ j ≠ 107 + k ∧ j ≠ 147 + k ∧ ¬ (3 ≤ j ∧ j < 5))) → Q' c j = Q c j) (r : IA g D (ad (20 + k)) 4 f) (hf : RS Q' k f) : SM g D ad Q' c [] := by
  have hn := h.n
  have h1 : SM g D ad Q' c [20 + k] := by
    refine h.cong ⟨by rw [e29], by rw [e29]⟩ (fun _ j hj => e _ _ (by omega) (by omega) (by omega)) (fun _ s hs => e _ _ (by omega) (by omega) (by omega)) (fun _ _ _ => rfl) (fun _ j hj => e _ _ (by omega) (by omega) (by omega)) (fun q hq hm i hi => ?_) (fun q hq hm => ?_)
    · unfold rW
      rw [e 32 q (by omega) (by omega) (by omega), e 34 _ (by omega) (by omega) (by omega), e 33 q (by omega) (by omega) (by omega), e 34 _ (by omega) (by omega) (by omega)]
    · have hqk : q ≠ k := fun z => hm (by rw [z]; exact List.mem_cons_self)
      exact ⟨e _ _ (by omega) (by omega) (by omega), e _ _ (by omega) (by omega) (by omega), e _ _ (by omega) (by omega) (by omega), e _ _ (by omega) (by omega) (by omega)⟩
  exact h1.putS r hf (fun i hi => List.mem_singleton.mp hi) (by show k < tn (Q' 29 2); rw [e29]; exact hk)
/-- who goes on, told stone by stone -/
def GZ (Q : Mem) (gz : Nat → Int32) (n : Nat) : Prop := ∀ k, k < mSh Q → (gz k ≠ 0 ↔ ∃ s, s < n ∧ mLoudest Q (nI s) = nI k)
theorem mLoudest_in {Q : Mem} (h : mOK Q) (s : Int32) (hn : ¬ mLoudest Q s < 0) : 0 ≤ mLoudest Q s ∧ tn (mLoudest Q s) < mSh Q := by
  have := h.sh
  rcases mLdL_or Q s (mSh Q) (by omega) with e | e
  · exact absurd (by show mLdL Q s (mSh Q) < 0; rw [e]; decide) hn
  · exact e
theorem GZ.no {Q : Mem} {gz : Nat → Int32} {n : Nat} (h : GZ Q gz n) (hn : mLoudest Q (nI n) < 0) (hm : mSh Q ≤ 40) : GZ Q gz (n + 1) := fun k hk => by
  rw [h k hk]
  constructor
  · rintro ⟨s, h1, h2⟩; exact ⟨s, by omega, h2⟩
  · rintro ⟨s, h1, h2⟩
    by_cases c : s = n
    · subst c
      rw [h2] at hn
      exact absurd hn (nI_pos (by omega))
    · exact ⟨s, by omega, h2⟩
theorem GZ.yes {Q : Mem} {gz : Nat → Int32} {n : Nat} (h : GZ Q gz n) (hw : 0 ≤ mLoudest Q (nI n)) (hm : mSh Q ≤ 40) : GZ Q (upd gz (tn (mLoudest Q (nI n))) 1) (n + 1) := fun k hk => by
  unfold upd
  by_cases c : k = tn (mLoudest Q (nI n))
  · rw [if_pos c]
    exact ⟨fun _ => ⟨n, by omega, by rw [c]; exact nI_tn hw⟩, fun _ => by decide⟩
  · rw [if_neg c, h k hk]
    constructor
    · rintro ⟨s, h1, h2⟩; exact ⟨s, by omega, h2⟩
    · rintro ⟨s, h1, h2⟩
      by_cases c2 : s = n
      · subst c2
        exact absurd (by rw [h2, tn_nI (by omega)]) c
      · exact ⟨s, by omega, h2⟩
/-- a shout that isn't gone goes on just if it is the loudest on its stone -/
theorem GZ.is {Q : Mem} {gz : Nat → Int32} (hp : PK Q) (h : GZ Q gz 32) {k : Nat} (hk : k < mSh Q) (hl : 0 < Q 34 (27 + k)) : gz k ≠ 0 ↔ mLoudest Q (Q 34 (67 + k)) = nI k := by
  have hsh := hp.1.sh
  obtain ⟨-, v⟩ := hp.2.2.2 k (by omega)
  obtain ⟨hs, -⟩ := v hl
  rw [h k hk]
  constructor
  · rintro ⟨s, h1, h2⟩
    have hw := mLdL_win Q (nI s) (mSh Q) (by omega)
    have h2' : mLdL Q (nI s) (mSh Q) = nI k := h2
    rw [h2'] at hw
    rcases hw with ⟨e, -⟩ | ⟨j, hj, e, -, a2, -⟩
    · exact absurd e (nI_m1 (by omega))
    · have hjk := nI_inj' (by omega) (by omega) e
      subst hjk
      rw [show Q 34 (67 + k) = nI s from a2]
      exact h2
  · intro e
    exact ⟨tn (Q 34 (67 + k)), tn31 hs, by rw [← nI_tn hs.1]; exact e⟩
theorem mMeetL_ld {P : Mem} (ho : mOK P) (n : Nat) (hn : n ≤ mSh P) (s : Int32) : mLoudest (mMeetL P n) s = mLoudest P s := by
  obtain ⟨m1, m2, m3, m4⟩ := mm_all ho n hn
  have hsh := ho.sh
  have hS : mSh (mMeetL P n) = mSh P := by
    show tn (mMeetL P n 29 2) = tn (P 29 2)
    rw [m2 29 (by decide)]
  unfold mLoudest
  rw [hS]
  refine win_hush (by omega) (fun j hj => m3 _ (by omega) (by omega)) (fun j hj => ?_) s
  rw [m1 j (by omega)]
  split
  · rename_i c
    exact Or.inr ⟨rfl, c.2.2⟩
  · exact Or.inl rfl
/-- one shout meets, told by who goes on -/
theorem mMeet_is {P : Mem} {gz : Nat → Int32} (hp : PK P) (h : GZ P gz 32) {k : Nat} (hk : k < mSh P) : mMeetL P (k + 1) = if gz k ≠ 0 ∨ mMeetL P k 34 (27 + k) = 0 then mMeetL P k else wr (wr (mMeetL P k) 34 (27 + k) 0) 34 1 (mMeetL P k 34 1 + 1) := by
  obtain ⟨m1, m2, m3, m4⟩ := mm_all hp.1 k (by omega)
  have hsh := hp.1.sh
  have hl : mMeetL P k 34 (27 + k) = P 34 (27 + k) := by rw [m1 k (by omega), if_neg (fun z => absurd z.1 (by omega))]
  have ha : mMeetL P k 34 (67 + k) = P 34 (67 + k) := m3 _ (by omega) (by omega)
  have e : mMeetL P (k + 1) = mMeet (mMeetL P k) k := rfl
  obtain ⟨⟨v0, -⟩, -⟩ := hp.2.2.2 k (by omega)
  rw [e, hl]
  unfold mMeet
  rw [mMeetL_ld hp.1 k (by omega), hl, ha]
  by_cases c0 : P 34 (27 + k) = 0
  · rw [if_pos (Or.inr c0), if_neg (fun z => absurd z.1 (by rw [c0]; decide))]
  · have hpos : 0 < P 34 (27 + k) := Int32.lt_of_le_of_ne v0 (Ne.symm c0)
    by_cases c1 : gz k ≠ 0
    · rw [if_pos (Or.inl c1), if_neg (fun z => z.2 ((h.is hp hk hpos).mp c1))]
    · rw [if_pos ⟨hpos, fun z => c1 ((h.is hp hk hpos).mpr z)⟩, if_neg (fun z => Or.elim z c1 c0)]
      have e3 : mLet (mMeetL P k) k 0 = wr (mMeetL P k) 34 (27 + k) 0 := rfl
      rw [e3, wr_ne (k := 34) (j := 27 + k) (k' := 34) (j' := 1) (by omega)]
