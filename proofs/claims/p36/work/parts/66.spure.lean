/-! What a beat's first step makes of the state, written flat; invariants; rows of four. -/
def q4 (a b c d : Int32) : Nat → Int32 := fun j => if j = 0 then a else if j = 1 then b else if j = 2 then c else d
section Q4
variable {g : GT} {D : DM} {q : Nat} {a b c d v : Int32}
theorem IA.u0 (h : IA g D q 4 (upd (q4 a b c d) 0 v)) : IA g D q 4 (q4 v b c d) := h.ext (fun j hj => by
  rcases (show j = 0 ∨ j = 1 ∨ j = 2 ∨ j = 3 by omega) with rfl | rfl | rfl | rfl <;> rfl)
theorem IA.u1 (h : IA g D q 4 (upd (q4 a b c d) 1 v)) : IA g D q 4 (q4 a v c d) := h.ext (fun j hj => by
  rcases (show j = 0 ∨ j = 1 ∨ j = 2 ∨ j = 3 by omega) with rfl | rfl | rfl | rfl <;> rfl)
theorem IA.u2 (h : IA g D q 4 (upd (q4 a b c d) 2 v)) : IA g D q 4 (q4 a b v d) := h.ext (fun j hj => by
  rcases (show j = 0 ∨ j = 1 ∨ j = 2 ∨ j = 3 by omega) with rfl | rfl | rfl | rfl <;> rfl)
theorem IA.u3 (h : IA g D q 4 (upd (q4 a b c d) 3 v)) : IA g D q 4 (q4 a b c v) := h.ext (fun j hj => by
  rcases (show j = 0 ∨ j = 1 ∨ j = 2 ∨ j = 3 by omega) with rfl | rfl | rfl | rfl <;> rfl)
theorem IA.qq (f : Nat → Int32) (h : IA g D q 4 f) : IA g D q 4 (q4 (f 0) (f 1) (f 2) (f 3)) := h.ext (fun j hj => by
  rcases (show j = 0 ∨ j = 1 ∨ j = 2 ∨ j = 3 by omega) with rfl | rfl | rfl | rfl <;> rfl)
end Q4
theorem u_ialv {X : XT} {g : GT} {l : Launch} {cc : ByteArray} {mL : Nat} {own : String} {ret : Option FieldType} {rm : Room} {kc ks pc : Nat} {lo : List (Nat × Value)} {st : List Value} {M : Mem} {D : DM} (C : Cx X g l cc mL own ret rm) {a n j : Nat} {i v : Int32} {f : Nat → Int32} (ha : IA g D a n f) (hi : i = nI j) (hj : j < n) (hn : n ≤ 1000) (hv : f j = v) (d : decode cc pc = .ok (.iaload, 1)) (kk : UX X g kc ks (pc + 1) lo (.int v :: st) M D) : UX X g kc ks pc lo (.int i :: .ref a :: st) M D :=
  u_iald C ha hi hj hn d (by rw [hv]; exact kk)
theorem u_ttop {X : XT} {g : GT} {kc ks pc : Nat} {lo : List (Nat × Value)} {st : List Value} {M : Mem} {D : DM} {v v' : Value} (h : v = v') (k : UX X g kc ks pc lo (v' :: st) M D) : UX X g kc ks pc lo (v :: st) M D := h ▸ k
/-- walls stand on stones of their own; shouts that aren't gone are on stones and go left or right -/
def WL (P : Mem) : Prop := (∀ w, w < mWs P → (0 ≤ P 32 w ∧ P 32 w ≤ 31) ∧ P 31 (tn (P 32 w)) = nI w) ∧ ∀ s, s < 32 → P 31 s = -1 ∨ ∃ w, w < mWs P ∧ P 31 s = nI w ∧ P 32 w = nI s
def LV (P : Mem) : Prop := ∀ k, k < 40 → (0 ≤ P 34 (27 + k) ∧ P 34 (27 + k) ≤ 99) ∧ (0 < P 34 (27 + k) → (0 ≤ P 34 (67 + k) ∧ P 34 (67 + k) ≤ 31) ∧ (P 34 (107 + k) = 1 ∨ P 34 (107 + k) = -1))
def PK (P : Mem) : Prop := mOK P ∧ mOK2 P ∧ WL P ∧ LV P
theorem sWO_g {P : Mem} (h : WL P) {s : Int32} (hs : 0 ≤ s ∧ s ≤ 31) : ∀ (n w : Nat), w + n = mWs P → (∀ w', w' < w → P 32 w' ≠ s) → sWO P s n w = P 31 (tn s)
  | 0, w, hw, ha => by
    rcases h.2 _ (tn31 hs) with e | ⟨w', h1, -, h3⟩
    · rw [e]; rfl
    · rw [← nI_tn hs.1] at h3
      exact absurd h3 (ha w' (by omega))
  | n + 1, w, hw, ha => by
    unfold sWO
    by_cases c : P 32 w = s
    · rw [if_pos c]
      have := (h.1 w (by omega)).2
      rw [c] at this
      exact this.symm
    · rw [if_neg c]
      exact sWO_g h hs n (w + 1) (by omega) (fun w' hw' => by
        by_cases e : w' = w
        · subst e; exact c
        · exact ha w' (by omega))
theorem sWO_is {P : Mem} (h : WL P) {s : Int32} (hs : 0 ≤ s ∧ s ≤ 31) : sWO P s (mWs P) 0 = P 31 (tn s) := sWO_g h hs (mWs P) 0 (by omega) (fun w' hw' => by omega)
/-- the wall on a stone -/
theorem WL.at {P : Mem} (h : WL P) {s : Int32} (hs : 0 ≤ s ∧ s ≤ 31) (hw : ¬ P 31 (tn s) = -1) : 0 ≤ P 31 (tn s) ∧ tn (P 31 (tn s)) < mWs P := by
  rcases h.2 _ (tn31 hs) with e | ⟨w', h1, h2, -⟩
  · exact absurd e hw
  · have hb : mWs P < 2 ^ 31 := tn_sm _
    rw [h2]
    exact ⟨nI_pos' (by omega), by rw [tn_nI (by omega)]; exact h1⟩
def mLd (Q : Mem) (k : Nat) (s : Int32) : Int32 := if 0 < Q 34 (27 + k) - 1 - Q 30 (tn s) then Q 34 (27 + k) - 1 - Q 30 (tn s) else 0
theorem mGo_is (Q : Mem) (k : Nat) (s : Int32) : mGo Q k s = wr (wr Q 34 (67 + k) s) 34 (27 + k) (mLd Q k s) := mGo_flat Q k s
theorem mGo_r (Q : Mem) (k : Nat) (s : Int32) : mGo Q k s 34 (27 + k) = mLd Q k s ∧ (∀ c j, c ≠ 34 → mGo Q k s c j = Q c j) ∧ (∀ j, j ≠ 67 + k → j ≠ 27 + k → mGo Q k s 34 j = Q 34 j) := by
  rw [mGo_is]
  refine ⟨wr_eq, fun c j hc => ?_, fun j h1 h2 => ?_⟩
  · rw [wr_ne (Or.inl hc), wr_ne (Or.inl hc)]
  · rw [wr_ne (Or.inr h2), wr_ne (Or.inr h1)]
theorem ms_out {Q : Mem} {k : Nat} (h : ¬ (0 ≤ mS1 Q k ∧ mS1 Q k ≤ 31)) : mStep Q k = wr Q 34 (27 + k) 0 := by
  unfold mStep
  rw [if_neg h]
  rfl
theorem ms_go {Q : Mem} {k : Nat} (h : 0 ≤ mS1 Q k ∧ mS1 Q k ≤ 31) (hc : ¬ (0 < mLd Q k (mS1 Q k) ∧ Q 31 (tn (mS1 Q k)) ≠ -1)) : mStep Q k = wr (wr Q 34 (67 + k) (mS1 Q k)) 34 (27 + k) (mLd Q k (mS1 Q k)) := by
  unfold mStep
  obtain ⟨r1, r2, -⟩ := mGo_r Q k (mS1 Q k)
  rw [if_pos h, r1, r2 31 _ (by decide), if_neg hc, mGo_is]
theorem ms_hit {Q : Mem} {k e w : Nat} (h : 0 ≤ mS1 Q k ∧ mS1 Q k ≤ 31) (h1 : 0 < mLd Q k (mS1 Q k)) (h2 : Q 31 (tn (mS1 Q k)) ≠ -1) (hk : k < 40) (hw : tn (Q 31 (tn (mS1 Q k))) = w) (hw10 : w < 10) (he : tn (Q 34 (7 + w)) = e) (he2 : e < 2) :
    mStep Q k = wr (wr (wr (wr (wr (wr (wr Q 34 (67 + k) (mS1 Q k)) 34 (3 + e) (Q 34 (3 + e) + 1)) 36 e 1) 34 (17 + w) (Q 34 (17 + w) + 1)) 34 (147 + k) (Q 34 (147 + k) + 1)) 34 (107 + k) (-(Q 34 (107 + k)))) 34 (27 + k) (if 0 < mLd Q k (mS1 Q k) - Q 33 w then mLd Q k (mS1 Q k) - Q 33 w else 0) := by
  unfold mStep
  obtain ⟨r1, r2, r3⟩ := mGo_r Q k (mS1 Q k)
  rw [if_pos h, r1, r2 31 _ (by decide), if_pos ⟨h1, h2⟩, hw, r3 (7 + w) (by omega) (by omega), he, mHit_flat _ he2 hw10, r1, r2 33 _ (by decide), r3 (3 + e) (by omega) (by omega), r3 (17 + w) (by omega) (by omega), r3 (147 + k) (by omega) (by omega), r3 (107 + k) (by omega) (by omega), mGo_is]
  funext c j
  simp only [wr_ap]
  by_cases hc : c = 34
  · subst hc
    by_cases hj : j = 27 + k
    · subst hj; simp
    · simp [hj]
  · simp [hc]
theorem rW_ne {P : Mem} {q j' : Nat} {v : Int32} (h1 : 7 + q ≠ j') (h2 : 17 + q ≠ j') : rW (wr P 34 j' v) q = rW P q := by
  have a1 : wr P 34 j' v 34 (7 + q) = P 34 (7 + q) := wr_ne (Or.inr h1)
  have a2 : wr P 34 j' v 34 (17 + q) = P 34 (17 + q) := wr_ne (Or.inr h2)
  have a3 : wr P 34 j' v 32 q = P 32 q := wr_ne (Or.inl (by decide))
  have a4 : wr P 34 j' v 33 q = P 33 q := wr_ne (Or.inl (by decide))
  funext j
  unfold rW
  rw [a1, a2, a3, a4]
theorem rW_3 (P : Mem) (w : Nat) (v : Int32) (j : Nat) (hj : j < 4) : upd (rW P w) 3 v j = rW (wr P 34 (17 + w) v) w j := by
  have a1 : wr P 34 (17 + w) v 34 (7 + w) = P 34 (7 + w) := wr_ne (Or.inr (by omega))
  have a2 : wr P 34 (17 + w) v 34 (17 + w) = v := wr_eq
  have a3 : wr P 34 (17 + w) v 32 w = P 32 w := wr_ne (Or.inl (by decide))
  have a4 : wr P 34 (17 + w) v 33 w = P 33 w := wr_ne (Or.inl (by decide))
  unfold rW upd
  rw [a1, a2, a3, a4]
  rcases (show j = 0 ∨ j = 1 ∨ j = 2 ∨ j = 3 by omega) with rfl | rfl | rfl | rfl <;> rfl
theorem rW_1 (P : Mem) (w : Nat) (v : Int32) (j : Nat) (hj : j < 4) : upd (rW P w) 1 v j = rW (wr P 34 (7 + w) v) w j := by
  have a1 : wr P 34 (7 + w) v 34 (17 + w) = P 34 (17 + w) := wr_ne (Or.inr (by omega))
  have a2 : wr P 34 (7 + w) v 34 (7 + w) = v := wr_eq
  have a3 : wr P 34 (7 + w) v 32 w = P 32 w := wr_ne (Or.inl (by decide))
  have a4 : wr P 34 (7 + w) v 33 w = P 33 w := wr_ne (Or.inl (by decide))
  unfold rW upd
  rw [a1, a2, a3, a4]
  rcases (show j = 0 ∨ j = 1 ∨ j = 2 ∨ j = 3 by omega) with rfl | rfl | rfl | rfl <;> rfl
/-! a write, told as another state -/
section SMW
variable {g : GT} {D D' : DM} {ad : Nat → Nat} {P : Mem} {c : Nat → Int32} {mk : List Nat}
theorem SM.w3 (h : SM g D ad P c mk) {w : Nat} (hw : w < mWs P) (hs : ∀ i, i ∈ mk → 20 ≤ i) {v : Int32} (o : Ot D D' (ad (10 + w))) (r : IA g D' (ad (10 + w)) 4 (upd (rW P w) 3 v)) : SM g D' ad (wr P 34 (17 + w) v) c mk := by
  have hn := h.n
  have h1 := (h.mask (mk' := (10 + w) :: mk) (fun i hi => List.mem_cons_of_mem _ hi)).otm o (su_w hw) List.mem_cons_self
  refine (h1.cong (P' := wr P 34 (17 + w) v) (c' := c) ⟨rfl, rfl⟩ (fun _ j hj => wr_ne (by omega)) (fun _ s _ => rfl) (fun _ _ _ => rfl) (fun _ e he => wr_ne (by omega)) (fun q hq hm j hj => ?_) (fun k hk _ => ⟨wr_ne (by omega), wr_ne (by omega), wr_ne (by omega), wr_ne (by omega)⟩)).putW (w := w) (r.ext (fun j hj => ?_)) (fun i hi => (List.mem_cons.mp hi).elim Or.inl Or.inr) hw
  · have hqw : q ≠ w := fun z => hm (by rw [z]; exact List.mem_cons_self)
    rw [rW_ne (by omega) (by omega)]
  · exact rW_3 P w v j hj
theorem SM.w1 (h : SM g D ad P c mk) {w : Nat} (hw : w < mWs P) (hs : ∀ i, i ∈ mk → 20 ≤ i) {v : Int32} (o : Ot D D' (ad (10 + w))) (r : IA g D' (ad (10 + w)) 4 (upd (rW P w) 1 v)) : SM g D' ad (wr P 34 (7 + w) v) c mk := by
  have hn := h.n
  have h1 := (h.mask (mk' := (10 + w) :: mk) (fun i hi => List.mem_cons_of_mem _ hi)).otm o (su_w hw) List.mem_cons_self
  refine (h1.cong (P' := wr P 34 (7 + w) v) (c' := c) ⟨rfl, rfl⟩ (fun _ j hj => wr_ne (by omega)) (fun _ s _ => rfl) (fun _ _ _ => rfl) (fun _ e he => wr_ne (by omega)) (fun q hq hm j hj => ?_) (fun k hk _ => ⟨wr_ne (by omega), wr_ne (by omega), wr_ne (by omega), wr_ne (by omega)⟩)).putW (w := w) (r.ext (fun j hj => ?_)) (fun i hi => (List.mem_cons.mp hi).elim Or.inl Or.inr) hw
  · have hqw : q ≠ w := fun z => hm (by rw [z]; exact List.mem_cons_self)
    rw [rW_ne (by omega) (by omega)]
  · exact rW_1 P w v j hj
/-- the object's own numbers: beat, overlaps, lost -/
theorem SM.o (h : SM g D ad P c []) {j : Nat} (hj : j < 3) {v : Int32} (o : Ot D D' (ad 0)) (r : OB D' (ad 0) 2 ([.ref (ad 1), .ref (ad 2), .ref (ad 3), .ref (ad 4), .ref (ad 5), .int (P 34 0), .int (P 34 1), .int (P 34 2)].set (5 + j) (.int v))) : SM g D' ad (wr P 34 j v) c [] := by
  have hn := h.n
  have h1 := (h.mask (mk' := [0]) (fun i hi => absurd hi List.not_mem_nil)).otm o (su_c (by omega)) List.mem_cons_self
  refine (h1.cong (P' := wr P 34 j v) (c' := c) ⟨rfl, rfl⟩ (fun z => absurd List.mem_cons_self z) (fun _ s _ => rfl) (fun _ _ _ => rfl) (fun _ e he => wr_ne (by omega)) (fun q hq hm i hi => ?_) (fun k hk _ => ⟨wr_ne (by omega), wr_ne (by omega), wr_ne (by omega), wr_ne (by omega)⟩)).put0 (mk' := []) ?_ (fun i hi => Or.inl (List.mem_singleton.mp hi))
  · rw [rW_ne (by omega) (by omega)]
  · rcases (show j = 0 ∨ j = 1 ∨ j = 2 by omega) with rfl | rfl | rfl <;> exact r
theorem SM.c4 (h : SM g D ad P c []) {c' : Nat → Int32} (o : Ot D D' (ad 4)) (r : IA g D' (ad 4) 2 c') : SM g D' ad P c' [] := by
  have h1 := (h.mask (mk' := [4]) (fun i hi => absurd hi List.not_mem_nil)).otm o (su_c (by omega)) List.mem_cons_self
  exact (h1.cong (P' := P) (c' := c') ⟨rfl, rfl⟩ (fun _ _ _ => rfl) (fun _ _ _ => rfl) (fun z => absurd List.mem_cons_self z) (fun _ _ _ => rfl) (fun _ _ _ _ _ => rfl) (fun _ _ _ => ⟨rfl, rfl, rfl, rfl⟩)).put4 (mk' := []) r (fun i hi => Or.inl (List.mem_singleton.mp hi))
theorem SM.c5 (h : SM g D ad P c []) {e : Nat} (he : e < 2) {v : Int32} (o : Ot D D' (ad 5)) (r : IA g D' (ad 5) 2 (upd (fun e => P 34 (5 + e)) e v)) : SM g D' ad (wr P 34 (5 + e) v) c [] := by
  have hn := h.n
  have h1 := (h.mask (mk' := [5]) (fun i hi => absurd hi List.not_mem_nil)).otm o (su_c (by omega)) List.mem_cons_self
  refine (h1.cong (P' := wr P 34 (5 + e) v) (c' := c) ⟨rfl, rfl⟩ (fun _ j hj => wr_ne (by omega)) (fun _ _ _ => rfl) (fun _ _ _ => rfl) (fun z => absurd List.mem_cons_self z) (fun q hq hm i hi => ?_) (fun k hk _ => ⟨wr_ne (by omega), wr_ne (by omega), wr_ne (by omega), wr_ne (by omega)⟩)).put5 (mk' := []) (r.ext (fun j hj => ?_)) (fun i hi => Or.inl (List.mem_singleton.mp hi))
  · rw [rW_ne (by omega) (by omega)]
  · rw [wr_ap]
    unfold upd
    by_cases c : j = e
    · rw [if_pos c, if_pos ⟨rfl, by omega⟩]
    · rw [if_neg c, if_neg (fun z => c (by omega))]
theorem SM.swap (h : SM g D ad P c mk) {P' : Mem} (e29 : P' 29 = P 29) (e : ∀ k j, 30 ≤ k → k ≤ 34 → j < 187 → (k ≠ 34 ∨ ¬ (3 ≤ j ∧ j < 5)) → P' k j = P k j) : SM g D ad P' c mk := by
  have hn := h.n
  refine h.cong ⟨by rw [e29], by rw [e29]⟩ (fun _ j hj => e _ _ (by omega) (by omega) (by omega) (by omega)) (fun _ s hs => e _ _ (by omega) (by omega) (by omega) (by omega)) (fun _ _ _ => rfl) (fun _ j hj => e _ _ (by omega) (by omega) (by omega) (by omega)) (fun q hq hm i hi => ?_) (fun k hk _ => ⟨e _ _ (by omega) (by omega) (by omega) (by omega), e _ _ (by omega) (by omega) (by omega) (by omega), e _ _ (by omega) (by omega) (by omega) (by omega), e _ _ (by omega) (by omega) (by omega) (by omega)⟩)
  unfold rW
  rw [e 32 q (by omega) (by omega) (by omega) (by omega), e 34 _ (by omega) (by omega) (by omega) (by omega), e 33 q (by omega) (by omega) (by omega) (by omega), e 34 _ (by omega) (by omega) (by omega) (by omega)]
end SMW
