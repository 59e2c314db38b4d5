/-! From the world of the start into the loop. -/
theorem fm_of {α β : Type} {f : α → Option β} : ∀ {l : List α} {r : List β}, l.map f = r.map some → l.filterMap f = r
  | [], [], _ => rfl
  | [], _ :: _, h => by simp at h
  | _ :: _, [], h => by simp at h
  | a :: l, b :: r, h => by
    simp only [List.map_cons, List.cons.injEq] at h
    rw [List.filterMap_cons_some h.1, fm_of h.2]
def KnX (U : State) : Prop := (∀ q ∈ strL, ∃ sa, vk_R q.1 q.2.1 q.2.2 sa U) ∧ (∀ q ∈ ncL, va_Nc q.1 q.2 U)
def KzX (B : Nat) (U : State) (H : Heap) : Prop := vx_Zq Bundle.tN "UNASSIGNED_STACK" Bundle.steD (fun q => B ≤ q) U H ∧ vx_Zq Bundle.tN "SUPPRESSED_SENTINEL" Bundle.listD (fun q => B ≤ q) U H
theorem start_gk {X : XT} {t : YT} {as : List Nat} {B : Nat} {l : Launch} {A : Nat → Prop} (hA : A = fun q => B ≤ q) (hB : B ≤ (xS X).heap.size) (C : Cy X t A l cL_law 9 RL (some .boolean) room_1) (h1 : KnX (xS X)) (h2 : KzX B (xS X) (xS X).heap) (hD : va_D A (wl (gS B t as) M0)) : Cx X (gS B t as) l cL_law 9 RL (some .boolean) room_1 := by
  subst hA
  obtain ⟨c1, c2, c3, c4, c5, c6, c7, c8, c9, c10⟩ := C
  exact ⟨c1, c2, c3, c4, ⟨c5.1, c5.2, h1.1, h1.2, fun j k hj hk e => hD.1 j k _ _ (wl_at _ M0 hj) (wl_at _ M0 hk) e, fun k hk => hD.2 k _ (wl_at _ M0 hk), Nat.le_refl 38, (by decide : 38 ≤ 39)⟩, ⟨hB, h2.1, h2.2⟩, c7, c8, c9, c10⟩
theorem start_loop {X : XT} {t : YT} {as : List Nat} {B b L kc ks : Nat} {l : Launch} {A : Nat → Prop} {xs : Nat → Int32} {ws : va_W} {lo : List (Nat × Value)} (hst : l.stackTraces = false) (hA : A = fun q => B ≤ q) (hB : B ≤ (xS X).heap.size) (C : Cy X t A l cL_law 9 RL (some .boolean) room_1) (h1 : KnX (xS X)) (h2 : KzX B (xS X) (xS X).heap) (hX : va_X b L xs (xS X) (xS X).heap) (hbl : b < (xS X).heap.size) (hbB : b < B) (hL : L ≤ 2048) (hk : kc ≤ 60 ∧ ks ≤ 2000)
    (hw : pS.map (fun i => ws[i]?) = (wl (gS B t as) M0).map some) (hlo : lo = loL (gS B t as) b (4 * 0))
    (E : ∀ g : GT, Cx X g l cL_law 9 RL (some .boolean) room_1 → (∀ q, gA g q → B ≤ q) → ∀ (M : Mem) (lo : List (Nat × Value)) (kc ks : Nat), kc ≤ 600 → ks ≤ 9000 → V X g kc ks 1855 lo [] M) : VE X t A ws kc ks 23 lo [] := by
  intro H locs ls h3 h4 h5 h6
  have p1 := h3.sub pS (fm_of hw)
  have p2 := h4.sub pS (by decide +kernel) hw
  have CC := start_gk hA hB C h1 h2 p2
  subst hA
  subst hlo
  have S : Sc X (gS B t as) b L xs := ⟨hX, hbl, fun z => absurd z (Nat.not_le.mpr hbB), hL⟩
  exact lo_loop hst CC S rfl hk (fun M j kc ks e1 e2 => E _ CC (fun q z => z) M _ kc ks e1 e2) 512 0 M0 (by omega) (by omega) inv_0 H locs ls p1 h5 h6
