/-! .. more rules, and Arrays.fill over a list. -/
section VEM
variable {X : XT} {t : YT} {A : Nat → Prop} {l : Launch} {cc : ByteArray} {mL : Nat} {own : String} {ret : Option FieldType} {rm : Room} {kc ks pc : Nat} {lo lo' : List (Nat × Value)} {st : List Value} {ws ws' : va_W}
theorem e_iload_n (C : Cy X t A l cc mL own ret rm) {n : Fin 4} {v : Int32} (d : decode cc pc = .ok (.iload_n n, 1)) (h : lk lo (n : Nat) = some (.int v)) (k : VE X t A ws kc ks (pc + 1) lo (.int v :: st)) : VE X t A ws kc ks pc lo st := fun H locs ls h1 h2 h3 h4 => lv_iload_n C.1 C.2.1 d rfl (lk_at h4 h) (k H locs ls h1 h2 h3 h4)
theorem e_istore_n (C : Cy X t A l cc mL own ret rm) {n : Fin 4} {v : Int32} (d : decode cc pc = .ok (.istore_n n, 1)) (hn : (n : Nat) < mL) (h : ((n : Nat), Value.int v) :: lo.filter (fun q => !(q.1 == (n : Nat)) && !(q.1 + 1 == (n : Nat) && q.2.category == 2)) = lo') (k : VE X t A ws kc ks (pc + 1) lo' st) : VE X t A ws kc ks pc lo (.int v :: st) := fun H locs ls h1 h2 h3 h4 => lv_istore_n C.1 C.2.1 d rfl h4 (by rw [C.2.2.1]; exact hn) h (fun ls' h5 => k H locs ls' h1 h2 h3 h5)
theorem e_astore_n (C : Cy X t A l cc mL own ret rm) {n : Fin 4} {v : Nat} (d : decode cc pc = .ok (.astore_n n, 1)) (hn : (n : Nat) < mL) (h : ((n : Nat), Value.ref v) :: lo.filter (fun q => !(q.1 == (n : Nat)) && !(q.1 + 1 == (n : Nat) && q.2.category == 2)) = lo') (k : VE X t A ws kc ks (pc + 1) lo' st) : VE X t A ws kc ks pc lo (.ref v :: st) := fun H locs ls h1 h2 h3 h4 => lv_astore_n C.1 C.2.1 d rfl h4 (by rw [C.2.2.1]; exact hn) h (fun ls' h5 => k H locs ls' h1 h2 h3 h5)
theorem e_istore (C : Cy X t A l cc mL own ret rm) {n : Nat} {v : Int32} (d : decode cc pc = .ok (.istore n, 2)) (hn : n < mL) (h : (n, Value.int v) :: lo.filter (fun q => !(q.1 == n) && !(q.1 + 1 == n && q.2.category == 2)) = lo') (k : VE X t A ws kc ks (pc + 2) lo' st) : VE X t A ws kc ks pc lo (.int v :: st) := fun H locs ls h1 h2 h3 h4 => lv_istore C.1 C.2.1 d h4 (by rw [C.2.2.1]; exact hn) h (fun ls' h5 => k H locs ls' h1 h2 h3 h5)
theorem e_iinc (C : Cy X t A l cc mL own ret rm) {n : Nat} {z : Int} {x v : Int32} (d : decode cc pc = .ok (.iinc n z, 3)) (hk : lk lo n = some (.int x)) (hv : x + Int32.ofInt z = v) (hn : n < mL) (h : (n, Value.int v) :: lo.filter (fun q => !(q.1 == n) && !(q.1 + 1 == n && q.2.category == 2)) = lo') (k : VE X t A ws kc ks (pc + 3) lo' st) : VE X t A ws kc ks pc lo st := fun H locs ls h1 h2 h3 h4 => by
  obtain ⟨j, hj⟩ := lk_idx hk
  exact lv_iinc C.1 C.2.1 d h4 hj hv (by rw [C.2.2.1]; exact hn) h (fun ls' h5 => k H locs ls' h1 h2 h3 h5)
theorem e_goto (C : Cy X t A l cc mL own ret rm) {off : Int} {tgt : Nat} (d : decode cc pc = .ok (.goto off, 3)) (ht : (pc : Int) + off = (tgt : Int)) (k : VE X t A ws kc ks tgt lo st) : VE X t A ws kc ks pc lo st := fun H locs ls h1 h2 h3 h4 => lv_goto C.1 C.2.1 d ht (k H locs ls h1 h2 h3 h4)
theorem e_icmp_ge (C : Cy X t A l cc mL own ret rm) {x y : Int32} {off : Int} {tgt : Nat} (d : decode cc pc = .ok (.if_icmp .ge off, 3)) (ht : (pc : Int) + off = (tgt : Int)) (kt : x ≥ y → VE X t A ws kc ks tgt lo st) (kf : ¬ (x ≥ y) → VE X t A ws kc ks (pc + 3) lo st) : VE X t A ws kc ks pc lo (.int y :: .int x :: st) := fun H locs ls h1 h2 h3 h4 => lv_icmp_ge C.1 C.2.1 d ht (fun c => kt c H locs ls h1 h2 h3 h4) (fun c => kf c H locs ls h1 h2 h3 h4)
theorem e_lsub (ks' : List Nat) (hl : lv_pick lo ks' = lo') (k : VE X t A ws kc ks pc lo' st) : VE X t A ws kc ks pc lo st := fun H locs ls h1 h2 h3 h4 => k H locs ls h1 h2 h3 (lv_sub h4 ks' hl)
theorem e_alen (C : Cy X t A l cc mL own ret rm) (k : Nat) {a N : Nat} {f : Nat → Int32} (hat : ws[k]? = some (a, .inl (t.2.1, N, .inl f))) (d : decode cc pc = .ok (.arraylength, 1)) (kk : VE X t A ws kc ks (pc + 1) lo (.int (nI N) :: st)) : VE X t A ws kc ks pc lo (.ref a :: st) := fun H locs ls h1 h2 h3 h4 => va_alen C.1 C.2.1 C.2.2.2.2.1.2 h1 k 0 hat rfl rfl d (kk H locs ls h1 h2 h3 h4)
theorem e_iast (C : Cy X t A l cc mL own ret rm) (k : Nat) {a N j : Nat} {i v : Int32} {f : Nat → Int32} (hat : ws[k]? = some (a, .inl (t.2.1, N, .inl f))) (hi : i = nI j) (hj : j < N) (hN : N < 1000) (d : decode cc pc = .ok (.iastore, 1)) (kk : VE X t A (ws.set k (a, .inl (t.2.1, N, .inl (upd f j v)))) kc ks (pc + 1) lo st) : VE X t A ws kc ks pc lo (.int v :: .int i :: .ref a :: st) := by
  intro H locs ls h1 h2 h3 h4
  subst hi
  refine va_iast C.1 C.2.1 C.2.2.2.2.1.2 h1 h2 h3 k 0 hat rfl (vp_in_nI hj (by omega)) d (fun H1 locs1 p1 p2 p3 => ?_)
  rw [nI_clamp (by omega)] at p1 p2
  exact kk H1 locs1 ls p1 p2 p3 h4
theorem e_getF (C : Cy X t A l cc mL own ret rm) (k : Nat) {idx ci j a : Nat} {v : Value} {fs : List Value} (hf : FL own idx ci j) (hat : ws[k]? = some (a, .inr (ci, fs))) (hv : fs[j]? = some v) (d : decode cc pc = .ok (.getfield idx, 3)) (kk : VE X t A ws kc ks (pc + 3) lo (v :: st)) : VE X t A ws kc ks pc lo (.ref a :: st) := by
  intro H locs ls h1 h2 h3 h4
  obtain ⟨Cn, T, N, hc, hj, hT, hl⟩ := hf
  have hts : ∀ w ∈ u_ws Cn T N, w.before (xA X) (xS X) = true := fun w hw => C.wm (hc.2.2.2.2 w hw).1 (hc.2.2.2.2 w hw).2
  have hs : ∀ x, (xS X).fieldFound? (T j).1 (T j).2.1 (T j).2.2.1 = some x → (xS X).fieldFound? Cn (T j).2.1 (T j).2.2.1 = some x := fun x hx => by rw [hT] at hx; exact hx
  rcases hl with ⟨i, hl⟩ | ⟨i, h, hl⟩
  · exact va_get C.1 C.2.1 hts (fun _ h => h) C.2.2.2.1 C.2.2.2.2.1.2 h1 k hat hc.1 j hj (C.w hl rfl) hs hv d (kk H locs ls h1 h2 h3 h4)
  · exact va_getN C.1 C.2.1 hts (fun _ h => h) C.2.2.2.1 C.2.2.2.2.1.2 h1 k hat hc.1 j hj (C.w hl rfl) hs hv d (kk H locs ls h1 h2 h3 h4)
end VEM
theorem cpn_0 (f h : Nat → Int32) : cpn f h 0 = h := by
  funext j
  unfold cpn
  rw [if_neg (by omega)]
theorem cpn_s (v : Int32) (h : Nat → Int32) (i : Nat) : upd (cpn (fun _ => v) h i) i v = cpn (fun _ => v) h (i + 1) := by
  funext j
  unfold upd cpn
  by_cases c : j = i
  · rw [if_pos c, if_pos (by omega)]
  · rw [if_neg c]
    by_cases c2 : j < i
    · rw [if_pos c2, if_pos (by omega)]
    · rw [if_neg c2, if_neg (by omega)]
abbrev rmY_fill : Room := { frames := 0, cells := 0, slots := 0, locals := 0 }
def fillR (t : YT) (a : Nat) (v : Int32) (f : Nat → Int32) (ws : va_W) : Prop := ws = [(a, .inl (t.2.1, 32, .inl (cpn (fun _ => v) f 32)))]
theorem qy_fill_lp {X : XT} {t : YT} {l : Launch} {A : Nat → Prop} {a sz : Nat} {v : Int32} {f : Nat → Int32} {ws0 : va_W} (hA : A = va_A ws0 sz) (C : Cy X t A l cJ7_fill_53178 4 RJ7 none rmY_fill) (hq : RtY X t ws0 sz rmY_fill (fillR t a v f)) : ∀ (n i : Nat), i ≤ 32 → 33 ≤ i + n → VE X t A [(a, .inl (t.2.1, 32, .inl (cpn (fun _ => v) f i)))] 0 0 5 [(2, .int (nI i)), (3, .int (nI 32)), (0, .ref a), (1, .int v)] [] := by
  intro n
  induction n with
  | zero => intro i h1 h2; omega
  | succ n ih =>
    intro i h1 h2
    refine e_iload_n C dJ7_fill_53178_5 rfl ?_
    refine e_iload_n C dJ7_fill_53178_6 rfl ?_
    refine e_icmp_ge C (tgt := 20) dJ7_fill_53178_7 (by decide) (fun c => ?_) (fun c => ?_)
    · have hi : i = 32 := by
        have := (nI_leI (a := 32) (b := i) (by omega) (by omega)).mp c
        omega
      subst hi
      subst hA
      exact e_vret C hq ⟨by decide, by decide⟩ dJ7_fill_53178_20 rfl
    · have hi : i < 32 := by
        have hne : ¬ 32 ≤ i := fun z => c ((nI_leI (a := 32) (b := i) (by omega) (by omega)).mpr z)
        omega
      refine e_aload_n C dJ7_fill_53178_10 rfl ?_
      refine e_iload_n C dJ7_fill_53178_11 rfl ?_
      refine e_iload_n C dJ7_fill_53178_12 rfl ?_
      refine e_iast C 0 rfl rfl hi (by decide) dJ7_fill_53178_13 ?_
      refine e_ws (ws' := [(a, .inl (t.2.1, 32, .inl (cpn (fun _ => v) f (i + 1))))]) (by rw [cpn_s]; rfl) ?_
      refine e_iinc C (v := nI (i + 1)) (lo' := [(2, _), (3, _), (0, _), (1, _)]) dJ7_fill_53178_14 rfl (nI_inc _) (by decide) rfl ?_
      refine e_goto C (tgt := 5) dJ7_fill_53178_17 (by decide) ?_
      exact ih (i + 1) (by omega) (by omega)
theorem qy_fill (l : Launch) (t : YT) (a sz : Nat) (v : Int32) (f : Nat → Int32) : CMY l yJ7_fill_53178 cJ7_fill_53178 4 rmY_fill t [(a, .inl (t.2.1, 32, .inl f))] sz [.ref a, .int v] (fillR t a v f) := by
  refine CMY.of (by decide) (Nat.le_of_ble_eq_true rfl) (fun X C hin hq => ?_)
  have C : Cy X t (va_A [(a, .inl (t.2.1, 32, .inl f))] sz) l cJ7_fill_53178 4 RJ7 none rmY_fill := C
  show VE X t (va_A [(a, .inl (t.2.1, 32, .inl f))] sz) [(a, .inl (t.2.1, 32, .inl f))] 0 0 0 [(0, .ref a), (1, .int v)] []
  refine e_iconst C (v := 0) dJ7_fill_53178_0 (by decide) ?_
  refine e_istore_n C (lo' := [(2, _), (0, _), (1, _)]) dJ7_fill_53178_1 (by decide) rfl ?_
  refine e_aload_n C dJ7_fill_53178_2 rfl ?_
  refine e_alen C 0 rfl dJ7_fill_53178_3 ?_
  refine e_istore_n C (lo' := [(3, _), (2, _), (0, _), (1, _)]) dJ7_fill_53178_4 (by decide) rfl ?_
  refine e_ws (ws' := [(a, .inl (t.2.1, 32, .inl (cpn (fun _ => v) f 0)))]) (by rw [cpn_0]) ?_
  exact e_lsub [1, 0, 2, 3] rfl (qy_fill_lp rfl C hq 33 0 (by decide) (by decide))
