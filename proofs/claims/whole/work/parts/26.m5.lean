/-! The model's checksum, walked. -/
abbrev rmX2_digest : Room := { frames := 6, cells := 1, slots := 8, locals := 142 }
/-- a new row of eight ints: cell 38 of a larger world -/
def gT (g : GT) (q : Nat) : GT := (gB g, gD g, (gI g, gZ g, gJ g), (fun k => if k = 38 then q else ga g k), 39)
theorem gT_ga (g : GT) (q : Nat) {k : Nat} (h : k < 38) : ga (gT g q) k = ga g k := by
  show (if k = 38 then q else ga g k) = _
  rw [if_neg (by omega)]
def oLt (o : Option Nat) : Bool := match o with
  | some t => Nat.blt t 38
  | none => true
theorem xrow_lt (k : Nat) : ∀ t, some t ∈ xrow k → t < 38 := by
  have h : (xrow k).all oLt = true := by
    unfold xrow
    split <;> rfl
  intro t ht
  exact Nat.le_of_ble_eq_true (List.all_eq_true.mp h _ ht)
theorem xfl_ga {a a' : Nat → Nat} (c : Nat → Int32) (h : ∀ t, t < 38 → a t = a' t) : ∀ (r : List (Option Nat)) (j : Nat), (∀ t, some t ∈ r → t < 38) → xfl a c r j = xfl a' c r j
  | [], _, _ => rfl
  | some t :: r, j, hr => by
    show Value.ref (a t) :: _ = Value.ref (a' t) :: _
    rw [h t (hr t List.mem_cons_self), xfl_ga c h r (j + 1) (fun t' ht => hr t' (List.mem_cons_of_mem _ ht))]
  | none :: r, j, hr => by
    show Value.int (c j) :: _ = Value.int (c j) :: _
    rw [xfl_ga c h r (j + 1) (fun t' ht => hr t' (List.mem_cons_of_mem _ ht))]
theorem xe_gT (g : GT) (q : Nat) (c : Nat → Int32) (k : Nat) : xe (gT g q) c k = xe g c k := by
  unfold xe
  rw [xfl_ga (a := ga (gT g q)) (a' := ga g) c (fun t ht => gT_ga g q ht) (xrow k) 0 (xrow_lt k)]
  rfl
theorem wl_gT (g : GT) (q : Nat) (hg : gn g = 38) (M : Mem) (c : Nat → Int32) : wl (gT g q) (wrc M 38 c) = wl g M ++ [(q, .inl (gI g, 8, .inl c))] := by
  unfold wl
  rw [show gn (gT g q) = 38 + 1 from rfl, hg, List.range_succ, List.map_append]
  have e1 : (List.range 38).map (fun k => (ga (gT g q) k, xe (gT g q) (wrc M 38 c k) k)) = (List.range 38).map (fun k => (ga g k, xe g (M k) k)) := by
    refine List.map_congr_left (fun k hk => ?_)
    have hk := List.mem_range.mp hk
    rw [gT_ga g q hk, xe_gT]
    unfold wrc
    rw [if_neg (by omega)]
  have e2 : (ga (gT g q) 38, xe (gT g q) (wrc M 38 c 38) 38) = (q, (.inl (gI g, 8, .inl c) : va_E)) := by
    rw [xe_gT, xe_I g _ (k := 38) rfl]
    rfl
  rw [e1, List.map_singleton, e2]
theorem Hd_gT {g : GT} {q : Nat} (hg : gn g = 38) {M : Mem} {H : Heap} (h : Hd (gT g q) M H) : Hd g M H := by
  intro k p hp
  have hk : k < 38 := by rw [← hg, ← wl_len g M]; exact (List.getElem?_eq_some_iff.mp hp).1
  rw [wl_at g M (by omega)] at hp
  cases hp
  have := h k (ga (gT g q) k, xe (gT g q) (M k) k) (wl_at (gT g q) M (show k < 39 by omega))
  rw [gT_ga g q hk, xe_gT] at this
  exact this
theorem GK_gT {g : GT} {U : State} {q : Nat} (hg : gn g = 38) (h : GK g U) (hq : gB g ≤ q) (hn : ∀ k, k < 38 → ga g k ≠ q) : GK (gT g q) U := by
  obtain ⟨h1, h2, h3, h4, h5, h6, -⟩ := h
  refine ⟨h1, h2, h3, h4, fun j k hj hk e => ?_, fun k hk => ?_, (by decide : 38 ≤ 39), Nat.le_refl 39⟩
  · have hj : j < 39 := hj
    have hk : k < 39 := hk
    have e : (if j = 38 then q else ga g j) = (if k = 38 then q else ga g k) := e
    by_cases a : j = 38 <;> by_cases b : k = 38
    · omega
    · rw [if_pos a, if_neg b] at e; exact absurd e.symm (hn k (by omega))
    · rw [if_neg a, if_pos b] at e; exact absurd e (hn j (by omega))
    · rw [if_neg a, if_neg b] at e; exact h5 j k (by omega) (by omega) e
  · have hk : k < 39 := hk
    show gB g ≤ (if k = 38 then q else ga g k)
    split
    · exact hq
    · exact h6 k (by omega)
section NEWT
variable {X : XT} {g : GT} {l : Launch} {cc : ByteArray} {mL : Nat} {own : String} {ret : Option FieldType} {rm : Room} {kc ks pc : Nat} {lo : List (Nat × Value)} {st : List Value} {M M' : Mem} {res : Option Value}
theorem x_newT (C : Cx X g l cc mL own ret rm) (hg : gn g = 38) (hR : kc + 1 ≤ rm.cells ∧ ks + 8 ≤ rm.slots) (d : decode cc pc = .ok (.newarray .int, 2))
    (kk : ∀ q : Nat, Cx X (gT g q) l cc mL own ret rm → V X (gT g q) (kc + 1) (ks + 8) (pc + 2) [(0, .ref (ga (gT g q) 29))] [.ref (ga (gT g q) 38)] (wrc M 38 (fun _ => 0))) : V X g kc ks pc [(0, .ref (ga g 29))] [.int 8] M := by
  intro H locs ls h1 h2 h3
  have hK := C.2.2.2.2.1
  have hR' : xR X = rm := C.2.2.2.2.2.2.2.2.1
  have hb0 : gB g ≤ (xS X).heap.size := C.2.2.2.2.2.1.1
  have w1 : (Cond.arrayClass .int) ∈ lw_tbl := by decide +kernel
  refine va_newaK C.1 C.2.1 (atype := .int) (C.wm w1 rfl) rfl d rfl (N := 8) (by decide) (by decide) (by decide) (by rw [hR']; exact hR.1) (by rw [hR']; exact hR.2) rfl (fun H1 cA e1 z1 o1 hAr hNm => ?_)
  have hcA : cA = gI g := by
    have q2 := (hK.2.1.2 0 _ (show (gty g)[0]? = some (gI g, .int) from rfl)).2
    have q3 : (xS X).vm.findClass ("[" ++ (FieldType.int).toString) = some (gI g) := q2
    have q4 : (xS X).vm.findClass ("[" ++ (FieldType.int).toString) = some cA := hNm
    exact Option.some.inj (q4.symm.trans q3)
  subst hcA
  have hlt : ∀ k, k < 38 → ga g k < H.size := fun k hk => (h1 k _ (wl_at g M (by omega))).lt
  have C' : Cx X (gT g H.size) l cc mL own ret rm := ⟨C.1, C.2.1, C.2.2.1, C.2.2.2.1, GK_gT hg hK (Nat.le_trans hb0 h2.1) (fun k hk => Nat.ne_of_lt (hlt k hk)), C.2.2.2.2.2⟩
  have hP : Hd (gT g H.size) (wrc M 38 (fun _ => 0)) H1 := by
    unfold Hd
    rw [wl_gT g H.size hg]
    refine va_P.app (va_P.kept h1 (fun k p hp => o1 p.1 (h1 k p hp).lt)) (fun k p hp => ?_)
    have hz : k < 1 := (List.getElem?_eq_some_iff.mp hp).1
    rw [show k = 0 by omega] at hp
    cases hp
    show H1[H.size]? = some (vp_cell _ _)
    rw [e1]
    rfl
  have h2' : va_S (gA (gT g H.size)) (xS X).heap H1 locs := ⟨Nat.le_trans h2.1 (by omega), fun x a b => (o1 x (Nat.lt_of_lt_of_le a h2.1)).trans (h2.2.1 x a b), h2.2.2⟩
  have k := kk H.size C' H1 locs ls hP h2' (by rw [gT_ga g H.size (by decide)]; exact h3)
  rw [show ga (gT g H.size) 38 = H.size from rfl] at k
  exact k
theorem x_lretT {q : Nat} (hg : gn g = 38) (C : Cx X (gT g q) l cc mL own (some .long) rm) (hq : Rt X g rm res M') {v : Int64} (hk : kc ≤ rm.cells ∧ ks ≤ rm.slots) (d : decode cc pc = .ok (.lreturn, 1)) (hres : res = some (.long v)) (hm : M' = M) : V X (gT g q) kc ks pc lo [.long v] M := by
  intro H locs ls h1 h2 h3
  show W _ _ _ _ _ _ _ _ _ _ _ _ _ _ (xQ X) _
  rw [show xQ X = _ from hq]
  have h2' : va_S (gA g) (xS X).heap H locs := h2
  exact W.widen hk.1 hk.2 (W.lret C.1 C.2.1 C.2.2.2.2.2.2.2.1 (x_endG (Hd_gT hg h1) h2' hres hm) (fun q hq => h2'.2.2 q hq) d C.2.2.2.2.2.2.1)
end NEWT
/-! the checksum as a function -/
def mx (d : Int64) (x : Int32) : Int64 := d * 31 + x.toInt64
def mDA (c : Nat → Int32) : Nat → Int64
  | 0 => 2309
  | i + 1 => mx (mDA c i) (c i)
def mErn (M : Mem) (e : Nat) : Int32 := mBeats (mKeep M) (tn 20) 34 (3 + e) - mBack (mBeats (mKeep M) (tn 20)) 34 (3 + e)
def mEM (M : Mem) : Nat → Mem
  | 0 => M
  | e + 1 => mBack (mBeats (mKeep (mEM M e)) (tn 20))
def mDB (d : Int64) (M : Mem) : Nat → Int64
  | 0 => d
  | e + 1 => mx (mx (mx (mx (mDB d M e) (mEM M e 34 (3 + e))) (mWO (mEM M e) (nI e))) (mEM M e 34 (5 + e))) (mErn (mEM M e) e)
def mDC (d : Int64) (M : Mem) : Nat → Int64
  | 0 => d
  | w + 1 => mx (mx (mx (mDC d M w) (M 32 w)) (M 34 (7 + w))) (M 34 (17 + w))
def mDD (d : Int64) (M : Mem) : Nat → Int64
  | 0 => d
  | k + 1 => mx (mx (mx (mx (mDD d M k) (M 34 (27 + k))) (mPl M k)) (b2i (mRt M k))) (M 34 (147 + k))
def mDE (d : Int64) (M : Mem) : Nat → Int64
  | 0 => d
  | s + 1 => mx (mx (mx (mDE d M s) (M 30 s)) (mLA M (nI s))) (mNx M 1 34 (nI s + 1))
theorem mEM_ok {M : Mem} (h : mOK M) : ∀ e, mOK (mEM M e) ∧ mEM M e 29 = M 29
  | 0 => ⟨h, rfl⟩
  | e + 1 => by
    obtain ⟨a1, a2⟩ := mEM_ok h e
    exact ⟨mLook_ok a1 (tn 20), (mLook_cell (mEM M e) (tn 20) ⟨by decide, by decide, by decide⟩).trans a2⟩
set_option maxHeartbeats 1000000 in
set_option maxRecDepth 100000 in
theorem q2_dig_E {X : XT} {l : Launch} {g : GT} {M : Mem} {d0 : Int64} {q : Nat} (h : mOK M) (hg : gn g = 38) (C : Cx X (gT g q) l cX2_digest 8 RX2 (some .long) rmX2_digest) (hq : Rt X g rmX2_digest (some (.long (mDE d0 M 32))) M) : ∀ (n i : Nat), i ≤ 32 → 32 + 1 ≤ i + n → V X (gT g q) 1 8 347 [(4, .int (nI i)), (2, .long (mDE d0 M i)), (0, .ref (ga (gT g q) 29))] [] M := by
  intro n
  induction n with
  | zero =>
    intro i h1 h2; omega
  | succ n ih =>
    intro i h1 h2
    refine x_iload C dX2_digest_347 rfl ?_
    refine x_bipush C (v := 32) dX2_digest_349 (by decide) ?_
    refine x_icmp_ge C (tgt := 400) dX2_digest_351 (by decide) (fun c351 => ?_) (fun c351 => ?_)
    · have he : i = 32 := by
        have z := (nI_leI (a := 32) (b := i) (by decide) (by omega)).mp c351
        omega
      subst he
      refine x_lload_n C dX2_digest_400 rfl ?_
      exact x_lretT hg C hq ⟨by decide, by decide⟩ dX2_digest_401 (rfl) (rfl)
    · have hlt : i < 32 := Nat.lt_of_not_le (fun z => c351 (nI_le (a := 32) z (by omega)))
      have hi : 0 ≤ nI i ∧ nI i ≤ 31 := ⟨nI_pos' (by omega), nI_le (b := 31) (by omega) (by decide)⟩
      refine x_lload_n C dX2_digest_354 rfl ?_
      refine x_ldc2 C dX2_digest_355 ll_X2_160 ?_
      refine x_lmul C dX2_digest_358 ?_
      refine x_aload_n C dX2_digest_359 rfl ?_
      refine x_getR C fl_X2_9 rfl (by decide) rfl dX2_digest_360 ?_
      refine x_iload C dX2_digest_363 rfl ?_
      refine x_iald C (n := 32) rfl (by decide) rfl (rfl) ((by omega : i < 32)) dX2_digest_365 ?_
      refine x_i2l C dX2_digest_366 ?_
      refine x_ladd C dX2_digest_367 ?_
      refine x_ldc2 C dX2_digest_368 ll_X2_160 ?_
      refine x_lmul C dX2_digest_371 ?_
      refine x_aload_n C dX2_digest_372 rfl ?_
      refine x_iload C dX2_digest_373 rfl ?_
      refine x_callV0r C (q2_loudAt l (gT g q) _ h (nI i)) cd_X2_loudAt kl_X2_115 ci2 rfl (by decide) (as := [_]) rfl rfl ⟨⟨by decide, by decide⟩, by decide, by decide⟩ ⟨rfl, rfl⟩ (Nat.le_of_ble_eq_true rfl) dX2_digest_375 ?_
      refine x_i2l C dX2_digest_378 ?_
      refine x_ladd C dX2_digest_379 ?_
      refine x_ldc2 C dX2_digest_380 ll_X2_160 ?_
      refine x_lmul C dX2_digest_383 ?_
      refine x_aload_n C dX2_digest_384 rfl ?_
      refine x_iload C dX2_digest_385 rfl ?_
      refine x_iconst C (v := 1) dX2_digest_387 (by decide) ?_
      refine x_callV0r C (q2_next l (gT g q) _ h (nI i) 1 hi (Or.inl rfl)) cd_X2_next kl_X2_130 ci2 rfl (by decide) (as := [_, _]) rfl rfl ⟨⟨by decide, by decide⟩, by decide, by decide⟩ ⟨rfl, rfl⟩ (Nat.le_of_ble_eq_true rfl) dX2_digest_388 ?_
      refine x_i2l C dX2_digest_391 ?_
      refine x_ladd C dX2_digest_392 ?_
      refine x_lstore_n C (lo' := [(2, _), (4, _), (0, _)]) dX2_digest_393 (by decide) rfl ?_
      refine x_iinc C (v := nI (i + 1)) (lo' := [(4, _), (2, _), (0, _)]) dX2_digest_394 rfl (nI_inc _) (by decide) rfl ?_
      refine x_goto C (tgt := 347) dX2_digest_397 (by decide) ?_
      exact x_lsub [0, 1, 2] rfl (ih (i + 1) hlt (by omega))
set_option maxHeartbeats 1000000 in
set_option maxRecDepth 100000 in
theorem q2_dig_D {X : XT} {l : Launch} {g : GT} {M : Mem} {d0 : Int64} {q : Nat} (h : mOK M) (hg : gn g = 38) (C : Cx X (gT g q) l cX2_digest 8 RX2 (some .long) rmX2_digest) (hq : Rt X g rmX2_digest (some (.long (mDE (mDD d0 M (mSh M)) M 32))) M) : ∀ (n i : Nat), i ≤ mSh M → mSh M + 1 ≤ i + n → V X (gT g q) 1 8 262 [(4, .int (nI i)), (2, .long (mDD d0 M i)), (0, .ref (ga (gT g q) 29))] [] M := by
  intro n
  induction n with
  | zero =>
    intro i h1 h2; omega
  | succ n ih =>
    intro i h1 h2
    have hsh := h.sh
    refine x_iload C dX2_digest_262 rfl ?_
    refine x_aload_n C dX2_digest_264 rfl ?_
    refine x_getI C fl_X2_43 rfl (by decide) rfl dX2_digest_265 ?_
    refine x_icmp_ge C (tgt := 344) dX2_digest_268 (by decide) (fun c268 => ?_) (fun c268 => ?_)
    · have he : i = mSh M := Nat.le_antisymm h1 ((ge_tn h.2.1.1 (by omega)).mp c268)
      subst he
      refine x_iconst C (v := 0) dX2_digest_344 (by decide) ?_
      refine x_istore C (lo' := [(4, _), (2, _), (0, _)]) dX2_digest_345 (by decide) rfl ?_
      exact x_lsub [0, 1, 2] rfl (q2_dig_E h hg C hq 33 0 (by decide) (by decide))
    · have hlt : i < mSh M := lt_of_nge h.2.1.1 (by omega) c268
      refine x_lload_n C dX2_digest_271 rfl ?_
      refine x_ldc2 C dX2_digest_272 ll_X2_160 ?_
      refine x_lmul C dX2_digest_275 ?_
      refine x_aload_n C dX2_digest_276 rfl ?_
      refine x_getR C fl_X2_22 rfl (by decide) rfl dX2_digest_277 ?_
      refine x_bipush C (v := 27) dX2_digest_280 (by decide) ?_
      refine x_iload C dX2_digest_282 rfl ?_
      refine x_iadd C dX2_digest_284 ?_
      refine x_iald C (n := 187) rfl (by decide) rfl (nI_add 27 i) ((by omega : 27 + i < 187)) dX2_digest_285 ?_
      refine x_i2l C dX2_digest_286 ?_
      refine x_ladd C dX2_digest_287 ?_
      refine x_ldc2 C dX2_digest_288 ll_X2_160 ?_
      refine x_lmul C dX2_digest_291 ?_
      refine x_aload_n C dX2_digest_292 rfl ?_
      refine x_iload C dX2_digest_293 rfl ?_
      refine x_callV0r C (q2_place l (gT g q) _ i (by omega)) cd_X2_place kl_X2_124 ci2 rfl (by decide) (as := [_]) rfl rfl ⟨⟨by decide, by decide⟩, by decide, by decide⟩ ⟨rfl, rfl⟩ (Nat.le_of_ble_eq_true rfl) dX2_digest_295 ?_
      refine x_i2l C dX2_digest_298 ?_
      refine x_ladd C dX2_digest_299 ?_
      refine x_ldc2 C dX2_digest_300 ll_X2_160 ?_
      refine x_lmul C dX2_digest_303 ?_
      refine x_aload_n C dX2_digest_304 rfl ?_
      refine x_iload C dX2_digest_305 rfl ?_
      refine x_callV0r C (q2_isRight l (gT g q) _ i (by omega)) cd_X2_isRight kl_X2_127 ci2 rfl (by decide) (as := [_]) rfl rfl ⟨⟨by decide, by decide⟩, by decide, by decide⟩ ⟨rfl, rfl⟩ (Nat.le_of_ble_eq_true rfl) dX2_digest_307 ?_
      refine x_bif_eq C (tgt := 317) dX2_digest_310 (by decide) (fun c310 => ?_) (fun c310 => ?_)
      · refine x_iconst C (v := 0) dX2_digest_317 (by decide) ?_
        refine x_i2l C dX2_digest_318 ?_
        refine x_ladd C dX2_digest_319 ?_
        refine x_ldc2 C dX2_digest_320 ll_X2_160 ?_
        refine x_lmul C dX2_digest_323 ?_
        refine x_aload_n C dX2_digest_324 rfl ?_
        refine x_getR C fl_X2_22 rfl (by decide) rfl dX2_digest_325 ?_
        refine x_sipush C (v := 147) dX2_digest_328 (by decide) ?_
        refine x_iload C dX2_digest_331 rfl ?_
        refine x_iadd C dX2_digest_333 ?_
        refine x_iald C (n := 187) rfl (by decide) rfl (nI_add 147 i) ((by omega : 147 + i < 187)) dX2_digest_334 ?_
        refine x_i2l C dX2_digest_335 ?_
        refine x_ladd C dX2_digest_336 ?_
        refine x_lstore_n C (lo' := [(2, _), (4, _), (0, _)]) dX2_digest_337 (by decide) rfl ?_
        refine x_iinc C (v := nI (i + 1)) (lo' := [(4, _), (2, _), (0, _)]) dX2_digest_338 rfl (nI_inc _) (by decide) rfl ?_
        refine x_goto C (tgt := 262) dX2_digest_341 (by decide) ?_
        first
          | (have e : mDD d0 M (i + 1) = mx (mx (mx (mx (mDD d0 M i) (M 34 (27 + i))) (mPl M i)) 1) (M 34 (147 + i)) := congrArg (fun z => mx (mx (mx (mx (mDD d0 M i) (M 34 (27 + i))) (mPl M i)) z) (M 34 (147 + i))) (b2i_t c310)
             have z := ih (i + 1) hlt (by omega)
             rw [e] at z
             exact x_lsub [0, 1, 2] rfl z)
          | (have e : mDD d0 M (i + 1) = mx (mx (mx (mx (mDD d0 M i) (M 34 (27 + i))) (mPl M i)) 0) (M 34 (147 + i)) := congrArg (fun z => mx (mx (mx (mx (mDD d0 M i) (M 34 (27 + i))) (mPl M i)) z) (M 34 (147 + i))) (b2i_f c310)
             have z := ih (i + 1) hlt (by omega)
             rw [e] at z
             exact x_lsub [0, 1, 2] rfl z)
      · refine x_iconst C (v := 1) dX2_digest_313 (by decide) ?_
        refine x_goto C (tgt := 318) dX2_digest_314 (by decide) ?_
        refine x_i2l C dX2_digest_318 ?_
        refine x_ladd C dX2_digest_319 ?_
        refine x_ldc2 C dX2_digest_320 ll_X2_160 ?_
        refine x_lmul C dX2_digest_323 ?_
        refine x_aload_n C dX2_digest_324 rfl ?_
        refine x_getR C fl_X2_22 rfl (by decide) rfl dX2_digest_325 ?_
        refine x_sipush C (v := 147) dX2_digest_328 (by decide) ?_
        refine x_iload C dX2_digest_331 rfl ?_
        refine x_iadd C dX2_digest_333 ?_
        refine x_iald C (n := 187) rfl (by decide) rfl (nI_add 147 i) ((by omega : 147 + i < 187)) dX2_digest_334 ?_
        refine x_i2l C dX2_digest_335 ?_
        refine x_ladd C dX2_digest_336 ?_
        refine x_lstore_n C (lo' := [(2, _), (4, _), (0, _)]) dX2_digest_337 (by decide) rfl ?_
        refine x_iinc C (v := nI (i + 1)) (lo' := [(4, _), (2, _), (0, _)]) dX2_digest_338 rfl (nI_inc _) (by decide) rfl ?_
        refine x_goto C (tgt := 262) dX2_digest_341 (by decide) ?_
        first
          | (have e : mDD d0 M (i + 1) = mx (mx (mx (mx (mDD d0 M i) (M 34 (27 + i))) (mPl M i)) 1) (M 34 (147 + i)) := congrArg (fun z => mx (mx (mx (mx (mDD d0 M i) (M 34 (27 + i))) (mPl M i)) z) (M 34 (147 + i))) (b2i_t c310)
             have z := ih (i + 1) hlt (by omega)
             rw [e] at z
             exact x_lsub [0, 1, 2] rfl z)
          | (have e : mDD d0 M (i + 1) = mx (mx (mx (mx (mDD d0 M i) (M 34 (27 + i))) (mPl M i)) 0) (M 34 (147 + i)) := congrArg (fun z => mx (mx (mx (mx (mDD d0 M i) (M 34 (27 + i))) (mPl M i)) z) (M 34 (147 + i))) (b2i_f c310)
             have z := ih (i + 1) hlt (by omega)
             rw [e] at z
             exact x_lsub [0, 1, 2] rfl z)
set_option maxHeartbeats 1000000 in
set_option maxRecDepth 100000 in
theorem q2_dig_C {X : XT} {l : Launch} {g : GT} {M : Mem} {d0 : Int64} {q : Nat} (h : mOK M) (hg : gn g = 38) (C : Cx X (gT g q) l cX2_digest 8 RX2 (some .long) rmX2_digest) (hq : Rt X g rmX2_digest (some (.long (mDE (mDD (mDC d0 M (mWs M)) M (mSh M)) M 32))) M) : ∀ (n i : Nat), i ≤ mWs M → mWs M + 1 ≤ i + n → V X (gT g q) 1 8 197 [(4, .int (nI i)), (2, .long (mDC d0 M i)), (0, .ref (ga (gT g q) 29))] [] M := by
  intro n
  induction n with
  | zero =>
    intro i h1 h2; omega
  | succ n ih =>
    intro i h1 h2
    have hws := h.ws
    refine x_iload C dX2_digest_197 rfl ?_
    refine x_aload_n C dX2_digest_199 rfl ?_
    refine x_getI C fl_X2_40 rfl (by decide) rfl dX2_digest_200 ?_
    refine x_icmp_ge C (tgt := 259) dX2_digest_203 (by decide) (fun c203 => ?_) (fun c203 => ?_)
    · have he : i = mWs M := Nat.le_antisymm h1 ((ge_tn h.1.1 (by omega)).mp c203)
      subst he
      refine x_iconst C (v := 0) dX2_digest_259 (by decide) ?_
      refine x_istore C (lo' := [(4, _), (2, _), (0, _)]) dX2_digest_260 (by decide) rfl ?_
      exact x_lsub [0, 1, 2] rfl (q2_dig_D h hg C hq (mSh M + 1) 0 (Nat.zero_le _) (by omega))
    · have hlt : i < mWs M := lt_of_nge h.1.1 (by omega) c203
      refine x_lload_n C dX2_digest_206 rfl ?_
      refine x_ldc2 C dX2_digest_207 ll_X2_160 ?_
      refine x_lmul C dX2_digest_210 ?_
      refine x_aload_n C dX2_digest_211 rfl ?_
      refine x_getR C fl_X2_16 rfl (by decide) rfl dX2_digest_212 ?_
      refine x_iload C dX2_digest_215 rfl ?_
      refine x_iald C (n := 10) rfl (by decide) rfl (rfl) ((by omega : i < 10)) dX2_digest_217 ?_
      refine x_i2l C dX2_digest_218 ?_
      refine x_ladd C dX2_digest_219 ?_
      refine x_ldc2 C dX2_digest_220 ll_X2_160 ?_
      refine x_lmul C dX2_digest_223 ?_
      refine x_aload_n C dX2_digest_224 rfl ?_
      refine x_getR C fl_X2_22 rfl (by decide) rfl dX2_digest_225 ?_
      refine x_bipush C (v := 7) dX2_digest_228 (by decide) ?_
      refine x_iload C dX2_digest_230 rfl ?_
      refine x_iadd C dX2_digest_232 ?_
      refine x_iald C (n := 187) rfl (by decide) rfl (nI_add 7 i) ((by omega : 7 + i < 187)) dX2_digest_233 ?_
      refine x_i2l C dX2_digest_234 ?_
      refine x_ladd C dX2_digest_235 ?_
      refine x_ldc2 C dX2_digest_236 ll_X2_160 ?_
      refine x_lmul C dX2_digest_239 ?_
      refine x_aload_n C dX2_digest_240 rfl ?_
      refine x_getR C fl_X2_22 rfl (by decide) rfl dX2_digest_241 ?_
      refine x_bipush C (v := 17) dX2_digest_244 (by decide) ?_
      refine x_iload C dX2_digest_246 rfl ?_
      refine x_iadd C dX2_digest_248 ?_
      refine x_iald C (n := 187) rfl (by decide) rfl (nI_add 17 i) ((by omega : 17 + i < 187)) dX2_digest_249 ?_
      refine x_i2l C dX2_digest_250 ?_
      refine x_ladd C dX2_digest_251 ?_
      refine x_lstore_n C (lo' := [(2, _), (4, _), (0, _)]) dX2_digest_252 (by decide) rfl ?_
      refine x_iinc C (v := nI (i + 1)) (lo' := [(4, _), (2, _), (0, _)]) dX2_digest_253 rfl (nI_inc _) (by decide) rfl ?_
      refine x_goto C (tgt := 197) dX2_digest_256 (by decide) ?_
      exact x_lsub [0, 1, 2] rfl (ih (i + 1) hlt (by omega))
set_option maxHeartbeats 1000000 in
set_option maxRecDepth 100000 in
theorem q2_dig_B {X : XT} {l : Launch} {g : GT} {M : Mem} {d0 : Int64} {q : Nat} (h : mOK M) (hg : gn g = 38) (C : Cx X (gT g q) l cX2_digest 8 RX2 (some .long) rmX2_digest) (hq : Rt X g rmX2_digest (some (.long (mDE (mDD (mDC (mDB d0 M 2) (mEM M 2) (mWs (mEM M 2))) (mEM M 2) (mSh (mEM M 2))) (mEM M 2) 32))) (mEM M 2)) : ∀ (n i : Nat), i ≤ 2 → 2 + 1 ≤ i + n → V X (gT g q) 1 8 124 [(4, .int (nI i)), (2, .long (mDB d0 M i)), (0, .ref (ga (gT g q) 29))] [] (mEM M i) := by
  intro n
  induction n with
  | zero =>
    intro i h1 h2; omega
  | succ n ih =>
    intro i h1 h2
    refine x_iload C dX2_digest_124 rfl ?_
    refine x_iconst C (v := 2) dX2_digest_126 (by decide) ?_
    refine x_icmp_ge C (tgt := 194) dX2_digest_127 (by decide) (fun c127 => ?_) (fun c127 => ?_)
    · have he : i = 2 := by
        have z := (nI_leI (a := 2) (b := i) (by decide) (by omega)).mp c127
        omega
      subst he
      refine x_iconst C (v := 0) dX2_digest_194 (by decide) ?_
      refine x_istore C (lo' := [(4, _), (2, _), (0, _)]) dX2_digest_195 (by decide) rfl ?_
      exact x_lsub [0, 1, 2] rfl (q2_dig_C (mEM_ok h 2).1 hg C hq (mWs (mEM M 2) + 1) 0 (Nat.zero_le _) (by omega))
    · have hlt : i < 2 := Nat.lt_of_not_le (fun z => c127 (nI_le (a := 2) z (by omega)))
      have hk := (mEM_ok h i).1
      refine x_lload_n C dX2_digest_130 rfl ?_
      refine x_ldc2 C dX2_digest_131 ll_X2_160 ?_
      refine x_lmul C dX2_digest_134 ?_
      refine x_aload_n C dX2_digest_135 rfl ?_
      refine x_getR C fl_X2_22 rfl (by decide) rfl dX2_digest_136 ?_
      refine x_iconst C (v := 3) dX2_digest_139 (by decide) ?_
      refine x_iload C dX2_digest_140 rfl ?_
      refine x_iadd C dX2_digest_142 ?_
      refine x_iald C (n := 187) rfl (by decide) rfl (nI_add 3 i) ((by omega : 3 + i < 187)) dX2_digest_143 ?_
      refine x_i2l C dX2_digest_144 ?_
      refine x_ladd C dX2_digest_145 ?_
      refine x_ldc2 C dX2_digest_146 ll_X2_160 ?_
      refine x_lmul C dX2_digest_149 ?_
      refine x_aload_n C dX2_digest_150 rfl ?_
      refine x_iload C dX2_digest_151 rfl ?_
      refine x_callV0r C (q2_manyOf l (gT g q) _ hk (nI i)) cd_X2_manyOf kl_X2_118 ci2 rfl (by decide) (as := [_]) rfl rfl ⟨⟨by decide, by decide⟩, by decide, by decide⟩ ⟨rfl, rfl⟩ (Nat.le_of_ble_eq_true rfl) dX2_digest_153 ?_
      refine x_i2l C dX2_digest_156 ?_
      refine x_ladd C dX2_digest_157 ?_
      refine x_ldc2 C dX2_digest_158 ll_X2_160 ?_
      refine x_lmul C dX2_digest_161 ?_
      refine x_aload_n C dX2_digest_162 rfl ?_
      refine x_getR C fl_X2_22 rfl (by decide) rfl dX2_digest_163 ?_
      refine x_iconst C (v := 5) dX2_digest_166 (by decide) ?_
      refine x_iload C dX2_digest_167 rfl ?_
      refine x_iadd C dX2_digest_169 ?_
      refine x_iald C (n := 187) rfl (by decide) rfl (nI_add 5 i) ((by omega : 5 + i < 187)) dX2_digest_170 ?_
      refine x_i2l C dX2_digest_171 ?_
      refine x_ladd C dX2_digest_172 ?_
      refine x_ldc2 C dX2_digest_173 ll_X2_160 ?_
      refine x_lmul C dX2_digest_176 ?_
      refine x_aload_n C dX2_digest_177 rfl ?_
      refine x_iload C dX2_digest_178 rfl ?_
      refine x_bipush C (v := 20) dX2_digest_180 (by decide) ?_
      refine x_callV0r C (q2_earns l (gT g q) _ hk i hlt 20 (by decide)) cd_X2_earns kl_X2_145 ci2 rfl (by decide) (as := [_, _]) rfl rfl ⟨⟨by decide, by decide⟩, by decide, by decide⟩ ⟨rfl, rfl⟩ (Nat.le_of_ble_eq_true rfl) dX2_digest_182 ?_
      refine x_i2l C dX2_digest_185 ?_
      refine x_ladd C dX2_digest_186 ?_
      refine x_lstore_n C (lo' := [(2, _), (4, _), (0, _)]) dX2_digest_187 (by decide) rfl ?_
      refine x_iinc C (v := nI (i + 1)) (lo' := [(4, _), (2, _), (0, _)]) dX2_digest_188 rfl (nI_inc _) (by decide) rfl ?_
      refine x_goto C (tgt := 124) dX2_digest_191 (by decide) ?_
      exact x_lsub [0, 1, 2] rfl (ih (i + 1) hlt (by omega))
set_option maxHeartbeats 1000000 in
set_option maxRecDepth 100000 in
theorem q2_dig_A {X : XT} {l : Launch} {g : GT} {M : Mem} {q : Nat} (h : mOK M) (hg : gn g = 38) (C : Cx X (gT g q) l cX2_digest 8 RX2 (some .long) rmX2_digest) (hq : Rt X g rmX2_digest (some (.long (mDE (mDD (mDC (mDB (mDA (M 38) 8) M 2) (mEM M 2) (mWs (mEM M 2))) (mEM M 2) (mSh (mEM M 2))) (mEM M 2) 32))) (mEM M 2)) : ∀ (n i : Nat), i ≤ 8 → 8 + 1 ≤ i + n → V X (gT g q) 1 8 91 [(6, .int (nI i)), (5, .int (nI 8)), (4, .ref (ga (gT g q) 38)), (2, .long (mDA (M 38) i)), (1, .ref (ga (gT g q) 38)), (0, .ref (ga (gT g q) 29))] [] M := by
  intro n
  induction n with
  | zero =>
    intro i h1 h2; omega
  | succ n ih =>
    intro i h1 h2
    refine x_iload C dX2_digest_91 rfl ?_
    refine x_iload C dX2_digest_93 rfl ?_
    refine x_icmp_ge C (tgt := 121) dX2_digest_95 (by decide) (fun c95 => ?_) (fun c95 => ?_)
    · have he : i = 8 := by
        have z := (nI_leI (a := 8) (b := i) (by decide) (by omega)).mp c95
        omega
      subst he
      refine x_iconst C (v := 0) dX2_digest_121 (by decide) ?_
      refine x_istore C (lo' := [(4, _), (6, _), (5, _), (2, _), (1, _), (0, _)]) dX2_digest_122 (by decide) rfl ?_
      exact x_lsub [0, 3, 5] rfl (q2_dig_B h hg C hq 3 0 (by decide) (by decide))
    · have hlt : i < 8 := Nat.lt_of_not_le (fun z => c95 (nI_le (a := 8) z (by omega)))
      refine x_aload C dX2_digest_98 rfl ?_
      refine x_iload C dX2_digest_100 rfl ?_
      refine x_ialdG C (n := 8) rfl (by decide : 38 < 39) rfl (rfl) ((by omega : i < 8)) dX2_digest_102 ?_
      refine x_istore C (lo' := [(7, _), (6, _), (5, _), (4, _), (2, _), (1, _), (0, _)]) dX2_digest_103 (by decide) rfl ?_
      refine x_lload_n C dX2_digest_105 rfl ?_
      refine x_ldc2 C dX2_digest_106 ll_X2_160 ?_
      refine x_lmul C dX2_digest_109 ?_
      refine x_iload C dX2_digest_110 rfl ?_
      refine x_i2l C dX2_digest_112 ?_
      refine x_ladd C dX2_digest_113 ?_
      refine x_lstore_n C (lo' := [(2, _), (7, _), (6, _), (5, _), (4, _), (1, _), (0, _)]) dX2_digest_114 (by decide) rfl ?_
      refine x_iinc C (v := nI (i + 1)) (lo' := [(6, _), (2, _), (7, _), (5, _), (4, _), (1, _), (0, _)]) dX2_digest_115 rfl (nI_inc _) (by decide) rfl ?_
      refine x_goto C (tgt := 91) dX2_digest_118 (by decide) ?_
      exact x_lsub [0, 3, 4, 1, 5, 6] rfl (ih (i + 1) hlt (by omega))
def dg0 (M : Mem) : Mem := wrc (wr M 29 0 0) 38 (fun _ => 0)
def dg1 (M : Mem) : Mem := wr (dg0 M) 38 0 (dg0 M 34 0)
def dg2 (M : Mem) : Mem := wr (dg1 M) 38 1 (dg1 M 29 1)
def dg3 (M : Mem) : Mem := wr (dg2 M) 38 2 (dg2 M 29 2)
def dg4 (M : Mem) : Mem := wr (dg3 M) 38 3 (mMany (dg3 M))
def dg5 (M : Mem) : Mem := wr (dg4 M) 38 4 (dg4 M 34 1)
def dg6 (M : Mem) : Mem := wr (dg5 M) 38 5 (dg5 M 34 2)
def dg7 (M : Mem) (t : Nat) : Mem := wr (mLook (dg6 M) t) 38 6 (nI t)
def dg8 (M : Mem) (t : Nat) : Mem := wr (dg7 M t) 38 7 (mBest (dg7 M t) 30)
def mDig (M : Mem) : Int64 := mDE (mDD (mDC (mDB (mDA (M 38) 8) M 2) (mEM M 2) (mWs (mEM M 2))) (mEM M 2) (mSh (mEM M 2))) (mEM M 2) 32
theorem dg3_ok {M : Mem} (h : mOK M) : mOK (dg3 M) := (show mOK (dg0 M) from ⟨h.1, h.2.1, h.2.2.1, h.2.2.2⟩).wr38.wr38.wr38
theorem dg6_ok {M : Mem} (h : mOK M) : mOK (dg6 M) := (dg3_ok h).wr38.wr38.wr38
theorem dg7_ok {M : Mem} (h : mOK M) (t : Nat) : mOK (dg7 M t) := (mLook_ok (dg6_ok h) t).wr38
theorem dg7_ok2 {M : Mem} (h : mOK2 M) (t : Nat) : mOK2 (dg7 M t) := (mLook_ok2 (show mOK2 (dg6 M) from ⟨h.1, h.2⟩) t).wr38
theorem dg8_ok {M : Mem} (h : mOK M) (t : Nat) : mOK (dg8 M t) := (dg7_ok h t).wr38
set_option maxHeartbeats 1000000 in
set_option maxRecDepth 100000 in
theorem q2_digest (l : Launch) (g : GT) (M : Mem) (hg : gn g = 38) (h : mOK M) (h2 : mOK2 M) (t : Nat) (ht : ∀ j, j < t → 0 < mMany (mBeats (mKeep (dg6 M)) j)) (ht2 : ¬ 0 < mMany (mBeats (mKeep (dg6 M)) t)) : CM l yX2_digest cX2_digest 8 (some .long) rmX2_digest g M [.ref (ga g 29)] (some (.long (mDig (dg8 M t)))) (mEM (dg8 M t) 2) := by
  refine CM.of (by decide) (Nat.le_of_ble_eq_true rfl) (fun X C hq => ?_)
  have C : Cx X g l cX2_digest 8 RX2 (some .long) rmX2_digest := C
  show V X g 0 0 0 [(0, .ref (ga g 29))] [] M
  refine x_aload_n C dX2_digest_0 rfl ?_
  refine x_iconst C (v := 0) dX2_digest_1 (by decide) ?_
  refine x_putI C fl_X2_32 rfl (by decide) rfl dX2_digest_2 ?_
  refine x_bipush C (v := 8) dX2_digest_5 (by decide) ?_
  refine x_newT C hg (by decide) dX2_digest_7 (fun q C => ?_)
  refine x_mem (M' := dg0 M) rfl ?_
  refine x_dup C dX2_digest_9 rfl ?_
  refine x_iconst C (v := 0) dX2_digest_10 (by decide) ?_
  refine x_aload_n C dX2_digest_11 rfl ?_
  refine x_getR C fl_X2_22 rfl (by decide) rfl dX2_digest_12 ?_
  refine x_iconst C (v := 0) dX2_digest_15 (by decide) ?_
  refine x_iald C (n := 187) rfl (by decide) rfl (rfl) ((by decide : 0 < 187)) dX2_digest_16 ?_
  refine x_iastG C (n := 8) rfl (by decide : 38 < 39) rfl (rfl) ((by decide : 0 < 8)) dX2_digest_17 ?_
  refine x_mem (M' := dg1 M) rfl ?_
  refine x_dup C dX2_digest_18 rfl ?_
  refine x_iconst C (v := 1) dX2_digest_19 (by decide) ?_
  refine x_aload_n C dX2_digest_20 rfl ?_
  refine x_getI C fl_X2_40 rfl (by decide) rfl dX2_digest_21 ?_
  refine x_iastG C (n := 8) rfl (by decide : 38 < 39) rfl (rfl) ((by decide : 1 < 8)) dX2_digest_24 ?_
  refine x_mem (M' := dg2 M) rfl ?_
  refine x_dup C dX2_digest_25 rfl ?_
  refine x_iconst C (v := 2) dX2_digest_26 (by decide) ?_
  refine x_aload_n C dX2_digest_27 rfl ?_
  refine x_getI C fl_X2_43 rfl (by decide) rfl dX2_digest_28 ?_
  refine x_iastG C (n := 8) rfl (by decide : 38 < 39) rfl (rfl) ((by decide : 2 < 8)) dX2_digest_31 ?_
  refine x_mem (M' := dg3 M) rfl ?_
  refine x_dup C dX2_digest_32 rfl ?_
  refine x_iconst C (v := 3) dX2_digest_33 (by decide) ?_
  refine x_aload_n C dX2_digest_34 rfl ?_
  refine x_callV0r C (q2_many l (gT g q) _ (dg3_ok h)) cd_X2_many kl_X2_98 ci2 rfl (by decide) (as := []) rfl rfl ⟨⟨by decide, by decide⟩, by decide, by decide⟩ ⟨rfl, rfl⟩ (Nat.le_of_ble_eq_true rfl) dX2_digest_35 ?_
  refine x_iastG C (n := 8) rfl (by decide : 38 < 39) rfl (rfl) ((by decide : 3 < 8)) dX2_digest_38 ?_
  refine x_mem (M' := dg4 M) rfl ?_
  refine x_dup C dX2_digest_39 rfl ?_
  refine x_iconst C (v := 4) dX2_digest_40 (by decide) ?_
  refine x_aload_n C dX2_digest_41 rfl ?_
  refine x_getR C fl_X2_22 rfl (by decide) rfl dX2_digest_42 ?_
  refine x_iconst C (v := 1) dX2_digest_45 (by decide) ?_
  refine x_iald C (n := 187) rfl (by decide) rfl (rfl) ((by decide : 1 < 187)) dX2_digest_46 ?_
  refine x_iastG C (n := 8) rfl (by decide : 38 < 39) rfl (rfl) ((by decide : 4 < 8)) dX2_digest_47 ?_
  refine x_mem (M' := dg5 M) rfl ?_
  refine x_dup C dX2_digest_48 rfl ?_
  refine x_iconst C (v := 5) dX2_digest_49 (by decide) ?_
  refine x_aload_n C dX2_digest_50 rfl ?_
  refine x_getR C fl_X2_22 rfl (by decide) rfl dX2_digest_51 ?_
  refine x_iconst C (v := 2) dX2_digest_54 (by decide) ?_
  refine x_iald C (n := 187) rfl (by decide) rfl (rfl) ((by decide : 2 < 187)) dX2_digest_55 ?_
  refine x_iastG C (n := 8) rfl (by decide : 38 < 39) rfl (rfl) ((by decide : 5 < 8)) dX2_digest_56 ?_
  refine x_mem (M' := dg6 M) rfl ?_
  refine x_dup C dX2_digest_57 rfl ?_
  refine x_bipush C (v := 6) dX2_digest_58 (by decide) ?_
  refine x_aload_n C dX2_digest_60 rfl ?_
  refine x_callV0r C (q2_untilQuiet l (gT g q) _ (dg6_ok h) t ht ht2) cd_X2_untilQuiet kl_X2_142 ci2 rfl (by decide) (as := []) rfl rfl ⟨⟨by decide, by decide⟩, by decide, by decide⟩ ⟨rfl, rfl⟩ (Nat.le_of_ble_eq_true rfl) dX2_digest_61 ?_
  refine x_iastG C (n := 8) rfl (by decide : 38 < 39) rfl (rfl) ((by decide : 6 < 8)) dX2_digest_64 ?_
  refine x_mem (M' := dg7 M t) rfl ?_
  refine x_dup C dX2_digest_65 rfl ?_
  refine x_bipush C (v := 7) dX2_digest_66 (by decide) ?_
  refine x_aload_n C dX2_digest_68 rfl ?_
  refine x_bipush C (v := 30) dX2_digest_69 (by decide) ?_
  refine x_callV0r C (q2_best l (gT g q) _ (dg7_ok h t) (dg7_ok2 h2 t) 30 (by decide)) cd_X2_best kl_X2_155 ci2 rfl (by decide) (as := [_]) rfl rfl ⟨⟨by decide, by decide⟩, by decide, by decide⟩ ⟨rfl, rfl⟩ (Nat.le_of_ble_eq_true rfl) dX2_digest_71 ?_
  refine x_iastG C (n := 8) rfl (by decide : 38 < 39) rfl (rfl) ((by decide : 7 < 8)) dX2_digest_74 ?_
  refine x_mem (M' := dg8 M t) rfl ?_
  refine x_astore_n C (lo' := [(1, _), (0, _)]) dX2_digest_75 (by decide) rfl ?_
  refine x_ldc2 C dX2_digest_76 ll_X2_158 ?_
  refine x_lstore_n C (lo' := [(2, _), (1, _), (0, _)]) dX2_digest_79 (by decide) rfl ?_
  refine x_aload_n C dX2_digest_80 rfl ?_
  refine x_astore C (lo' := [(4, _), (2, _), (1, _), (0, _)]) dX2_digest_81 (by decide) rfl ?_
  refine x_aload C dX2_digest_83 rfl ?_
  refine x_alen C (n := 8) rfl (by decide : 38 < 39) rfl dX2_digest_85 ?_
  refine x_istore C (lo' := [(5, _), (4, _), (2, _), (1, _), (0, _)]) dX2_digest_86 (by decide) rfl ?_
  refine x_iconst C (v := 0) dX2_digest_88 (by decide) ?_
  refine x_istore C (lo' := [(6, _), (5, _), (4, _), (2, _), (1, _), (0, _)]) dX2_digest_89 (by decide) rfl ?_
  exact q2_dig_A (dg8_ok h t) hg C hq 9 0 (by decide) (by decide)
