/-! The calls of the law with a helper, one by one. -/
theorem Inv.ok1 {nb : Nat} {M : Mem} (h : Inv nb M) : cOK 1 M := h.1.2.2.1
theorem Inv.w10 {nb : Nat} {M : Mem} (h : Inv nb M) {w : Int32} (c : 0 ≤ w ∧ w < M 1 1) : tn w < 10 := by
  have a := h.ok1.ws
  have b := tn_lt (n := cWs 1 M) c.1 (by omega) (by rw [← nI_tn h.ok1.1.1]; exact c.2)
  omega
theorem Inv.ks {nb : Nat} {M : Mem} (h : Inv nb M) {w : Int32} (c : 0 ≤ w ∧ w < M 1 2) : ∃ k : Nat, k < cSh 1 M ∧ k < 40 ∧ w = nI k := by
  have a := h.ok1.sh
  have b := tn_lt (n := cSh 1 M) c.1 (by omega) (by rw [← nI_tn h.ok1.2.1.1]; exact c.2)
  exact ⟨tn w, b, by omega, nI_tn c.1⟩
theorem Inv.sh2 {nb : Nat} {M : Mem} (h : Inv nb M) : cSh 1 M = mSh M := h.1.sh
theorem Inv.rp {nb : Nat} {M M1 : Mem} (h : Inv nb M) (f : cFr 15 M M1) (v : Int32) : Rel 1 nb M (wr (wr M1 37 0 v) 29 0 0) := h.r (((Fb.fr f).tr (Fb.o (by omega))).tr Fb.t)
theorem Inv.rq {nb : Nat} {M M1 : Mem} (h : Inv nb M) (f : cFr 15 M M1) (v : Int32) : mOK (wr M1 37 0 v) ∧ mOK2 (wr M1 37 0 v) := by
  have r := h.r ((Fb.fr f).tr (Fb.o (k := 37) (j := 0) (v := v) (by omega)))
  exact ⟨r.2.2.2.1, r.2.2.2.2.1⟩
theorem oc_wallOn {l : Launch} {g : GT} (hl : l.stackTraces = false) {nb : Nat} {M : Mem} (h : Inv nb M) (hnb : nb + 200 ≤ 100000) (s : Int32) : Oc l g yL_wallOn cL_wallOn 4 hhL_wallOn [.ref (ga g 0), .int s, .ref (ga g 37)] yX2_wallOn cX2_wallOn 2 (some .int) rmX2_wallOn [.ref (ga g 29), .int s] nb M := by
  by_cases c : 0 ≤ s ∧ s ≤ 31
  · exact Oc.look h (qL_wallOn (q1_wallOn l g M s c)) cFr.rf (q2_wallOn l g _ s c) ((h.1.1.2.1 _ (tn31 c)).2) 0 (Or.inr rfl) ⟨⟨by decide, by decide⟩, by decide, by decide⟩
  · exact Oc.bad h (by decide) (qLeB_wallOn (q1x_wallOn l hl g M s c)) (q2_wallOn_b l g M s (c)) (Or.inr rfl) ⟨⟨by decide, by decide⟩, by decide, by decide⟩
theorem oc_loudOn {l : Launch} {g : GT} (hl : l.stackTraces = false) {nb : Nat} {M : Mem} (h : Inv nb M) (hnb : nb + 200 ≤ 100000) (s : Int32) : Oc l g yL_loudOn cL_loudOn 4 hhL_loudOn [.ref (ga g 0), .int s, .ref (ga g 37)] yX2_loudOn cX2_loudOn 2 (some .int) rmX2_loudOn [.ref (ga g 29), .int s] nb M := by
  by_cases c : 0 ≤ s ∧ s ≤ 31
  · exact Oc.look h (qL_loudOn (q1_loudOn l g M h.ok1 s c)) cFr.rf (q2_loudOn l g _ s c (h.rq cFr.rf _).1) (rel_la (h.rp cFr.rf _) c) 0 (Or.inr rfl) ⟨⟨by decide, by decide⟩, by decide, by decide⟩
  · exact Oc.bad h (by decide) (qLeB_loudOn (q1x_loudOn l hl g M s c)) (q2_loudOn_b l g M s (c)) (Or.inr rfl) ⟨⟨by decide, by decide⟩, by decide, by decide⟩
theorem oc_stoneOf {l : Launch} {g : GT} (hl : l.stackTraces = false) {nb : Nat} {M : Mem} (h : Inv nb M) (hnb : nb + 200 ≤ 100000) (s : Int32) : Oc l g yL_stoneOf cL_stoneOf 4 hhL_stoneOf [.ref (ga g 0), .int s, .ref (ga g 37)] yX2_stoneOf cX2_stoneOf 2 (some .int) rmX2_stoneOf [.ref (ga g 29), .int s] nb M := by
  by_cases c : 0 ≤ s ∧ s < M 1 1
  · exact Oc.look h (qL_stoneOf (q1_stoneOf l g M h.ok1 s c)) cFr.rf (q2_stoneOf l g _ s (h.walls.mpr c) (h.rq cFr.rf _).1) ((h.1.1.2.2.1 _ (h.w10 c)).1) 0 (Or.inr rfl) ⟨⟨by decide, by decide⟩, by decide, by decide⟩
  · exact Oc.bad h (by decide) (qLeB_stoneOf (q1x_stoneOf l hl g M s c)) (q2_stoneOf_b l g M s (fun z => c (h.walls.mp z))) (Or.inr rfl) ⟨⟨by decide, by decide⟩, by decide, by decide⟩
theorem oc_ownerOf {l : Launch} {g : GT} (hl : l.stackTraces = false) {nb : Nat} {M : Mem} (h : Inv nb M) (hnb : nb + 200 ≤ 100000) (s : Int32) : Oc l g yL_ownerOf cL_ownerOf 4 hhL_ownerOf [.ref (ga g 0), .int s, .ref (ga g 37)] yX2_ownerOf cX2_ownerOf 2 (some .int) rmX2_ownerOf [.ref (ga g 29), .int s] nb M := by
  by_cases c : 0 ≤ s ∧ s < M 1 1
  · exact Oc.look h (qL_ownerOf (q1_ownerOf l g M h.ok1 s c)) cFr.rf (q2_ownerOf l g _ s (h.walls.mpr c) (h.rq cFr.rf _).1) ((h.1.1.2.2.1 _ (h.w10 c)).2.1) 0 (Or.inr rfl) ⟨⟨by decide, by decide⟩, by decide, by decide⟩
  · exact Oc.bad h (by decide) (qLeB_ownerOf (q1x_ownerOf l hl g M s c)) (q2_ownerOf_b l g M s (fun z => c (h.walls.mp z))) (Or.inr rfl) ⟨⟨by decide, by decide⟩, by decide, by decide⟩
theorem oc_thrownBack {l : Launch} {g : GT} (hl : l.stackTraces = false) {nb : Nat} {M : Mem} (h : Inv nb M) (hnb : nb + 200 ≤ 100000) (s : Int32) : Oc l g yL_thrownBack cL_thrownBack 4 hhL_thrownBack [.ref (ga g 0), .int s, .ref (ga g 37)] yX2_thrownBack cX2_thrownBack 2 (some .int) rmX2_thrownBack [.ref (ga g 29), .int s] nb M := by
  by_cases c : 0 ≤ s ∧ s < M 1 1
  · exact Oc.look h (qL_thrownBack (q1_thrownBack l g M h.ok1 s c)) cFr.rf (q2_thrownBack l g _ s (h.walls.mpr c) (h.rq cFr.rf _).1) ((h.1.1.2.2.1 _ (h.w10 c)).2.2.2) 0 (Or.inr rfl) ⟨⟨by decide, by decide⟩, by decide, by decide⟩
  · exact Oc.bad h (by decide) (qLeB_thrownBack (q1x_thrownBack l hl g M s c)) (q2_thrownBack_b l g M s (fun z => c (h.walls.mp z))) (Or.inr rfl) ⟨⟨by decide, by decide⟩, by decide, by decide⟩
theorem oc_coinsOf {l : Launch} {g : GT} (hl : l.stackTraces = false) {nb : Nat} {M : Mem} (h : Inv nb M) (hnb : nb + 200 ≤ 100000) (s : Int32) : Oc l g yL_coinsOf cL_coinsOf 4 hhL_coinsOf [.ref (ga g 0), .int s, .ref (ga g 37)] yX2_coinsOf cX2_coinsOf 2 (some .int) rmX2_coinsOf [.ref (ga g 29), .int s] nb M := by
  by_cases c : 0 ≤ s ∧ s ≤ 1
  · exact Oc.look h (qL_coinsOf (q1_coinsOf l g M s c)) cFr.rf (q2_coinsOf l g _ s c) ((h.1.1.2.2.2.1 _ (tn1 c)).1) 0 (Or.inr rfl) ⟨⟨by decide, by decide⟩, by decide, by decide⟩
  · exact Oc.bad h (by decide) (qLeB_coinsOf (q1x_coinsOf l hl g M s c)) (q2_coinsOf_b l g M s (c)) (Or.inr rfl) ⟨⟨by decide, by decide⟩, by decide, by decide⟩
theorem oc_silentFor {l : Launch} {g : GT} (hl : l.stackTraces = false) {nb : Nat} {M : Mem} (h : Inv nb M) (hnb : nb + 200 ≤ 100000) (s : Int32) : Oc l g yL_silentFor cL_silentFor 4 hhL_silentFor [.ref (ga g 0), .int s, .ref (ga g 37)] yX2_silentFor cX2_silentFor 2 (some .int) rmX2_silentFor [.ref (ga g 29), .int s] nb M := by
  by_cases c : 0 ≤ s ∧ s ≤ 1
  · exact Oc.look h (qL_silentFor (q1_silentFor l g M s c)) cFr.rf (q2_silentFor l g _ s c) ((h.1.1.2.2.2.1 _ (tn1 c)).2) 0 (Or.inr rfl) ⟨⟨by decide, by decide⟩, by decide, by decide⟩
  · exact Oc.bad h (by decide) (qLeB_silentFor (q1x_silentFor l hl g M s c)) (q2_silentFor_b l g M s (c)) (Or.inr rfl) ⟨⟨by decide, by decide⟩, by decide, by decide⟩
theorem oc_wallsOf {l : Launch} {g : GT} (hl : l.stackTraces = false) {nb : Nat} {M : Mem} (h : Inv nb M) (hnb : nb + 200 ≤ 100000) (s : Int32) : Oc l g yL_wallsOf cL_wallsOf 4 hhL_wallsOf [.ref (ga g 0), .int s, .ref (ga g 37)] yX2_wallsOf cX2_wallsOf 2 (some .int) rmX2_wallsOf [.ref (ga g 29), .int s] nb M := by
  by_cases c : 0 ≤ s ∧ s ≤ 1
  · exact Oc.look h (qL_wallsOf (q1_wallsOf l g M h.ok1 s c)) cFr.rf (q2_wallsOf l g _ s c (h.rq cFr.rf _).1) (wo_is (h.rp cFr.rf _) s) 0 (Or.inr rfl) ⟨⟨by decide, by decide⟩, by decide, by decide⟩
  · exact Oc.bad h (by decide) (qLeB_wallsOf (q1x_wallsOf l hl g M s c)) (q2_wallsOf_b l g M s (c)) (Or.inr rfl) ⟨⟨by decide, by decide⟩, by decide, by decide⟩
theorem oc_loudnessOf {l : Launch} {g : GT} (hl : l.stackTraces = false) {nb : Nat} {M : Mem} (h : Inv nb M) (hnb : nb + 200 ≤ 100000) (s : Int32) : Oc l g yL_loudnessOf cL_loudnessOf 4 hhL_loudnessOf [.ref (ga g 0), .int s, .ref (ga g 37)] yX2_loudnessOf cX2_loudnessOf 2 (some .int) rmX2_loudnessOf [.ref (ga g 29), .int s] nb M := by
  by_cases c : 0 ≤ s ∧ s < M 1 2
  · obtain ⟨k, hk, hk40, hks⟩ := h.ks c
    have hk2 : k < mSh M := by rw [← h.sh2]; exact hk
    have htk : tn s = k := by rw [hks]; exact tn_nI (by omega)
    have c2 := h.shouts.mpr c
    exact Oc.look h (qL_loudnessOf (q1_loudnessOf l g M h.ok1 s c)) (cFr.rf) (q2_loudnessOf l g _ s c2 (h.rq cFr.rf _).1) ((h.1.1.2.2.2.2.1 (tn s) (by rw [htk]; exact hk40)).1) 0 (Or.inr rfl) ⟨⟨by decide, by decide⟩, by decide, by decide⟩
  · exact Oc.bad h (by decide) (qLeB_loudnessOf (q1x_loudnessOf l hl g M s c)) (q2_loudnessOf_b l g M s (fun z => c (h.shouts.mp z))) (Or.inr rfl) ⟨⟨by decide, by decide⟩, by decide, by decide⟩
theorem oc_turnsOf {l : Launch} {g : GT} (hl : l.stackTraces = false) {nb : Nat} {M : Mem} (h : Inv nb M) (hnb : nb + 200 ≤ 100000) (s : Int32) : Oc l g yL_turnsOf cL_turnsOf 4 hhL_turnsOf [.ref (ga g 0), .int s, .ref (ga g 37)] yX2_turnsOf cX2_turnsOf 2 (some .int) rmX2_turnsOf [.ref (ga g 29), .int s] nb M := by
  by_cases c : 0 ≤ s ∧ s < M 1 2
  · obtain ⟨k, hk, hk40, hks⟩ := h.ks c
    have hk2 : k < mSh M := by rw [← h.sh2]; exact hk
    have htk : tn s = k := by rw [hks]; exact tn_nI (by omega)
    have c2 := h.shouts.mpr c
    exact Oc.look h (qL_turnsOf (q1_turnsOf l g M h.ok1 s c)) (cFr.rf) (q2_turnsOf l g _ s c2 (h.rq cFr.rf _).1) ((h.1.1.2.2.2.2.1 (tn s) (by rw [htk]; exact hk40)).2) 0 (Or.inr rfl) ⟨⟨by decide, by decide⟩, by decide, by decide⟩
  · exact Oc.bad h (by decide) (qLeB_turnsOf (q1x_turnsOf l hl g M s c)) (q2_turnsOf_b l g M s (fun z => c (h.shouts.mp z))) (Or.inr rfl) ⟨⟨by decide, by decide⟩, by decide, by decide⟩
theorem oc_placeOf {l : Launch} {g : GT} (hl : l.stackTraces = false) {nb : Nat} {M : Mem} (h : Inv nb M) (hnb : nb + 200 ≤ 100000) (s : Int32) : Oc l g yL_placeOf cL_placeOf 4 hhL_placeOf [.ref (ga g 0), .int s, .ref (ga g 37)] yX2_placeOf cX2_placeOf 2 (some .int) rmX2_placeOf [.ref (ga g 29), .int s] nb M := by
  by_cases c : 0 ≤ s ∧ s < M 1 2
  · obtain ⟨k, hk, hk40, hks⟩ := h.ks c
    have hk2 : k < mSh M := by rw [← h.sh2]; exact hk
    have htk : tn s = k := by rw [hks]; exact tn_nI (by omega)
    have c2 := h.shouts.mpr c
    subst hks
    exact Oc.look h (qL_placeOf (q1_placeOf l g M h.ok1 (nI k) c)) (cFr.rf) (q2_placeOf l g _ (h.rq cFr.rf _).1 k hk2) (by rw [htk]; exact (pl_is (h.rp cFr.rf _) hk2).1) 0 (Or.inr rfl) ⟨⟨by decide, by decide⟩, by decide, by decide⟩
  · exact Oc.bad h (by decide) (qLeB_placeOf (q1x_placeOf l hl g M s c)) (q2_placeOf_b l g M s (fun z => c (h.shouts.mp z))) (Or.inr rfl) ⟨⟨by decide, by decide⟩, by decide, by decide⟩
theorem oc_goesRight {l : Launch} {g : GT} (hl : l.stackTraces = false) {nb : Nat} {M : Mem} (h : Inv nb M) (hnb : nb + 200 ≤ 100000) (s : Int32) : Oc l g yL_goesRight cL_goesRight 4 hhL_goesRight [.ref (ga g 0), .int s, .ref (ga g 37)] yX2_goesRight cX2_goesRight 2 (some .boolean) rmX2_goesRight [.ref (ga g 29), .int s] nb M := by
  by_cases c : 0 ≤ s ∧ s < M 1 2
  · obtain ⟨k, hk, hk40, hks⟩ := h.ks c
    have hk2 : k < mSh M := by rw [← h.sh2]; exact hk
    have htk : tn s = k := by rw [hks]; exact tn_nI (by omega)
    have c2 := h.shouts.mpr c
    subst hks
    exact Oc.look h (qL_goesRight (q1_goesRight l g M h.ok1 (nI k) c)) (cFr.rf) (q2_goesRight l g _ (h.rq cFr.rf _).1 k hk2) (b2i_iff (by rw [htk]; exact (pl_is (h.rp cFr.rf _) hk2).2)) 0 (Or.inr rfl) ⟨⟨by decide, by decide⟩, by decide, by decide⟩
  · exact Oc.bad h (by decide) (qLeB_goesRight (q1x_goesRight l hl g M s c)) (q2_goesRight_b l g M s (fun z => c (h.shouts.mp z))) (Or.inr rfl) ⟨⟨by decide, by decide⟩, by decide, by decide⟩
theorem oc_beatsUntilGone {l : Launch} {g : GT} (hl : l.stackTraces = false) {nb : Nat} {M : Mem} (h : Inv nb M) (hnb : nb + 200 ≤ 100000) (s : Int32) : Oc l g yL_beatsUntilGone cL_beatsUntilGone 4 hhL_beatsUntilGone [.ref (ga g 0), .int s, .ref (ga g 37)] yX2_beatsUntilGone cX2_beatsUntilGone 2 (some .int) rmX2_beatsUntilGone [.ref (ga g 29), .int s] nb M := by
  by_cases c : 0 ≤ s ∧ s < M 1 2
  · obtain ⟨k, hk, hk40, hks⟩ := h.ks c
    have hk2 : k < mSh M := by rw [← h.sh2]; exact hk
    have htk : tn s = k := by rw [hks]; exact tn_nI (by omega)
    have c2 := h.shouts.mpr c
    subst hks
    exact Oc.look h (qL_beatsUntilGone (q1_beatsUntilGone l g M h.ok1 k hk)) (((cCopy_fr M).tr (cRun_fr _ _ _ _))) (q2_beatsUntilGone l g _ (h.rq ((cCopy_fr M).tr (cRun_fr _ _ _ _)) _).1 k (cCnt 25 k 99 (cCopy M)) (by show k < tn (cRun 25 k 99 (cCopy M) 29 2); rw [((cCopy_fr M).tr (cRun_fr _ _ _ _)) 29 (by omega)]; exact hk2) (look_gone (h.rp ((cCopy_fr M).tr (cRun_fr _ _ _ _)) _) (by omega) hk40).1 (look_gone (h.rp ((cCopy_fr M).tr (cRun_fr _ _ _ _)) _) (by omega) hk40).2) (rfl) (cCnt 25 k 99 (cCopy M)) (Or.inl rfl) ⟨⟨by decide, by decide⟩, by decide, by decide⟩
  · exact Oc.bad h (by decide) (qLeB_beatsUntilGone (q1x_beatsUntilGone l hl g M s c)) (q2_beatsUntilGone_b l g M s (fun z => c (h.shouts.mp z))) (Or.inr rfl) ⟨⟨by decide, by decide⟩, by decide, by decide⟩
theorem oc_nextWall {l : Launch} {g : GT} (hl : l.stackTraces = false) {nb : Nat} {M : Mem} (h : Inv nb M) (hnb : nb + 200 ≤ 100000) (s r : Int32) : Oc l g yL_nextWall cL_nextWall 5 hhL_nextWall [.ref (ga g 0), .int s, .int r, .ref (ga g 37)] yX2_nextWall cX2_nextWall 3 (some .int) rmX2_nextWall [.ref (ga g 29), .int s, .int r] nb M := by
  by_cases c : 0 ≤ s ∧ s ≤ 31
  · exact Oc.look h (qL_nextWall (q1_nextWall l g M s r c)) cFr.rf (q2_nextWall l g _ (h.rq cFr.rf _).1 s r c) (nx_is (h.rp cFr.rf (cNx M (if r = 0 then -1 else 1) 34 (s + (if r = 0 then -1 else 1)))) _ _ _) 0 (Or.inr rfl) ⟨⟨by decide, by decide⟩, by decide, by decide⟩
  · exact Oc.bad h (by decide) (qLeB_nextWall (q1x_nextWall l hl g M s r c)) (q2_nextWall_b l g M s r c) (Or.inr rfl) ⟨⟨by decide, by decide⟩, by decide, by decide⟩
theorem oc_coinsIn {l : Launch} {g : GT} (hl : l.stackTraces = false) {nb : Nat} {M : Mem} (h : Inv nb M) (hnb : nb + 200 ≤ 100000) (e b : Int32) : Oc l g yL_coinsIn cL_coinsIn 5 hhL_coinsIn [.ref (ga g 0), .int e, .int b, .ref (ga g 37)] yX2_coinsIn cX2_coinsIn 3 (some .int) rmX2_coinsIn [.ref (ga g 29), .int e, .int b] nb M := by
  by_cases c : 0 ≤ e ∧ e ≤ 1
  · by_cases c2 : 1 ≤ b ∧ b ≤ 100
    · have hb : tn b ≤ 100 := tn_le (n := 100) (Int32.le_trans (by decide) c2.1) (by decide) c2.2
      have he := tn1 c
      obtain ⟨k, hk, hke⟩ : ∃ k : Nat, k < 2 ∧ e = nI k := ⟨tn e, he, nI_tn c.1⟩
      subst hke
      have htk : tn (nI k) = k := tn_nI (by omega)
      exact Oc.look h (qL_coinsIn (q1_coinsIn l g M h.ok1 (nI k) b c c2)) ((cCopy_fr M).tr (cRun_fr _ _ _ _)) (q2_coinsIn l g _ (h.rq ((cCopy_fr M).tr (cRun_fr _ _ _ _)) _).1 k hk b c2) (by rw [htk]; exact look_coins (h.rp ((cCopy_fr M).tr (cRun_fr _ _ _ _)) _) (by omega) hk) (tn b) (Or.inl rfl) ⟨⟨by decide, by decide⟩, by decide, by decide⟩
    · exact Oc.bad h (by decide) (qLeA_coinsIn (q1x_coinsIn_2 l hl g M e b c c2)) (q2_coinsIn_b2 l g M e b c c2) (Or.inl rfl) ⟨⟨by decide, by decide⟩, by decide, by decide⟩
  · exact Oc.bad h (by decide) (qLeB_coinsIn (q1x_coinsIn_1 l hl g M e b c)) (q2_coinsIn_b l g M e b c) (Or.inr rfl) ⟨⟨by decide, by decide⟩, by decide, by decide⟩
theorem oc_loudestOn {l : Launch} {g : GT} (hl : l.stackTraces = false) {nb : Nat} {M : Mem} (h : Inv nb M) (hnb : nb + 200 ≤ 100000) (s b : Int32) : Oc l g yL_loudestOn cL_loudestOn 5 hhL_loudestOn [.ref (ga g 0), .int s, .int b, .ref (ga g 37)] yX2_loudestOn cX2_loudestOn 5 (some .int) rmX2_loudestOn [.ref (ga g 29), .int s, .int b] nb M := by
  by_cases c : 0 ≤ s ∧ s ≤ 31
  · by_cases c2 : 1 ≤ b ∧ b ≤ 100
    · have hb : tn b ≤ 100 := tn_le (n := 100) (Int32.le_trans (by decide) c2.1) (by decide) c2.2
      exact Oc.look h (qL_loudestOn (q1_loudestOn l g M h.ok1 s b c c2)) ((cCopy_fr M).tr (cRun_fr _ _ _ _)) (q2_loudestOn l g _ (h.rq ((cCopy_fr M).tr (cRun_fr _ _ _ _)) _).1 s b c c2) (by have z := look_loud (h.rp ((cCopy_fr M).tr (cRun_fr 15 3 (tn b) (cCopy M))) (cLo s (tn b) (cCopy M) 0)).copy c (tn b) 0 (by omega); rw [Nat.zero_add] at z; exact z) (tn b) (Or.inl rfl) ⟨⟨by decide, by decide⟩, by decide, by decide⟩
    · exact Oc.bad h (by decide) (qLeA_loudestOn (q1x_loudestOn_2 l hl g M s b c c2)) (q2_loudestOn_b2 l g M s b c c2) (Or.inl rfl) ⟨⟨by decide, by decide⟩, by decide, by decide⟩
  · exact Oc.bad h (by decide) (qLeB_loudestOn (q1x_loudestOn_1 l hl g M s b c)) (q2_loudestOn_b l g M s b c) (Or.inr rfl) ⟨⟨by decide, by decide⟩, by decide, by decide⟩
theorem oc_loudnessWanted {l : Launch} {g : GT} (hl : l.stackTraces = false) {nb : Nat} {M : Mem} (h : Inv nb M) (hnb : nb + 200 ≤ 100000) (s r th : Int32) : Oc l g yL_loudnessWanted cL_loudnessWanted 6 hhL_loudnessWanted [.ref (ga g 0), .int s, .int r, .int th, .ref (ga g 37)] yX2_loudnessWanted cX2_loudnessWanted 5 (some .int) rmX2_loudnessWanted [.ref (ga g 29), .int s, .int r, .int th] nb M := by
  by_cases c : 0 ≤ s ∧ s ≤ 31
  · by_cases c2 : 0 ≤ th ∧ th ≤ 31
    · exact Oc.look h (qL_loudnessWanted (q1_loudnessWanted l g M h.ok1 s r th c c2)) ((cCopy_fr M).tr ((cAlone_fr _ _ _ _).tr (cLWm_fr _ _ _))) (q2_loudnessWanted l g _ (h.rq ((cCopy_fr M).tr ((cAlone_fr _ _ _ _).tr (cLWm_fr _ _ _))) _).1 (h.rq ((cCopy_fr M).tr ((cAlone_fr _ _ _ _).tr (cLWm_fr _ _ _))) _).2 s r th c c2) (look_lw (h.rp ((cCopy_fr M).tr ((cAlone_fr _ _ _ _).tr (cLWm_fr _ _ _))) _) c2.1) 0 (Or.inr rfl) ⟨⟨by decide, by decide⟩, by decide, by decide⟩
    · exact Oc.bad h (by decide) (qLeB_loudnessWanted (q1x_loudnessWanted_2 l hl g M s r th c c2)) (q2_loudnessWanted_b l g M s r th (fun z => c2 z.2)) (Or.inr rfl) ⟨⟨by decide, by decide⟩, by decide, by decide⟩
  · exact Oc.bad h (by decide) (qLeB_loudnessWanted (q1x_loudnessWanted_1 l hl g M s r th c)) (q2_loudnessWanted_b l g M s r th (fun z => c z.1)) (Or.inr rfl) ⟨⟨by decide, by decide⟩, by decide, by decide⟩
theorem oc_bestStone {l : Launch} {g : GT} (hl : l.stackTraces = false) {nb : Nat} {M : Mem} (h : Inv nb M) (hnb : nb + 200 ≤ 100000) (ld : Int32) : Oc l g yL_bestStone cL_bestStone 4 hhL_bestStone [.ref (ga g 0), .int ld, .ref (ga g 37)] yX2_bestStone cX2_bestStone 2 (some .int) rmX2_bestStone [.ref (ga g 29), .int ld] nb M := by
  by_cases c : 1 ≤ ld ∧ ld ≤ 99
  · exact Oc.look h (qL_bestStone (q1_bestStone l g M h.ok1 ld c)) ((cCopy_fr M).tr (cBM_fr _ _ _)) (q2_bestStone l g _ (h.rq ((cCopy_fr M).tr (cBM_fr _ _ _)) _).1 (h.rq ((cCopy_fr M).tr (cBM_fr _ _ _)) _).2 ld c) (look_best (h.rp ((cCopy_fr M).tr (cBM_fr _ _ _)) _) c) 0 (Or.inr rfl) ⟨⟨by decide, by decide⟩, by decide, by decide⟩
  · exact Oc.bad h (by decide) (qLeA_bestStone (q1x_bestStone l hl g M ld c)) (q2_bestStone_b l g M ld c) (Or.inl rfl) ⟨⟨by decide, by decide⟩, by decide, by decide⟩
