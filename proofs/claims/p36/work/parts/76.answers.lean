/-! The class's answers, told of the state P. -/
def sN (f : Nat → Int32) : Nat → Int32
  | 0 => 0
  | n + 1 => sN f n + f n
def tS (P : Mem) (n : Nat) : Int32 := sN (fun w => P 34 (17 + w)) n
def uS (P : Mem) (n : Nat) : Int32 := sN (fun k => P 34 (147 + k)) n
def DP (P : Mem) : Prop := ∀ j k, j < mSh P → k < mSh P → 0 < P 34 (27 + j) → 0 < P 34 (27 + k) → P 34 (67 + j) = P 34 (67 + k) → j = k
def EX (P : Mem) : Prop := (P 34 3 + P 34 4 = tS P (mWs P) ∧ uS P (mSh P) = tS P (mWs P)) ∧ DP P
def LI (nb : Nat) (M P : Mem) : Prop := Rel 1 nb M P ∧ Zz 1 M ∧ liveN (M 11) 40 ≤ 8 ∧ PK P ∧ EX P
section LIS
variable {nb : Nat} {M P : Mem}
theorem LI.ok (h : LI nb M P) : cOK 1 M := h.1.2.2.1
theorem LI.pk (h : LI nb M P) : PK P := h.2.2.2.1
theorem LI.w1 (h : LI nb M P) : M 1 1 = nI (mWs P) ∧ M 1 2 = nI (mSh P) := by
  refine ⟨?_, ?_⟩
  · rw [h.1.1.1.2.1]; exact nI_tn h.pk.1.1.1
  · rw [h.1.1.1.2.2.1]; exact nI_tn h.pk.1.2.1.1
theorem LI.wri (h : LI nb M P) {w : Nat} (hw : w < mWs P) : 0 ≤ nI w ∧ nI w < M 1 1 := by
  have hb := h.pk.1.ws
  rw [h.w1.1]
  exact ⟨nI_pos' (by omega), (nI_ltI (by omega) (by omega)).mpr hw⟩
theorem LI.sri (h : LI nb M P) {k : Nat} (hk : k < mSh P) : 0 ≤ nI k ∧ nI k < M 1 2 := by
  have hb := h.pk.1.sh
  rw [h.w1.2]
  exact ⟨nI_pos' (by omega), (nI_ltI (by omega) (by omega)).mpr hk⟩
theorem LI.fr (h : LI nb M P) {M' : Mem} (f : cFr 15 M M') : LI nb M' P := by
  have e : ∀ k, k < 15 → M' k = M k := fun k hk => f k (Or.inl hk)
  refine ⟨h.1.fr f, ⟨fun w h1 h2 => ?_, fun s hs => ?_⟩, by rw [e 11 (by decide)]; exact h.2.2.1, h.2.2.2⟩
  · rw [e (1 + 7) (by decide)]
    rw [e 1 (by decide)] at h1
    exact h.2.1.1 w h1 h2
  · rw [e (1 + 2) (by decide), e 1 (by decide)]
    exact h.2.1.2 s hs
end LIS
theorem in_s {s : Nat} (h : s < 32) : 0 ≤ nI s ∧ nI s ≤ 31 := ⟨nI_pos' (by omega), nI_le (b := 31) (by omega) (by decide)⟩
theorem in_e {e : Nat} (h : e < 2) : 0 ≤ nI e ∧ nI e ≤ 1 := ⟨nI_pos' (by omega), nI_le (b := 1) (by omega) (by decide)⟩
theorem k_stoneOf {l : Launch} {g : GT} {nb : Nat} {M P : Mem} (h : LI nb M P) {w : Nat} (hw : w < mWs P) (B : Nat → Prop) : CM l yX1_stoneOf cX1_stoneOf 2 (some .int) rmX1_stoneOf (B, g.2) M [.ref (ga g 0), .int (nI w)] (some (.int (P 32 w))) (M) := by
  have hb := h.pk.1.ws
  have e := q1_stoneOf l (B, g.2) M h.ok (nI w) (h.wri hw)
  rw [tn_nI (by omega)] at e
  rw [← show M 5 w = P 32 w from (h.1.1.2.2.1 w (by omega)).1]
  exact e
theorem k_ownerOf {l : Launch} {g : GT} {nb : Nat} {M P : Mem} (h : LI nb M P) {w : Nat} (hw : w < mWs P) (B : Nat → Prop) : CM l yX1_ownerOf cX1_ownerOf 2 (some .int) rmX1_ownerOf (B, g.2) M [.ref (ga g 0), .int (nI w)] (some (.int (P 34 (7 + w)))) (M) := by
  have hb := h.pk.1.ws
  have e := q1_ownerOf l (B, g.2) M h.ok (nI w) (h.wri hw)
  rw [tn_nI (by omega)] at e
  rw [← show M 6 w = P 34 (7 + w) from (h.1.1.2.2.1 w (by omega)).2.1]
  exact e
theorem k_thrownBack {l : Launch} {g : GT} {nb : Nat} {M P : Mem} (h : LI nb M P) {w : Nat} (hw : w < mWs P) (B : Nat → Prop) : CM l yX1_thrownBack cX1_thrownBack 2 (some .int) rmX1_thrownBack (B, g.2) M [.ref (ga g 0), .int (nI w)] (some (.int (P 34 (17 + w)))) (M) := by
  have hb := h.pk.1.ws
  have e := q1_thrownBack l (B, g.2) M h.ok (nI w) (h.wri hw)
  rw [tn_nI (by omega)] at e
  rw [← show M 8 w = P 34 (17 + w) from (h.1.1.2.2.1 w (by omega)).2.2.2]
  exact e
theorem k_coinsOf {l : Launch} {g : GT} {nb : Nat} {M P : Mem} (h : LI nb M P) {e : Nat} (he : e < 2) (B : Nat → Prop) : CM l yX1_coinsOf cX1_coinsOf 2 (some .int) rmX1_coinsOf (B, g.2) M [.ref (ga g 0), .int (nI e)] (some (.int (P 34 (3 + e)))) (M) := by
  have z := q1_coinsOf l (B, g.2) M (nI e) (in_e he)
  rw [tn_nI (by omega)] at z
  rw [← show M 9 e = P 34 (3 + e) from (h.1.1.2.2.2.1 e he).1]
  exact z
theorem k_silentFor {l : Launch} {g : GT} {nb : Nat} {M P : Mem} (h : LI nb M P) {e : Nat} (he : e < 2) (B : Nat → Prop) : CM l yX1_silentFor cX1_silentFor 2 (some .int) rmX1_silentFor (B, g.2) M [.ref (ga g 0), .int (nI e)] (some (.int (P 34 (5 + e)))) (M) := by
  have z := q1_silentFor l (B, g.2) M (nI e) (in_e he)
  rw [tn_nI (by omega)] at z
  rw [← show M 10 e = P 34 (5 + e) from (h.1.1.2.2.2.1 e he).2]
  exact z
theorem k_wallsOf {l : Launch} {g : GT} {nb : Nat} {M P : Mem} (h : LI nb M P) {e : Nat} (he : e < 2) (B : Nat → Prop) : CM l yX1_wallsOf cX1_wallsOf 4 (some .int) rmX1_wallsOf (B, g.2) M [.ref (ga g 0), .int (nI e)] (some (.int (mWO P (nI e)))) (M) := by
  have z := q1_wallsOf l (B, g.2) M h.ok (nI e) (in_e he)
  rw [wo_is h.1] at z
  exact z
theorem k_loudnessOf {l : Launch} {g : GT} {nb : Nat} {M P : Mem} (h : LI nb M P) {k : Nat} (hk : k < mSh P) (B : Nat → Prop) : CM l yX1_loudnessOf cX1_loudnessOf 2 (some .int) rmX1_loudnessOf (B, g.2) M [.ref (ga g 0), .int (nI k)] (some (.int (P 34 (27 + k)))) (M) := by
  have hb := h.pk.1.sh
  have z := q1_loudnessOf l (B, g.2) M h.ok (nI k) (h.sri hk)
  rw [tn_nI (by omega)] at z
  rw [← show M 11 k = P 34 (27 + k) from (h.1.1.2.2.2.2.1 k (by omega)).1]
  exact z
theorem k_turnsOf {l : Launch} {g : GT} {nb : Nat} {M P : Mem} (h : LI nb M P) {k : Nat} (hk : k < mSh P) (B : Nat → Prop) : CM l yX1_turnsOf cX1_turnsOf 2 (some .int) rmX1_turnsOf (B, g.2) M [.ref (ga g 0), .int (nI k)] (some (.int (P 34 (147 + k)))) (M) := by
  have hb := h.pk.1.sh
  have z := q1_turnsOf l (B, g.2) M h.ok (nI k) (h.sri hk)
  rw [tn_nI (by omega)] at z
  rw [← show M 14 k = P 34 (147 + k) from (h.1.1.2.2.2.2.1 k (by omega)).2]
  exact z
theorem k_placeOf {l : Launch} {g : GT} {nb : Nat} {M P : Mem} (h : LI nb M P) {k : Nat} (hk : k < mSh P) (B : Nat → Prop) : CM l yX1_placeOf cX1_placeOf 2 (some .int) rmX1_placeOf (B, g.2) M [.ref (ga g 0), .int (nI k)] (some (.int (mPl P k))) (M) := by
  have hb := h.pk.1.sh
  have z := q1_placeOf l (B, g.2) M h.ok (nI k) (h.sri hk)
  rw [tn_nI (by omega)] at z
  rw [← (pl_is h.1 hk).1]
  exact z
theorem k_goesRight {l : Launch} {g : GT} {nb : Nat} {M P : Mem} (h : LI nb M P) {k : Nat} (hk : k < mSh P) (B : Nat → Prop) : CM l yX1_goesRight cX1_goesRight 2 (some .boolean) rmX1_goesRight (B, g.2) M [.ref (ga g 0), .int (nI k)] (some (.int (b2i (mRt P k)))) (M) := by
  have hb := h.pk.1.sh
  have z := q1_goesRight l (B, g.2) M h.ok (nI k) (h.sri hk)
  rw [tn_nI (by omega)] at z
  rw [← b2i_iff (pl_is h.1 hk).2]
  exact z
theorem k_beat {l : Launch} {g : GT} {nb : Nat} {M P : Mem} (h : LI nb M P)  (B : Nat → Prop) : CM l yX1_beat cX1_beat 1 (some .int) rmX1_beat (B, g.2) M [.ref (ga g 0)] (some (.int (P 34 0))) (M) := by
  rw [← show M 1 0 = P 34 0 from h.1.1.1.1]
  exact q1_beat l (B, g.2) M
theorem k_walls {l : Launch} {g : GT} {nb : Nat} {M P : Mem} (h : LI nb M P)  (B : Nat → Prop) : CM l yX1_walls cX1_walls 1 (some .int) rmX1_walls (B, g.2) M [.ref (ga g 0)] (some (.int (nI (mWs P)))) (M) := by
  rw [← h.w1.1]
  exact q1_walls l (B, g.2) M
theorem k_shouts {l : Launch} {g : GT} {nb : Nat} {M P : Mem} (h : LI nb M P)  (B : Nat → Prop) : CM l yX1_shouts cX1_shouts 1 (some .int) rmX1_shouts (B, g.2) M [.ref (ga g 0)] (some (.int (nI (mSh P)))) (M) := by
  rw [← h.w1.2]
  exact q1_shouts l (B, g.2) M
theorem k_underWay {l : Launch} {g : GT} {nb : Nat} {M P : Mem} (h : LI nb M P)  (B : Nat → Prop) : CM l yX1_underWay cX1_underWay 1 (some .int) rmX1_underWay (B, g.2) M [.ref (ga g 0)] (some (.int (mMany P))) (M) := by
  rw [← show M 1 3 = mMany P from (rel_many h.1).symm]
  exact q1_underWay l (B, g.2) M
theorem k_overlaps {l : Launch} {g : GT} {nb : Nat} {M P : Mem} (h : LI nb M P)  (B : Nat → Prop) : CM l yX1_overlaps cX1_overlaps 1 (some .int) rmX1_overlaps (B, g.2) M [.ref (ga g 0)] (some (.int (P 34 1))) (M) := by
  rw [← show M 1 4 = P 34 1 from h.1.1.1.2.2.2.1]
  exact q1_overlaps l (B, g.2) M
theorem k_inherited {l : Launch} {g : GT} {nb : Nat} {M P : Mem} (h : LI nb M P)  (B : Nat → Prop) : CM l yX1_inherited cX1_inherited 1 (some .int) rmX1_inherited (B, g.2) M [.ref (ga g 0)] (some (.int (P 34 2))) (M) := by
  rw [← show M 1 5 = P 34 2 from h.1.1.1.2.2.2.2]
  exact q1_inherited l (B, g.2) M
theorem k_snowOn {l : Launch} {g : GT} {nb : Nat} {M P : Mem} (h : LI nb M P) {s : Nat} (hs : s < 32) (B : Nat → Prop) : CM l yX1_snowOn cX1_snowOn 2 (some .int) rmX1_snowOn (B, g.2) M [.ref (ga g 0), .int (nI s)] (some (.int (P 30 s))) (M) := by
  have z := q1_snowOn l (B, g.2) M (nI s) (in_s hs)
  rw [tn_nI (by omega)] at z
  rw [← show M 2 s = P 30 s from (h.1.1.2.1 s hs).1]
  exact z
theorem k_wallOn {l : Launch} {g : GT} {nb : Nat} {M P : Mem} (h : LI nb M P) {s : Nat} (hs : s < 32) (B : Nat → Prop) : CM l yX1_wallOn cX1_wallOn 2 (some .int) rmX1_wallOn (B, g.2) M [.ref (ga g 0), .int (nI s)] (some (.int (P 31 s))) (M) := by
  have z := q1_wallOn l (B, g.2) M (nI s) (in_s hs)
  rw [tn_nI (by omega)] at z
  rw [← show M 3 s = P 31 s from (h.1.1.2.1 s hs).2]
  exact z
theorem k_loudOn {l : Launch} {g : GT} {nb : Nat} {M P : Mem} (h : LI nb M P) {s : Nat} (hs : s < 32) (B : Nat → Prop) : CM l yX1_loudOn cX1_loudOn 2 (some .int) rmX1_loudOn (B, g.2) M [.ref (ga g 0), .int (nI s)] (some (.int (mLA P (nI s)))) (M) := by
  have z := q1_loudOn l (B, g.2) M h.ok (nI s) (in_s hs)
  rw [rel_la h.1 (in_s hs)] at z
  exact z
theorem k_nextWall {l : Launch} {g : GT} {nb : Nat} {M P : Mem} (h : LI nb M P) {s : Nat} (hs : s < 32) (r : Int32) (B : Nat → Prop) : CM l yX1_nextWall cX1_nextWall 5 (some .int) rmX1_nextWall (B, g.2) M [.ref (ga g 0), .int (nI s), .int r] (some (.int (mNx P (if r = 0 then -1 else 1) 34 (nI s + (if r = 0 then -1 else 1))))) (M) := by
  have z := q1_nextWall l (B, g.2) M (nI s) r (in_s hs)
  rw [nx_is h.1] at z
  exact z
theorem k_meanLoudness {l : Launch} {g : GT} {nb : Nat} {M P : Mem} (h : LI nb M P)  (B : Nat → Prop) : CM l yX1_meanLoudness cX1_meanLoudness 3 (some .double) rmX1_meanLoudness (B, g.2) M [.ref (ga g 0)] (some (.double (mMean P))) (M) := by
  have z := q1_meanLoudness l (B, g.2) M h.ok (fun hn => nn_div _ hn)
  rw [mean_is h.1] at z
  exact z
/-- how many beats until a shout is gone, until all are -/
theorem keep_rel {nb : Nat} {M P : Mem} (h : Rel 1 nb M P) : Rel 1 nb M (mKeep P) := h.cong (fun _ _ _ => rfl) ⟨rfl, rfl⟩ (fun c a b => by unfold mKeep; rw [wrc_cell (by omega)]) (fun j _ => by unfold mKeep; rw [wrc_cell (by decide)])
theorem keep_b {nb : Nat} {M P : Mem} (h : Rel 1 nb M P) (n : Nat) (hn : nb + n ≤ 100000) : (∀ k, k < 40 → mBeats (mKeep P) n 34 (27 + k) = mBeats P n 34 (27 + k)) ∧ (∀ e, e < 2 → mBeats (mKeep P) n 34 (3 + e) = mBeats P n 34 (3 + e)) ∧ mMany (mBeats (mKeep P) n) = mMany (mBeats P n) ∧ ∀ s, (0 ≤ s ∧ s ≤ 31) → mLA (mBeats (mKeep P) n) s = mLA (mBeats P n) s := by
  have r1 := beats_rel h n hn
  have r2 := beats_rel (keep_rel h) n hn
  exact ⟨fun k hk => ((r2.1.2.2.2.2.1 k hk).1.symm).trans (r1.1.2.2.2.2.1 k hk).1, fun e he => ((r2.1.2.2.2.1 e he).1.symm).trans (r1.1.2.2.2.1 e he).1, (rel_many r2).trans (rel_many r1).symm, fun s hs => (rel_la r2 hs).symm.trans (rel_la r1 hs)⟩
theorem k_beatsUntilGone {l : Launch} {g : GT} {nb : Nat} {M P : Mem} (h : LI nb M P) (hnb : nb + 100 ≤ 100000) {k : Nat} (hk : k < mSh P) (B : Nat → Prop) : CM l yX1_beatsUntilGone cX1_beatsUntilGone 3 (some .int) rmX1_beatsUntilGone (B, g.2) M [.ref (ga g 0), .int (nI k)] (some (.int (nI (cCnt 25 k 99 (cCopy M))))) (cRun 25 k 99 (cCopy M)) := by
  exact q1_beatsUntilGone l (B, g.2) M h.ok k (by rw [h.1.sh]; exact hk)
theorem k_beatsUntilQuiet {l : Launch} {g : GT} {nb : Nat} {M P : Mem} (h : LI nb M P) (hnb : nb + 100 ≤ 100000) (B : Nat → Prop) : CM l yX1_beatsUntilQuiet cX1_beatsUntilQuiet 2 (some .int) rmX1_beatsUntilQuiet (B, g.2) M [.ref (ga g 0)] (some (.int (nI (cCnt 15 3 99 (cCopy M))))) (cRun 15 3 99 (cCopy M)) := by
  exact q1_beatsUntilQuiet l (B, g.2) M h.ok
theorem k_coinsIn {l : Launch} {g : GT} {nb : Nat} {M P : Mem} (h : LI nb M P) (hnb : nb + 100 ≤ 100000) {e b : Nat} (he : e < 2) (hb : 1 ≤ b ∧ b ≤ 100) (B : Nat → Prop) : CM l yX1_coinsIn cX1_coinsIn 4 (some .int) rmX1_coinsIn (B, g.2) M [.ref (ga g 0), .int (nI e), .int (nI b)] (some (.int (mBeats P b 34 (3 + e) - P 34 (3 + e)))) (cRun 15 3 b (cCopy M)) := by
  have hb2 : 1 ≤ nI b ∧ nI b ≤ 100 := ⟨nI_le (a := 1) hb.1 (by omega), nI_le (b := 100) hb.2 (by omega)⟩
  have z := q1_coinsIn l (B, g.2) M h.ok (nI e) (nI b) (in_e he) hb2
  rw [tn_nI (by omega), tn_nI (by omega), look_coins h.1 (by omega) he] at z
  have e1 := (keep_b h.1 b (by omega)).2.1 e he
  have e2 : mBack (mBeats (mKeep P) b) 34 (3 + e) = P 34 (3 + e) := by
    have e3 := mLook_now P b (j := 3 + e) (by omega)
    exact e3
  rw [e1, e2] at z
  exact z
theorem k_loudestOn {l : Launch} {g : GT} {nb : Nat} {M P : Mem} (h : LI nb M P) (hnb : nb + 100 ≤ 100000) {s b : Nat} (hs : s < 32) (hb : 1 ≤ b ∧ b ≤ 100) (B : Nat → Prop) : CM l yX1_loudestOn cX1_loudestOn 5 (some .int) rmX1_loudestOn (B, g.2) M [.ref (ga g 0), .int (nI s), .int (nI b)] (some (.int (mLOL (mKeep P) (nI s) b))) (cRun 15 3 b (cCopy M)) := by
  have hb2 : 1 ≤ nI b ∧ nI b ≤ 100 := ⟨nI_le (a := 1) hb.1 (by omega), nI_le (b := 100) hb.2 (by omega)⟩
  have z := q1_loudestOn l (B, g.2) M h.ok (nI s) (nI b) (in_s hs) hb2
  have e1 := look_loud h.1.copy (in_s hs) b 0 (by omega)
  rw [Nat.zero_add] at e1
  rw [tn_nI (by omega)] at z
  rw [← e1]
  exact z
theorem k_loudnessWanted {l : Launch} {g : GT} {nb : Nat} {M P : Mem} (h : LI nb M P) {s t : Nat} (hs : s < 32) (r : Int32) (ht : t < 32) (B : Nat → Prop) : CM l yX1_loudnessWanted cX1_loudnessWanted 5 (some .int) rmX1_loudnessWanted (B, g.2) M [.ref (ga g 0), .int (nI s), .int r, .int (nI t)] (some (.int (mLW P (nI s) (if r = 0 then -1 else 1) (nI t)))) (cLWm (nI t) 99 (cAlone (cCopy M) (nI s) (if r = 0 then -1 else 1) 99)) := by
  have z := q1_loudnessWanted l (B, g.2) M h.ok (nI s) r (nI t) (in_s hs) (in_s ht)
  rw [look_lw h.1 (in_s ht).1] at z
  exact z
theorem k_bestStone {l : Launch} {g : GT} {nb : Nat} {M P : Mem} (h : LI nb M P) {ld : Int32} (hl : 1 ≤ ld ∧ ld ≤ 99) (B : Nat → Prop) : CM l yX1_bestStone cX1_bestStone 6 (some .int) rmX1_bestStone (B, g.2) M [.ref (ga g 0), .int ld] (some (.int (mBest P ld))) (cBM (cCopy M) ld 32) := by
  have z := q1_bestStone l (B, g.2) M h.ok ld hl
  rw [look_best h.1 hl] at z
  exact z
theorem k_digest {l : Launch} {g : GT} {nb : Nat} {M P : Mem} (h : LI nb M P)  (B : Nat → Prop) : CM l yX1_digest cX1_digest 3 (some .long) rmX1_digest (B, g.2) M [.ref (ga g 0)] (some (.long (cDig M))) (cDm M) := by
  exact q1_digest l (B, g.2) M h.ok
/-- looking leaves the checksum -/
theorem cnt_is {nb : Nat} {M M' P : Mem} (h : Rel 1 nb M P) (h' : Rel 1 nb M' P) (hnb : nb + 100 ≤ 100000) : cCnt 15 3 99 (cCopy M) = cCnt 15 3 99 (cCopy M') := by
  obtain ⟨a1, a2⟩ := look_quiet h hnb
  obtain ⟨b1, b2⟩ := look_quiet h' hnb
  rcases Nat.lt_trichotomy (cCnt 15 3 99 (cCopy M)) (cCnt 15 3 99 (cCopy M')) with c | c | c
  · exact absurd (b1 _ c) a2
  · exact c
  · exact absurd (a1 _ c) b2
theorem dig_same {nb : Nat} {M M' P : Mem} (h : LI nb M P) (h' : LI nb M' P) (hnb : nb + 100 ≤ 100000) : cDig M = cDig M' := by
  rw [dig_is h.1 hnb, dig_is h'.1 hnb, cnt_is h.1 h'.1 hnb]
