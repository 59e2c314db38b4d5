section
-- ===== PART A: goes FIRST, ahead of the names: the tables' words, and 'selects' of the private methods out of them =====
/-- a private method of a class that the tables say can be made, by its rows of tables_1 -/
def lw_okq (q : MethodName × Nat) : Prop := (q.1.cls ≠ "java/lang/invoke/MethodHandle" ∧ q.1.cls ≠ "java/lang/invoke/VarHandle") ∧ Cond.instantiable q.1.cls q.2 ∈ tables_1 ∧ Cond.privateMethod q.1 ∈ tables_1 ∧ Cond.instanceMethod q.1 ∈ tables_1
theorem lw_p0 : lw_okq (⟨"CanyonEchoes$Canyon", "copyFrom", "(LCanyonEchoes$Canyon;)V"⟩, 19) := ⟨⟨by decide +kernel, by decide +kernel⟩, List.mem_of_getElem? (i := 22) (by decide +kernel), List.mem_of_getElem? (i := 143) (by decide +kernel), List.mem_of_getElem? (i := 144) (by decide +kernel)⟩
theorem lw_p1 : lw_okq (⟨"CanyonEchoes$Canyon", "goOn", "()V"⟩, 19) := ⟨⟨by decide +kernel, by decide +kernel⟩, List.mem_of_getElem? (i := 22) (by decide +kernel), List.mem_of_getElem? (i := 150) (by decide +kernel), List.mem_of_getElem? (i := 151) (by decide +kernel)⟩
theorem lw_p2 : lw_okq (⟨"CanyonEchoes$Canyon", "move", "(I)V"⟩, 19) := ⟨⟨by decide +kernel, by decide +kernel⟩, List.mem_of_getElem? (i := 22) (by decide +kernel), List.mem_of_getElem? (i := 154) (by decide +kernel), List.mem_of_getElem? (i := 155) (by decide +kernel)⟩
theorem lw_p3 : lw_okq (⟨"CanyonEchoes$Canyon", "hush", "(I)V"⟩, 19) := ⟨⟨by decide +kernel, by decide +kernel⟩, List.mem_of_getElem? (i := 22) (by decide +kernel), List.mem_of_getElem? (i := 161) (by decide +kernel), List.mem_of_getElem? (i := 162) (by decide +kernel)⟩
theorem lw_p4 : lw_okq (⟨"CanyonEchoes$Canyon", "turnAt", "(II)V"⟩, 19) := ⟨⟨by decide +kernel, by decide +kernel⟩, List.mem_of_getElem? (i := 22) (by decide +kernel), List.mem_of_getElem? (i := 165) (by decide +kernel), List.mem_of_getElem? (i := 166) (by decide +kernel)⟩
theorem lw_p5 : lw_okq (⟨"CanyonEchoes$Canyon", "meet", "()V"⟩, 19) := ⟨⟨by decide +kernel, by decide +kernel⟩, List.mem_of_getElem? (i := 22) (by decide +kernel), List.mem_of_getElem? (i := 169) (by decide +kernel), List.mem_of_getElem? (i := 170) (by decide +kernel)⟩
theorem lw_p6 : lw_okq (⟨"CanyonEchoes$Canyon", "settle", "(I)V"⟩, 19) := ⟨⟨by decide +kernel, by decide +kernel⟩, List.mem_of_getElem? (i := 22) (by decide +kernel), List.mem_of_getElem? (i := 173) (by decide +kernel), List.mem_of_getElem? (i := 174) (by decide +kernel)⟩
theorem lw_p7 : lw_okq (⟨"CanyonEchoes$Canyon", "listen", "(IZ)V"⟩, 19) := ⟨⟨by decide +kernel, by decide +kernel⟩, List.mem_of_getElem? (i := 22) (by decide +kernel), List.mem_of_getElem? (i := 177) (by decide +kernel), List.mem_of_getElem? (i := 178) (by decide +kernel)⟩
theorem lw_p8 : lw_okq (⟨"CanyonEchoes$Canyon", "loseWall", "(I)V"⟩, 19) := ⟨⟨by decide +kernel, by decide +kernel⟩, List.mem_of_getElem? (i := 22) (by decide +kernel), List.mem_of_getElem? (i := 181) (by decide +kernel), List.mem_of_getElem? (i := 182) (by decide +kernel)⟩
theorem lw_p9 : lw_okq (⟨"CanyonEchoes", "digestCounts", "(J)J"⟩, 2) := ⟨⟨by decide +kernel, by decide +kernel⟩, List.mem_of_getElem? (i := 14) (by decide +kernel), List.mem_of_getElem? (i := 197) (by decide +kernel), List.mem_of_getElem? (i := 198) (by decide +kernel)⟩
theorem lw_p10 : lw_okq (⟨"java/lang/Throwable", "fillInStackTrace", "(I)Ljava/lang/Throwable;"⟩, 6) := ⟨⟨by decide +kernel, by decide +kernel⟩, List.mem_of_getElem? (i := 257) (by decide +kernel), List.mem_of_getElem? (i := 255) (by decide +kernel), List.mem_of_getElem? (i := 256) (by decide +kernel)⟩
theorem lw_p11 : lw_okq (⟨"CanyonEchoes", "turnsAlone", "(II)I"⟩, 2) := ⟨⟨by decide +kernel, by decide +kernel⟩, List.mem_of_getElem? (i := 14) (by decide +kernel), List.mem_of_getElem? (i := 287) (by decide +kernel), List.mem_of_getElem? (i := 288) (by decide +kernel)⟩
theorem lw_p12 : lw_okq (⟨"CanyonEchoes$Canyon", "startAlone", "(IZI)V"⟩, 19) := ⟨⟨by decide +kernel, by decide +kernel⟩, List.mem_of_getElem? (i := 22) (by decide +kernel), List.mem_of_getElem? (i := 291) (by decide +kernel), List.mem_of_getElem? (i := 292) (by decide +kernel)⟩
theorem lw_p13 : lw_okq (⟨"CanyonEchoes$Canyon", "start", "(IZI)I"⟩, 19) := ⟨⟨by decide +kernel, by decide +kernel⟩, List.mem_of_getElem? (i := 22) (by decide +kernel), List.mem_of_getElem? (i := 295) (by decide +kernel), List.mem_of_getElem? (i := 296) (by decide +kernel)⟩
theorem lw_p14 : lw_okq (⟨"CanyonEchoes", "digestEchoes", "(J)J"⟩, 2) := ⟨⟨by decide +kernel, by decide +kernel⟩, List.mem_of_getElem? (i := 14) (by decide +kernel), List.mem_of_getElem? (i := 300) (by decide +kernel), List.mem_of_getElem? (i := 301) (by decide +kernel)⟩
theorem lw_p15 : lw_okq (⟨"CanyonEchoes", "digestWalls", "(J)J"⟩, 2) := ⟨⟨by decide +kernel, by decide +kernel⟩, List.mem_of_getElem? (i := 14) (by decide +kernel), List.mem_of_getElem? (i := 343) (by decide +kernel), List.mem_of_getElem? (i := 344) (by decide +kernel)⟩
def lw_privs_1 : List (MethodName × Nat) := [(⟨"CanyonEchoes$Canyon", "copyFrom", "(LCanyonEchoes$Canyon;)V"⟩, 19), (⟨"CanyonEchoes$Canyon", "goOn", "()V"⟩, 19), (⟨"CanyonEchoes$Canyon", "move", "(I)V"⟩, 19), (⟨"CanyonEchoes$Canyon", "hush", "(I)V"⟩, 19), (⟨"CanyonEchoes$Canyon", "turnAt", "(II)V"⟩, 19), (⟨"CanyonEchoes$Canyon", "meet", "()V"⟩, 19), (⟨"CanyonEchoes$Canyon", "settle", "(I)V"⟩, 19), (⟨"CanyonEchoes$Canyon", "listen", "(IZ)V"⟩, 19), (⟨"CanyonEchoes$Canyon", "loseWall", "(I)V"⟩, 19), (⟨"CanyonEchoes", "digestCounts", "(J)J"⟩, 2), (⟨"java/lang/Throwable", "fillInStackTrace", "(I)Ljava/lang/Throwable;"⟩, 6), (⟨"CanyonEchoes", "turnsAlone", "(II)I"⟩, 2), (⟨"CanyonEchoes$Canyon", "startAlone", "(IZI)V"⟩, 19), (⟨"CanyonEchoes$Canyon", "start", "(IZI)I"⟩, 19), (⟨"CanyonEchoes", "digestEchoes", "(J)J"⟩, 2), (⟨"CanyonEchoes", "digestWalls", "(J)J"⟩, 2)]
theorem lw_r1 : ∀ q ∈ lw_privs_1, lw_okq q := List.forall_mem_cons.mpr ⟨lw_p0, List.forall_mem_cons.mpr ⟨lw_p1, List.forall_mem_cons.mpr ⟨lw_p2, List.forall_mem_cons.mpr ⟨lw_p3, List.forall_mem_cons.mpr ⟨lw_p4, List.forall_mem_cons.mpr ⟨lw_p5, List.forall_mem_cons.mpr ⟨lw_p6, List.forall_mem_cons.mpr ⟨lw_p7, List.forall_mem_cons.mpr ⟨lw_p8, List.forall_mem_cons.mpr ⟨lw_p9, List.forall_mem_cons.mpr ⟨lw_p10, List.forall_mem_cons.mpr ⟨lw_p11, List.forall_mem_cons.mpr ⟨lw_p12, List.forall_mem_cons.mpr ⟨lw_p13, List.forall_mem_cons.mpr ⟨lw_p14, List.forall_mem_cons.mpr ⟨lw_p15, fun _ h => absurd h List.not_mem_nil⟩⟩⟩⟩⟩⟩⟩⟩⟩⟩⟩⟩⟩⟩⟩⟩
theorem lw_p16 : lw_okq (⟨"CanyonEchoes", "needWall", "(I)V"⟩, 2) := ⟨⟨by decide +kernel, by decide +kernel⟩, List.mem_of_getElem? (i := 14) (by decide +kernel), List.mem_of_getElem? (i := 351) (by decide +kernel), List.mem_of_getElem? (i := 352) (by decide +kernel)⟩
theorem lw_p17 : lw_okq (⟨"CanyonEchoes", "digestShouts", "(J)J"⟩, 2) := ⟨⟨by decide +kernel, by decide +kernel⟩, List.mem_of_getElem? (i := 14) (by decide +kernel), List.mem_of_getElem? (i := 364) (by decide +kernel), List.mem_of_getElem? (i := 365) (by decide +kernel)⟩
theorem lw_p18 : lw_okq (⟨"CanyonEchoes", "needShout", "(I)V"⟩, 2) := ⟨⟨by decide +kernel, by decide +kernel⟩, List.mem_of_getElem? (i := 14) (by decide +kernel), List.mem_of_getElem? (i := 372) (by decide +kernel), List.mem_of_getElem? (i := 373) (by decide +kernel)⟩
theorem lw_p19 : lw_okq (⟨"CanyonEchoes", "digestStones", "(J)J"⟩, 2) := ⟨⟨by decide +kernel, by decide +kernel⟩, List.mem_of_getElem? (i := 14) (by decide +kernel), List.mem_of_getElem? (i := 389) (by decide +kernel), List.mem_of_getElem? (i := 390) (by decide +kernel)⟩
theorem lw_p20 : lw_okq (⟨"CanyonEchoes$Canyon", "loudAt", "(I)I"⟩, 19) := ⟨⟨by decide +kernel, by decide +kernel⟩, List.mem_of_getElem? (i := 22) (by decide +kernel), List.mem_of_getElem? (i := 406) (by decide +kernel), List.mem_of_getElem? (i := 407) (by decide +kernel)⟩
theorem lw_p21 : lw_okq (⟨"CanyonEchoes$Canyon", "build", "(III)I"⟩, 19) := ⟨⟨by decide +kernel, by decide +kernel⟩, List.mem_of_getElem? (i := 22) (by decide +kernel), List.mem_of_getElem? (i := 441) (by decide +kernel), List.mem_of_getElem? (i := 442) (by decide +kernel)⟩
theorem lw_p22 : lw_okq (⟨"CanyonEchoesModel", "no", "(I)I"⟩, 10) := ⟨⟨by decide +kernel, by decide +kernel⟩, List.mem_of_getElem? (i := 569) (by decide +kernel), List.mem_of_getElem? (i := 624) (by decide +kernel), List.mem_of_getElem? (i := 625) (by decide +kernel)⟩
theorem lw_p23 : lw_okq (⟨"CanyonEchoesModel", "isWall", "(I)Z"⟩, 10) := ⟨⟨by decide +kernel, by decide +kernel⟩, List.mem_of_getElem? (i := 569) (by decide +kernel), List.mem_of_getElem? (i := 632) (by decide +kernel), List.mem_of_getElem? (i := 633) (by decide +kernel)⟩
theorem lw_p24 : lw_okq (⟨"CanyonEchoesModel", "many", "()I"⟩, 10) := ⟨⟨by decide +kernel, by decide +kernel⟩, List.mem_of_getElem? (i := 569) (by decide +kernel), List.mem_of_getElem? (i := 644) (by decide +kernel), List.mem_of_getElem? (i := 645) (by decide +kernel)⟩
theorem lw_p25 : lw_okq (⟨"CanyonEchoesModel", "goes", "(I)Z"⟩, 10) := ⟨⟨by decide +kernel, by decide +kernel⟩, List.mem_of_getElem? (i := 569) (by decide +kernel), List.mem_of_getElem? (i := 648) (by decide +kernel), List.mem_of_getElem? (i := 649) (by decide +kernel)⟩
theorem lw_p26 : lw_okq (⟨"CanyonEchoesModel", "loudest", "(I)I"⟩, 10) := ⟨⟨by decide +kernel, by decide +kernel⟩, List.mem_of_getElem? (i := 569) (by decide +kernel), List.mem_of_getElem? (i := 652) (by decide +kernel), List.mem_of_getElem? (i := 653) (by decide +kernel)⟩
theorem lw_p27 : lw_okq (⟨"CanyonEchoesModel", "coins", "()I"⟩, 10) := ⟨⟨by decide +kernel, by decide +kernel⟩, List.mem_of_getElem? (i := 569) (by decide +kernel), List.mem_of_getElem? (i := 660) (by decide +kernel), List.mem_of_getElem? (i := 661) (by decide +kernel)⟩
theorem lw_p28 : lw_okq (⟨"CanyonEchoesModel", "beatsOn", "(I)V"⟩, 10) := ⟨⟨by decide +kernel, by decide +kernel⟩, List.mem_of_getElem? (i := 569) (by decide +kernel), List.mem_of_getElem? (i := 664) (by decide +kernel), List.mem_of_getElem? (i := 665) (by decide +kernel)⟩
theorem lw_p29 : lw_okq (⟨"CanyonEchoesModel", "beatOn", "()V"⟩, 10) := ⟨⟨by decide +kernel, by decide +kernel⟩, List.mem_of_getElem? (i := 569) (by decide +kernel), List.mem_of_getElem? (i := 668) (by decide +kernel), List.mem_of_getElem? (i := 669) (by decide +kernel)⟩
theorem lw_p30 : lw_okq (⟨"CanyonEchoesModel", "step", "(I)V"⟩, 10) := ⟨⟨by decide +kernel, by decide +kernel⟩, List.mem_of_getElem? (i := 569) (by decide +kernel), List.mem_of_getElem? (i := 672) (by decide +kernel), List.mem_of_getElem? (i := 673) (by decide +kernel)⟩
theorem lw_p31 : lw_okq (⟨"CanyonEchoesModel", "let", "(II)V"⟩, 10) := ⟨⟨by decide +kernel, by decide +kernel⟩, List.mem_of_getElem? (i := 569) (by decide +kernel), List.mem_of_getElem? (i := 676) (by decide +kernel), List.mem_of_getElem? (i := 677) (by decide +kernel)⟩
def lw_privs_2 : List (MethodName × Nat) := [(⟨"CanyonEchoes", "needWall", "(I)V"⟩, 2), (⟨"CanyonEchoes", "digestShouts", "(J)J"⟩, 2), (⟨"CanyonEchoes", "needShout", "(I)V"⟩, 2), (⟨"CanyonEchoes", "digestStones", "(J)J"⟩, 2), (⟨"CanyonEchoes$Canyon", "loudAt", "(I)I"⟩, 19), (⟨"CanyonEchoes$Canyon", "build", "(III)I"⟩, 19), (⟨"CanyonEchoesModel", "no", "(I)I"⟩, 10), (⟨"CanyonEchoesModel", "isWall", "(I)Z"⟩, 10), (⟨"CanyonEchoesModel", "many", "()I"⟩, 10), (⟨"CanyonEchoesModel", "goes", "(I)Z"⟩, 10), (⟨"CanyonEchoesModel", "loudest", "(I)I"⟩, 10), (⟨"CanyonEchoesModel", "coins", "()I"⟩, 10), (⟨"CanyonEchoesModel", "beatsOn", "(I)V"⟩, 10), (⟨"CanyonEchoesModel", "beatOn", "()V"⟩, 10), (⟨"CanyonEchoesModel", "step", "(I)V"⟩, 10), (⟨"CanyonEchoesModel", "let", "(II)V"⟩, 10)]
theorem lw_r2 : ∀ q ∈ lw_privs_2, lw_okq q := List.forall_mem_cons.mpr ⟨lw_p16, List.forall_mem_cons.mpr ⟨lw_p17, List.forall_mem_cons.mpr ⟨lw_p18, List.forall_mem_cons.mpr ⟨lw_p19, List.forall_mem_cons.mpr ⟨lw_p20, List.forall_mem_cons.mpr ⟨lw_p21, List.forall_mem_cons.mpr ⟨lw_p22, List.forall_mem_cons.mpr ⟨lw_p23, List.forall_mem_cons.mpr ⟨lw_p24, List.forall_mem_cons.mpr ⟨lw_p25, List.forall_mem_cons.mpr ⟨lw_p26, List.forall_mem_cons.mpr ⟨lw_p27, List.forall_mem_cons.mpr ⟨lw_p28, List.forall_mem_cons.mpr ⟨lw_p29, List.forall_mem_cons.mpr ⟨lw_p30, List.forall_mem_cons.mpr ⟨lw_p31, fun _ h => absurd h List.not_mem_nil⟩⟩⟩⟩⟩⟩⟩⟩⟩⟩⟩⟩⟩⟩⟩⟩
theorem lw_p32 : lw_okq (⟨"CanyonEchoesModel", "meet", "(I)V"⟩, 10) := ⟨⟨by decide +kernel, by decide +kernel⟩, List.mem_of_getElem? (i := 569) (by decide +kernel), List.mem_of_getElem? (i := 681) (by decide +kernel), List.mem_of_getElem? (i := 682) (by decide +kernel)⟩
theorem lw_p33 : lw_okq (⟨"CanyonEchoesModel", "hush", "(I)V"⟩, 10) := ⟨⟨by decide +kernel, by decide +kernel⟩, List.mem_of_getElem? (i := 569) (by decide +kernel), List.mem_of_getElem? (i := 685) (by decide +kernel), List.mem_of_getElem? (i := 686) (by decide +kernel)⟩
theorem lw_p34 : lw_okq (⟨"CanyonEchoesModel", "firstOf", "(I)I"⟩, 10) := ⟨⟨by decide +kernel, by decide +kernel⟩, List.mem_of_getElem? (i := 569) (by decide +kernel), List.mem_of_getElem? (i := 689) (by decide +kernel), List.mem_of_getElem? (i := 690) (by decide +kernel)⟩
theorem lw_p35 : lw_okq (⟨"CanyonEchoesModel", "ok", "(I)I"⟩, 10) := ⟨⟨by decide +kernel, by decide +kernel⟩, List.mem_of_getElem? (i := 569) (by decide +kernel), List.mem_of_getElem? (i := 697) (by decide +kernel), List.mem_of_getElem? (i := 698) (by decide +kernel)⟩
theorem lw_p36 : lw_okq (⟨"CanyonEchoesModel", "isKnown", "(Z)Z"⟩, 10) := ⟨⟨by decide +kernel, by decide +kernel⟩, List.mem_of_getElem? (i := 569) (by decide +kernel), List.mem_of_getElem? (i := 721) (by decide +kernel), List.mem_of_getElem? (i := 722) (by decide +kernel)⟩
theorem lw_p37 : lw_okq (⟨"CanyonEchoesModel", "loudAt", "(I)I"⟩, 10) := ⟨⟨by decide +kernel, by decide +kernel⟩, List.mem_of_getElem? (i := 569) (by decide +kernel), List.mem_of_getElem? (i := 733) (by decide +kernel), List.mem_of_getElem? (i := 734) (by decide +kernel)⟩
theorem lw_p38 : lw_okq (⟨"CanyonEchoesModel", "manyOf", "(I)I"⟩, 10) := ⟨⟨by decide +kernel, by decide +kernel⟩, List.mem_of_getElem? (i := 569) (by decide +kernel), List.mem_of_getElem? (i := 757) (by decide +kernel), List.mem_of_getElem? (i := 758) (by decide +kernel)⟩
theorem lw_p39 : lw_okq (⟨"CanyonEchoesModel", "isShout", "(I)Z"⟩, 10) := ⟨⟨by decide +kernel, by decide +kernel⟩, List.mem_of_getElem? (i := 569) (by decide +kernel), List.mem_of_getElem? (i := 773) (by decide +kernel), List.mem_of_getElem? (i := 774) (by decide +kernel)⟩
theorem lw_p40 : lw_okq (⟨"CanyonEchoesModel", "place", "(I)I"⟩, 10) := ⟨⟨by decide +kernel, by decide +kernel⟩, List.mem_of_getElem? (i := 569) (by decide +kernel), List.mem_of_getElem? (i := 781) (by decide +kernel), List.mem_of_getElem? (i := 782) (by decide +kernel)⟩
theorem lw_p41 : lw_okq (⟨"CanyonEchoesModel", "isRight", "(I)Z"⟩, 10) := ⟨⟨by decide +kernel, by decide +kernel⟩, List.mem_of_getElem? (i := 569) (by decide +kernel), List.mem_of_getElem? (i := 789) (by decide +kernel), List.mem_of_getElem? (i := 790) (by decide +kernel)⟩
theorem lw_p42 : lw_okq (⟨"CanyonEchoesModel", "next", "(II)I"⟩, 10) := ⟨⟨by decide +kernel, by decide +kernel⟩, List.mem_of_getElem? (i := 569) (by decide +kernel), List.mem_of_getElem? (i := 801) (by decide +kernel), List.mem_of_getElem? (i := 802) (by decide +kernel)⟩
theorem lw_p43 : lw_okq (⟨"CanyonEchoesModel", "untilGone", "(I)I"⟩, 10) := ⟨⟨by decide +kernel, by decide +kernel⟩, List.mem_of_getElem? (i := 569) (by decide +kernel), List.mem_of_getElem? (i := 809) (by decide +kernel), List.mem_of_getElem? (i := 810) (by decide +kernel)⟩
theorem lw_p44 : lw_okq (⟨"CanyonEchoesModel", "keep", "()V"⟩, 10) := ⟨⟨by decide +kernel, by decide +kernel⟩, List.mem_of_getElem? (i := 569) (by decide +kernel), List.mem_of_getElem? (i := 813) (by decide +kernel), List.mem_of_getElem? (i := 814) (by decide +kernel)⟩
theorem lw_p45 : lw_okq (⟨"CanyonEchoesModel", "bringBack", "()V"⟩, 10) := ⟨⟨by decide +kernel, by decide +kernel⟩, List.mem_of_getElem? (i := 569) (by decide +kernel), List.mem_of_getElem? (i := 818) (by decide +kernel), List.mem_of_getElem? (i := 819) (by decide +kernel)⟩
theorem lw_p46 : lw_okq (⟨"CanyonEchoesModel", "untilQuiet", "()I"⟩, 10) := ⟨⟨by decide +kernel, by decide +kernel⟩, List.mem_of_getElem? (i := 569) (by decide +kernel), List.mem_of_getElem? (i := 826) (by decide +kernel), List.mem_of_getElem? (i := 827) (by decide +kernel)⟩
theorem lw_p47 : lw_okq (⟨"CanyonEchoesModel", "earns", "(II)I"⟩, 10) := ⟨⟨by decide +kernel, by decide +kernel⟩, List.mem_of_getElem? (i := 569) (by decide +kernel), List.mem_of_getElem? (i := 834) (by decide +kernel), List.mem_of_getElem? (i := 835) (by decide +kernel)⟩
def lw_privs_3 : List (MethodName × Nat) := [(⟨"CanyonEchoesModel", "meet", "(I)V"⟩, 10), (⟨"CanyonEchoesModel", "hush", "(I)V"⟩, 10), (⟨"CanyonEchoesModel", "firstOf", "(I)I"⟩, 10), (⟨"CanyonEchoesModel", "ok", "(I)I"⟩, 10), (⟨"CanyonEchoesModel", "isKnown", "(Z)Z"⟩, 10), (⟨"CanyonEchoesModel", "loudAt", "(I)I"⟩, 10), (⟨"CanyonEchoesModel", "manyOf", "(I)I"⟩, 10), (⟨"CanyonEchoesModel", "isShout", "(I)Z"⟩, 10), (⟨"CanyonEchoesModel", "place", "(I)I"⟩, 10), (⟨"CanyonEchoesModel", "isRight", "(I)Z"⟩, 10), (⟨"CanyonEchoesModel", "next", "(II)I"⟩, 10), (⟨"CanyonEchoesModel", "untilGone", "(I)I"⟩, 10), (⟨"CanyonEchoesModel", "keep", "()V"⟩, 10), (⟨"CanyonEchoesModel", "bringBack", "()V"⟩, 10), (⟨"CanyonEchoesModel", "untilQuiet", "()I"⟩, 10), (⟨"CanyonEchoesModel", "earns", "(II)I"⟩, 10)]
theorem lw_r3 : ∀ q ∈ lw_privs_3, lw_okq q := List.forall_mem_cons.mpr ⟨lw_p32, List.forall_mem_cons.mpr ⟨lw_p33, List.forall_mem_cons.mpr ⟨lw_p34, List.forall_mem_cons.mpr ⟨lw_p35, List.forall_mem_cons.mpr ⟨lw_p36, List.forall_mem_cons.mpr ⟨lw_p37, List.forall_mem_cons.mpr ⟨lw_p38, List.forall_mem_cons.mpr ⟨lw_p39, List.forall_mem_cons.mpr ⟨lw_p40, List.forall_mem_cons.mpr ⟨lw_p41, List.forall_mem_cons.mpr ⟨lw_p42, List.forall_mem_cons.mpr ⟨lw_p43, List.forall_mem_cons.mpr ⟨lw_p44, List.forall_mem_cons.mpr ⟨lw_p45, List.forall_mem_cons.mpr ⟨lw_p46, List.forall_mem_cons.mpr ⟨lw_p47, fun _ h => absurd h List.not_mem_nil⟩⟩⟩⟩⟩⟩⟩⟩⟩⟩⟩⟩⟩⟩⟩⟩
theorem lw_p48 : lw_okq (⟨"CanyonEchoesModel", "loses", "(III)I"⟩, 10) := ⟨⟨by decide +kernel, by decide +kernel⟩, List.mem_of_getElem? (i := 569) (by decide +kernel), List.mem_of_getElem? (i := 846) (by decide +kernel), List.mem_of_getElem? (i := 847) (by decide +kernel)⟩
theorem lw_p49 : lw_okq (⟨"CanyonEchoesModel", "best", "(I)I"⟩, 10) := ⟨⟨by decide +kernel, by decide +kernel⟩, List.mem_of_getElem? (i := 569) (by decide +kernel), List.mem_of_getElem? (i := 854) (by decide +kernel), List.mem_of_getElem? (i := 855) (by decide +kernel)⟩
theorem lw_p50 : lw_okq (⟨"CanyonEchoesModel", "turns", "(II)I"⟩, 10) := ⟨⟨by decide +kernel, by decide +kernel⟩, List.mem_of_getElem? (i := 569) (by decide +kernel), List.mem_of_getElem? (i := 858) (by decide +kernel), List.mem_of_getElem? (i := 859) (by decide +kernel)⟩
def lw_privs_4 : List (MethodName × Nat) := [(⟨"CanyonEchoesModel", "loses", "(III)I"⟩, 10), (⟨"CanyonEchoesModel", "best", "(I)I"⟩, 10), (⟨"CanyonEchoesModel", "turns", "(II)I"⟩, 10)]
theorem lw_r4 : ∀ q ∈ lw_privs_4, lw_okq q := List.forall_mem_cons.mpr ⟨lw_p48, List.forall_mem_cons.mpr ⟨lw_p49, List.forall_mem_cons.mpr ⟨lw_p50, fun _ h => absurd h List.not_mem_nil⟩⟩⟩
def lw_privs : List (MethodName × Nat) := lw_privs_1 ++ (lw_privs_2 ++ (lw_privs_3 ++ (lw_privs_4)))
def lw_tbl : List Cond := k2_sels lw_privs ++ tables_1
theorem lw_privs_ok : ∀ q ∈ lw_privs, lw_okq q := by
  show ∀ q ∈ lw_privs_1 ++ (lw_privs_2 ++ (lw_privs_3 ++ (lw_privs_4))), lw_okq q
  exact List.forall_mem_append.mpr ⟨lw_r1, List.forall_mem_append.mpr ⟨lw_r2, List.forall_mem_append.mpr ⟨lw_r3, lw_r4⟩⟩⟩
/-- the streams that the claim lets the run draw from -/
abbrev lw_cs : List Choice := [Jvm.Choice.named "NaN.bits"]
theorem lw_bits : nanBits ∈ lw_cs := by first | decide | exact List.mem_cons_self | simp [lw_cs, nanBits]
-- ===== end of PART A; then your names; then what follows =====
end
section
/-! ===== BEGIN words of one list among another's, by their places ===== -/
theorem goodIn_r {big : List Cond} (ws : List Cond) (ps : List Nat) (hp : ws = ps.filterMap (fun i => big[i]?)) (h : ws.all goodWord = true) : GoodIn big ws := by
  intro w hw
  have h1 := List.all_eq_true.mp h w hw
  rw [hp] at hw
  obtain ⟨i, -, hi⟩ := List.mem_filterMap.mp hw
  have hm : w ∈ big := by first | exact List.mem_of_getElem? hi | exact List.getElem?_mem hi
  exact ⟨hm, good_of_word h1⟩
theorem goodIn_app {big a b : List Cond} (ha : GoodIn big a) (hb : GoodIn big b) : GoodIn big (a ++ b) := fun w h => (List.mem_append.mp h).elim (ha w) (hb w)
theorem goodIn_ca {big a b : List Cond} {c : Cond} (ha : GoodIn big (c :: a)) (hb : GoodIn big b) : GoodIn big (c :: (a ++ b)) := fun w h => (List.mem_cons.mp h).elim (fun e => ha w (List.mem_cons.mpr (Or.inl e))) (fun h => (List.mem_append.mp h).elim (fun h => ha w (List.mem_cons.mpr (Or.inr h))) (hb w))
theorem goodIn_sub {big ws : List Cond} (hm : ∀ w ∈ ws, w ∈ big) (h : ws.all goodWord = true) : GoodIn big ws := fun w hw => ⟨hm w hw, good_of_word (List.all_eq_true.mp h w hw)⟩
/-! ===== END ===== -/

/-! ===== BEGIN exceptions that leave a method, and their catching by the caller (launches without stack traces) ===== -/
section VXA
/-! The laws vx_back, vx_callV, vx_callS, vx_callSW, vx_throw0, vx_throwS follow proofs of the library, with one case more: JvmDerived/Free/Laws.lean (Back.of_free), Shelf42/LK1.lean (callV, callS), Shelf/KitTraced.lean (throwNew0V, throwNewS). -/
/-- where a method has thrown q: the class by its name, the cell, what was written, the world -/
def vx_T (XC : String → State → State → Prop) (st : State) (q : Addr) (t : State) (mc ms : Nat) (free : Addr → Prop) : Prop :=
  ∃ (E : String) (ce : Cell) (L : List Loc), XC E st t ∧ t.heap[q]? = some ce ∧ ce.vm = .none ∧ st.vm.findClass E = some ce.cls ∧ st.WarmedH t.vm ∧ st.sameButNew ({ t with vm := st.vm } : State) L mc ms ∧ ∀ z ∈ L, free z.base
def vx_Q (Qc : Array Value → State → Outcome → State → Prop) (XC : String → State → State → Prop) (mc ms : Nat) (free : Addr → Prop) : Array Value → State → Outcome → State → Prop := fun a st o t =>
  (Qc a st o t ∧ ∃ L, FrameEnd st o t L mc ms ∧ ∀ q ∈ L, free q.base) ∨ ∃ q, o = .threw q ∧ vx_T XC st q t mc ms free
/-- a callee that returns or throws -/
def vx_Met (l : Launch) (y : MethodName) (ws : List Cond) (rm : Room) (Pc : Array Value → State → Prop) (Qc : Array Value → State → Outcome → State → Prop) (XC : String → State → State → Prop) (mc ms : Nat) (free : Addr → Prop) : Prop :=
  MetFree l y (headSpec ws rm) Pc (fun _ _ _ _ _ => True) (vx_Q Qc XC mc ms free)
def vx_Post (XC : String → State → State → Prop) (mc ms : Nat) (free : Addr → Prop) : Pt → Array Value → Addr → Pt → Prop := fun A a q B =>
  ∃ (g : JFrame) (mk : MethodId) (t : State) (L : List Loc) (E : String) (ce : Cell), B.U.heap = t.heap ∧ B.U.vm = t.vm ∧ XC E (A.U.calling g mk a) t ∧ t.heap[q]? = some ce ∧ ce.vm = .none ∧ A.U.vm.findClass E = some ce.cls ∧ B.locs = A.locs ++ L ∧ (∀ z ∈ L, free z.base) ∧ B.cells = A.cells + mc ∧ B.slots = A.slots + ms
def vx_Back (l : Launch) (R : Room) (p : Program) (e : Env) (below : List Frame) (s : State) (sargs : Array Value) (y : MethodName) (len W9 : Nat)
    (Pre : Pt → Array Value → Prop) (Post : Pt → Array Value → Option Value → Pt → Prop) (PostX : Pt → Array Value → Addr → Pt → Prop) : Prop :=
  ∀ (m : MethodId) (meth : Method) (c : Code) (A : Pt) (g : JFrame) (ig : Instr) (mk : MethodId) (a : Array Value),
    Stand p l e R s m sargs below meth c A.U A.locs A.cells A.slots → g.method = m → g.locals.size = c.maxLocals → decode c.code g.pc = .ok (ig, len) →
    2 * g.monitorRoom + (g.stack.map fun v => v.category).sum ≤ W9 → A.U.methodNamed? y = some mk → Pre A a →
    (∃ (v : Option Value) (B : Pt), Stand p l e R s m sargs below meth c B.U B.locs B.cells B.slots ∧ Post A a v B ∧
      Steps p.tables e below (doInvoke e (A.U.setTop g) [] mk a).1 (B.U.setTop { g with pc := g.pc + len, stack := v.toList ++ g.stack })) ∨
    (∃ (q : Addr) (B : Pt), Stand p l e R s m sargs below meth c B.U B.locs B.cells B.slots ∧ PostX A a q B ∧
      Steps p.tables e below (doInvoke e (A.U.setTop g) [] mk a).1 ((B.U.setTop g).pushFrame (.throwing q)))
section Payer
variable {l : Launch} {R : Room} {p : Program} {e : Env} {below : List Frame} {s : State} {sargs : Array Value} {y : MethodName} {len W9 : Nat}
theorem vx_back {ws : List Cond} {rm : Room} {Pc : Array Value → State → Prop} {Qc : Array Value → State → Outcome → State → Prop} {XC : String → State → State → Prop} {mc ms : Nat} {free : Addr → Prop} {bytes : ByteArray} {maxL : Nat} {ret : Option FieldType}
    (hM : vx_Met l y ws rm Pc Qc XC mc ms free) (hblind : FrameBlind Pc) (hrc : rm.cells = mc) (hrs : rm.slots = ms)
    (hframes : rm.frames + 1 ≤ R.frames) (hlocals : W9 + (maxL + 11) + rm.locals ≤ R.locals)
    (hws : ∀ w ∈ ws, ∀ a' U, s.WarmedH U.vm → w.before a' U = true) (hcode : Cond.code y bytes maxL ret ∈ ws) (hinit : ∀ a' U, s.WarmedH U.vm → (Cond.initialized y.cls).before a' U = true) :
    vx_Back l R p e below s sargs y len W9 (PreOf R mc ms Pc) (PostOf Qc mc ms free) (vx_Post XC mc ms free) := by
  intro m meth c A g ig mk a X hg hsize hdg hW hn hp
  have h1 : (headSpec ws rm).pre.before a A.U = true := atoms_intro fun w hw => hws w hw _ _ X.warmed
  have h2 : (Cond.code y bytes maxL ret).before a A.U = true := hws _ hcode _ _ X.warmed
  have h3 : (Cond.initialized y.cls).before a A.U = true := hinit _ _ X.warmed
  have h4 : A.cells + (headSpec ws rm).room.cells ≤ R.cells := by rw [show (headSpec ws rm).room.cells = mc from hrc]; exact hp.1
  have h5 : A.slots + (headSpec ws rm).room.slots ≤ R.slots := by rw [show (headSpec ws rm).room.slots = ms from hrs]; exact hp.2.1
  have hPc : Pc a (A.U.calling g mk a) := hblind _ _ _ _ hp.2.2
  obtain ⟨U, Ls, c0, s0⟩ := A
  dsimp only [Pt.U, Pt.locs, Pt.cells, Pt.slots] at h1 h2 h3 h4 h5 X hn hPc ⊢
  obtain ⟨methY, cY, hmY, hcY, -, hlY, -, -, -, -⟩ := Cond.code_spec hn h2
  obtain ⟨kY, hkY, -⟩ := className_of_methodNamed hn
  have hinitY : kY.init = .initialized := Cond.initialized_spec (findClass_of_methodNamed hn) hkY h3
  have h : At U g.method c below := by rw [hg]; exact X.here
  have hlocals9 : W9 + (maxL + 11) + (headSpec ws rm).room.locals ≤ R.locals := hlocals
  have happ : (headSpec ws rm).appliesLoose y e.platform (U.calling g mk a) = true :=
    Spec.appliesLoose_calling (g := g) h hdg hn hkY hinitY
      (X.room_calling (g := g) (R' := (headSpec ws rm).room) hsize hmY hcY hframes (by rw [hlY]; omega) h4 h5) h1
  obtain ⟨mid, hmid⟩ := h.above
  have hfr : (U.setTop g).frames = (.java g :: mid) ++ below := by rw [State.frames_setTop' g h.top, hmid]; rfl
  obtain ⟨o, s₂, hsteps, -, hend, hq⟩ := Steps.callFree hM p X.admits X.cas X.clock (acts := []) hfr happ hPc trivial
  have hq' : vx_Q Qc XC mc ms free a (U.calling g mk a) o s₂ := hq
  rw [State.frames_setTop' g h.top] at hend
  obtain ⟨g₀, hg0⟩ := Option.isSome_iff_exists.mp h.top
  obtain ⟨r, hr⟩ := State.topJava?_eq_some.mp hg0
  have hr' : (({ U with heap := s₂.heap, slotsUsed := s₂.slotsUsed } : State).setVm s₂.vm).frames = .java g₀ :: r := hr
  rcases hq' with ⟨hqc, L, hfe, hL⟩ | ⟨q, rfl, E, ce, L, hx, hce, hcv, hcl, hW₂, hsm, hL⟩
  · obtain ⟨⟨v, rfl⟩, hW₂, e2, q2, q3, q4, q5, q6⟩ := id hfe
    have e3 : s₂ = ({ (U.calling g mk a).setFrames s₂.frames with heap := s₂.heap, slotsUsed := s₂.slotsUsed } : State).setVm s₂.vm := by
      have : s₂ = ({ s₂ with vm := (U.calling g mk a).vm } : State).setVm s₂.vm := rfl
      rw [e2] at this
      exact this
    obtain ⟨c₂, i₂, len₂, hc₂, hd₂, hf₂⟩ := hend
    have hW' : U.WarmedH s₂.vm := hW₂
    have hcc : c₂ = c := by
      have h1 : s₂.code? g.method = U.code? g.method := by
        rw [State.code?_eq, State.code?_eq, hW'.alike.method?]
      exact Option.some.inj (hc₂.symm.trans (h1.trans h.code))
    subst hcc
    have hlen : len₂ = len := by rw [hdg] at hd₂; cases hd₂; rfl
    subst hlen
    have hs₂ : s₂ = (({ U with heap := s₂.heap, slotsUsed := s₂.slotsUsed } : State).setVm s₂.vm).setTop { g with pc := g.pc + len₂, stack := v.toList ++ g.stack } := by
      refine e3.trans ?_
      rw [hf₂, State.calling_eq h.top, State.setFrames_setFrames, State.setTop_of_frames _ hr', hr]
      rfl
    have hsame : U.sameButNew ({ U with heap := s₂.heap, slotsUsed := s₂.slotsUsed } : State) L mc ms := by
      refine ⟨?_, q2, q3, q4, q5, q6⟩
      obtain ⟨t, ht, -⟩ := State.frames_cons hr
      show ({ U with heap := s₂.heap, slotsUsed := s₂.slotsUsed } : State) = { U.setFrames U.frames with heap := s₂.heap, slotsUsed := s₂.slotsUsed }
      rw [State.setFrames_self ht]
    subst hg
    refine Or.inl ⟨v, ⟨(({ U with heap := s₂.heap, slotsUsed := s₂.slotsUsed } : State).setVm s₂.vm), Ls ++ L, c0 + mc, s0 + ms⟩,
      ⟨X.admits, X.cas, X.clock, X.frames, X.room, X.hears, X.method, X.code, (X.here.setHeapUsed s₂.heap s₂.slotsUsed).setVm hW'.alike, X.tail, State.WarmedH.trans X.warmed hW', X.limits, X.bytes, X.same.trans (hsame.setVm s.vm)⟩,
      ⟨g, mk, s₂, L, rfl, rfl, hqc, rfl, hL, rfl, rfl⟩, ?_⟩
    show Steps p.tables e below _ ((({ U with heap := s₂.heap, slotsUsed := s₂.slotsUsed } : State).setVm s₂.vm).setTop { g with pc := g.pc + len₂, stack := v.toList ++ g.stack })
    rw [← hs₂]
    exact hsteps
  · obtain ⟨e2, q2, q3, q4, q5, q6⟩ := id hsm
    have e3 : s₂ = ({ (U.calling g mk a).setFrames s₂.frames with heap := s₂.heap, slotsUsed := s₂.slotsUsed } : State).setVm s₂.vm := by
      have : s₂ = ({ s₂ with vm := (U.calling g mk a).vm } : State).setVm s₂.vm := rfl
      rw [e2] at this
      exact this
    have hf₂ : s₂.frames = .throwing q :: .java g :: U.frames.tail := hend
    have hW' : U.WarmedH s₂.vm := hW₂
    have hs₂ : s₂ = ((({ U with heap := s₂.heap, slotsUsed := s₂.slotsUsed } : State).setVm s₂.vm).setTop g).pushFrame (.throwing q) := by
      refine e3.trans ?_
      rw [hf₂, State.calling_eq h.top, State.setFrames_setFrames, State.pushFrame, State.frames_setTop _ hr', State.setTop_of_frames _ hr', State.setFrames_setFrames, hr]
      rfl
    have hsame : U.sameButNew ({ U with heap := s₂.heap, slotsUsed := s₂.slotsUsed } : State) L mc ms := by
      refine ⟨?_, q2, q3, q4, q5, q6⟩
      obtain ⟨t, ht, -⟩ := State.frames_cons hr
      show ({ U with heap := s₂.heap, slotsUsed := s₂.slotsUsed } : State) = { U.setFrames U.frames with heap := s₂.heap, slotsUsed := s₂.slotsUsed }
      rw [State.setFrames_self ht]
    subst hg
    refine Or.inr ⟨q, ⟨(({ U with heap := s₂.heap, slotsUsed := s₂.slotsUsed } : State).setVm s₂.vm), Ls ++ L, c0 + mc, s0 + ms⟩,
      ⟨X.admits, X.cas, X.clock, X.frames, X.room, X.hears, X.method, X.code, (X.here.setHeapUsed s₂.heap s₂.slotsUsed).setVm hW'.alike, X.tail, State.WarmedH.trans X.warmed hW', X.limits, X.bytes, X.same.trans (hsame.setVm s.vm)⟩,
      ⟨g, mk, s₂, L, E, ce, rfl, rfl, hx, hce, hcv, hcl, rfl, hL, rfl, rfl⟩, ?_⟩
    show Steps p.tables e below _ (((({ U with heap := s₂.heap, slotsUsed := s₂.slotsUsed } : State).setVm s₂.vm).setTop g).pushFrame (.throwing q))
    rw [← hs₂]
    exact hsteps
end Payer
section Calls
variable {p : Program} {l : Launch} {e : Env} {R : Room} {s : State} {m : MethodId} {args : Array Value} {below : List Frame} {meth : Method} {c : Code} {T : State} {locs : List Loc} {cells slots : Nat}
theorem vx_callV (X : Stand p l e R s m args below meth c T locs cells slots) (hexec : p.tables.exec = Jvm.exec) {own C : String} {index : Nat} {y : MethodName} {bytes : ByteArray} {maxL : Nat} {ret : Option FieldType}
    (hown : s.vm.findClass own = some m.cls) (hlink : (Cond.methodLink own index y).before args s = true) (hinst : (Cond.instanceMethod y).before args s = true) (hsel : (Cond.selects C y y).before args s = true)
    (hcode : (Cond.code y bytes maxL ret).before args s = true) (hy : y.cls ≠ "java/lang/invoke/MethodHandle" ∧ y.cls ≠ "java/lang/invoke/VarHandle")
    {W9 : Nat} {Pre : Pt → Array Value → Prop} {Post : Pt → Array Value → Option Value → Pt → Prop} {PostX : Pt → Array Value → Addr → Pt → Prop} (hK : vx_Back l R p e below s args y 3 W9 Pre Post PostX)
    {b : Addr} {cellB : Cell} (hcell : T.heap[b]? = some cellB) (hobj : cellB.vm.isStatics = false) (hcls : s.vm.findClass C = some cellB.cls)
    {g : JFrame} (hg : g.method = m) (hsize : g.locals.size = c.maxLocals) {argsL rest : List Value} (hlen : ∀ sig, parseMethodDescriptor y.desc = some sig → argsL.length = sig.parameters.length)
    (hstack : g.stack = argsL.reverse ++ .ref b :: rest) (hW : 2 * g.monitorRoom + (rest.map fun v => v.category).sum ≤ W9) (hdg : decode c.code g.pc = .ok (.invokevirtual index, 3))
    (hpre : ∀ vm₁, s.WarmedH vm₁ → Pre ⟨T.setVm vm₁, locs, cells, slots⟩ (Value.ref b :: argsL).toArray) :
    (∃ (v : Option Value) (vm₁ : Vm) (B : Pt), s.WarmedH vm₁ ∧ Stand p l e R s m args below meth c B.U B.locs B.cells B.slots ∧ Post ⟨T.setVm vm₁, locs, cells, slots⟩ (Value.ref b :: argsL).toArray v B ∧
      ∀ target, Steps p.tables e below (B.U.setTop { g with pc := g.pc + 3, stack := v.toList ++ rest }) target → Steps p.tables e below (T.setTop g) target) ∨
    (∃ (q : Addr) (vm₁ : Vm) (B : Pt), s.WarmedH vm₁ ∧ Stand p l e R s m args below meth c B.U B.locs B.cells B.slots ∧ PostX ⟨T.setVm vm₁, locs, cells, slots⟩ (Value.ref b :: argsL).toArray q B ∧
      Steps p.tables e below (T.setTop g) ((B.U.setTop { g with stack := rest }).pushFrame (.throwing q))) := by
  obtain ⟨mk, methM, hnamed, hmethM, hstM, habM⟩ := Cond.instanceMethod_spec hinst
  obtain ⟨methM', cM, hmethM', -, -, -, -, -, -, hsigM⟩ := Cond.code_spec hnamed hcode
  cases hmethM.symm.trans hmethM'
  obtain ⟨c2, r2, m2, q1, q2, q3, q4, kP, hkP, hkPi⟩ := Cond.selects_spec hsel
  cases hcls.symm.trans q1
  cases (State.methodFound?_of_named hnamed hy).symm.trans q2
  cases hnamed.symm.trans q3
  have hselP : selectMethod e.platform s.vm cellB.cls mk = .method mk := by rw [Launch.admits_selectMethod X.admits]; exact q4
  obtain ⟨vm₁, X₁, hstep₁⟩ := X.invokevirtual hexec hown hlink hnamed hmethM hstM hkP hkPi hy (a := b) (cell := cellB) hcell
    (fun z h => by rw [h] at hobj; cases hobj) hselP hmethM habM hkP hkPi (g := g) hg (argsL := argsL) (rest := rest) (hlen _ hsigM) hstack hdg
  rcases hK m meth c ⟨T.setVm vm₁, locs, cells, slots⟩ { g with stack := rest } (.invokevirtual index) mk (Value.ref b :: argsL).toArray X₁ hg hsize hdg hW (X₁.named hnamed) (hpre vm₁ X₁.warmed) with ⟨v, B, X', hpost, hsteps⟩ | ⟨q, B, X', hpost, hsteps⟩
  · exact Or.inl ⟨v, vm₁, B, X₁.warmed, X', hpost, fun target h => hstep₁ _ fun acts => by rw [doInvoke_state]; exact hsteps.trans h⟩
  · exact Or.inr ⟨q, vm₁, B, X₁.warmed, X', hpost, hstep₁ _ fun acts => by rw [doInvoke_state]; exact hsteps⟩
theorem vx_callS (X : Stand p l e R s m args below meth c T locs cells slots) (hexec : p.tables.exec = Jvm.exec) {own : String} {index : Nat} {y : MethodName} {bytes : ByteArray} {maxL : Nat} {ret : Option FieldType}
    (hown : s.vm.findClass own = some m.cls) (hlink : (Cond.methodLink own index y).before args s = true) (hstat : (Cond.static y).before args s = true) (hinit : (Cond.initialized y.cls).before args s = true)
    (hcode : (Cond.code y bytes maxL ret).before args s = true) (hy : y.cls ≠ "java/lang/invoke/MethodHandle" ∧ y.cls ≠ "java/lang/invoke/VarHandle")
    {W9 : Nat} {Pre : Pt → Array Value → Prop} {Post : Pt → Array Value → Option Value → Pt → Prop} {PostX : Pt → Array Value → Addr → Pt → Prop} (hK : vx_Back l R p e below s args y 3 W9 Pre Post PostX)
    {g : JFrame} (hg : g.method = m) (hsize : g.locals.size = c.maxLocals) {argsL rest : List Value} (hlen : ∀ sig, parseMethodDescriptor y.desc = some sig → argsL.length = sig.parameters.length)
    (hstack : g.stack = argsL.reverse ++ rest) (hW : 2 * g.monitorRoom + (rest.map fun v => v.category).sum ≤ W9) (hdg : decode c.code g.pc = .ok (.invokestatic index, 3))
    (hpre : ∀ vm₁, s.WarmedH vm₁ → Pre ⟨T.setVm vm₁, locs, cells, slots⟩ argsL.toArray) :
    (∃ (v : Option Value) (vm₁ : Vm) (B : Pt), s.WarmedH vm₁ ∧ Stand p l e R s m args below meth c B.U B.locs B.cells B.slots ∧ Post ⟨T.setVm vm₁, locs, cells, slots⟩ argsL.toArray v B ∧
      ∀ target, Steps p.tables e below (B.U.setTop { g with pc := g.pc + 3, stack := v.toList ++ rest }) target → Steps p.tables e below (T.setTop g) target) ∨
    (∃ (q : Addr) (vm₁ : Vm) (B : Pt), s.WarmedH vm₁ ∧ Stand p l e R s m args below meth c B.U B.locs B.cells B.slots ∧ PostX ⟨T.setVm vm₁, locs, cells, slots⟩ argsL.toArray q B ∧
      Steps p.tables e below (T.setTop g) ((B.U.setTop { g with stack := rest }).pushFrame (.throwing q))) := by
  obtain ⟨mk, hnamed⟩ := Cond.code_named hcode
  obtain ⟨methM, cM, hmethM, -, -, -, -, -, -, hsigM⟩ := Cond.code_spec hnamed hcode
  have hstatic : methM.isStatic = true := Cond.static_spec hnamed hmethM hstat
  obtain ⟨kP, hkP, -⟩ := className_of_methodNamed hnamed
  have hinitP : kP.init = .initialized := Cond.initialized_spec (findClass_of_methodNamed hnamed) hkP hinit
  obtain ⟨vm₁, X₁, hstep₁⟩ := X.invokestatic hexec hown hlink hnamed hmethM hstatic hkP hinitP hy (g := g) hg (argsL := argsL) (rest := rest) (hlen _ hsigM) hstack hdg
  rcases hK m meth c ⟨T.setVm vm₁, locs, cells, slots⟩ { g with stack := rest } (.invokestatic index) mk argsL.toArray X₁ hg hsize hdg hW (X₁.named hnamed) (hpre vm₁ X₁.warmed) with ⟨v, B, X', hpost, hsteps⟩ | ⟨q, B, X', hpost, hsteps⟩
  · exact Or.inl ⟨v, vm₁, B, X₁.warmed, X', hpost, fun target h => hstep₁ _ fun acts => by rw [doInvoke_state]; exact hsteps.trans h⟩
  · exact Or.inr ⟨q, vm₁, B, X₁.warmed, X', hpost, hstep₁ _ fun acts => by rw [doInvoke_state]; exact hsteps⟩
end Calls
theorem vx_cls {s : State} {T : State} {vm₁ : Vm} {E : String} {k : ClassId} (hW : s.WarmedH vm₁) (h : (T.setVm vm₁).vm.findClass E = some k) : s.vm.findClass E = some k := by
  have h1 : vm₁.findClass E = some k := h
  rw [hW.alike.findClass] at h1
  exact h1
/-- the method's frame g, with q thrown over it -/
def vx_W (p : Program) (l : Launch) (e : Env) (R : Room) (s : State) (m : MethodId) (args : Array Value) (below : List Frame) (meth : Method) (c : Code) (H : Heap) (locs : List Loc) (cells slots : Nat) (Q : State → Prop) (g : JFrame) (q : Addr) : Prop :=
  ∀ T : State, T.heap = H → Stand p l e R s m args below meth c T locs cells slots → ∃ t, Steps p.tables e below ((T.setTop g).pushFrame (.throwing q)) t ∧ Q t
def vx_Run (p : Program) (l : Launch) (e : Env) (R : Room) (s : State) (m : MethodId) (args : Array Value) (below : List Frame) (meth : Method) (c : Code) (H : Heap) (locs : List Loc) (cells slots mc ms : Nat) (g : JFrame) (rest : List Value) (Qa : State → Outcome → State → Prop) (XC : String → State → State → Prop) (free : Addr → Prop) : Prop :=
  ∀ T : State, T.heap = H → Stand p l e R s m args below meth c T locs cells slots →
    (∃ (v : Option Value) (st₀ t T' : State) (L : List Loc), st₀.heap = H ∧ Stand p l e R s m args below meth c T' (locs ++ L) (cells + mc) (slots + ms) ∧ (∀ q ∈ L, free q.base) ∧ T'.heap = t.heap ∧ T'.vm = t.vm ∧ Qa st₀ (.returned v) t ∧
      Goes p e below T g T' { g with pc := g.pc + 3, stack := v.toList ++ rest }) ∨
    (∃ (q : Addr) (st₀ t T' : State) (L : List Loc) (E : String) (ce : Cell), st₀.heap = H ∧ Stand p l e R s m args below meth c T' (locs ++ L) (cells + mc) (slots + ms) ∧ (∀ z ∈ L, free z.base) ∧ T'.heap = t.heap ∧ T'.vm = t.vm ∧ XC E st₀ t ∧ t.heap[q]? = some ce ∧ ce.vm = .none ∧ s.vm.findClass E = some ce.cls ∧
      Steps p.tables e below (T.setTop g) ((T'.setTop { g with stack := rest }).pushFrame (.throwing q)))
def vx_X {S : Type} (px : S → Prop) (B : String → S → State → Prop) (A : Nat → Prop) : String → State → State → Prop := fun E st t => ∃ u : S, px u ∧ B E u t ∧ va_F A st t
section Runs
variable {p : Program} {l : Launch} {e : Env} {R : Room} {s : State} {m : MethodId} {args : Array Value} {below : List Frame} {meth : Method} {c : Code} {H : Heap} {locs : List Loc} {cells slots : Nat}
variable {y : MethodName} {bytes cc : ByteArray} {maxL nL mc ms n index : Nat} {ret : Option FieldType} {ws : List Cond} {rm : Room} {Pc : Array Value → State → Prop} {Qc : Array Value → State → Outcome → State → Prop} {XC : String → State → State → Prop} {free : Addr → Prop} {Ts : List Cond} {own C : String} {b : Addr} {As rest : List Value} {g : JFrame}
theorem vx_callBack (cb : CallB R s args own index y bytes maxL ret ws rm mc ms n) (hM : vx_Met l y ws rm Pc Qc XC mc ms free) (hbl : FrameBlind Pc) : vx_Back l R p e below s args y 3 8 (PreOf R mc ms Pc) (PostOf Qc mc ms free) (vx_Post XC mc ms free) := by
  obtain ⟨hrc, hrs, hfr, hlo, hws, hcw, -, hini, -⟩ := cb
  exact vx_back (bytes := bytes) (maxL := maxL) (ret := ret) hM hbl hrc hrs hfr hlo hws hcw (fun a' U hW => word_at hW (Or.inl (by first | rfl | simp [Cond.onTables, Cond.keeps, Cond.steady])) hini)
theorem vx_runV (S : CallFix p m c cc nL s args Ts own) (hM : vx_Met l y ws rm Pc Qc XC mc ms free) (cw : CallW R s args own C index y bytes maxL ret ws rm mc ms n) (hp : PreV s H C b Pc As)
    (hg : g.method = m) (hn : As.length = n) (hsize : g.locals.size = nL) (hstack : g.stack = As.reverse ++ .ref b :: rest) (hW : 2 * g.monitorRoom + (rest.map fun v => v.category).sum ≤ 8) (hdg : decode cc g.pc = .ok (.invokevirtual index, 3)) (hf : cells + mc ≤ R.cells ∧ slots + ms ≤ R.slots) :
    vx_Run p l e R s m args below meth c H locs cells slots mc ms g rest (Qc (Value.ref b :: As).toArray) XC free := by
  have hK : vx_Back l R p e below s args y 3 8 (PreOf R mc ms Pc) (PostOf Qc mc ms free) (vx_Post XC mc ms free) := vx_callBack cw.1 hM hp.1
  obtain ⟨⟨-, -, -, -, -, -, hcode, -, hy, hlen, hl⟩, hin, hse⟩ := cw
  obtain ⟨hx, hb, hml, ho, -⟩ := S
  obtain ⟨-, ⟨cellB, hcB, hoB, hclB⟩, hPc⟩ := hp
  intro T hT X
  rcases vx_callV X hx (C := C) (bytes := bytes) (maxL := maxL) (ret := ret) ho hl hin hse hcode hy hK (by rw [hT]; exact hcB) hoB hclB hg (hsize.trans hml.symm) (argsL := As) (rest := rest) (fun sig h => hn.trans (hlen sig h)) hstack hW (by rw [hb]; exact hdg)
    (fun vm₁ hW₁ => ⟨hf.1, hf.2, hPc (T.setVm vm₁) hT hW₁⟩) with ⟨v, vm₁, ⟨U', l2, c2, s2⟩, hW₁, X', ⟨g', mk, t, L, e1, e2, hq, h1, hL, h2, h3⟩, st⟩ | ⟨q, vm₁, ⟨U', l2, c2, s2⟩, hW₁, X', ⟨g', mk, t, L, E, ce, e1, e2, hq, hce, hcv, hcl, h1, hL, h2, h3⟩, st⟩
  · dsimp only [Pt.U, Pt.locs, Pt.cells, Pt.slots] at X' e1 e2 h1 h2 h3 st
    subst h1; subst h2; subst h3
    exact Or.inl ⟨v, (T.setVm vm₁).calling g' mk (Value.ref b :: As).toArray, t, U', L, hT, X', hL, e1, e2, hq, st⟩
  · dsimp only [Pt.U, Pt.locs, Pt.cells, Pt.slots] at X' e1 e2 h1 h2 h3 st hcl
    subst h1; subst h2; subst h3
    exact Or.inr ⟨q, (T.setVm vm₁).calling g' mk (Value.ref b :: As).toArray, t, U', L, E, ce, hT, X', hL, e1, e2, hq, hce, hcv, vx_cls hW₁ hcl, st⟩
theorem vx_runS (S : CallFix p m c cc nL s args Ts own) (hM : vx_Met l y ws rm Pc Qc XC mc ms free) (cw : CallB R s args own index y bytes maxL ret ws rm mc ms n ∧ (Cond.static y).before args s = true) (hp : PreS s H Pc As)
    (hg : g.method = m) (hn : As.length = n) (hsize : g.locals.size = nL) (hstack : g.stack = As.reverse ++ rest) (hW : 2 * g.monitorRoom + (rest.map fun v => v.category).sum ≤ 8) (hdg : decode cc g.pc = .ok (.invokestatic index, 3)) (hf : cells + mc ≤ R.cells ∧ slots + ms ≤ R.slots) :
    vx_Run p l e R s m args below meth c H locs cells slots mc ms g rest (Qc As.toArray) XC free := by
  have hK : vx_Back l R p e below s args y 3 8 (PreOf R mc ms Pc) (PostOf Qc mc ms free) (vx_Post XC mc ms free) := vx_callBack cw.1 hM hp.1
  obtain ⟨⟨-, -, -, -, -, -, hcode, hini, hy, hlen, hl⟩, hstt⟩ := cw
  obtain ⟨hx, hb, hml, ho, -⟩ := S
  intro T hT X
  rcases vx_callS X hx (bytes := bytes) (maxL := maxL) (ret := ret) ho hl hstt hini hcode hy hK hg (hsize.trans hml.symm) (argsL := As) (rest := rest) (fun sig h => hn.trans (hlen sig h)) hstack hW (by rw [hb]; exact hdg)
    (fun vm₁ hW₁ => ⟨hf.1, hf.2, hp.2 (T.setVm vm₁) hT hW₁⟩) with ⟨v, vm₁, ⟨U', l2, c2, s2⟩, hW₁, X', ⟨g', mk, t, L, e1, e2, hq, h1, hL, h2, h3⟩, st⟩ | ⟨q, vm₁, ⟨U', l2, c2, s2⟩, hW₁, X', ⟨g', mk, t, L, E, ce, e1, e2, hq, hce, hcv, hcl, h1, hL, h2, h3⟩, st⟩
  · dsimp only [Pt.U, Pt.locs, Pt.cells, Pt.slots] at X' e1 e2 h1 h2 h3 st
    subst h1; subst h2; subst h3
    exact Or.inl ⟨v, (T.setVm vm₁).calling g' mk As.toArray, t, U', L, hT, X', hL, e1, e2, hq, st⟩
  · dsimp only [Pt.U, Pt.locs, Pt.cells, Pt.slots] at X' e1 e2 h1 h2 h3 st hcl
    subst h1; subst h2; subst h3
    exact Or.inr ⟨q, (T.setVm vm₁).calling g' mk As.toArray, t, U', L, E, ce, hT, X', hL, e1, e2, hq, hce, hcv, vx_cls hW₁ hcl, st⟩
end Runs
section Rows
variable {p : Program} {l : Launch} {e : Env} {R : Room} {s : State} {m : MethodId} {args : Array Value} {below : List Frame} {meth : Method} {c : Code} {H : Heap} {locs : List Loc} {cells slots : Nat} {Q : State → Prop}
variable {mc ms : Nat} {free : Addr → Prop} {A0 A1 : Nat → Prop} {H0 : Heap} {a : Array Value} {pc : Nat} {ls : Array Slot} {st0 rest : List Value}
theorem vx_keep {st₀ t T' : State} {L : List Loc} (h0 : st₀.heap = H) (e1 : T'.heap = t.heap) (hS : va_S A0 H0 H locs) (hA : ∀ q, q < H.size → A1 q → A0 q) (hf : ∀ q, free q → A0 q) (hL : ∀ q ∈ L, free q.base) (hF : va_F A1 st₀ t) :
    H.size ≤ T'.heap.size ∧ (∀ q : Nat, q < H.size → ¬ A1 q → T'.heap[q]? = H[q]?) ∧ va_S A0 H0 T'.heap (locs ++ L) := by
  obtain ⟨hz, hk⟩ := hF
  rw [h0] at hz hk
  exact ⟨by rw [e1]; exact hz, fun q h1 h2 => by rw [e1]; exact hk q h1 h2,
    ⟨Nat.le_trans hS.1 (by rw [e1]; exact hz), fun q h1 h2 => by rw [e1, hk q (Nat.lt_of_lt_of_le h1 hS.1) (fun z => h2 (hA q (Nat.lt_of_lt_of_le h1 hS.1) z))]; exact hS.2.1 q h1 h2, fun q hq => by
      rcases List.mem_append.mp hq with h | h
      · exact hS.2.2 q h
      · exact hf _ (hL q h)⟩⟩
theorem vx_calli {S SX : Type} {post : Int32 → S → Prop} {px : SX → Prop} {B : S → State → Prop} {BX : String → SX → State → Prop} {AX : Nat → Prop} (hr : vx_Run p l e R s m args below meth c H locs cells slots mc ms (F0 m pc ls st0) rest (va_Qi post B A1 a) (vx_X px BX AX) free) (hS : va_S A0 H0 H locs) (hA : ∀ q, q < H.size → A1 q → A0 q) (hf : ∀ q, free q → A0 q) (hAX : ∀ q, q < H.size → AX q → A0 q)
    (kx : ∀ (E : String) (ce : Cell) (q9 : Addr) (u : SX) (t : State) (H1 : Heap) (locs1 : List Loc), t.heap = H1 → s.vm.Alike t.vm → px u → BX E u t → H.size ≤ H1.size → (∀ q : Nat, q < H.size → ¬ AX q → H1[q]? = H[q]?) → va_S A0 H0 H1 locs1 → H1[q9]? = some ce → ce.vm = .none → s.vm.findClass E = some ce.cls → vx_W p l e R s m args below meth c H1 locs1 (cells + mc) (slots + ms) Q (F0 m pc ls rest) q9)
    (kk : ∀ (r : Int32) (u : S) (t : State) (H1 : Heap) (locs1 : List Loc), t.heap = H1 → s.vm.Alike t.vm → post r u → B u t → H.size ≤ H1.size → (∀ q : Nat, q < H.size → ¬ A1 q → H1[q]? = H[q]?) → va_S A0 H0 H1 locs1 → W p l e R s m args below meth c H1 locs1 (cells + mc) (slots + ms) Q (F0 m (pc + 3) ls (.int r :: rest))) : W p l e R s m args below meth c H locs cells slots Q (F0 m pc ls st0) := by
  intro T hT X
  rcases hr T hT X with ⟨v, st₀, t, T', L, h0, X', hL, e1, e2, ⟨⟨r, u, hv, hp, hb⟩, hF⟩, st⟩ | ⟨q, st₀, t, T', L, E, ce, h0, X', hL, e1, e2, ⟨u, hp, hb, hF⟩, hce, hcv, hcl, st⟩
  · cases hv
    obtain ⟨k1, k2, k3⟩ := vx_keep h0 e1 hS hA hf hL hF
    obtain ⟨t2, a1, b1⟩ := kk r u t T'.heap (locs ++ L) e1.symm (by rw [← e2]; exact X'.warmed.alike) hp hb k1 k2 k3 T' rfl X'
    exact ⟨t2, st t2 a1, b1⟩
  · obtain ⟨k1, k2, k3⟩ := vx_keep h0 e1 hS hAX hf hL hF
    obtain ⟨t2, a1, b1⟩ := kx E ce q u t T'.heap (locs ++ L) e1.symm (by rw [← e2]; exact X'.warmed.alike) hp hb k1 k2 k3 (by rw [e1]; exact hce) hcv hcl T' rfl X'
    exact ⟨t2, st.trans a1, b1⟩
theorem vx_calll {S SX : Type} {post : Int64 → S → Prop} {px : SX → Prop} {B : S → State → Prop} {BX : String → SX → State → Prop} {AX : Nat → Prop} (hr : vx_Run p l e R s m args below meth c H locs cells slots mc ms (F0 m pc ls st0) rest (va_Ql post B A1 a) (vx_X px BX AX) free) (hS : va_S A0 H0 H locs) (hA : ∀ q, q < H.size → A1 q → A0 q) (hf : ∀ q, free q → A0 q) (hAX : ∀ q, q < H.size → AX q → A0 q)
    (kx : ∀ (E : String) (ce : Cell) (q9 : Addr) (u : SX) (t : State) (H1 : Heap) (locs1 : List Loc), t.heap = H1 → s.vm.Alike t.vm → px u → BX E u t → H.size ≤ H1.size → (∀ q : Nat, q < H.size → ¬ AX q → H1[q]? = H[q]?) → va_S A0 H0 H1 locs1 → H1[q9]? = some ce → ce.vm = .none → s.vm.findClass E = some ce.cls → vx_W p l e R s m args below meth c H1 locs1 (cells + mc) (slots + ms) Q (F0 m pc ls rest) q9)
    (kk : ∀ (r : Int64) (u : S) (t : State) (H1 : Heap) (locs1 : List Loc), t.heap = H1 → s.vm.Alike t.vm → post r u → B u t → H.size ≤ H1.size → (∀ q : Nat, q < H.size → ¬ A1 q → H1[q]? = H[q]?) → va_S A0 H0 H1 locs1 → W p l e R s m args below meth c H1 locs1 (cells + mc) (slots + ms) Q (F0 m (pc + 3) ls (.long r :: rest))) : W p l e R s m args below meth c H locs cells slots Q (F0 m pc ls st0) := by
  intro T hT X
  rcases hr T hT X with ⟨v, st₀, t, T', L, h0, X', hL, e1, e2, ⟨⟨r, u, hv, hp, hb⟩, hF⟩, st⟩ | ⟨q, st₀, t, T', L, E, ce, h0, X', hL, e1, e2, ⟨u, hp, hb, hF⟩, hce, hcv, hcl, st⟩
  · cases hv
    obtain ⟨k1, k2, k3⟩ := vx_keep h0 e1 hS hA hf hL hF
    obtain ⟨t2, a1, b1⟩ := kk r u t T'.heap (locs ++ L) e1.symm (by rw [← e2]; exact X'.warmed.alike) hp hb k1 k2 k3 T' rfl X'
    exact ⟨t2, st t2 a1, b1⟩
  · obtain ⟨k1, k2, k3⟩ := vx_keep h0 e1 hS hAX hf hL hF
    obtain ⟨t2, a1, b1⟩ := kx E ce q u t T'.heap (locs ++ L) e1.symm (by rw [← e2]; exact X'.warmed.alike) hp hb k1 k2 k3 (by rw [e1]; exact hce) hcv hcl T' rfl X'
    exact ⟨t2, st.trans a1, b1⟩
theorem vx_callf {S SX : Type} {post : UInt32 → S → Prop} {px : SX → Prop} {B : S → State → Prop} {BX : String → SX → State → Prop} {AX : Nat → Prop} (hr : vx_Run p l e R s m args below meth c H locs cells slots mc ms (F0 m pc ls st0) rest (va_Qf post B A1 a) (vx_X px BX AX) free) (hS : va_S A0 H0 H locs) (hA : ∀ q, q < H.size → A1 q → A0 q) (hf : ∀ q, free q → A0 q) (hAX : ∀ q, q < H.size → AX q → A0 q)
    (kx : ∀ (E : String) (ce : Cell) (q9 : Addr) (u : SX) (t : State) (H1 : Heap) (locs1 : List Loc), t.heap = H1 → s.vm.Alike t.vm → px u → BX E u t → H.size ≤ H1.size → (∀ q : Nat, q < H.size → ¬ AX q → H1[q]? = H[q]?) → va_S A0 H0 H1 locs1 → H1[q9]? = some ce → ce.vm = .none → s.vm.findClass E = some ce.cls → vx_W p l e R s m args below meth c H1 locs1 (cells + mc) (slots + ms) Q (F0 m pc ls rest) q9)
    (kk : ∀ (r : UInt32) (u : S) (t : State) (H1 : Heap) (locs1 : List Loc), t.heap = H1 → s.vm.Alike t.vm → post r u → B u t → H.size ≤ H1.size → (∀ q : Nat, q < H.size → ¬ A1 q → H1[q]? = H[q]?) → va_S A0 H0 H1 locs1 → W p l e R s m args below meth c H1 locs1 (cells + mc) (slots + ms) Q (F0 m (pc + 3) ls (.float r :: rest))) : W p l e R s m args below meth c H locs cells slots Q (F0 m pc ls st0) := by
  intro T hT X
  rcases hr T hT X with ⟨v, st₀, t, T', L, h0, X', hL, e1, e2, ⟨⟨r, u, hv, hp, hb⟩, hF⟩, st⟩ | ⟨q, st₀, t, T', L, E, ce, h0, X', hL, e1, e2, ⟨u, hp, hb, hF⟩, hce, hcv, hcl, st⟩
  · cases hv
    obtain ⟨k1, k2, k3⟩ := vx_keep h0 e1 hS hA hf hL hF
    obtain ⟨t2, a1, b1⟩ := kk r u t T'.heap (locs ++ L) e1.symm (by rw [← e2]; exact X'.warmed.alike) hp hb k1 k2 k3 T' rfl X'
    exact ⟨t2, st t2 a1, b1⟩
  · obtain ⟨k1, k2, k3⟩ := vx_keep h0 e1 hS hAX hf hL hF
    obtain ⟨t2, a1, b1⟩ := kx E ce q u t T'.heap (locs ++ L) e1.symm (by rw [← e2]; exact X'.warmed.alike) hp hb k1 k2 k3 (by rw [e1]; exact hce) hcv hcl T' rfl X'
    exact ⟨t2, st.trans a1, b1⟩
theorem vx_calld {S SX : Type} {post : UInt64 → S → Prop} {px : SX → Prop} {B : S → State → Prop} {BX : String → SX → State → Prop} {AX : Nat → Prop} (hr : vx_Run p l e R s m args below meth c H locs cells slots mc ms (F0 m pc ls st0) rest (va_Qd post B A1 a) (vx_X px BX AX) free) (hS : va_S A0 H0 H locs) (hA : ∀ q, q < H.size → A1 q → A0 q) (hf : ∀ q, free q → A0 q) (hAX : ∀ q, q < H.size → AX q → A0 q)
    (kx : ∀ (E : String) (ce : Cell) (q9 : Addr) (u : SX) (t : State) (H1 : Heap) (locs1 : List Loc), t.heap = H1 → s.vm.Alike t.vm → px u → BX E u t → H.size ≤ H1.size → (∀ q : Nat, q < H.size → ¬ AX q → H1[q]? = H[q]?) → va_S A0 H0 H1 locs1 → H1[q9]? = some ce → ce.vm = .none → s.vm.findClass E = some ce.cls → vx_W p l e R s m args below meth c H1 locs1 (cells + mc) (slots + ms) Q (F0 m pc ls rest) q9)
    (kk : ∀ (r : UInt64) (u : S) (t : State) (H1 : Heap) (locs1 : List Loc), t.heap = H1 → s.vm.Alike t.vm → post r u → B u t → H.size ≤ H1.size → (∀ q : Nat, q < H.size → ¬ A1 q → H1[q]? = H[q]?) → va_S A0 H0 H1 locs1 → W p l e R s m args below meth c H1 locs1 (cells + mc) (slots + ms) Q (F0 m (pc + 3) ls (.double r :: rest))) : W p l e R s m args below meth c H locs cells slots Q (F0 m pc ls st0) := by
  intro T hT X
  rcases hr T hT X with ⟨v, st₀, t, T', L, h0, X', hL, e1, e2, ⟨⟨r, u, hv, hp, hb⟩, hF⟩, st⟩ | ⟨q, st₀, t, T', L, E, ce, h0, X', hL, e1, e2, ⟨u, hp, hb, hF⟩, hce, hcv, hcl, st⟩
  · cases hv
    obtain ⟨k1, k2, k3⟩ := vx_keep h0 e1 hS hA hf hL hF
    obtain ⟨t2, a1, b1⟩ := kk r u t T'.heap (locs ++ L) e1.symm (by rw [← e2]; exact X'.warmed.alike) hp hb k1 k2 k3 T' rfl X'
    exact ⟨t2, st t2 a1, b1⟩
  · obtain ⟨k1, k2, k3⟩ := vx_keep h0 e1 hS hAX hf hL hF
    obtain ⟨t2, a1, b1⟩ := kx E ce q u t T'.heap (locs ++ L) e1.symm (by rw [← e2]; exact X'.warmed.alike) hp hb k1 k2 k3 (by rw [e1]; exact hce) hcv hcl T' rfl X'
    exact ⟨t2, st.trans a1, b1⟩
theorem vx_callv {S SX : Type} {post : S → Prop} {px : SX → Prop} {B : S → State → Prop} {BX : String → SX → State → Prop} {AX : Nat → Prop} (hr : vx_Run p l e R s m args below meth c H locs cells slots mc ms (F0 m pc ls st0) rest (va_Qv post B A1 a) (vx_X px BX AX) free) (hS : va_S A0 H0 H locs) (hA : ∀ q, q < H.size → A1 q → A0 q) (hf : ∀ q, free q → A0 q) (hAX : ∀ q, q < H.size → AX q → A0 q)
    (kx : ∀ (E : String) (ce : Cell) (q9 : Addr) (u : SX) (t : State) (H1 : Heap) (locs1 : List Loc), t.heap = H1 → s.vm.Alike t.vm → px u → BX E u t → H.size ≤ H1.size → (∀ q : Nat, q < H.size → ¬ AX q → H1[q]? = H[q]?) → va_S A0 H0 H1 locs1 → H1[q9]? = some ce → ce.vm = .none → s.vm.findClass E = some ce.cls → vx_W p l e R s m args below meth c H1 locs1 (cells + mc) (slots + ms) Q (F0 m pc ls rest) q9)
    (kk : ∀ (u : S) (t : State) (H1 : Heap) (locs1 : List Loc), t.heap = H1 → s.vm.Alike t.vm → post u → B u t → H.size ≤ H1.size → (∀ q : Nat, q < H.size → ¬ A1 q → H1[q]? = H[q]?) → va_S A0 H0 H1 locs1 → W p l e R s m args below meth c H1 locs1 (cells + mc) (slots + ms) Q (F0 m (pc + 3) ls (rest))) : W p l e R s m args below meth c H locs cells slots Q (F0 m pc ls st0) := by
  intro T hT X
  rcases hr T hT X with ⟨v, st₀, t, T', L, h0, X', hL, e1, e2, ⟨⟨u, hv, hp, hb⟩, hF⟩, st⟩ | ⟨q, st₀, t, T', L, E, ce, h0, X', hL, e1, e2, ⟨u, hp, hb, hF⟩, hce, hcv, hcl, st⟩
  · cases hv
    obtain ⟨k1, k2, k3⟩ := vx_keep h0 e1 hS hA hf hL hF
    obtain ⟨t2, a1, b1⟩ := kk u t T'.heap (locs ++ L) e1.symm (by rw [← e2]; exact X'.warmed.alike) hp hb k1 k2 k3 T' rfl X'
    exact ⟨t2, st t2 a1, b1⟩
  · obtain ⟨k1, k2, k3⟩ := vx_keep h0 e1 hS hAX hf hL hF
    obtain ⟨t2, a1, b1⟩ := kx E ce q u t T'.heap (locs ++ L) e1.symm (by rw [← e2]; exact X'.warmed.alike) hp hb k1 k2 k3 (by rw [e1]; exact hce) hcv hcl T' rfl X'
    exact ⟨t2, st.trans a1, b1⟩
/-- caught by the row x of this method's table; the rows ahead don't take it -/
theorem vx_catch {own name : String} {E : String} {ce : Cell} {q : Addr} (hown : s.vm.findClass own = some m.cls) (pre : List ExceptionTableEntry) (x : ExceptionTableEntry) (suf : List ExceptionTableEntry) (hsplit : c.exceptionTable.toList = pre ++ x :: suf)
    (hpass : ∀ z ∈ pre, covers z pc = false ∨ (z.catchType ≠ 0 ∧ ∃ nm : String, (Cond.classLink own z.catchType nm).before args s = true ∧ va_Nc E nm s)) (hx : covers x pc = true) (h0 : x.catchType ≠ 0)
    (hlink : (Cond.classLink own x.catchType name).before args s = true) (hcast : (Cond.castable E name).before args s = true) (hcell : H[q]? = some ce) (hv : ce.vm = .none) (hcl : s.vm.findClass E = some ce.cls)
    (kk : W p l e R s m args below meth c H locs cells slots Q (F0 m x.handlerPc ls [.ref q])) : vx_W p l e R s m args below meth c H locs cells slots Q (F0 m pc ls rest) q := by
  intro T hT X
  have hpl : e.platform.magicAccessors = ({} : Platform).magicAccessors := by rw [X.admits.platform]
  obtain ⟨c3, c4, hc3, hc4, hasg⟩ := Cond.castable_spec hcast
  cases Option.some.inj (hc3.symm.trans hcl)
  obtain ⟨c5, hc5, hcl5⟩ := Cond.classLink_spec hown hlink e.platform hpl
  cases Option.some.inj (hc4.symm.trans hc5)
  obtain ⟨vm', X', st⟩ := X.thenCaughtThrough q (g := F0 m pc ls rest) rfl (Steps.refl _) (by rw [hT]; exact hcell) (by rw [hv]; rfl) (by obtain ⟨k9, h9, -⟩ := Vm.findClass_spec hcl; exact ⟨k9, h9⟩) pre x suf hsplit
    (fun z hz => by
      rcases hpass z hz with h | ⟨hz0, nm, hl1, hn1⟩
      · exact Or.inl h
      · obtain ⟨c6, hc6, hcl6⟩ := Cond.classLink_spec hown hl1 e.platform hpl
        obtain ⟨a8, b8, h1, h2, h3⟩ := hn1
        cases Option.some.inj (h1.symm.trans hcl)
        cases Option.some.inj (h2.symm.trans hc6)
        exact Or.inr ⟨hz0, _, hcl6, h3⟩) hx (Or.inr ⟨h0, c4, hcl5, hasg⟩)
  obtain ⟨t, a1, b1⟩ := kk (T.setVm vm') hT X'
  exact ⟨t, st.trans a1, b1⟩
end Rows
section Ends
variable {p : Program} {l : Launch} {e : Env} {R : Room} {s : State} {m : MethodId} {args : Array Value} {below : List Frame} {meth : Method} {c : Code} {H : Heap} {locs : List Loc} {cells slots : Nat} {Q : State → Prop}
variable {mc ms : Nat} {free : Addr → Prop} {A0 A1 : Nat → Prop} {H0 : Heap} {a : Array Value} {ls : Array Slot} {st0 rest : List Value}
variable {Qc : Array Value → State → Outcome → State → Prop} {XC : String → State → State → Prop}
/-- what a body that may throw owes at its end -/
def vx_MQ (below : List Frame) (Qc : Array Value → State → Outcome → State → Prop) (XC : String → State → State → Prop) (a : Array Value) (s : State) (mc ms : Nat) (free : Addr → Prop) : State → Prop := fun t =>
  ∃ o, t.status = .running ∧ Ended t below o ∧ vx_Q Qc XC mc ms free a s o t
theorem vx_ret {g : JFrame} {mc ms : Nat} (k : W p l e R s m args below meth c H locs cells slots (MQ below Qc args s mc ms free) g) : W p l e R s m args below meth c H locs cells slots (vx_MQ below Qc XC args s mc ms free) g := by
  intro T hT X
  obtain ⟨t, a1, o, b1, b2, b3, b4⟩ := k T hT X
  exact ⟨t, a1, o, b1, b2, Or.inl ⟨b3, b4⟩⟩
/-- not caught here: it goes on to the caller -/
theorem vx_widen {g : JFrame} {q : Addr} {k n : Nat} (h1 : cells ≤ k) (h2 : slots ≤ n) (kk : vx_W p l e R s m args below meth c H locs k n Q g q) : vx_W p l e R s m args below meth c H locs cells slots Q g q := fun T hT X => kk T hT (stand_widen X h1 h2)
theorem vx_out {pc : Nat} {E : String} {ce : Cell} {q : Addr} {mc ms : Nat} (hout : ∀ x ∈ c.exceptionTable.toList, covers x pc = false) (hlocks : meth.locks = false) (hcell : H[q]? = some ce) (hv : ce.vm = .none) (hcl : s.vm.findClass E = some ce.cls)
    (hx : ∀ t : State, t.heap = H → s.vm.Alike t.vm → XC E s t) (hf : ∀ z ∈ locs, free z.base) (hc : cells ≤ mc) (hs : slots ≤ ms) :
    vx_W p l e R s m args below meth c H locs cells slots (vx_MQ below Qc XC args s mc ms free) (F0 m pc ls rest) q := by
  intro T hT X
  obtain ⟨st1, hrun, hend, hW, hsm⟩ := X.leaveThrown q (g := F0 m pc ls rest) rfl rfl rfl hout hlocks
  have hcell9 : (T.setFrames (.throwing q :: below)).heap[q]? = some ce := by
    show T.heap[q]? = some ce
    rw [hT]; exact hcell
  exact ⟨_, st1, .threw q, hrun, hend, Or.inr ⟨q, rfl, E, ce, locs, hx _ hT hW.alike, hcell9, hv, hcl, hW, hsm.mono hc hs, hf⟩⟩
theorem vx_frame {U : State} {k n : Nat} (h : s.sameButNew ({ U with vm := s.vm } : State) locs k n) : s.heap.size ≤ U.heap.size ∧ ∀ q : Nat, q < s.heap.size → (∀ z ∈ locs, z.base ≠ q) → U.heap[q]? = s.heap[q]? := by
  obtain ⟨-, h2, -, -, -, h6⟩ := h
  refine ⟨h2, fun q hq hz => ?_⟩
  obtain ⟨c9, e1, e2, e3, e4⟩ := h6 q _ (Array.getElem?_eq_getElem hq)
  have hs : c9.slots = (s.heap[q]).slots := Array.ext_getElem? fun i => e4 i fun hm => hz _ hm rfl
  have h9 : c9 = s.heap[q] := by
    rw [hs] at e2
    exact e2
  have e5 : U.heap[q]? = some c9 := e1
  rw [e5, h9, Array.getElem?_eq_getElem hq]
/-- the words of a throw but the four that speak of the heap -/
def vx_no (w : Cond) : Bool := decide (w ≠ .isRef (.static Bundle.tN "UNASSIGNED_STACK" Bundle.steD)) && decide (w ≠ .isRef (.static Bundle.tN "SUPPRESSED_SENTINEL" Bundle.listD)) && decide (w ≠ .laysStatic Bundle.tN "UNASSIGNED_STACK" Bundle.steD) && decide (w ≠ .laysStatic Bundle.tN "SUPPRESSED_SENTINEL" Bundle.listD)
def vx_at0 (own : String) (ic : Nat) (X : String) (names : List String) : List Cond := (Bundle.ownAtoms0 own ic X names).filter vx_no
def vx_atS (own : String) (ic : Nat) (X : String) (names : List String) : List Cond := (Bundle.ownAtoms own ic X names).filter vx_no
/-- a word that the tables alone decide, or a good one -/
def vx_ot (w : Cond) : Bool := w.onTables || goodWord w
theorem vx_ot_at {args a' : Array Value} {s U : State} {w : Cond} (hW : s.WarmedH U.vm) (hvm : s.vm = U.vm) (hg : vx_ot w = true) (h : w.before args s = true) : w.before a' U = true := by
  simp only [vx_ot, Bool.or_eq_true] at hg
  rcases hg with hg | hg
  · exact va_tabs hg hvm h
  · exact word_at hW (good_of_word hg) h
/-- a list's words: the good ones out of the method's own list, the others by premises of their own -/
theorem vx_hat {args : Array Value} {s : State} {L B : List Cond} (h1 : ∀ w ∈ L.filter goodWord, w.before args s = true) (h2 : ∀ w ∈ L.filter (fun w => !goodWord w), w ∈ B) (h3 : ∀ w ∈ B, w.before args s = true) : ∀ w ∈ L, w.before args s = true := by
  intro w hw
  by_cases g : goodWord w = true
  · exact h1 w (List.mem_filter.mpr ⟨hw, g⟩)
  · refine h3 w (h2 w (List.mem_filter.mpr ⟨hw, ?_⟩))
    show (!goodWord w) = true
    cases hgw : goodWord w
    · rfl
    · exact absurd hgw g
theorem vx_c {args : Array Value} {s : State} {w : Cond} {B : List Cond} (h : w.before args s = true) (t : ∀ w ∈ B, w.before args s = true) : ∀ w' ∈ w :: B, w'.before args s = true := fun w' h' => (List.mem_cons.mp h').elim (fun e => by rw [e]; exact h) (t w')
theorem vx_n {args : Array Value} {s : State} : ∀ w ∈ ([] : List Cond), w.before args s = true := fun _ h => nomatch h
theorem vx_own {args : Array Value} {s : State} {L : List Cond} (h1 : ∀ w ∈ L.filter vx_no, w.before args s = true)
    (hU : (Cond.isRef (.static Bundle.tN "UNASSIGNED_STACK" Bundle.steD)).before args s = true) (hN : (Cond.isRef (.static Bundle.tN "SUPPRESSED_SENTINEL" Bundle.listD)).before args s = true)
    (lU : (Cond.laysStatic Bundle.tN "UNASSIGNED_STACK" Bundle.steD).before args s = true) (lN : (Cond.laysStatic Bundle.tN "SUPPRESSED_SENTINEL" Bundle.listD).before args s = true) : ∀ w ∈ L, w.before args s = true := by
  intro w hw
  by_cases e1 : w = .isRef (.static Bundle.tN "UNASSIGNED_STACK" Bundle.steD)
  · rw [e1]; exact hU
  · by_cases e2 : w = .isRef (.static Bundle.tN "SUPPRESSED_SENTINEL" Bundle.listD)
    · rw [e2]; exact hN
    · by_cases e3 : w = .laysStatic Bundle.tN "UNASSIGNED_STACK" Bundle.steD
      · rw [e3]; exact lU
      · by_cases e4 : w = .laysStatic Bundle.tN "SUPPRESSED_SENTINEL" Bundle.listD
        · rw [e4]; exact lN
        · exact h1 w (List.mem_filter.mpr ⟨hw, by unfold vx_no; rw [decide_eq_true e1, decide_eq_true e2, decide_eq_true e3, decide_eq_true e4]; rfl⟩)
/-- where a static field lies, its class's statics cell in H -/
def vx_L (C n d : String) (A : Nat → Prop) (U : State) (H : Heap) : Prop := ∃ (c : ClassId) (k : Class) (i : Nat) (f : Field) (a : Nat) (cell : Cell), U.vm.findClass C = some c ∧ U.fieldFound? C n d = some (c, k, i, f) ∧ f.isStatic = true ∧ k.statics = some a ∧ H[a]? = some cell ∧ cell.vm.isStatics = true ∧ cell.cls = c ∧ f.slot < cell.slots.size ∧ k.staticTypes[f.slot]? = some f.type ∧ ¬ A a
theorem vx_L.moved {C n d : String} {A : Nat → Prop} {u U : State} {H : Heap} (hvm : u.vm.Alike U.vm) (h : vx_L C n d A u H) : vx_L C n d A U H := by
  obtain ⟨c, k, i, f, a, cell, h1, h2, h3, h4, h5, h6, h7, h8, h9, h10⟩ := h
  obtain ⟨k', hi', he⟩ := State.fieldFound?_setVm hvm h2
  exact ⟨c, k', i, f, a, cell, by rw [hvm.findClass]; exact h1, hi', h3, by rw [he]; exact h4, h5, h6, h7, h8, by rw [he]; exact h9, h10⟩
theorem vx_L.kept {C n d : String} {A : Nat → Prop} {U : State} {H H1 : Heap} (h : vx_L C n d A U H) (hq : ∀ a : Nat, a < H.size → ¬ A a → H1[a]? = H[a]?) : vx_L C n d A U H1 := by
  obtain ⟨c, k, i, f, a, cell, h1, h2, h3, h4, h5, h6, h7, h8, h9, h10⟩ := h
  exact ⟨c, k, i, f, a, cell, h1, h2, h3, h4, by rw [hq a (Array.getElem?_eq_some_iff.mp h5).1 h10]; exact h5, h6, h7, h8, h9, h10⟩
theorem vx_L.narrow {C n d : String} {A B : Nat → Prop} {U : State} {H : Heap} (h : vx_L C n d A U H) (hAB : ∀ q, B q → A q) : vx_L C n d B U H := by
  obtain ⟨c, k, i, f, a, cell, h1, h2, h3, h4, h5, h6, h7, h8, h9, h10⟩ := h
  exact ⟨c, k, i, f, a, cell, h1, h2, h3, h4, h5, h6, h7, h8, h9, fun z => h10 (hAB _ z)⟩
theorem vx_L.word {C n d : String} {A : Nat → Prop} {s : State} {args : Array Value} (h : vx_L C n d A s s.heap) : (Cond.laysStatic C n d).before args s = true := by
  obtain ⟨c, k, i, f, a, cell, h1, h2, h3, h4, h5, h6, h7, h8, h9, -⟩ := h
  show (Cond.laysStatic C n d).holds args s none s [] = true
  exact Cond.laysStatic_of h1 h2 h3 h4 h5 h6 h7 h8 h9
/-- .. and what it holds: null or some reference -/
def vx_Zq (C n d : String) (A : Nat → Prop) (U : State) (H : Heap) : Prop := va_Zq C n d A U H ∧ vx_L C n d A U H
theorem vx_Zq.moved {C n d : String} {A : Nat → Prop} {u U : State} {H : Heap} (hvm : u.vm.Alike U.vm) (h : vx_Zq C n d A u H) : vx_Zq C n d A U H := ⟨va_Zq.moved hvm h.1, vx_L.moved hvm h.2⟩
theorem vx_Zq.kept {C n d : String} {A : Nat → Prop} {U : State} {H H1 : Heap} (h : vx_Zq C n d A U H) (hq : ∀ a : Nat, a < H.size → ¬ A a → H1[a]? = H[a]?) : vx_Zq C n d A U H1 := ⟨va_Zq.kept h.1 hq, vx_L.kept h.2 hq⟩
theorem vx_Zq.narrow {C n d : String} {A B : Nat → Prop} {U : State} {H : Heap} (h : vx_Zq C n d A U H) (hAB : ∀ q, B q → A q) : vx_Zq C n d B U H := ⟨va_Zq.narrow h.1 hAB, vx_L.narrow h.2 hAB⟩
theorem vx_Zqof {args : Array Value} {s : State} {C n d : String} {A : Nat → Prop} (hl : (Cond.laysStatic C n d).before args s = true) (hini : (Cond.initialized C).before args s = true) (h : (Cond.isRef (.static C n d)).before args s = true) (hA : ∀ a : Nat, a < s.heap.size → ¬ A a) : vx_Zq C n d A s s.heap := by
  refine ⟨va_Zqof hl hini h hA, ?_⟩
  obtain ⟨c, k, i, f, a, cell, h1, h2, h3, h4, h5, h6, h7, h8, h9⟩ := Cond.laysStatic_spec hl
  exact ⟨c, k, i, f, a, cell, h1, h2, h3, h4, h5, h6, h7, h8, h9, hA a (Array.getElem?_eq_some_iff.mp h5).1⟩
theorem vx_isRef {C n d : String} {v : Value} {A : Nat → Prop} {s : State} {args : Array Value} (h : va_Z C n d v A s s.heap) (hv : v.isRef = true) : (Cond.isRef (.static C n d)).before args s = true := by
  obtain ⟨cf, kf, fi, f, a, cell, h1, h2, h3, h4, h5, h6, h7, -⟩ := h
  have he : (Term.static C n d).eval args s none [] s = some v := by
    simp [Term.eval, State.fieldNamed?, h1, h2, h4, h5, h6, h7]
  simp only [Cond.before, Cond.holds, Cond.value, he]
  cases v <;> simp_all [Value.isRef]
theorem vx_isRefq {C n d : String} {A : Nat → Prop} {s : State} {args : Array Value} (h : va_Zq C n d A s s.heap) : (Cond.isRef (.static C n d)).before args s = true := by
  rcases h with h | ⟨t, h⟩
  · exact vx_isRef h rfl
  · exact vx_isRef h rfl
/-- the same frame, seen from here: as if the method were called anew in this heap -/
theorem vx_rebase {T : State} (X : Stand p l e R s m args below meth c T locs cells slots) {R' : Room} (hf : R'.frames ≤ R.frames) (hl : R'.locals ≤ R.locals) (hc : cells + R'.cells ≤ R.cells) (hs : slots + R'.slots ≤ R.slots) :
    Stand p l e R' ((T.setVm s.vm).setFrames (.invoking m args :: below)) m args below meth c T [] 0 0 := by
  have htop : (T.setVm s.vm).topJava?.isSome := X.here.top
  have hF : ((T.setVm s.vm).setFrames (.invoking m args :: below)).frames = .invoking m args :: below := State.frames_setFrames _ (State.cur_lt_of_top htop)
  obtain ⟨g₀, hg0⟩ := Option.isSome_iff_exists.mp htop
  obtain ⟨r, hr⟩ := State.topJava?_eq_some.mp hg0
  have hl9 : e.platform.stackLimits (T.setVm s.vm).me = e.platform.stackLimits s.me := X.limits
  have hb9 : (T.setVm s.vm).me.stackBytes = s.me.stackBytes := X.bytes
  refine ⟨X.admits, X.cas, X.clock, hF, ?_, X.hears, X.method, X.code, X.here, X.tail, X.warmed, ?_, ?_, ?_⟩
  · have h := X.room
    have hU : ((T.setVm s.vm).setFrames (.invoking m args :: below)).localsInUse = s.localsInUse := by
      rw [State.localsInUse_invoking hF (meth := meth) (c := c) X.method X.code, State.localsInUse_invoking X.frames X.method X.code]
    simp only [State.hasRoom, Bool.and_eq_true, decide_eq_true_eq] at h ⊢
    obtain ⟨⟨⟨⟨h1, h2, h3, h4, h5, h6⟩, h7⟩, h8⟩, h9⟩ := h
    rw [X.frames, List.length_cons] at h2 h3
    have q1 := X.heapSize
    have q2 := X.used
    simp only [hF, hU, List.length_cons, State.stackLimits_setFrames, State.stackBytes_setFrames, hl9, hb9]
    refine ⟨⟨⟨⟨by omega, by omega, by omega, by omega, by omega, h6⟩, ?_⟩, ?_⟩, X.book⟩
    · show T.heap.size + R'.cells ≤ e.platform.maxCells
      omega
    · show T.slotsUsed + R'.slots ≤ e.platform.maxSlots
      omega
  · rw [State.stackLimits_setFrames]; rfl
  · rw [State.stackBytes_setFrames]; rfl
  · refine ⟨?_, Nat.le_refl _, Nat.le_refl _, ?_, ?_, fun a c9 h9 => ⟨c9, h9, rfl, rfl, fun _ _ => rfl⟩⟩
    · obtain ⟨t, ht, -⟩ := State.frames_cons hr
      show T.setVm s.vm = { ((T.setVm s.vm).setFrames (.invoking m args :: below)).setFrames (T.setVm s.vm).frames with heap := T.heap, slotsUsed := T.slotsUsed }
      rw [State.setFrames_setFrames, State.setFrames_self ht]
      rfl
    · show T.slotsUsed = T.slotsUsed + ((T.heap.toList.drop T.heap.size).map (·.slots.size)).sum
      rw [List.drop_eq_nil_of_le (Nat.le_of_eq Array.length_toList)]
      rfl
    · show ((T.heap.toList.drop T.heap.size).map (·.slots.size)).sum ≤ 0
      rw [List.drop_eq_nil_of_le (Nat.le_of_eq Array.length_toList)]
      exact Nat.le_refl _
/-- 'throw new E()': new; dup; invokespecial; athrow -/
theorem vx_throw0 {cc : ByteArray} {pc : Nat} (hexec : p.tables.exec = Jvm.exec) (hb : c.code = cc) (hl : l.stackTraces = false) {own cls : String} {names : List String} {ik ic mc ms : Nat} {A : Nat → Prop}
    (hown : s.vm.findClass own = some m.cls) (hcls : Bundle.fit cls = true) (hnames : ∀ n ∈ names, Bundle.fit n = true)
    (hk : (Cond.classLink own ik cls).before args s = true) (hini : (Cond.initialized cls).before args s = true) (hat : ∀ w ∈ vx_at0 own ic cls names, w.before args s = true)
    (hgood : ∀ w ∈ Cond.classLink own ik cls :: Cond.initialized cls :: vx_at0 own ic cls names, vx_ot w = true)
    (hU : vx_Zq Bundle.tN "UNASSIGNED_STACK" Bundle.steD A s s.heap) (hN : vx_Zq Bundle.tN "SUPPRESSED_SENTINEL" Bundle.listD A s s.heap) (hS : va_S A s.heap H locs) (hsize : ls.size = c.maxLocals)
    (d0 : decode cc pc = .ok (.new ik, 3)) (d3 : decode cc (pc + 3) = .ok (.dup, 1)) (d4 : decode cc (pc + 4) = .ok (.invokespecial ic, 3)) (d7 : decode cc (pc + 7) = .ok (.athrow, 1))
    (hout : ∀ x ∈ c.exceptionTable.toList, covers x (pc + 7) = false)
    (hRframes : names.length + 3 < R.frames) (hRlocals : (rest.map fun v => v.category).sum + (13 * (names.length + 1) + 42) ≤ R.locals) (hRcells : cells + 1 ≤ R.cells) (hRslots : slots + 6 ≤ R.slots) (hlocks : meth.locks = false)
    (hx : ∀ t : State, s.vm.Alike t.vm → H.size ≤ t.heap.size → (∀ q : Nat, q < H.size → t.heap[q]? = H[q]?) → XC cls s t)
    (hf : ∀ z ∈ locs, free z.base) (hc : cells + 1 ≤ mc) (hs : slots + 6 ≤ ms) :
    W p l e R s m args below meth c H locs cells slots (vx_MQ below Qc XC args s mc ms free) (F0 m pc ls rest) := by
  intro T hT X
  have htr : e.platform.stackTraces = false := (show e.platform.stackTraces = l.stackTraces by rw [X.admits.platform]).trans hl
  have Y := vx_rebase X (R' := { frames := R.frames, locals := R.locals, cells := 1, slots := 6 }) (Nat.le_refl _) (Nat.le_refl _) hRcells hRslots
  obtain ⟨s', hA⟩ : ∃ z, z = (T.setVm s.vm).setFrames (.invoking m args :: below) := ⟨_, rfl⟩
  rw [← hA] at Y
  have hvm : s'.vm = s.vm := by rw [hA]; rfl
  have hhp : s'.heap = H := by rw [hA]; exact hT
  have hW0 : s.WarmedH s'.vm := by rw [hvm]; exact State.WarmedH.refl s
  have hat' : ∀ w ∈ vx_at0 own ic cls names, w.before args s' = true := fun w hw => vx_ot_at hW0 hvm.symm (hgood w (List.mem_cons_of_mem _ (List.mem_cons_of_mem _ hw))) (hat w hw)
  have hk' : (Cond.classLink own ik cls).before args s' = true := vx_ot_at hW0 hvm.symm (hgood _ List.mem_cons_self) hk
  have hini' : (Cond.initialized cls).before args s' = true := vx_ot_at hW0 hvm.symm (hgood _ (List.mem_cons_of_mem _ List.mem_cons_self)) hini
  have hU' : vx_Zq Bundle.tN "UNASSIGNED_STACK" Bundle.steD A s' s'.heap := by rw [hhp]; exact vx_Zq.moved hW0.alike (hU.kept hS.2.1)
  have hN' : vx_Zq Bundle.tN "SUPPRESSED_SENTINEL" Bundle.listD A s' s'.heap := by rw [hhp]; exact vx_Zq.moved hW0.alike (hN.kept hS.2.1)
  have h : ∀ w ∈ Bundle.ownAtoms0 own ic cls names, w.before args s' = true := vx_own hat' (vx_isRefq hU'.1) (vx_isRefq hN'.1) hU'.2.word hN'.2.word
  have hown' : s'.vm.findClass own = some m.cls := by rw [hvm]; exact hown
  have hins : (Cond.instantiable cls 6).before args s' = true := h _ (by simp [Bundle.ownAtoms0])
  obtain ⟨vm₁, cX, kX, hfX, hkX, -, -, X₁, st1⟩ := Y.newCold hexec (own := own) (C := cls) (index := ik) (n := 6) hown' hk' hins hini'
    (g := F0 m pc ls rest) rfl (by rw [hb]; exact d0) (Nat.le_refl _) (Nat.le_refl _)
  generalize hT1 : (T.setVm vm₁).pushCell { cls := cX, slots := kX.instanceTypes.map defaultValue, vm := .none } = T1 at X₁ st1
  have hcat : (Value.ref T.heap.size).category = 1 := rfl
  have hcellA : T1.heap[T.heap.size]? = some (freshCell cX kX) := by rw [← hT1]; exact State.heap_pushCell_size _ _
  have d3' : decode c.code (pc + 3) = .ok (.dup, 1) := by rw [hb]; exact d3
  obtain ⟨U, hsteps, hrun, hend, hW, hsame, ce, hce, hO⟩ := X₁.ctorThrow0 hexec htr (own := own) (cls := cls) (names := names) (ic := ic) hown' hcls hnames h (fun x hx => nomatch hx) hfX hkX hcellA (by rw [hhp, hT]; exact Nat.le_refl _)
    (g := { method := m, pc := pc + 4, locals := ls, stack := .ref T.heap.size :: .ref T.heap.size :: rest, locked := none }) rfl hsize rfl rfl (rest := rest) rfl
    (by rw [hb]; exact d4) (by rw [hb]; exact d7) hout hRframes (by simp only [List.map_cons, List.sum_cons, hcat]; omega) hlocks
  obtain ⟨f1, f2⟩ := vx_frame hsame
  rw [hhp] at f1 f2
  have hWs : s.WarmedH U.vm := State.WarmedH.trans hW0 hW
  have hcl : s.vm.findClass cls = some ce.cls := by
    have h9 := hO.cls
    rw [hvm] at h9
    exact h9
  have hall : s.sameButNew ({ U with vm := s.vm } : State) locs mc ms := by
    subst hA
    obtain ⟨e1, e2⟩ := hsame
    rw [State.setFrames_setFrames] at e1
    have h2 : (T.setVm s.vm).sameButNew ({ U with vm := s.vm } : State) [] (0 + 1) (0 + 6) := ⟨e1, e2⟩
    have h3 := X.same.trans h2
    rw [List.append_nil] at h3
    exact h3.mono hc hs
  refine ⟨U, ?_, .threw T.heap.size, hrun, hend, Or.inr ⟨T.heap.size, rfl, cls, ce, locs, hx U hWs.alike f1 (fun q hq => f2 q hq (fun z hz => nomatch hz)), hce, hO.vm, hcl, hWs, hall, hf⟩⟩
  refine st1 _ ?_
  show Steps p.tables e below (T1.setTop { method := m, pc := pc + 3, locals := ls, stack := .ref T.heap.size :: rest, locked := none }) _
  jvm_step X₁.here [X₁.here.top, hexec, d3', Value.category]
  exact hsteps
/-- 'throw new E("text")': new; dup; ldc; invokespecial; athrow -/
theorem vx_throwS {cc : ByteArray} {pc : Nat} (hexec : p.tables.exec = Jvm.exec) (hb : c.code = cc) (hl : l.stackTraces = false) {own cls text : String} {names : List String} {ik is ic mc ms sa : Nat} {A : Nat → Prop}
    (hown : s.vm.findClass own = some m.cls) (hcls : Bundle.fit cls = true) (hnames : ∀ n ∈ names, Bundle.fit n = true)
    (hk : (Cond.classLink own ik cls).before args s = true) (hini : (Cond.initialized cls).before args s = true) (hstr : vk_R own is text sa s) (hat : ∀ w ∈ vx_atS own ic cls names, w.before args s = true)
    (hgood : ∀ w ∈ Cond.classLink own ik cls :: Cond.initialized cls :: vx_atS own ic cls names, vx_ot w = true)
    (hU : vx_Zq Bundle.tN "UNASSIGNED_STACK" Bundle.steD A s s.heap) (hN : vx_Zq Bundle.tN "SUPPRESSED_SENTINEL" Bundle.listD A s s.heap) (hS : va_S A s.heap H locs) (hsize : ls.size = c.maxLocals)
    (d0 : decode cc pc = .ok (.new ik, 3)) (d3 : decode cc (pc + 3) = .ok (.dup, 1)) (d4 : decode cc (pc + 4) = .ok (.ldc is, 2)) (d6 : decode cc (pc + 6) = .ok (.invokespecial ic, 3)) (d9 : decode cc (pc + 9) = .ok (.athrow, 1))
    (hout : ∀ x ∈ c.exceptionTable.toList, covers x (pc + 9) = false)
    (hRframes : names.length + 3 < R.frames) (hRlocals : (rest.map fun v => v.category).sum + (13 * (names.length + 1) + 43) ≤ R.locals) (hRcells : cells + 1 ≤ R.cells) (hRslots : slots + 6 ≤ R.slots) (hlocks : meth.locks = false)
    (hx : ∀ t : State, s.vm.Alike t.vm → H.size ≤ t.heap.size → (∀ q : Nat, q < H.size → t.heap[q]? = H[q]?) → XC cls s t)
    (hf : ∀ z ∈ locs, free z.base) (hc : cells + 1 ≤ mc) (hs : slots + 6 ≤ ms) :
    W p l e R s m args below meth c H locs cells slots (vx_MQ below Qc XC args s mc ms free) (F0 m pc ls rest) := by
  intro T hT X
  have htr : e.platform.stackTraces = false := (show e.platform.stackTraces = l.stackTraces by rw [X.admits.platform]).trans hl
  have Y := vx_rebase X (R' := { frames := R.frames, locals := R.locals, cells := 1, slots := 6 }) (Nat.le_refl _) (Nat.le_refl _) hRcells hRslots
  obtain ⟨s', hA⟩ : ∃ z, z = (T.setVm s.vm).setFrames (.invoking m args :: below) := ⟨_, rfl⟩
  rw [← hA] at Y
  have hvm : s'.vm = s.vm := by rw [hA]; rfl
  have hhp : s'.heap = H := by rw [hA]; exact hT
  have hW0 : s.WarmedH s'.vm := by rw [hvm]; exact State.WarmedH.refl s
  have hat' : ∀ w ∈ vx_atS own ic cls names, w.before args s' = true := fun w hw => vx_ot_at hW0 hvm.symm (hgood w (List.mem_cons_of_mem _ (List.mem_cons_of_mem _ hw))) (hat w hw)
  have hk' : (Cond.classLink own ik cls).before args s' = true := vx_ot_at hW0 hvm.symm (hgood _ List.mem_cons_self) hk
  have hini' : (Cond.initialized cls).before args s' = true := vx_ot_at hW0 hvm.symm (hgood _ (List.mem_cons_of_mem _ List.mem_cons_self)) hini
  have hU' : vx_Zq Bundle.tN "UNASSIGNED_STACK" Bundle.steD A s' s'.heap := by rw [hhp]; exact vx_Zq.moved hW0.alike (hU.kept hS.2.1)
  have hN' : vx_Zq Bundle.tN "SUPPRESSED_SENTINEL" Bundle.listD A s' s'.heap := by rw [hhp]; exact vx_Zq.moved hW0.alike (hN.kept hS.2.1)
  have h : ∀ w ∈ Bundle.ownAtoms own ic cls names, w.before args s' = true := vx_own hat' (vx_isRefq hU'.1) (vx_isRefq hN'.1) hU'.2.word hN'.2.word
  have hown' : s'.vm.findClass own = some m.cls := by rw [hvm]; exact hown
  have hins : (Cond.instantiable cls 6).before args s' = true := h _ (by simp [Bundle.ownAtoms])
  obtain ⟨vm₁, cX, kX, hfX, hkX, -, -, X₁, st1⟩ := Y.newCold hexec (own := own) (C := cls) (index := ik) (n := 6) hown' hk' hins hini'
    (g := F0 m pc ls rest) rfl (by rw [hb]; exact d0) (Nat.le_refl _) (Nat.le_refl _)
  generalize hT1 : (T.setVm vm₁).pushCell { cls := cX, slots := kX.instanceTypes.map defaultValue, vm := .none } = T1 at X₁ st1
  have hcat : (Value.ref T.heap.size).category = 1 := rfl
  have hcellA : T1.heap[T.heap.size]? = some (freshCell cX kX) := by rw [← hT1]; exact State.heap_pushCell_size _ _
  have d3' : decode c.code (pc + 3) = .ok (.dup, 1) := by rw [hb]; exact d3
  have d4' : decode c.code (pc + 4) = .ok (.ldc is, 2) := by rw [hb]; exact d4
  have hstr' : vk_R own is text sa s' := vk_R.warm hW0 hstr
  obtain ⟨U, hsteps, hrun, hend, hW, hsame, ce, hce, hO⟩ := X₁.ctorThrowS hexec htr (own := own) (cls := cls) (names := names) (ic := ic) hown' hcls hnames h (fun x hx => nomatch hx) hfX hkX hcellA (by rw [hhp, hT]; exact Nat.le_refl _) (msg := .ref sa) rfl
    (g := { method := m, pc := pc + 6, locals := ls, stack := .ref sa :: .ref T.heap.size :: .ref T.heap.size :: rest, locked := none }) rfl hsize rfl rfl (rest := rest) rfl
    (by rw [hb]; exact d6) (by rw [hb]; exact d9) hout hRframes (by simp only [List.map_cons, List.sum_cons, hcat]; omega) hlocks
  obtain ⟨f1, f2⟩ := vx_frame hsame
  rw [hhp] at f1 f2
  have hWs : s.WarmedH U.vm := State.WarmedH.trans hW0 hW
  have hcl : s.vm.findClass cls = some ce.cls := by
    have h9 := hO.cls
    rw [hvm] at h9
    exact h9
  have hall : s.sameButNew ({ U with vm := s.vm } : State) locs mc ms := by
    subst hA
    obtain ⟨e1, e2⟩ := hsame
    rw [State.setFrames_setFrames] at e1
    have h2 : (T.setVm s.vm).sameButNew ({ U with vm := s.vm } : State) [] (0 + 1) (0 + 6) := ⟨e1, e2⟩
    have h3 := X.same.trans h2
    rw [List.append_nil] at h3
    exact h3.mono hc hs
  refine ⟨U, ?_, .threw T.heap.size, hrun, hend, Or.inr ⟨T.heap.size, rfl, cls, ce, locs, hx U hWs.alike f1 (fun q hq => f2 q hq (fun z hz => nomatch hz)), hce, hO.vm, hcl, hWs, hall, hf⟩⟩
  refine st1 _ ?_
  show Steps p.tables e below (T1.setTop { method := m, pc := pc + 3, locals := ls, stack := .ref T.heap.size :: rest, locked := none }) _
  jvm_step X₁.here [X₁.here.top, hexec, d3', Value.category]
  exact X₁.ldcString hexec (own := own) (text := text) (index := is) (a := sa) hown' hstr'.1 hstr'.2
    (g := { method := m, pc := pc + 4, locals := ls, stack := .ref T.heap.size :: .ref T.heap.size :: rest, locked := none }) rfl d4' _ hsteps
/-- 'throw new E("text")', the text by a wide index -/
theorem vx_throwSW {cc : ByteArray} {pc : Nat} (hexec : p.tables.exec = Jvm.exec) (hb : c.code = cc) (hl : l.stackTraces = false) {own cls text : String} {names : List String} {ik is ic mc ms sa : Nat} {A : Nat → Prop}
    (hown : s.vm.findClass own = some m.cls) (hcls : Bundle.fit cls = true) (hnames : ∀ n ∈ names, Bundle.fit n = true)
    (hk : (Cond.classLink own ik cls).before args s = true) (hini : (Cond.initialized cls).before args s = true) (hstr : vk_R own is text sa s) (hat : ∀ w ∈ vx_atS own ic cls names, w.before args s = true)
    (hgood : ∀ w ∈ Cond.classLink own ik cls :: Cond.initialized cls :: vx_atS own ic cls names, vx_ot w = true)
    (hU : vx_Zq Bundle.tN "UNASSIGNED_STACK" Bundle.steD A s s.heap) (hN : vx_Zq Bundle.tN "SUPPRESSED_SENTINEL" Bundle.listD A s s.heap) (hS : va_S A s.heap H locs) (hsize : ls.size = c.maxLocals)
    (d0 : decode cc pc = .ok (.new ik, 3)) (d3 : decode cc (pc + 3) = .ok (.dup, 1)) (d4 : decode cc (pc + 4) = .ok (.ldc_w is, 3)) (d7 : decode cc (pc + 7) = .ok (.invokespecial ic, 3)) (d10 : decode cc (pc + 10) = .ok (.athrow, 1))
    (hout : ∀ x ∈ c.exceptionTable.toList, covers x (pc + 10) = false)
    (hRframes : names.length + 3 < R.frames) (hRlocals : (rest.map fun v => v.category).sum + (13 * (names.length + 1) + 43) ≤ R.locals) (hRcells : cells + 1 ≤ R.cells) (hRslots : slots + 6 ≤ R.slots) (hlocks : meth.locks = false)
    (hx : ∀ t : State, s.vm.Alike t.vm → H.size ≤ t.heap.size → (∀ q : Nat, q < H.size → t.heap[q]? = H[q]?) → XC cls s t)
    (hf : ∀ z ∈ locs, free z.base) (hc : cells + 1 ≤ mc) (hs : slots + 6 ≤ ms) :
    W p l e R s m args below meth c H locs cells slots (vx_MQ below Qc XC args s mc ms free) (F0 m pc ls rest) := by
  intro T hT X
  have htr : e.platform.stackTraces = false := (show e.platform.stackTraces = l.stackTraces by rw [X.admits.platform]).trans hl
  have Y := vx_rebase X (R' := { frames := R.frames, locals := R.locals, cells := 1, slots := 6 }) (Nat.le_refl _) (Nat.le_refl _) hRcells hRslots
  obtain ⟨s', hA⟩ : ∃ z, z = (T.setVm s.vm).setFrames (.invoking m args :: below) := ⟨_, rfl⟩
  rw [← hA] at Y
  have hvm : s'.vm = s.vm := by rw [hA]; rfl
  have hhp : s'.heap = H := by rw [hA]; exact hT
  have hW0 : s.WarmedH s'.vm := by rw [hvm]; exact State.WarmedH.refl s
  have hat' : ∀ w ∈ vx_atS own ic cls names, w.before args s' = true := fun w hw => vx_ot_at hW0 hvm.symm (hgood w (List.mem_cons_of_mem _ (List.mem_cons_of_mem _ hw))) (hat w hw)
  have hk' : (Cond.classLink own ik cls).before args s' = true := vx_ot_at hW0 hvm.symm (hgood _ List.mem_cons_self) hk
  have hini' : (Cond.initialized cls).before args s' = true := vx_ot_at hW0 hvm.symm (hgood _ (List.mem_cons_of_mem _ List.mem_cons_self)) hini
  have hU' : vx_Zq Bundle.tN "UNASSIGNED_STACK" Bundle.steD A s' s'.heap := by rw [hhp]; exact vx_Zq.moved hW0.alike (hU.kept hS.2.1)
  have hN' : vx_Zq Bundle.tN "SUPPRESSED_SENTINEL" Bundle.listD A s' s'.heap := by rw [hhp]; exact vx_Zq.moved hW0.alike (hN.kept hS.2.1)
  have h : ∀ w ∈ Bundle.ownAtoms own ic cls names, w.before args s' = true := vx_own hat' (vx_isRefq hU'.1) (vx_isRefq hN'.1) hU'.2.word hN'.2.word
  have hown' : s'.vm.findClass own = some m.cls := by rw [hvm]; exact hown
  have hins : (Cond.instantiable cls 6).before args s' = true := h _ (by simp [Bundle.ownAtoms])
  obtain ⟨vm₁, cX, kX, hfX, hkX, -, -, X₁, st1⟩ := Y.newCold hexec (own := own) (C := cls) (index := ik) (n := 6) hown' hk' hins hini'
    (g := F0 m pc ls rest) rfl (by rw [hb]; exact d0) (Nat.le_refl _) (Nat.le_refl _)
  generalize hT1 : (T.setVm vm₁).pushCell { cls := cX, slots := kX.instanceTypes.map defaultValue, vm := .none } = T1 at X₁ st1
  have hcat : (Value.ref T.heap.size).category = 1 := rfl
  have hcellA : T1.heap[T.heap.size]? = some (freshCell cX kX) := by rw [← hT1]; exact State.heap_pushCell_size _ _
  have d3' : decode c.code (pc + 3) = .ok (.dup, 1) := by rw [hb]; exact d3
  have d4' : decode c.code (pc + 4) = .ok (.ldc_w is, 3) := by rw [hb]; exact d4
  have hstr' : vk_R own is text sa s' := vk_R.warm hW0 hstr
  obtain ⟨U, hsteps, hrun, hend, hW, hsame, ce, hce, hO⟩ := X₁.ctorThrowS hexec htr (own := own) (cls := cls) (names := names) (ic := ic) hown' hcls hnames h (fun x hx => nomatch hx) hfX hkX hcellA (by rw [hhp, hT]; exact Nat.le_refl _) (msg := .ref sa) rfl
    (g := { method := m, pc := pc + 7, locals := ls, stack := .ref sa :: .ref T.heap.size :: .ref T.heap.size :: rest, locked := none }) rfl hsize rfl rfl (rest := rest) rfl
    (by rw [hb]; exact d7) (by rw [hb]; exact d10) hout hRframes (by simp only [List.map_cons, List.sum_cons, hcat]; omega) hlocks
  obtain ⟨f1, f2⟩ := vx_frame hsame
  rw [hhp] at f1 f2
  have hWs : s.WarmedH U.vm := State.WarmedH.trans hW0 hW
  have hcl : s.vm.findClass cls = some ce.cls := by
    have h9 := hO.cls
    rw [hvm] at h9
    exact h9
  have hall : s.sameButNew ({ U with vm := s.vm } : State) locs mc ms := by
    subst hA
    obtain ⟨e1, e2⟩ := hsame
    rw [State.setFrames_setFrames] at e1
    have h2 : (T.setVm s.vm).sameButNew ({ U with vm := s.vm } : State) [] (0 + 1) (0 + 6) := ⟨e1, e2⟩
    have h3 := X.same.trans h2
    rw [List.append_nil] at h3
    exact h3.mono hc hs
  refine ⟨U, ?_, .threw T.heap.size, hrun, hend, Or.inr ⟨T.heap.size, rfl, cls, ce, locs, hx U hWs.alike f1 (fun q hq => f2 q hq (fun z hz => nomatch hz)), hce, hO.vm, hcl, hWs, hall, hf⟩⟩
  refine st1 _ ?_
  show Steps p.tables e below (T1.setTop { method := m, pc := pc + 3, locals := ls, stack := .ref T.heap.size :: rest, locked := none }) _
  jvm_step X₁.here [X₁.here.top, hexec, d3', Value.category]
  exact X₁.ldcStringW hexec (own := own) (text := text) (index := is) (a := sa) hown' hstr'.1 hstr'.2
    (g := { method := m, pc := pc + 4, locals := ls, stack := .ref T.heap.size :: .ref T.heap.size :: rest, locked := none }) rfl d4' _ hsteps
end Ends
section Bodies
variable {l : Launch}
theorem vx_ofW {y : MethodName} {ws ws' : List Cond} {rm : Room} {Pc : Array Value → State → Prop} {Qc : Array Value → State → Outcome → State → Prop} {XC : String → State → State → Prop} {mc ms : Nat} {free : Addr → Prop} {cc : ByteArray} {maxL : Nat} {ret : Option FieldType}
    (hy : plainName y.cls = true) (hw : ws = Cond.code y cc maxL ret :: ws')
    (body : ∀ p e s m args below meth c s₁, BodyLoose p l y (headSpec ws rm) cc maxL ret e s m args below meth c s₁ → c.maxLocals = maxL → (∀ x ∈ c.exceptionTable.toList, False) → Pc args s →
      W p l e (headSpec ws rm).room s m args below meth c s.heap [] 0 0 (vx_MQ below Qc XC args s mc ms free) (entryFrame m args maxL)) : vx_Met l y ws rm Pc Qc XC mc ms free := by
  refine MetFree.of_bodyS (code := cc) (maxLocals := maxL) (ret := ret) hy ?_ ?_
  · intro args s m h hn
    obtain ⟨meth, c, h1, h2, h3, h4, h5, h6, -, -⟩ := Cond.code_spec hn (atoms_spec (ws := ws) h _ (by rw [hw]; exact List.mem_cons_self))
    exact ⟨meth, c, h1, h2, h3, h4, h5, h6⟩
  · intro p e s m args below meth c s₁ B hml hP _
    have hh0 : s₁.heap = s.heap := by rw [B.state]; rfl
    have ht : ∀ x ∈ c.exceptionTable.toList, False := by
      obtain ⟨meth9, c9, h1, h2, -, -, -, -, h7, -⟩ := Cond.code_spec B.named (atoms_spec (ws := ws) B.pre _ (by rw [hw]; exact List.mem_cons_self))
      cases Option.some.inj (h1.symm.trans B.method)
      cases Option.some.inj (h2.symm.trans (Stand.of_body B).code)
      intro x hx
      rw [Array.isEmpty_iff.mp h7] at hx
      cases hx
    obtain ⟨t, a1, o, b1, b2, b3⟩ := body p e s m args below meth c s₁ B hml ht hP s₁ hh0 (Stand.of_body B)
    exact ⟨t, o, a1, b1, b2, b3⟩
/-- the table of a body with handlers -/
theorem vx_table {p : Program} {x y : MethodName} {S : Spec} {cc bytes : ByteArray} {maxL maxL' : Nat} {ret ret' : Option FieldType} {e : Env} {s s₁ : State} {m : MethodId} {args : Array Value} {below : List Frame} {meth : Method} {c : Code} {hh : List (Nat × Nat × Nat × Nat)}
    (B : BodyLoose p l y S cc maxL ret e s m args below meth c s₁) (h : (Cond.codeWith y bytes maxL' ret' hh).before args s = true) : c.exceptionTable.toList = tableOf hh := by
  obtain ⟨m9, meth9, c9, hn9, h1, h2, -, -, h6, -⟩ := Cond.codeWith_spec h
  cases Option.some.inj (hn9.symm.trans B.named)
  cases Option.some.inj (h1.symm.trans B.method)
  cases Option.some.inj (h2.symm.trans (Stand.of_body B).code)
  rw [← h6, table_eq]
end Bodies
end VXA
/-! ===== END ===== -/
/-! ===== BEGIN a static call of a method with an exception table ===== -/
section VXS
variable {p : Program} {l : Launch} {e : Env} {R : Room} {s : State} {m : MethodId} {args : Array Value} {below : List Frame} {meth : Method} {c : Code} {T : State} {H : Heap} {locs : List Loc} {cells slots : Nat}
abbrev vx_CSW (R : Room) (s : State) (args : Array Value) (own : String) (index : Nat) (y : MethodName) (bytes : ByteArray) (maxL : Nat) (ret : Option FieldType) (hh : List (Nat × Nat × Nat × Nat)) (ws : List Cond) (rm : Room) (mc ms n : Nat) : Prop :=
  (rm.cells = mc ∧ rm.slots = ms ∧ rm.frames + 1 ≤ R.frames ∧ 8 + (maxL + 11) + rm.locals ≤ R.locals ∧ (∀ w ∈ ws, ∀ (a' : Array Value) (U : State), s.WarmedH U.vm → w.before a' U = true) ∧ Cond.codeWith y bytes maxL ret hh ∈ ws) ∧
  (Cond.codeWith y bytes maxL ret hh).before args s = true ∧ (Cond.initialized y.cls).before args s = true ∧ (y.cls ≠ "java/lang/invoke/MethodHandle" ∧ y.cls ≠ "java/lang/invoke/VarHandle") ∧
  (∀ sig, parseMethodDescriptor y.desc = some sig → n = sig.parameters.length) ∧ (Cond.methodLink own index y).before args s = true ∧ (Cond.static y).before args s = true
theorem vx_cwSW {own : String} {index maxL mc ms : Nat} {y : MethodName} {bytes : ByteArray} {ret : Option FieldType} {hh : List (Nat × Nat × Nat × Nat)} {Ts ws ws' : List Cond} {rm : Room} (n : Nat) (ht : ∀ w ∈ Ts, w.before args s = true) (hT : GoodIn Ts (va_wsS own index y ws)) (hw : ws = Cond.codeWith y bytes maxL ret hh :: ws') (hrc : rm.cells = mc) (hrs : rm.slots = ms)
    (hd : y.cls ≠ "java/lang/invoke/MethodHandle" ∧ y.cls ≠ "java/lang/invoke/VarHandle" ∧ (parseMethodDescriptor y.desc).map (fun d => d.parameters.length) = some n) (hR : rm.frames + 1 ≤ R.frames ∧ 8 + (maxL + 11) + rm.locals ≤ R.locals) :
    vx_CSW R s args own index y bytes maxL ret hh ws rm mc ms n := by
  have ok : ∀ w ∈ va_wsS own index y ws, w.before args s = true := fun w h => ht w (hT w h).1
  have hG : GoodIn Ts ws := fun w h => hT w (by unfold va_wsS; exact List.mem_append_right _ h)
  have hc : Cond.codeWith y bytes maxL ret hh ∈ ws := by rw [hw]; exact List.mem_cons_self
  refine ⟨⟨hrc, hrs, hR.1, hR.2, pay_in ht hG, hc⟩, ht _ (hG _ hc).1, ok _ (by simp [va_wsS]), ⟨hd.1, hd.2.1⟩, fun sig h => ?_, ok _ (by simp [va_wsS]), ok _ (by simp [va_wsS])⟩
  have h2 := hd.2.2
  rw [h] at h2
  exact (Option.some.inj h2).symm
theorem vx_callSW (X : Stand p l e R s m args below meth c T locs cells slots) (hexec : p.tables.exec = Jvm.exec) {own : String} {index : Nat} {y : MethodName} {bytes : ByteArray} {maxL : Nat} {ret : Option FieldType} {hh : List (Nat × Nat × Nat × Nat)}
    (hown : s.vm.findClass own = some m.cls) (hlink : (Cond.methodLink own index y).before args s = true) (hstat : (Cond.static y).before args s = true) (hinit : (Cond.initialized y.cls).before args s = true)
    (hcode : (Cond.codeWith y bytes maxL ret hh).before args s = true) (hy : y.cls ≠ "java/lang/invoke/MethodHandle" ∧ y.cls ≠ "java/lang/invoke/VarHandle")
    {W9 : Nat} {Pre : Pt → Array Value → Prop} {Post : Pt → Array Value → Option Value → Pt → Prop} (hK : Back l R p e below s args y 3 W9 Pre Post)
    {g : JFrame} (hg : g.method = m) (hsize : g.locals.size = c.maxLocals) {argsL rest : List Value} (hlen : ∀ sig, parseMethodDescriptor y.desc = some sig → argsL.length = sig.parameters.length)
    (hstack : g.stack = argsL.reverse ++ rest) (hW : 2 * g.monitorRoom + (rest.map fun v => v.category).sum ≤ W9) (hdg : decode c.code g.pc = .ok (.invokestatic index, 3))
    (hpre : ∀ vm₁, s.WarmedH vm₁ → Pre ⟨T.setVm vm₁, locs, cells, slots⟩ argsL.toArray) :
    ∃ (v : Option Value) (vm₁ : Vm) (B : Pt), s.WarmedH vm₁ ∧ Stand p l e R s m args below meth c B.U B.locs B.cells B.slots ∧ Post ⟨T.setVm vm₁, locs, cells, slots⟩ argsL.toArray v B ∧
      ∀ target, Steps p.tables e below (B.U.setTop { g with pc := g.pc + 3, stack := v.toList ++ rest }) target → Steps p.tables e below (T.setTop g) target := by
  obtain ⟨mk, methM, cM, hnamed, hmethM, -, -, -, -, -, -, hsigM⟩ := Cond.codeWith_spec hcode
  have hstatic : methM.isStatic = true := Cond.static_spec hnamed hmethM hstat
  obtain ⟨kP, hkP, -⟩ := className_of_methodNamed hnamed
  have hinitP : kP.init = .initialized := Cond.initialized_spec (findClass_of_methodNamed hnamed) hkP hinit
  obtain ⟨vm₁, X₁, hstep₁⟩ := X.invokestatic hexec hown hlink hnamed hmethM hstatic hkP hinitP hy (g := g) hg (argsL := argsL) (rest := rest) (hlen _ hsigM) hstack hdg
  obtain ⟨v, B, X', hpost, hsteps⟩ := hK m meth c ⟨T.setVm vm₁, locs, cells, slots⟩ { g with stack := rest } (.invokestatic index) mk argsL.toArray X₁ hg hsize hdg hW (X₁.named hnamed) (hpre vm₁ X₁.warmed)
  exact ⟨v, vm₁, B, X₁.warmed, X', hpost, fun target h => hstep₁ _ fun acts => by rw [doInvoke_state]; exact hsteps.trans h⟩
theorem vx_runSW {y : MethodName} {bytes cc : ByteArray} {maxL nL mc ms n index : Nat} {ret : Option FieldType} {hh : List (Nat × Nat × Nat × Nat)} {ws : List Cond} {rm : Room} {Pc : Array Value → State → Prop} {Qc : Array Value → State → Outcome → State → Prop} {free : Addr → Prop} {Ts : List Cond} {own : String} {As rest : List Value} {g : JFrame}
    (S : CallFix p m c cc nL s args Ts own) (hM : Met l y ws rm Pc Qc mc ms free) (cw : vx_CSW R s args own index y bytes maxL ret hh ws rm mc ms n) (hp : PreS s H Pc As)
    (hg : g.method = m) (hn : As.length = n) (hsize : g.locals.size = nL) (hstack : g.stack = As.reverse ++ rest) (hW : 2 * g.monitorRoom + (rest.map fun v => v.category).sum ≤ 8) (hdg : decode cc g.pc = .ok (.invokestatic index, 3)) (hf : cells + mc ≤ R.cells ∧ slots + ms ≤ R.slots) :
    va_Run p l e R s m args below meth c H locs cells slots mc ms g rest (Qc As.toArray) (free) := by
  obtain ⟨⟨hrc, hrs, hfr, hlo, hws, hcw⟩, hcode, hini, hy, hlen, hl, hstt⟩ := cw
  have hK : Back l R p e below s args y 3 8 (PreOf R mc ms Pc) (PostOf Qc mc ms free) := va_backW (hh := hh) (bytes := bytes) (maxL := maxL) (ret := ret) hM hp.1 hrc hrs hfr hlo hws hcw (fun a' U hW => word_at hW (Or.inl (by first | rfl | simp [Cond.onTables, Cond.keeps, Cond.steady])) hini)
  obtain ⟨hx, hb, hml, ho, -⟩ := S
  intro T hT X
  obtain ⟨v, vm₁, ⟨U', l2, c2, s2⟩, hW₁, X', ⟨g', mk, t, L, e1, e2, hq, h1, hL, h2, h3⟩, st⟩ := vx_callSW X hx (hh := hh) (bytes := bytes) (maxL := maxL) (ret := ret) ho hl hstt hini hcode hy hK hg (hsize.trans hml.symm) (argsL := As) (rest := rest) (fun sig h => hn.trans (hlen sig h)) hstack hW (by rw [hb]; exact hdg)
    (fun vm₁ hW₁ => ⟨hf.1, hf.2, hp.2 (T.setVm vm₁) hT hW₁⟩)
  dsimp only [Pt.U, Pt.locs, Pt.cells, Pt.slots] at X' e1 e2 h1 h2 h3 st
  subst h1; subst h2; subst h3
  exact ⟨v, (T.setVm vm₁).calling g' mk As.toArray, t, U', L, hT, X', hL, e1, e2, hq, st⟩
/-- not caught here, past rows that name other classes: it goes on to the caller -/
theorem vx_outP {p : Program} {l : Launch} {e : Env} {R : Room} {s : State} {m : MethodId} {args : Array Value} {below : List Frame} {meth : Method} {c : Code} {H : Heap} {locs : List Loc} {cells slots : Nat} {free : Addr → Prop} {ls : Array Slot} {rest : List Value} {Qc : Array Value → State → Outcome → State → Prop} {XC : String → State → State → Prop}
    {pc : Nat} {own E : String} {ce : Cell} {q : Addr} {mc ms : Nat} (hown : s.vm.findClass own = some m.cls) (hlocks : meth.locks = false)
    (hpass : ∀ z ∈ c.exceptionTable.toList, covers z pc = false ∨ (z.catchType ≠ 0 ∧ ∃ nm : String, (Cond.classLink own z.catchType nm).before args s = true ∧ va_Nc E nm s)) (hcell : H[q]? = some ce) (hv : ce.vm = .none) (hcl : s.vm.findClass E = some ce.cls)
    (hx : ∀ t : State, t.heap = H → s.vm.Alike t.vm → XC E s t) (hf : ∀ z ∈ locs, free z.base) (hc : cells ≤ mc) (hs : slots ≤ ms) :
    vx_W p l e R s m args below meth c H locs cells slots (vx_MQ below Qc XC args s mc ms free) (F0 m pc ls rest) q := by
  intro T hT X
  have hpl : e.platform.magicAccessors = ({} : Platform).magicAccessors := by rw [X.admits.platform]
  obtain ⟨vm', hW', X', st⟩ := X.outThrough hlocks q (g := F0 m pc ls rest) rfl rfl rfl (cell := ce) (by rw [hT]; exact hcell) (by rw [hv]; rfl)
    (by obtain ⟨k9, h9, -⟩ := Vm.findClass_spec hcl; exact ⟨k9, h9⟩) (fun z hz => by
      rcases hpass z hz with h | ⟨hz0, nm, hl1, hn1⟩
      · exact Or.inl h
      · obtain ⟨c6, hc6, hcl6⟩ := Cond.classLink_spec hown hl1 e.platform hpl
        obtain ⟨a8, b8, h1, h2, h3⟩ := hn1
        cases Option.some.inj (h1.symm.trans hcl)
        cases Option.some.inj (h2.symm.trans hc6)
        exact Or.inr ⟨hz0, _, hcl6, h3⟩)
  obtain ⟨g₀, hfr⟩ := X'.frames_eq
  have hcell9 : ((T.setVm vm').setFrames (.throwing q :: below)).heap[q]? = some ce := by
    show T.heap[q]? = some ce
    rw [hT]; exact hcell
  have hend : Ended ((T.setVm vm').setFrames (.throwing q :: below)) below (.threw q) := State.frames_setFrames _ (State.cur_lt_of_frames hfr)
  refine ⟨(T.setVm vm').setFrames (.throwing q :: below), ?_, .threw q, X'.here.running, hend, Or.inr ⟨q, rfl, E, ce, locs, hx _ hT (X'.ends _).1.alike, hcell9, hv, hcl, (X'.ends _).1, (X'.ends _).2.mono hc hs, hf⟩⟩
  rw [X.pushThrowing_eq]
  exact st
/-- a thing of a world lies in the heap -/
theorem vx_lt {D : va_G} {cl : List vw_C} {ws : va_W} {H1 : Heap} (h : va_P D cl ws H1) {k : Nat} {q : Nat × va_E} (hk : ws[k]? = some q) : q.1 < H1.size := (h k q hk).lt
end VXS
/-! ===== END ===== -/
/-! ===== BEGIN methods with a table of their own: called by a name, returning or throwing ===== -/
section VXH
/-! vx_backW, vx_callVX, vx_callSX, vx_callVW, vx_runVW, vx_runVX, vx_runSX, vx_ofWH follow the same proofs as their sisters above (Free/Laws.lean, Shelf42/LK1.lean); vx_outP calls Shelf42/NT130.lean (outThrough). -/
section
variable {l : Launch} {R : Room} {p : Program} {e : Env} {below : List Frame} {s : State} {sargs : Array Value} {y : MethodName} {len W9 : Nat}
theorem vx_backW {ws : List Cond} {rm : Room} {Pc : Array Value → State → Prop} {Qc : Array Value → State → Outcome → State → Prop} {XC : String → State → State → Prop} {mc ms : Nat} {free : Addr → Prop} {bytes : ByteArray} {maxL : Nat} {ret : Option FieldType} {hh : List (Nat × Nat × Nat × Nat)}
    (hM : vx_Met l y ws rm Pc Qc XC mc ms free) (hblind : FrameBlind Pc) (hrc : rm.cells = mc) (hrs : rm.slots = ms)
    (hframes : rm.frames + 1 ≤ R.frames) (hlocals : W9 + (maxL + 11) + rm.locals ≤ R.locals)
    (hws : ∀ w ∈ ws, ∀ a' U, s.WarmedH U.vm → w.before a' U = true) (hcode : Cond.codeWith y bytes maxL ret hh ∈ ws) (hinit : ∀ a' U, s.WarmedH U.vm → (Cond.initialized y.cls).before a' U = true) :
    vx_Back l R p e below s sargs y len W9 (PreOf R mc ms Pc) (PostOf Qc mc ms free) (vx_Post XC mc ms free) := by
  intro m meth c A g ig mk a X hg hsize hdg hW hn hp
  have h1 : (headSpec ws rm).pre.before a A.U = true := atoms_intro fun w hw => hws w hw _ _ X.warmed
  have h2 : (Cond.codeWith y bytes maxL ret hh).before a A.U = true := hws _ hcode _ _ X.warmed
  have h3 : (Cond.initialized y.cls).before a A.U = true := hinit _ _ X.warmed
  have h4 : A.cells + (headSpec ws rm).room.cells ≤ R.cells := by rw [show (headSpec ws rm).room.cells = mc from hrc]; exact hp.1
  have h5 : A.slots + (headSpec ws rm).room.slots ≤ R.slots := by rw [show (headSpec ws rm).room.slots = ms from hrs]; exact hp.2.1
  have hPc : Pc a (A.U.calling g mk a) := hblind _ _ _ _ hp.2.2
  obtain ⟨U, Ls, c0, s0⟩ := A
  dsimp only [Pt.U, Pt.locs, Pt.cells, Pt.slots] at h1 h2 h3 h4 h5 X hn hPc ⊢
  obtain ⟨m9, methY, cY, hn9, hmY, hcY, -, hlY, -⟩ := Cond.codeWith_spec h2
  cases Option.some.inj (hn9.symm.trans hn)
  obtain ⟨kY, hkY, -⟩ := className_of_methodNamed hn
  have hinitY : kY.init = .initialized := Cond.initialized_spec (findClass_of_methodNamed hn) hkY h3
  have h : At U g.method c below := by rw [hg]; exact X.here
  have hlocals9 : W9 + (maxL + 11) + (headSpec ws rm).room.locals ≤ R.locals := hlocals
  have happ : (headSpec ws rm).appliesLoose y e.platform (U.calling g mk a) = true :=
    Spec.appliesLoose_calling (g := g) h hdg hn hkY hinitY
      (X.room_calling (g := g) (R' := (headSpec ws rm).room) hsize hmY hcY hframes (by rw [hlY]; omega) h4 h5) h1
  obtain ⟨mid, hmid⟩ := h.above
  have hfr : (U.setTop g).frames = (.java g :: mid) ++ below := by rw [State.frames_setTop' g h.top, hmid]; rfl
  obtain ⟨o, s₂, hsteps, -, hend, hq⟩ := Steps.callFree hM p X.admits X.cas X.clock (acts := []) hfr happ hPc trivial
  have hq' : vx_Q Qc XC mc ms free a (U.calling g mk a) o s₂ := hq
  rw [State.frames_setTop' g h.top] at hend
  obtain ⟨g₀, hg0⟩ := Option.isSome_iff_exists.mp h.top
  obtain ⟨r, hr⟩ := State.topJava?_eq_some.mp hg0
  have hr' : (({ U with heap := s₂.heap, slotsUsed := s₂.slotsUsed } : State).setVm s₂.vm).frames = .java g₀ :: r := hr
  rcases hq' with ⟨hqc, L, hfe, hL⟩ | ⟨q, rfl, E, ce, L, hx, hce, hcv, hcl, hW₂, hsm, hL⟩
  · obtain ⟨⟨v, rfl⟩, hW₂, e2, q2, q3, q4, q5, q6⟩ := id hfe
    have e3 : s₂ = ({ (U.calling g mk a).setFrames s₂.frames with heap := s₂.heap, slotsUsed := s₂.slotsUsed } : State).setVm s₂.vm := by
      have : s₂ = ({ s₂ with vm := (U.calling g mk a).vm } : State).setVm s₂.vm := rfl
      rw [e2] at this
      exact this
    obtain ⟨c₂, i₂, len₂, hc₂, hd₂, hf₂⟩ := hend
    have hW' : U.WarmedH s₂.vm := hW₂
    have hcc : c₂ = c := by
      have h1 : s₂.code? g.method = U.code? g.method := by
        rw [State.code?_eq, State.code?_eq, hW'.alike.method?]
      exact Option.some.inj (hc₂.symm.trans (h1.trans h.code))
    subst hcc
    have hlen : len₂ = len := by rw [hdg] at hd₂; cases hd₂; rfl
    subst hlen
    have hs₂ : s₂ = (({ U with heap := s₂.heap, slotsUsed := s₂.slotsUsed } : State).setVm s₂.vm).setTop { g with pc := g.pc + len₂, stack := v.toList ++ g.stack } := by
      refine e3.trans ?_
      rw [hf₂, State.calling_eq h.top, State.setFrames_setFrames, State.setTop_of_frames _ hr', hr]
      rfl
    have hsame : U.sameButNew ({ U with heap := s₂.heap, slotsUsed := s₂.slotsUsed } : State) L mc ms := by
      refine ⟨?_, q2, q3, q4, q5, q6⟩
      obtain ⟨t, ht, -⟩ := State.frames_cons hr
      show ({ U with heap := s₂.heap, slotsUsed := s₂.slotsUsed } : State) = { U.setFrames U.frames with heap := s₂.heap, slotsUsed := s₂.slotsUsed }
      rw [State.setFrames_self ht]
    subst hg
    refine Or.inl ⟨v, ⟨(({ U with heap := s₂.heap, slotsUsed := s₂.slotsUsed } : State).setVm s₂.vm), Ls ++ L, c0 + mc, s0 + ms⟩,
      ⟨X.admits, X.cas, X.clock, X.frames, X.room, X.hears, X.method, X.code, (X.here.setHeapUsed s₂.heap s₂.slotsUsed).setVm hW'.alike, X.tail, State.WarmedH.trans X.warmed hW', X.limits, X.bytes, X.same.trans (hsame.setVm s.vm)⟩,
      ⟨g, mk, s₂, L, rfl, rfl, hqc, rfl, hL, rfl, rfl⟩, ?_⟩
    show Steps p.tables e below _ ((({ U with heap := s₂.heap, slotsUsed := s₂.slotsUsed } : State).setVm s₂.vm).setTop { g with pc := g.pc + len₂, stack := v.toList ++ g.stack })
    rw [← hs₂]
    exact hsteps
  · obtain ⟨e2, q2, q3, q4, q5, q6⟩ := id hsm
    have e3 : s₂ = ({ (U.calling g mk a).setFrames s₂.frames with heap := s₂.heap, slotsUsed := s₂.slotsUsed } : State).setVm s₂.vm := by
      have : s₂ = ({ s₂ with vm := (U.calling g mk a).vm } : State).setVm s₂.vm := rfl
      rw [e2] at this
      exact this
    have hf₂ : s₂.frames = .throwing q :: .java g :: U.frames.tail := hend
    have hW' : U.WarmedH s₂.vm := hW₂
    have hs₂ : s₂ = ((({ U with heap := s₂.heap, slotsUsed := s₂.slotsUsed } : State).setVm s₂.vm).setTop g).pushFrame (.throwing q) := by
      refine e3.trans ?_
      rw [hf₂, State.calling_eq h.top, State.setFrames_setFrames, State.pushFrame, State.frames_setTop _ hr', State.setTop_of_frames _ hr', State.setFrames_setFrames, hr]
      rfl
    have hsame : U.sameButNew ({ U with heap := s₂.heap, slotsUsed := s₂.slotsUsed } : State) L mc ms := by
      refine ⟨?_, q2, q3, q4, q5, q6⟩
      obtain ⟨t, ht, -⟩ := State.frames_cons hr
      show ({ U with heap := s₂.heap, slotsUsed := s₂.slotsUsed } : State) = { U.setFrames U.frames with heap := s₂.heap, slotsUsed := s₂.slotsUsed }
      rw [State.setFrames_self ht]
    subst hg
    refine Or.inr ⟨q, ⟨(({ U with heap := s₂.heap, slotsUsed := s₂.slotsUsed } : State).setVm s₂.vm), Ls ++ L, c0 + mc, s0 + ms⟩,
      ⟨X.admits, X.cas, X.clock, X.frames, X.room, X.hears, X.method, X.code, (X.here.setHeapUsed s₂.heap s₂.slotsUsed).setVm hW'.alike, X.tail, State.WarmedH.trans X.warmed hW', X.limits, X.bytes, X.same.trans (hsame.setVm s.vm)⟩,
      ⟨g, mk, s₂, L, E, ce, rfl, rfl, hx, hce, hcv, hcl, rfl, hL, rfl, rfl⟩, ?_⟩
    show Steps p.tables e below _ (((({ U with heap := s₂.heap, slotsUsed := s₂.slotsUsed } : State).setVm s₂.vm).setTop g).pushFrame (.throwing q))
    rw [← hs₂]
    exact hsteps
end
variable {p : Program} {l : Launch} {e : Env} {R : Room} {s : State} {m : MethodId} {args : Array Value} {below : List Frame} {meth : Method} {c : Code} {T : State} {H : Heap} {locs : List Loc} {cells slots : Nat}
theorem vx_callVX (X : Stand p l e R s m args below meth c T locs cells slots) (hexec : p.tables.exec = Jvm.exec) {own C : String} {index : Nat} {y : MethodName} {bytes : ByteArray} {maxL : Nat} {ret : Option FieldType} {hh : List (Nat × Nat × Nat × Nat)}
    (hown : s.vm.findClass own = some m.cls) (hlink : (Cond.methodLink own index y).before args s = true) (hinst : (Cond.instanceMethod y).before args s = true) (hsel : (Cond.selects C y y).before args s = true)
    (hcode : (Cond.codeWith y bytes maxL ret hh).before args s = true) (hy : y.cls ≠ "java/lang/invoke/MethodHandle" ∧ y.cls ≠ "java/lang/invoke/VarHandle")
    {W9 : Nat} {Pre : Pt → Array Value → Prop} {Post : Pt → Array Value → Option Value → Pt → Prop} {PostX : Pt → Array Value → Addr → Pt → Prop} (hK : vx_Back l R p e below s args y 3 W9 Pre Post PostX)
    {b : Addr} {cellB : Cell} (hcell : T.heap[b]? = some cellB) (hobj : cellB.vm.isStatics = false) (hcls : s.vm.findClass C = some cellB.cls)
    {g : JFrame} (hg : g.method = m) (hsize : g.locals.size = c.maxLocals) {argsL rest : List Value} (hlen : ∀ sig, parseMethodDescriptor y.desc = some sig → argsL.length = sig.parameters.length)
    (hstack : g.stack = argsL.reverse ++ .ref b :: rest) (hW : 2 * g.monitorRoom + (rest.map fun v => v.category).sum ≤ W9) (hdg : decode c.code g.pc = .ok (.invokevirtual index, 3))
    (hpre : ∀ vm₁, s.WarmedH vm₁ → Pre ⟨T.setVm vm₁, locs, cells, slots⟩ (Value.ref b :: argsL).toArray) :
    (∃ (v : Option Value) (vm₁ : Vm) (B : Pt), s.WarmedH vm₁ ∧ Stand p l e R s m args below meth c B.U B.locs B.cells B.slots ∧ Post ⟨T.setVm vm₁, locs, cells, slots⟩ (Value.ref b :: argsL).toArray v B ∧
      ∀ target, Steps p.tables e below (B.U.setTop { g with pc := g.pc + 3, stack := v.toList ++ rest }) target → Steps p.tables e below (T.setTop g) target) ∨
    (∃ (q : Addr) (vm₁ : Vm) (B : Pt), s.WarmedH vm₁ ∧ Stand p l e R s m args below meth c B.U B.locs B.cells B.slots ∧ PostX ⟨T.setVm vm₁, locs, cells, slots⟩ (Value.ref b :: argsL).toArray q B ∧
      Steps p.tables e below (T.setTop g) ((B.U.setTop { g with stack := rest }).pushFrame (.throwing q))) := by
  obtain ⟨mk, methM, hnamed, hmethM, hstM, habM⟩ := Cond.instanceMethod_spec hinst
  obtain ⟨m8, methM', cM, hn8, hmethM', -, -, -, -, -, -, hsigM⟩ := Cond.codeWith_spec hcode
  cases Option.some.inj (hn8.symm.trans hnamed)
  cases hmethM.symm.trans hmethM'
  obtain ⟨c2, r2, m2, q1, q2, q3, q4, kP, hkP, hkPi⟩ := Cond.selects_spec hsel
  cases hcls.symm.trans q1
  cases (State.methodFound?_of_named hnamed hy).symm.trans q2
  cases hnamed.symm.trans q3
  have hselP : selectMethod e.platform s.vm cellB.cls mk = .method mk := by rw [Launch.admits_selectMethod X.admits]; exact q4
  obtain ⟨vm₁, X₁, hstep₁⟩ := X.invokevirtual hexec hown hlink hnamed hmethM hstM hkP hkPi hy (a := b) (cell := cellB) hcell
    (fun z h => by rw [h] at hobj; cases hobj) hselP hmethM habM hkP hkPi (g := g) hg (argsL := argsL) (rest := rest) (hlen _ hsigM) hstack hdg
  rcases hK m meth c ⟨T.setVm vm₁, locs, cells, slots⟩ { g with stack := rest } (.invokevirtual index) mk (Value.ref b :: argsL).toArray X₁ hg hsize hdg hW (X₁.named hnamed) (hpre vm₁ X₁.warmed) with ⟨v, B, X', hpost, hsteps⟩ | ⟨q, B, X', hpost, hsteps⟩
  · exact Or.inl ⟨v, vm₁, B, X₁.warmed, X', hpost, fun target h => hstep₁ _ fun acts => by rw [doInvoke_state]; exact hsteps.trans h⟩
  · exact Or.inr ⟨q, vm₁, B, X₁.warmed, X', hpost, hstep₁ _ fun acts => by rw [doInvoke_state]; exact hsteps⟩
theorem vx_callSX (X : Stand p l e R s m args below meth c T locs cells slots) (hexec : p.tables.exec = Jvm.exec) {own : String} {index : Nat} {y : MethodName} {bytes : ByteArray} {maxL : Nat} {ret : Option FieldType} {hh : List (Nat × Nat × Nat × Nat)}
    (hown : s.vm.findClass own = some m.cls) (hlink : (Cond.methodLink own index y).before args s = true) (hstat : (Cond.static y).before args s = true) (hinit : (Cond.initialized y.cls).before args s = true)
    (hcode : (Cond.codeWith y bytes maxL ret hh).before args s = true) (hy : y.cls ≠ "java/lang/invoke/MethodHandle" ∧ y.cls ≠ "java/lang/invoke/VarHandle")
    {W9 : Nat} {Pre : Pt → Array Value → Prop} {Post : Pt → Array Value → Option Value → Pt → Prop} {PostX : Pt → Array Value → Addr → Pt → Prop} (hK : vx_Back l R p e below s args y 3 W9 Pre Post PostX)
    {g : JFrame} (hg : g.method = m) (hsize : g.locals.size = c.maxLocals) {argsL rest : List Value} (hlen : ∀ sig, parseMethodDescriptor y.desc = some sig → argsL.length = sig.parameters.length)
    (hstack : g.stack = argsL.reverse ++ rest) (hW : 2 * g.monitorRoom + (rest.map fun v => v.category).sum ≤ W9) (hdg : decode c.code g.pc = .ok (.invokestatic index, 3))
    (hpre : ∀ vm₁, s.WarmedH vm₁ → Pre ⟨T.setVm vm₁, locs, cells, slots⟩ argsL.toArray) :
    (∃ (v : Option Value) (vm₁ : Vm) (B : Pt), s.WarmedH vm₁ ∧ Stand p l e R s m args below meth c B.U B.locs B.cells B.slots ∧ Post ⟨T.setVm vm₁, locs, cells, slots⟩ argsL.toArray v B ∧
      ∀ target, Steps p.tables e below (B.U.setTop { g with pc := g.pc + 3, stack := v.toList ++ rest }) target → Steps p.tables e below (T.setTop g) target) ∨
    (∃ (q : Addr) (vm₁ : Vm) (B : Pt), s.WarmedH vm₁ ∧ Stand p l e R s m args below meth c B.U B.locs B.cells B.slots ∧ PostX ⟨T.setVm vm₁, locs, cells, slots⟩ argsL.toArray q B ∧
      Steps p.tables e below (T.setTop g) ((B.U.setTop { g with stack := rest }).pushFrame (.throwing q))) := by
  obtain ⟨mk, methM, cM, hnamed, hmethM, -, -, -, -, -, -, hsigM⟩ := Cond.codeWith_spec hcode
  have hstatic : methM.isStatic = true := Cond.static_spec hnamed hmethM hstat
  obtain ⟨kP, hkP, -⟩ := className_of_methodNamed hnamed
  have hinitP : kP.init = .initialized := Cond.initialized_spec (findClass_of_methodNamed hnamed) hkP hinit
  obtain ⟨vm₁, X₁, hstep₁⟩ := X.invokestatic hexec hown hlink hnamed hmethM hstatic hkP hinitP hy (g := g) hg (argsL := argsL) (rest := rest) (hlen _ hsigM) hstack hdg
  rcases hK m meth c ⟨T.setVm vm₁, locs, cells, slots⟩ { g with stack := rest } (.invokestatic index) mk argsL.toArray X₁ hg hsize hdg hW (X₁.named hnamed) (hpre vm₁ X₁.warmed) with ⟨v, B, X', hpost, hsteps⟩ | ⟨q, B, X', hpost, hsteps⟩
  · exact Or.inl ⟨v, vm₁, B, X₁.warmed, X', hpost, fun target h => hstep₁ _ fun acts => by rw [doInvoke_state]; exact hsteps.trans h⟩
  · exact Or.inr ⟨q, vm₁, B, X₁.warmed, X', hpost, hstep₁ _ fun acts => by rw [doInvoke_state]; exact hsteps⟩
theorem vx_callVW (X : Stand p l e R s m args below meth c T locs cells slots) (hexec : p.tables.exec = Jvm.exec) {own C : String} {index : Nat} {y : MethodName} {bytes : ByteArray} {maxL : Nat} {ret : Option FieldType} {hh : List (Nat × Nat × Nat × Nat)}
    (hown : s.vm.findClass own = some m.cls) (hlink : (Cond.methodLink own index y).before args s = true) (hinst : (Cond.instanceMethod y).before args s = true) (hsel : (Cond.selects C y y).before args s = true)
    (hcode : (Cond.codeWith y bytes maxL ret hh).before args s = true) (hy : y.cls ≠ "java/lang/invoke/MethodHandle" ∧ y.cls ≠ "java/lang/invoke/VarHandle")
    {W9 : Nat} {Pre : Pt → Array Value → Prop} {Post : Pt → Array Value → Option Value → Pt → Prop} (hK : Back l R p e below s args y 3 W9 Pre Post)
    {b : Addr} {cellB : Cell} (hcell : T.heap[b]? = some cellB) (hobj : cellB.vm.isStatics = false) (hcls : s.vm.findClass C = some cellB.cls)
    {g : JFrame} (hg : g.method = m) (hsize : g.locals.size = c.maxLocals) {argsL rest : List Value} (hlen : ∀ sig, parseMethodDescriptor y.desc = some sig → argsL.length = sig.parameters.length)
    (hstack : g.stack = argsL.reverse ++ .ref b :: rest) (hW : 2 * g.monitorRoom + (rest.map fun v => v.category).sum ≤ W9) (hdg : decode c.code g.pc = .ok (.invokevirtual index, 3))
    (hpre : ∀ vm₁, s.WarmedH vm₁ → Pre ⟨T.setVm vm₁, locs, cells, slots⟩ (Value.ref b :: argsL).toArray) :
    ∃ (v : Option Value) (vm₁ : Vm) (B : Pt), s.WarmedH vm₁ ∧ Stand p l e R s m args below meth c B.U B.locs B.cells B.slots ∧ Post ⟨T.setVm vm₁, locs, cells, slots⟩ (Value.ref b :: argsL).toArray v B ∧
      ∀ target, Steps p.tables e below (B.U.setTop { g with pc := g.pc + 3, stack := v.toList ++ rest }) target → Steps p.tables e below (T.setTop g) target := by
  obtain ⟨mk, methM, hnamed, hmethM, hstM, habM⟩ := Cond.instanceMethod_spec hinst
  obtain ⟨m8, methM', cM, hn8, hmethM', -, -, -, -, -, -, hsigM⟩ := Cond.codeWith_spec hcode
  cases Option.some.inj (hn8.symm.trans hnamed)
  cases hmethM.symm.trans hmethM'
  obtain ⟨c2, r2, m2, q1, q2, q3, q4, kP, hkP, hkPi⟩ := Cond.selects_spec hsel
  cases hcls.symm.trans q1
  cases (State.methodFound?_of_named hnamed hy).symm.trans q2
  cases hnamed.symm.trans q3
  have hselP : selectMethod e.platform s.vm cellB.cls mk = .method mk := by rw [Launch.admits_selectMethod X.admits]; exact q4
  obtain ⟨vm₁, X₁, hstep₁⟩ := X.invokevirtual hexec hown hlink hnamed hmethM hstM hkP hkPi hy (a := b) (cell := cellB) hcell
    (fun z h => by rw [h] at hobj; cases hobj) hselP hmethM habM hkP hkPi (g := g) hg (argsL := argsL) (rest := rest) (hlen _ hsigM) hstack hdg
  obtain ⟨v, B, X', hpost, hsteps⟩ := hK m meth c ⟨T.setVm vm₁, locs, cells, slots⟩ { g with stack := rest } (.invokevirtual index) mk (Value.ref b :: argsL).toArray X₁ hg hsize hdg hW (X₁.named hnamed) (hpre vm₁ X₁.warmed)
  exact ⟨v, vm₁, B, X₁.warmed, X', hpost, fun target h => hstep₁ _ fun acts => by rw [doInvoke_state]; exact hsteps.trans h⟩
abbrev vx_CVW (R : Room) (s : State) (args : Array Value) (own C : String) (index : Nat) (y : MethodName) (bytes : ByteArray) (maxL : Nat) (ret : Option FieldType) (hh : List (Nat × Nat × Nat × Nat)) (ws : List Cond) (rm : Room) (mc ms n : Nat) : Prop :=
  (rm.cells = mc ∧ rm.slots = ms ∧ rm.frames + 1 ≤ R.frames ∧ 8 + (maxL + 11) + rm.locals ≤ R.locals ∧ (∀ w ∈ ws, ∀ (a' : Array Value) (U : State), s.WarmedH U.vm → w.before a' U = true) ∧ Cond.codeWith y bytes maxL ret hh ∈ ws) ∧
  (Cond.codeWith y bytes maxL ret hh).before args s = true ∧ (Cond.initialized y.cls).before args s = true ∧ (y.cls ≠ "java/lang/invoke/MethodHandle" ∧ y.cls ≠ "java/lang/invoke/VarHandle") ∧
  (∀ sig, parseMethodDescriptor y.desc = some sig → n = sig.parameters.length) ∧ (Cond.methodLink own index y).before args s = true ∧ (Cond.instanceMethod y).before args s = true ∧ (Cond.selects C y y).before args s = true
theorem vx_cwVW {own C : String} {index maxL mc ms : Nat} {y : MethodName} {bytes : ByteArray} {ret : Option FieldType} {hh : List (Nat × Nat × Nat × Nat)} {Ts ws ws' : List Cond} {rm : Room} (n : Nat) (ht : ∀ w ∈ Ts, w.before args s = true) (hT : GoodIn Ts (wsV own index C y ws)) (hw : ws = Cond.codeWith y bytes maxL ret hh :: ws') (hrc : rm.cells = mc) (hrs : rm.slots = ms)
    (hd : y.cls = C ∧ y.cls ≠ "java/lang/invoke/MethodHandle" ∧ y.cls ≠ "java/lang/invoke/VarHandle" ∧ (parseMethodDescriptor y.desc).map (fun d => d.parameters.length) = some n) (hR : rm.frames + 1 ≤ R.frames ∧ 8 + (maxL + 11) + rm.locals ≤ R.locals) :
    vx_CVW R s args own C index y bytes maxL ret hh ws rm mc ms n := by
  obtain ⟨hC, hd⟩ := hd
  subst hC
  have ok : ∀ w ∈ wsV own index y.cls y ws, w.before args s = true := fun w h => ht w (hT w h).1
  have hG : GoodIn Ts ws := fun w h => hT w (by unfold wsV; exact List.mem_append_right _ h)
  have hc : Cond.codeWith y bytes maxL ret hh ∈ ws := by rw [hw]; exact List.mem_cons_self
  refine ⟨⟨hrc, hrs, hR.1, hR.2, pay_in ht hG, hc⟩, ht _ (hG _ hc).1, ok _ (by simp [wsV]), ⟨hd.1, hd.2.1⟩, fun sig h => ?_, ok _ (by simp [wsV]), ok _ (by simp [wsV]), ok _ (by simp [wsV])⟩
  have h2 := hd.2.2
  rw [h] at h2
  exact (Option.some.inj h2).symm
theorem vx_runVW {y : MethodName} {bytes cc : ByteArray} {maxL nL mc ms n index : Nat} {ret : Option FieldType} {hh : List (Nat × Nat × Nat × Nat)} {ws : List Cond} {rm : Room} {Pc : Array Value → State → Prop} {Qc : Array Value → State → Outcome → State → Prop} {free : Addr → Prop} {Ts : List Cond} {own C : String} {b : Addr} {As rest : List Value} {g : JFrame}
    (S : CallFix p m c cc nL s args Ts own) (hM : Met l y ws rm Pc Qc mc ms free) (cw : vx_CVW R s args own C index y bytes maxL ret hh ws rm mc ms n) (hp : PreV s H C b Pc As)
    (hg : g.method = m) (hn : As.length = n) (hsize : g.locals.size = nL) (hstack : g.stack = As.reverse ++ .ref b :: rest) (hW : 2 * g.monitorRoom + (rest.map fun v => v.category).sum ≤ 8) (hdg : decode cc g.pc = .ok (.invokevirtual index, 3)) (hf : cells + mc ≤ R.cells ∧ slots + ms ≤ R.slots) :
    va_Run p l e R s m args below meth c H locs cells slots mc ms g rest (Qc (Value.ref b :: As).toArray) free := by
  obtain ⟨⟨hrc, hrs, hfr, hlo, hws, hcw⟩, hcode, hini, hy, hlen, hl, hin, hse⟩ := cw
  have hK : Back l R p e below s args y 3 8 (PreOf R mc ms Pc) (PostOf Qc mc ms free) := va_backW (hh := hh) (bytes := bytes) (maxL := maxL) (ret := ret) hM hp.1 hrc hrs hfr hlo hws hcw (fun a' U hW => word_at hW (Or.inl (by first | rfl | simp [Cond.onTables, Cond.keeps, Cond.steady])) hini)
  obtain ⟨hx, hb, hml, ho, -⟩ := S
  obtain ⟨-, ⟨cellB, hcB, hoB, hclB⟩, hPc⟩ := hp
  intro T hT X
  obtain ⟨v, vm₁, ⟨U', l2, c2, s2⟩, hW₁, X', ⟨g', mk, t, L, e1, e2, hq, h1, hL, h2, h3⟩, st⟩ := vx_callVW X hx (C := C) (hh := hh) (bytes := bytes) (maxL := maxL) (ret := ret) ho hl hin hse hcode hy hK (by rw [hT]; exact hcB) hoB hclB hg (hsize.trans hml.symm) (argsL := As) (rest := rest) (fun sig h => hn.trans (hlen sig h)) hstack hW (by rw [hb]; exact hdg)
    (fun vm₁ hW₁ => ⟨hf.1, hf.2, hPc (T.setVm vm₁) hT hW₁⟩)
  dsimp only [Pt.U, Pt.locs, Pt.cells, Pt.slots] at X' e1 e2 h1 h2 h3 st
  subst h1; subst h2; subst h3
  exact ⟨v, (T.setVm vm₁).calling g' mk (Value.ref b :: As).toArray, t, U', L, hT, X', hL, e1, e2, hq, st⟩
section
variable {y : MethodName} {bytes cc : ByteArray} {maxL nL mc ms n index : Nat} {ret : Option FieldType} {ws : List Cond} {rm : Room} {Pc : Array Value → State → Prop} {Qc : Array Value → State → Outcome → State → Prop} {XC : String → State → State → Prop} {free : Addr → Prop} {Ts : List Cond} {own C : String} {b : Addr} {As rest : List Value} {g : JFrame}
theorem vx_runVX {hh : List (Nat × Nat × Nat × Nat)} (S : CallFix p m c cc nL s args Ts own) (hM : vx_Met l y ws rm Pc Qc XC mc ms free) (cw : vx_CVW R s args own C index y bytes maxL ret hh ws rm mc ms n) (hp : PreV s H C b Pc As)
    (hg : g.method = m) (hn : As.length = n) (hsize : g.locals.size = nL) (hstack : g.stack = As.reverse ++ .ref b :: rest) (hW : 2 * g.monitorRoom + (rest.map fun v => v.category).sum ≤ 8) (hdg : decode cc g.pc = .ok (.invokevirtual index, 3)) (hf : cells + mc ≤ R.cells ∧ slots + ms ≤ R.slots) :
    vx_Run p l e R s m args below meth c H locs cells slots mc ms g rest (Qc (Value.ref b :: As).toArray) XC free := by
  obtain ⟨⟨hrc, hrs, hfr, hlo, hws, hcw⟩, hcode, hini, hy, hlen, hl, hin, hse⟩ := cw
  have hK : vx_Back l R p e below s args y 3 8 (PreOf R mc ms Pc) (PostOf Qc mc ms free) (vx_Post XC mc ms free) := vx_backW (hh := hh) (bytes := bytes) (maxL := maxL) (ret := ret) hM hp.1 hrc hrs hfr hlo hws hcw (fun a' U hW => word_at hW (Or.inl (by first | rfl | simp [Cond.onTables, Cond.keeps, Cond.steady])) hini)
  obtain ⟨hx, hb, hml, ho, -⟩ := S
  obtain ⟨-, ⟨cellB, hcB, hoB, hclB⟩, hPc⟩ := hp
  intro T hT X
  rcases vx_callVX X hx (C := C) (hh := hh) (bytes := bytes) (maxL := maxL) (ret := ret) ho hl hin hse hcode hy hK (by rw [hT]; exact hcB) hoB hclB hg (hsize.trans hml.symm) (argsL := As) (rest := rest) (fun sig h => hn.trans (hlen sig h)) hstack hW (by rw [hb]; exact hdg)
    (fun vm₁ hW₁ => ⟨hf.1, hf.2, hPc (T.setVm vm₁) hT hW₁⟩) with ⟨v, vm₁, ⟨U', l2, c2, s2⟩, hW₁, X', ⟨g', mk, t, L, e1, e2, hq, h1, hL, h2, h3⟩, st⟩ | ⟨q, vm₁, ⟨U', l2, c2, s2⟩, hW₁, X', ⟨g', mk, t, L, E, ce, e1, e2, hq, hce, hcv, hcl, h1, hL, h2, h3⟩, st⟩
  · dsimp only [Pt.U, Pt.locs, Pt.cells, Pt.slots] at X' e1 e2 h1 h2 h3 st
    subst h1; subst h2; subst h3
    exact Or.inl ⟨v, (T.setVm vm₁).calling g' mk (Value.ref b :: As).toArray, t, U', L, hT, X', hL, e1, e2, hq, st⟩
  · dsimp only [Pt.U, Pt.locs, Pt.cells, Pt.slots] at X' e1 e2 h1 h2 h3 st hcl
    subst h1; subst h2; subst h3
    exact Or.inr ⟨q, (T.setVm vm₁).calling g' mk (Value.ref b :: As).toArray, t, U', L, E, ce, hT, X', hL, e1, e2, hq, hce, hcv, vx_cls hW₁ hcl, st⟩
theorem vx_runSX {hh : List (Nat × Nat × Nat × Nat)} (S : CallFix p m c cc nL s args Ts own) (hM : vx_Met l y ws rm Pc Qc XC mc ms free) (cw : vx_CSW R s args own index y bytes maxL ret hh ws rm mc ms n) (hp : PreS s H Pc As)
    (hg : g.method = m) (hn : As.length = n) (hsize : g.locals.size = nL) (hstack : g.stack = As.reverse ++ rest) (hW : 2 * g.monitorRoom + (rest.map fun v => v.category).sum ≤ 8) (hdg : decode cc g.pc = .ok (.invokestatic index, 3)) (hf : cells + mc ≤ R.cells ∧ slots + ms ≤ R.slots) :
    vx_Run p l e R s m args below meth c H locs cells slots mc ms g rest (Qc As.toArray) XC free := by
  obtain ⟨⟨hrc, hrs, hfr, hlo, hws, hcw⟩, hcode, hini, hy, hlen, hl, hstt⟩ := cw
  have hK : vx_Back l R p e below s args y 3 8 (PreOf R mc ms Pc) (PostOf Qc mc ms free) (vx_Post XC mc ms free) := vx_backW (hh := hh) (bytes := bytes) (maxL := maxL) (ret := ret) hM hp.1 hrc hrs hfr hlo hws hcw (fun a' U hW => word_at hW (Or.inl (by first | rfl | simp [Cond.onTables, Cond.keeps, Cond.steady])) hini)
  obtain ⟨hx, hb, hml, ho, -⟩ := S
  intro T hT X
  rcases vx_callSX X hx (hh := hh) (bytes := bytes) (maxL := maxL) (ret := ret) ho hl hstt hini hcode hy hK hg (hsize.trans hml.symm) (argsL := As) (rest := rest) (fun sig h => hn.trans (hlen sig h)) hstack hW (by rw [hb]; exact hdg)
    (fun vm₁ hW₁ => ⟨hf.1, hf.2, hp.2 (T.setVm vm₁) hT hW₁⟩) with ⟨v, vm₁, ⟨U', l2, c2, s2⟩, hW₁, X', ⟨g', mk, t, L, e1, e2, hq, h1, hL, h2, h3⟩, st⟩ | ⟨q, vm₁, ⟨U', l2, c2, s2⟩, hW₁, X', ⟨g', mk, t, L, E, ce, e1, e2, hq, hce, hcv, hcl, h1, hL, h2, h3⟩, st⟩
  · dsimp only [Pt.U, Pt.locs, Pt.cells, Pt.slots] at X' e1 e2 h1 h2 h3 st
    subst h1; subst h2; subst h3
    exact Or.inl ⟨v, (T.setVm vm₁).calling g' mk As.toArray, t, U', L, hT, X', hL, e1, e2, hq, st⟩
  · dsimp only [Pt.U, Pt.locs, Pt.cells, Pt.slots] at X' e1 e2 h1 h2 h3 st hcl
    subst h1; subst h2; subst h3
    exact Or.inr ⟨q, (T.setVm vm₁).calling g' mk As.toArray, t, U', L, E, ce, hT, X', hL, e1, e2, hq, hce, hcv, vx_cls hW₁ hcl, st⟩
end
end VXH
theorem vx_ofWH {l : Launch} {y : MethodName} {ws ws' : List Cond} {rm : Room} {Pc : Array Value → State → Prop} {Qc : Array Value → State → Outcome → State → Prop} {XC : String → State → State → Prop} {mc ms : Nat} {free : Addr → Prop} {cc : ByteArray} {maxL : Nat} {ret : Option FieldType} {hh : List (Nat × Nat × Nat × Nat)}
    (hy : plainName y.cls = true) (hw : ws = Cond.codeWith y cc maxL ret hh :: ws')
    (body : ∀ p e s m args below meth c s₁, BodyLoose p l y (headSpec ws rm) cc maxL ret e s m args below meth c s₁ → c.maxLocals = maxL → Pc args s →
      W p l e (headSpec ws rm).room s m args below meth c s.heap [] 0 0 (vx_MQ below Qc XC args s mc ms free) (entryFrame m args maxL)) : vx_Met l y ws rm Pc Qc XC mc ms free := by
  refine MetFree.of_bodyS (code := cc) (maxLocals := maxL) (ret := ret) hy ?_ ?_
  · intro args s m h hn
    obtain ⟨m9, meth, c, hn9, h1, h2, h3, h4, -, h5, h6, -⟩ := Cond.codeWith_spec (atoms_spec (ws := ws) h _ (by rw [hw]; exact List.mem_cons_self))
    cases hn.symm.trans hn9
    exact ⟨meth, c, h1, h2, h3, h4, h5, h6⟩
  · intro p e s m args below meth c s₁ B hml hP _
    have hh0 : s₁.heap = s.heap := by rw [B.state]; rfl
    obtain ⟨t, a1, o, b1, b2, b3⟩ := body p e s m args below meth c s₁ B hml hP s₁ hh0 (Stand.of_body B)
    exact ⟨t, o, a1, b1, b2, b3⟩
/-! ===== END ===== -/
end
section
/-! ===== BEGIN printed: names, fields, word lists, decode rows ===== -/
def RX0 : String := "CanyonEchoes$Canyon"
def TX0 : u_T := fun k => match k with
  | 0 => ("CanyonEchoes$Canyon", "beatCount", "I", false)
  | 1 => ("CanyonEchoes$Canyon", "wallCount", "I", false)
  | 2 => ("CanyonEchoes$Canyon", "shoutCount", "I", false)
  | 3 => ("CanyonEchoes$Canyon", "underWayCount", "I", false)
  | 4 => ("CanyonEchoes$Canyon", "overlapCount", "I", false)
  | 5 => ("CanyonEchoes$Canyon", "inheritedCount", "I", false)
  | 6 => ("CanyonEchoes$Canyon", "snow", "[I", true)
  | 7 => ("CanyonEchoes$Canyon", "wallAt", "[I", true)
  | 8 => ("CanyonEchoes$Canyon", "shoutAt", "[I", true)
  | 9 => ("CanyonEchoes$Canyon", "wallStone", "[I", true)
  | 10 => ("CanyonEchoes$Canyon", "wallOwner", "[I", true)
  | 11 => ("CanyonEchoes$Canyon", "wallSoaks", "[I", true)
  | 12 => ("CanyonEchoes$Canyon", "wallThrows", "[I", true)
  | 13 => ("CanyonEchoes$Canyon", "coins", "[I", true)
  | 14 => ("CanyonEchoes$Canyon", "silence", "[I", true)
  | 15 => ("CanyonEchoes$Canyon", "loud", "[I", true)
  | 16 => ("CanyonEchoes$Canyon", "place", "[I", true)
  | 17 => ("CanyonEchoes$Canyon", "step", "[I", true)
  | _ => ("CanyonEchoes$Canyon", "turns", "[I", true)
def tyX0 : Nat → FieldType := fun k => match k with
  | 0 => .int
  | 1 => .int
  | 2 => .int
  | 3 => .int
  | 4 => .int
  | 5 => .int
  | 6 => .array .int
  | 7 => .array .int
  | 8 => .array .int
  | 9 => .array .int
  | 10 => .array .int
  | 11 => .array .int
  | 12 => .array .int
  | 13 => .array .int
  | 14 => .array .int
  | 15 => .array .int
  | 16 => .array .int
  | 17 => .array .int
  | _ => .array .int
abbrev wsX00 : List Cond := u_ws RX0 TX0 19
theorem nmX0 : ∀ a, a < 19 → ∀ b, b < 19 → a ≠ b → (TX0 a).2.1 ≠ (TX0 b).2.1 := by decide +kernel
theorem tyX0_ok : ∀ k, k < 19 → parseFieldDescriptor (TX0 k).2.2.1 = some (tyX0 k) := by decide +kernel
abbrev cX0_init : ByteArray := prog_2_method_1_code
def yX0_init : MethodName := ⟨RX0, "<init>", "()V"⟩
abbrev cX0_copyFrom : ByteArray := prog_2_method_2_code
def yX0_copyFrom : MethodName := ⟨RX0, "copyFrom", "(LCanyonEchoes$Canyon;)V"⟩
abbrev cX0_build : ByteArray := prog_2_method_3_code
def yX0_build : MethodName := ⟨RX0, "build", "(III)I"⟩
abbrev cX0_start : ByteArray := prog_2_method_4_code
def yX0_start : MethodName := ⟨RX0, "start", "(IZI)I"⟩
abbrev cX0_startAlone : ByteArray := prog_2_method_5_code
def yX0_startAlone : MethodName := ⟨RX0, "startAlone", "(IZI)V"⟩
abbrev cX0_loudAt : ByteArray := prog_2_method_6_code
def yX0_loudAt : MethodName := ⟨RX0, "loudAt", "(I)I"⟩
abbrev cX0_goOn : ByteArray := prog_2_method_7_code
def yX0_goOn : MethodName := ⟨RX0, "goOn", "()V"⟩
abbrev cX0_move : ByteArray := prog_2_method_8_code
def yX0_move : MethodName := ⟨RX0, "move", "(I)V"⟩
abbrev cX0_turnAt : ByteArray := prog_2_method_9_code
def yX0_turnAt : MethodName := ⟨RX0, "turnAt", "(II)V"⟩
abbrev cX0_hush : ByteArray := prog_2_method_10_code
def yX0_hush : MethodName := ⟨RX0, "hush", "(I)V"⟩
abbrev cX0_meet : ByteArray := prog_2_method_11_code
def yX0_meet : MethodName := ⟨RX0, "meet", "()V"⟩
abbrev cX0_settle : ByteArray := prog_2_method_12_code
def yX0_settle : MethodName := ⟨RX0, "settle", "(I)V"⟩
abbrev cX0_listen : ByteArray := prog_2_method_13_code
def yX0_listen : MethodName := ⟨RX0, "listen", "(IZ)V"⟩
abbrev cX0_loseWall : ByteArray := prog_2_method_14_code
def yX0_loseWall : MethodName := ⟨RX0, "loseWall", "(I)V"⟩
def RX1 : String := "CanyonEchoes"
def TX1 : u_T := fun k => match k with
  | 0 => ("CanyonEchoes", "now", "LCanyonEchoes$Canyon;", true)
  | _ => ("CanyonEchoes", "ahead", "LCanyonEchoes$Canyon;", true)
def tyX1 : Nat → FieldType := fun k => match k with
  | 0 => .object "CanyonEchoes$Canyon"
  | _ => .object "CanyonEchoes$Canyon"
abbrev wsX10 : List Cond := u_ws RX1 TX1 2
theorem nmX1 : ∀ a, a < 2 → ∀ b, b < 2 → a ≠ b → (TX1 a).2.1 ≠ (TX1 b).2.1 := by decide +kernel
theorem tyX1_ok : ∀ k, k < 2 → parseFieldDescriptor (TX1 k).2.2.1 = some (tyX1 k) := by decide +kernel
abbrev cX1_init : ByteArray := prog_1_method_1_code
def yX1_init : MethodName := ⟨RX1, "<init>", "()V"⟩
abbrev cX1_addWall : ByteArray := prog_1_method_2_code
def yX1_addWall : MethodName := ⟨RX1, "addWall", "(III)I"⟩
abbrev cX1_hand : ByteArray := prog_1_method_3_code
def yX1_hand : MethodName := ⟨RX1, "hand", "(I)I"⟩
abbrev cX1_setSnow : ByteArray := prog_1_method_4_code
def yX1_setSnow : MethodName := ⟨RX1, "setSnow", "(II)I"⟩
abbrev cX1_shout : ByteArray := prog_1_method_5_code
def yX1_shout : MethodName := ⟨RX1, "shout", "(IZI)I"⟩
abbrev cX1_pass : ByteArray := prog_1_method_6_code
def yX1_pass : MethodName := ⟨RX1, "pass", "(I)I"⟩
abbrev cX1_beat : ByteArray := prog_1_method_7_code
def yX1_beat : MethodName := ⟨RX1, "beat", "()I"⟩
abbrev cX1_walls : ByteArray := prog_1_method_8_code
def yX1_walls : MethodName := ⟨RX1, "walls", "()I"⟩
abbrev cX1_shouts : ByteArray := prog_1_method_9_code
def yX1_shouts : MethodName := ⟨RX1, "shouts", "()I"⟩
abbrev cX1_underWay : ByteArray := prog_1_method_10_code
def yX1_underWay : MethodName := ⟨RX1, "underWay", "()I"⟩
abbrev cX1_overlaps : ByteArray := prog_1_method_11_code
def yX1_overlaps : MethodName := ⟨RX1, "overlaps", "()I"⟩
abbrev cX1_snowOn : ByteArray := prog_1_method_12_code
def yX1_snowOn : MethodName := ⟨RX1, "snowOn", "(I)I"⟩
abbrev cX1_wallOn : ByteArray := prog_1_method_13_code
def yX1_wallOn : MethodName := ⟨RX1, "wallOn", "(I)I"⟩
abbrev cX1_loudOn : ByteArray := prog_1_method_14_code
def yX1_loudOn : MethodName := ⟨RX1, "loudOn", "(I)I"⟩
abbrev cX1_stoneOf : ByteArray := prog_1_method_15_code
def yX1_stoneOf : MethodName := ⟨RX1, "stoneOf", "(I)I"⟩
abbrev cX1_ownerOf : ByteArray := prog_1_method_16_code
def yX1_ownerOf : MethodName := ⟨RX1, "ownerOf", "(I)I"⟩
abbrev cX1_thrownBack : ByteArray := prog_1_method_17_code
def yX1_thrownBack : MethodName := ⟨RX1, "thrownBack", "(I)I"⟩
abbrev cX1_coinsOf : ByteArray := prog_1_method_18_code
def yX1_coinsOf : MethodName := ⟨RX1, "coinsOf", "(I)I"⟩
abbrev cX1_wallsOf : ByteArray := prog_1_method_19_code
def yX1_wallsOf : MethodName := ⟨RX1, "wallsOf", "(I)I"⟩
abbrev cX1_silentFor : ByteArray := prog_1_method_20_code
def yX1_silentFor : MethodName := ⟨RX1, "silentFor", "(I)I"⟩
abbrev cX1_inherited : ByteArray := prog_1_method_21_code
def yX1_inherited : MethodName := ⟨RX1, "inherited", "()I"⟩
abbrev cX1_loudnessOf : ByteArray := prog_1_method_22_code
def yX1_loudnessOf : MethodName := ⟨RX1, "loudnessOf", "(I)I"⟩
abbrev cX1_placeOf : ByteArray := prog_1_method_23_code
def yX1_placeOf : MethodName := ⟨RX1, "placeOf", "(I)I"⟩
abbrev cX1_goesRight : ByteArray := prog_1_method_24_code
def yX1_goesRight : MethodName := ⟨RX1, "goesRight", "(I)Z"⟩
abbrev cX1_turnsOf : ByteArray := prog_1_method_25_code
def yX1_turnsOf : MethodName := ⟨RX1, "turnsOf", "(I)I"⟩
abbrev cX1_nextWall : ByteArray := prog_1_method_26_code
def yX1_nextWall : MethodName := ⟨RX1, "nextWall", "(IZ)I"⟩
abbrev cX1_beatsUntilGone : ByteArray := prog_1_method_27_code
def yX1_beatsUntilGone : MethodName := ⟨RX1, "beatsUntilGone", "(I)I"⟩
abbrev cX1_beatsUntilQuiet : ByteArray := prog_1_method_28_code
def yX1_beatsUntilQuiet : MethodName := ⟨RX1, "beatsUntilQuiet", "()I"⟩
abbrev cX1_coinsIn : ByteArray := prog_1_method_29_code
def yX1_coinsIn : MethodName := ⟨RX1, "coinsIn", "(II)I"⟩
abbrev cX1_loudestOn : ByteArray := prog_1_method_30_code
def yX1_loudestOn : MethodName := ⟨RX1, "loudestOn", "(II)I"⟩
abbrev cX1_loudnessWanted : ByteArray := prog_1_method_31_code
def yX1_loudnessWanted : MethodName := ⟨RX1, "loudnessWanted", "(IZI)I"⟩
abbrev cX1_bestStone : ByteArray := prog_1_method_32_code
def yX1_bestStone : MethodName := ⟨RX1, "bestStone", "(I)I"⟩
abbrev cX1_meanLoudness : ByteArray := prog_1_method_33_code
def yX1_meanLoudness : MethodName := ⟨RX1, "meanLoudness", "()D"⟩
abbrev cX1_digest : ByteArray := prog_1_method_34_code
def yX1_digest : MethodName := ⟨RX1, "digest", "()J"⟩
abbrev cX1_digestCounts : ByteArray := prog_1_method_35_code
def yX1_digestCounts : MethodName := ⟨RX1, "digestCounts", "(J)J"⟩
abbrev cX1_digestEchoes : ByteArray := prog_1_method_36_code
def yX1_digestEchoes : MethodName := ⟨RX1, "digestEchoes", "(J)J"⟩
abbrev cX1_digestWalls : ByteArray := prog_1_method_37_code
def yX1_digestWalls : MethodName := ⟨RX1, "digestWalls", "(J)J"⟩
abbrev cX1_digestShouts : ByteArray := prog_1_method_38_code
def yX1_digestShouts : MethodName := ⟨RX1, "digestShouts", "(J)J"⟩
abbrev cX1_digestStones : ByteArray := prog_1_method_39_code
def yX1_digestStones : MethodName := ⟨RX1, "digestStones", "(J)J"⟩
abbrev cX1_mix : ByteArray := prog_1_method_40_code
def yX1_mix : MethodName := ⟨RX1, "mix", "(JI)J"⟩
abbrev cX1_turnsAlone : ByteArray := prog_1_method_41_code
def yX1_turnsAlone : MethodName := ⟨RX1, "turnsAlone", "(II)I"⟩
abbrev cX1_isStone : ByteArray := prog_1_method_42_code
def yX1_isStone : MethodName := ⟨RX1, "isStone", "(I)Z"⟩
abbrev cX1_otherEcho : ByteArray := prog_1_method_43_code
def yX1_otherEcho : MethodName := ⟨RX1, "otherEcho", "(I)I"⟩
abbrev cX1_needStone : ByteArray := prog_1_method_44_code
def yX1_needStone : MethodName := ⟨RX1, "needStone", "(I)V"⟩
abbrev cX1_needEcho : ByteArray := prog_1_method_45_code
def yX1_needEcho : MethodName := ⟨RX1, "needEcho", "(I)V"⟩
abbrev cX1_needWall : ByteArray := prog_1_method_46_code
def yX1_needWall : MethodName := ⟨RX1, "needWall", "(I)V"⟩
abbrev cX1_needShout : ByteArray := prog_1_method_47_code
def yX1_needShout : MethodName := ⟨RX1, "needShout", "(I)V"⟩
abbrev cX1_needLoud : ByteArray := prog_1_method_48_code
def yX1_needLoud : MethodName := ⟨RX1, "needLoud", "(I)V"⟩
abbrev cX1_needBeats : ByteArray := prog_1_method_49_code
def yX1_needBeats : MethodName := ⟨RX1, "needBeats", "(I)V"⟩
def RX2 : String := "CanyonEchoesModel"
def TX2 : u_T := fun k => match k with
  | 0 => ("CanyonEchoesModel", "thrown", "I", false)
  | 1 => ("CanyonEchoesModel", "walls", "I", false)
  | 2 => ("CanyonEchoesModel", "shouts", "I", false)
  | 3 => ("CanyonEchoesModel", "snow", "[I", true)
  | 4 => ("CanyonEchoesModel", "wall", "[I", true)
  | 5 => ("CanyonEchoesModel", "stone", "[I", true)
  | 6 => ("CanyonEchoesModel", "soaks", "[I", true)
  | 7 => ("CanyonEchoesModel", "now", "[I", true)
  | 8 => ("CanyonEchoesModel", "kept", "[I", true)
  | _ => ("CanyonEchoesModel", "got", "[Z", true)
def tyX2 : Nat → FieldType := fun k => match k with
  | 0 => .int
  | 1 => .int
  | 2 => .int
  | 3 => .array .int
  | 4 => .array .int
  | 5 => .array .int
  | 6 => .array .int
  | 7 => .array .int
  | 8 => .array .int
  | _ => .array .boolean
abbrev wsX20 : List Cond := u_ws RX2 TX2 10
theorem nmX2 : ∀ a, a < 10 → ∀ b, b < 10 → a ≠ b → (TX2 a).2.1 ≠ (TX2 b).2.1 := by decide +kernel
theorem tyX2_ok : ∀ k, k < 10 → parseFieldDescriptor (TX2 k).2.2.1 = some (tyX2 k) := by decide +kernel
abbrev cX2_init : ByteArray := prog_4_method_1_code
def yX2_init : MethodName := ⟨RX2, "<init>", "()V"⟩
abbrev cX2_thrown : ByteArray := prog_4_method_2_code
def yX2_thrown : MethodName := ⟨RX2, "thrown", "()I"⟩
abbrev cX2_no : ByteArray := prog_4_method_3_code
def yX2_no : MethodName := ⟨RX2, "no", "(I)I"⟩
abbrev cX2_ok : ByteArray := prog_4_method_5_code
def yX2_ok : MethodName := ⟨RX2, "ok", "(I)I"⟩
abbrev cX2_isIn : ByteArray := prog_4_method_6_code
def yX2_isIn : MethodName := ⟨RX2, "isIn", "(III)Z"⟩
abbrev cX2_isStone : ByteArray := prog_4_method_7_code
def yX2_isStone : MethodName := ⟨RX2, "isStone", "(I)Z"⟩
abbrev cX2_isEcho : ByteArray := prog_4_method_8_code
def yX2_isEcho : MethodName := ⟨RX2, "isEcho", "(I)Z"⟩
abbrev cX2_isWall : ByteArray := prog_4_method_9_code
def yX2_isWall : MethodName := ⟨RX2, "isWall", "(I)Z"⟩
abbrev cX2_isShout : ByteArray := prog_4_method_10_code
def yX2_isShout : MethodName := ⟨RX2, "isShout", "(I)Z"⟩
abbrev cX2_keep : ByteArray := prog_4_method_11_code
def yX2_keep : MethodName := ⟨RX2, "keep", "()V"⟩
abbrev cX2_bringBack : ByteArray := prog_4_method_12_code
def yX2_bringBack : MethodName := ⟨RX2, "bringBack", "()V"⟩
abbrev cX2_goes : ByteArray := prog_4_method_13_code
def yX2_goes : MethodName := ⟨RX2, "goes", "(I)Z"⟩
abbrev cX2_let : ByteArray := prog_4_method_14_code
def yX2_let : MethodName := ⟨RX2, "let", "(II)V"⟩
abbrev cX2_step : ByteArray := prog_4_method_15_code
def yX2_step : MethodName := ⟨RX2, "step", "(I)V"⟩
abbrev cX2_loudest : ByteArray := prog_4_method_16_code
def yX2_loudest : MethodName := ⟨RX2, "loudest", "(I)I"⟩
abbrev cX2_meet : ByteArray := prog_4_method_17_code
def yX2_meet : MethodName := ⟨RX2, "meet", "(I)V"⟩
abbrev cX2_firstOf : ByteArray := prog_4_method_18_code
def yX2_firstOf : MethodName := ⟨RX2, "firstOf", "(I)I"⟩
abbrev cX2_hush : ByteArray := prog_4_method_19_code
def yX2_hush : MethodName := ⟨RX2, "hush", "(I)V"⟩
abbrev cX2_beatOn : ByteArray := prog_4_method_20_code
def yX2_beatOn : MethodName := ⟨RX2, "beatOn", "()V"⟩
abbrev cX2_beatsOn : ByteArray := prog_4_method_21_code
def yX2_beatsOn : MethodName := ⟨RX2, "beatsOn", "(I)V"⟩
abbrev cX2_coins : ByteArray := prog_4_method_22_code
def yX2_coins : MethodName := ⟨RX2, "coins", "()I"⟩
abbrev cX2_many : ByteArray := prog_4_method_23_code
def yX2_many : MethodName := ⟨RX2, "many", "()I"⟩
abbrev cX2_addWall : ByteArray := prog_4_method_24_code
def yX2_addWall : MethodName := ⟨RX2, "addWall", "(III)I"⟩
abbrev cX2_hand : ByteArray := prog_4_method_25_code
def yX2_hand : MethodName := ⟨RX2, "hand", "(I)I"⟩
abbrev cX2_setSnow : ByteArray := prog_4_method_26_code
def yX2_setSnow : MethodName := ⟨RX2, "setSnow", "(II)I"⟩
abbrev cX2_shout : ByteArray := prog_4_method_27_code
def yX2_shout : MethodName := ⟨RX2, "shout", "(IZI)I"⟩
abbrev cX2_pass : ByteArray := prog_4_method_28_code
def yX2_pass : MethodName := ⟨RX2, "pass", "(I)I"⟩
abbrev cX2_beat : ByteArray := prog_4_method_29_code
def yX2_beat : MethodName := ⟨RX2, "beat", "()I"⟩
abbrev cX2_walls : ByteArray := prog_4_method_30_code
def yX2_walls : MethodName := ⟨RX2, "walls", "()I"⟩
abbrev cX2_shouts : ByteArray := prog_4_method_31_code
def yX2_shouts : MethodName := ⟨RX2, "shouts", "()I"⟩
abbrev cX2_underWay : ByteArray := prog_4_method_32_code
def yX2_underWay : MethodName := ⟨RX2, "underWay", "()I"⟩
abbrev cX2_overlaps : ByteArray := prog_4_method_33_code
def yX2_overlaps : MethodName := ⟨RX2, "overlaps", "()I"⟩
abbrev cX2_isKnown : ByteArray := prog_4_method_34_code
def yX2_isKnown : MethodName := ⟨RX2, "isKnown", "(Z)Z"⟩
abbrev cX2_snowOn : ByteArray := prog_4_method_35_code
def yX2_snowOn : MethodName := ⟨RX2, "snowOn", "(I)I"⟩
abbrev cX2_wallOn : ByteArray := prog_4_method_36_code
def yX2_wallOn : MethodName := ⟨RX2, "wallOn", "(I)I"⟩
abbrev cX2_loudAt : ByteArray := prog_4_method_37_code
def yX2_loudAt : MethodName := ⟨RX2, "loudAt", "(I)I"⟩
abbrev cX2_loudOn : ByteArray := prog_4_method_38_code
def yX2_loudOn : MethodName := ⟨RX2, "loudOn", "(I)I"⟩
abbrev cX2_stoneOf : ByteArray := prog_4_method_39_code
def yX2_stoneOf : MethodName := ⟨RX2, "stoneOf", "(I)I"⟩
abbrev cX2_ownerOf : ByteArray := prog_4_method_40_code
def yX2_ownerOf : MethodName := ⟨RX2, "ownerOf", "(I)I"⟩
abbrev cX2_thrownBack : ByteArray := prog_4_method_41_code
def yX2_thrownBack : MethodName := ⟨RX2, "thrownBack", "(I)I"⟩
abbrev cX2_coinsOf : ByteArray := prog_4_method_42_code
def yX2_coinsOf : MethodName := ⟨RX2, "coinsOf", "(I)I"⟩
abbrev cX2_manyOf : ByteArray := prog_4_method_43_code
def yX2_manyOf : MethodName := ⟨RX2, "manyOf", "(I)I"⟩
abbrev cX2_wallsOf : ByteArray := prog_4_method_44_code
def yX2_wallsOf : MethodName := ⟨RX2, "wallsOf", "(I)I"⟩
abbrev cX2_silentFor : ByteArray := prog_4_method_45_code
def yX2_silentFor : MethodName := ⟨RX2, "silentFor", "(I)I"⟩
abbrev cX2_inherited : ByteArray := prog_4_method_46_code
def yX2_inherited : MethodName := ⟨RX2, "inherited", "()I"⟩
abbrev cX2_loudnessOf : ByteArray := prog_4_method_47_code
def yX2_loudnessOf : MethodName := ⟨RX2, "loudnessOf", "(I)I"⟩
abbrev cX2_place : ByteArray := prog_4_method_48_code
def yX2_place : MethodName := ⟨RX2, "place", "(I)I"⟩
abbrev cX2_placeOf : ByteArray := prog_4_method_49_code
def yX2_placeOf : MethodName := ⟨RX2, "placeOf", "(I)I"⟩
abbrev cX2_isRight : ByteArray := prog_4_method_50_code
def yX2_isRight : MethodName := ⟨RX2, "isRight", "(I)Z"⟩
abbrev cX2_goesRight : ByteArray := prog_4_method_51_code
def yX2_goesRight : MethodName := ⟨RX2, "goesRight", "(I)Z"⟩
abbrev cX2_turnsOf : ByteArray := prog_4_method_52_code
def yX2_turnsOf : MethodName := ⟨RX2, "turnsOf", "(I)I"⟩
abbrev cX2_next : ByteArray := prog_4_method_53_code
def yX2_next : MethodName := ⟨RX2, "next", "(II)I"⟩
abbrev cX2_nextWall : ByteArray := prog_4_method_54_code
def yX2_nextWall : MethodName := ⟨RX2, "nextWall", "(IZ)I"⟩
abbrev cX2_untilGone : ByteArray := prog_4_method_55_code
def yX2_untilGone : MethodName := ⟨RX2, "untilGone", "(I)I"⟩
abbrev cX2_beatsUntilGone : ByteArray := prog_4_method_56_code
def yX2_beatsUntilGone : MethodName := ⟨RX2, "beatsUntilGone", "(I)I"⟩
abbrev cX2_untilQuiet : ByteArray := prog_4_method_57_code
def yX2_untilQuiet : MethodName := ⟨RX2, "untilQuiet", "()I"⟩
abbrev cX2_beatsUntilQuiet : ByteArray := prog_4_method_58_code
def yX2_beatsUntilQuiet : MethodName := ⟨RX2, "beatsUntilQuiet", "()I"⟩
abbrev cX2_earns : ByteArray := prog_4_method_59_code
def yX2_earns : MethodName := ⟨RX2, "earns", "(II)I"⟩
abbrev cX2_coinsIn : ByteArray := prog_4_method_60_code
def yX2_coinsIn : MethodName := ⟨RX2, "coinsIn", "(II)I"⟩
abbrev cX2_loudestOn : ByteArray := prog_4_method_61_code
def yX2_loudestOn : MethodName := ⟨RX2, "loudestOn", "(II)I"⟩
abbrev cX2_loses : ByteArray := prog_4_method_62_code
def yX2_loses : MethodName := ⟨RX2, "loses", "(III)I"⟩
abbrev cX2_loudnessWanted : ByteArray := prog_4_method_63_code
def yX2_loudnessWanted : MethodName := ⟨RX2, "loudnessWanted", "(IZI)I"⟩
abbrev cX2_turns : ByteArray := prog_4_method_64_code
def yX2_turns : MethodName := ⟨RX2, "turns", "(II)I"⟩
abbrev cX2_best : ByteArray := prog_4_method_65_code
def yX2_best : MethodName := ⟨RX2, "best", "(I)I"⟩
abbrev cX2_bestStone : ByteArray := prog_4_method_66_code
def yX2_bestStone : MethodName := ⟨RX2, "bestStone", "(I)I"⟩
abbrev cX2_meanLoudness : ByteArray := prog_4_method_67_code
def yX2_meanLoudness : MethodName := ⟨RX2, "meanLoudness", "()D"⟩
abbrev cX2_digest : ByteArray := prog_4_method_68_code
def yX2_digest : MethodName := ⟨RX2, "digest", "()J"⟩
def RJx145de : String := "java/io/Serializable"
def TJx145de : u_T := fun k => match k with
  | _ => ("", "", "", false)
def tyJx145de : Nat → FieldType := fun k => match k with
  | _ => .int
abbrev wsJx145de0 : List Cond := u_ws RJx145de TJx145de 0
theorem nmJx145de : ∀ a, a < 0 → ∀ b, b < 0 → a ≠ b → (TJx145de a).2.1 ≠ (TJx145de b).2.1 := by decide +kernel
theorem tyJx145de_ok : ∀ k, k < 0 → parseFieldDescriptor (TJx145de k).2.2.1 = some (tyJx145de k) := by decide +kernel
def RJ9 : String := "java/lang/Math"
def TJ9 : u_T := fun k => match k with
  | _ => ("", "", "", false)
def tyJ9 : Nat → FieldType := fun k => match k with
  | _ => .int
abbrev wsJ90 : List Cond := u_ws RJ9 TJ9 0
theorem nmJ9 : ∀ a, a < 0 → ∀ b, b < 0 → a ≠ b → (TJ9 a).2.1 ≠ (TJ9 b).2.1 := by decide +kernel
theorem tyJ9_ok : ∀ k, k < 0 → parseFieldDescriptor (TJ9 k).2.2.1 = some (tyJ9 k) := by decide +kernel
abbrev cJ9_max_7cf53 : ByteArray := prog_9_method_65_code
def yJ9_max_7cf53 : MethodName := ⟨RJ9, "max", "(II)I"⟩
def RJ0 : String := "java/lang/String"
def TJ0 : u_T := fun k => match k with
  | _ => ("", "", "", false)
def tyJ0 : Nat → FieldType := fun k => match k with
  | _ => .int
abbrev wsJ00 : List Cond := u_ws RJ0 TJ0 0
theorem nmJ0 : ∀ a, a < 0 → ∀ b, b < 0 → a ≠ b → (TJ0 a).2.1 ≠ (TJ0 b).2.1 := by decide +kernel
theorem tyJ0_ok : ∀ k, k < 0 → parseFieldDescriptor (TJ0 k).2.2.1 = some (tyJ0 k) := by decide +kernel
def RJ10 : String := "java/lang/System"
def TJ10 : u_T := fun k => match k with
  | _ => ("", "", "", false)
def tyJ10 : Nat → FieldType := fun k => match k with
  | _ => .int
abbrev wsJ100 : List Cond := u_ws RJ10 TJ10 0
theorem nmJ10 : ∀ a, a < 0 → ∀ b, b < 0 → a ≠ b → (TJ10 a).2.1 ≠ (TJ10 b).2.1 := by decide +kernel
theorem tyJ10_ok : ∀ k, k < 0 → parseFieldDescriptor (TJ10 k).2.2.1 = some (tyJ10 k) := by decide +kernel
def RJ7 : String := "java/util/Arrays"
def TJ7 : u_T := fun k => match k with
  | _ => ("", "", "", false)
def tyJ7 : Nat → FieldType := fun k => match k with
  | _ => .int
abbrev wsJ70 : List Cond := u_ws RJ7 TJ7 0
theorem nmJ7 : ∀ a, a < 0 → ∀ b, b < 0 → a ≠ b → (TJ7 a).2.1 ≠ (TJ7 b).2.1 := by decide +kernel
theorem tyJ7_ok : ∀ k, k < 0 → parseFieldDescriptor (TJ7 k).2.2.1 = some (tyJ7 k) := by decide +kernel
abbrev cJ7_fill_53178 : ByteArray := prog_14_method_103_code
def yJ7_fill_53178 : MethodName := ⟨RJ7, "fill", "([II)V"⟩
def RL : String := "CanyonEchoesLaw"
abbrev cL_addWall : ByteArray := method_3_code
def yL_addWall : MethodName := ⟨RL, "addWall", "(LCanyonEchoes;III[J)I"⟩
abbrev cL_hand : ByteArray := method_4_code
def yL_hand : MethodName := ⟨RL, "hand", "(LCanyonEchoes;I[J)I"⟩
abbrev cL_setSnow : ByteArray := method_5_code
def yL_setSnow : MethodName := ⟨RL, "setSnow", "(LCanyonEchoes;II[J)I"⟩
abbrev cL_shout : ByteArray := method_6_code
def yL_shout : MethodName := ⟨RL, "shout", "(LCanyonEchoes;IZI[J)I"⟩
abbrev cL_pass : ByteArray := method_7_code
def yL_pass : MethodName := ⟨RL, "pass", "(LCanyonEchoes;I[J)I"⟩
abbrev cL_snowOn : ByteArray := method_8_code
def yL_snowOn : MethodName := ⟨RL, "snowOn", "(LCanyonEchoes;I[J)I"⟩
abbrev cL_wallOn : ByteArray := method_9_code
def yL_wallOn : MethodName := ⟨RL, "wallOn", "(LCanyonEchoes;I[J)I"⟩
abbrev cL_loudOn : ByteArray := method_10_code
def yL_loudOn : MethodName := ⟨RL, "loudOn", "(LCanyonEchoes;I[J)I"⟩
abbrev cL_stoneOf : ByteArray := method_11_code
def yL_stoneOf : MethodName := ⟨RL, "stoneOf", "(LCanyonEchoes;I[J)I"⟩
abbrev cL_ownerOf : ByteArray := method_12_code
def yL_ownerOf : MethodName := ⟨RL, "ownerOf", "(LCanyonEchoes;I[J)I"⟩
abbrev cL_thrownBack : ByteArray := method_13_code
def yL_thrownBack : MethodName := ⟨RL, "thrownBack", "(LCanyonEchoes;I[J)I"⟩
abbrev cL_coinsOf : ByteArray := method_14_code
def yL_coinsOf : MethodName := ⟨RL, "coinsOf", "(LCanyonEchoes;I[J)I"⟩
abbrev cL_wallsOf : ByteArray := method_15_code
def yL_wallsOf : MethodName := ⟨RL, "wallsOf", "(LCanyonEchoes;I[J)I"⟩
abbrev cL_silentFor : ByteArray := method_16_code
def yL_silentFor : MethodName := ⟨RL, "silentFor", "(LCanyonEchoes;I[J)I"⟩
abbrev cL_loudnessOf : ByteArray := method_17_code
def yL_loudnessOf : MethodName := ⟨RL, "loudnessOf", "(LCanyonEchoes;I[J)I"⟩
abbrev cL_placeOf : ByteArray := method_18_code
def yL_placeOf : MethodName := ⟨RL, "placeOf", "(LCanyonEchoes;I[J)I"⟩
abbrev cL_goesRight : ByteArray := method_19_code
def yL_goesRight : MethodName := ⟨RL, "goesRight", "(LCanyonEchoes;I[J)I"⟩
abbrev cL_turnsOf : ByteArray := method_20_code
def yL_turnsOf : MethodName := ⟨RL, "turnsOf", "(LCanyonEchoes;I[J)I"⟩
abbrev cL_nextWall : ByteArray := method_21_code
def yL_nextWall : MethodName := ⟨RL, "nextWall", "(LCanyonEchoes;IZ[J)I"⟩
abbrev cL_beatsUntilGone : ByteArray := method_22_code
def yL_beatsUntilGone : MethodName := ⟨RL, "beatsUntilGone", "(LCanyonEchoes;I[J)I"⟩
abbrev cL_coinsIn : ByteArray := method_23_code
def yL_coinsIn : MethodName := ⟨RL, "coinsIn", "(LCanyonEchoes;II[J)I"⟩
abbrev cL_loudestOn : ByteArray := method_24_code
def yL_loudestOn : MethodName := ⟨RL, "loudestOn", "(LCanyonEchoes;II[J)I"⟩
abbrev cL_loudnessWanted : ByteArray := method_25_code
def yL_loudnessWanted : MethodName := ⟨RL, "loudnessWanted", "(LCanyonEchoes;IZI[J)I"⟩
abbrev cL_bestStone : ByteArray := method_26_code
def yL_bestStone : MethodName := ⟨RL, "bestStone", "(LCanyonEchoes;I[J)I"⟩
abbrev cL_law : ByteArray := code
def yL_law : MethodName := ⟨RL, "law", "([I)Z"⟩
theorem inX0 : ∀ w ∈ wsX00, w ∈ lw_tbl := by decide +kernel
theorem inX1 : ∀ w ∈ wsX10, w ∈ lw_tbl := by decide +kernel
theorem inX2 : ∀ w ∈ wsX20, w ∈ lw_tbl := by decide +kernel
abbrev vwCl : List vw_C := [(RX0, TX0, 19), (RX1, TX1, 2), (RX2, TX2, 10)]
end
section
theorem dX0_init_0 : decode cX0_init 0 = .ok (.aload_n 0, 1) := by decide +kernel
theorem dX0_init_1 : decode cX0_init 1 = .ok (.invokespecial 3, 3) := by decide +kernel
theorem dX0_init_4 : decode cX0_init 4 = .ok (.aload_n 0, 1) := by decide +kernel
theorem dX0_init_5 : decode cX0_init 5 = .ok (.bipush 32, 2) := by decide +kernel
theorem dX0_init_7 : decode cX0_init 7 = .ok (.newarray .int, 2) := by decide +kernel
theorem dX0_init_9 : decode cX0_init 9 = .ok (.putfield 9, 3) := by decide +kernel
theorem dX0_init_12 : decode cX0_init 12 = .ok (.aload_n 0, 1) := by decide +kernel
theorem dX0_init_13 : decode cX0_init 13 = .ok (.bipush 32, 2) := by decide +kernel
theorem dX0_init_15 : decode cX0_init 15 = .ok (.newarray .int, 2) := by decide +kernel
theorem dX0_init_17 : decode cX0_init 17 = .ok (.putfield 15, 3) := by decide +kernel
theorem dX0_init_20 : decode cX0_init 20 = .ok (.aload_n 0, 1) := by decide +kernel
theorem dX0_init_21 : decode cX0_init 21 = .ok (.bipush 32, 2) := by decide +kernel
theorem dX0_init_23 : decode cX0_init 23 = .ok (.newarray .int, 2) := by decide +kernel
theorem dX0_init_25 : decode cX0_init 25 = .ok (.putfield 18, 3) := by decide +kernel
theorem dX0_init_28 : decode cX0_init 28 = .ok (.aload_n 0, 1) := by decide +kernel
theorem dX0_init_29 : decode cX0_init 29 = .ok (.bipush 10, 2) := by decide +kernel
theorem dX0_init_31 : decode cX0_init 31 = .ok (.newarray .int, 2) := by decide +kernel
theorem dX0_init_33 : decode cX0_init 33 = .ok (.putfield 21, 3) := by decide +kernel
theorem dX0_init_36 : decode cX0_init 36 = .ok (.aload_n 0, 1) := by decide +kernel
theorem dX0_init_37 : decode cX0_init 37 = .ok (.bipush 10, 2) := by decide +kernel
theorem dX0_init_39 : decode cX0_init 39 = .ok (.newarray .int, 2) := by decide +kernel
theorem dX0_init_41 : decode cX0_init 41 = .ok (.putfield 24, 3) := by decide +kernel
theorem dX0_init_44 : decode cX0_init 44 = .ok (.aload_n 0, 1) := by decide +kernel
theorem dX0_init_45 : decode cX0_init 45 = .ok (.bipush 10, 2) := by decide +kernel
theorem dX0_init_47 : decode cX0_init 47 = .ok (.newarray .int, 2) := by decide +kernel
theorem dX0_init_49 : decode cX0_init 49 = .ok (.putfield 27, 3) := by decide +kernel
theorem dX0_init_52 : decode cX0_init 52 = .ok (.aload_n 0, 1) := by decide +kernel
theorem dX0_init_53 : decode cX0_init 53 = .ok (.bipush 10, 2) := by decide +kernel
theorem dX0_init_55 : decode cX0_init 55 = .ok (.newarray .int, 2) := by decide +kernel
theorem dX0_init_57 : decode cX0_init 57 = .ok (.putfield 30, 3) := by decide +kernel
theorem dX0_init_60 : decode cX0_init 60 = .ok (.aload_n 0, 1) := by decide +kernel
theorem dX0_init_61 : decode cX0_init 61 = .ok (.iconst 2, 1) := by decide +kernel
theorem dX0_init_62 : decode cX0_init 62 = .ok (.newarray .int, 2) := by decide +kernel
theorem dX0_init_64 : decode cX0_init 64 = .ok (.putfield 33, 3) := by decide +kernel
theorem dX0_init_67 : decode cX0_init 67 = .ok (.aload_n 0, 1) := by decide +kernel
theorem dX0_init_68 : decode cX0_init 68 = .ok (.iconst 2, 1) := by decide +kernel
theorem dX0_init_69 : decode cX0_init 69 = .ok (.newarray .int, 2) := by decide +kernel
theorem dX0_init_71 : decode cX0_init 71 = .ok (.putfield 36, 3) := by decide +kernel
theorem dX0_init_74 : decode cX0_init 74 = .ok (.aload_n 0, 1) := by decide +kernel
theorem dX0_init_75 : decode cX0_init 75 = .ok (.bipush 40, 2) := by decide +kernel
theorem dX0_init_77 : decode cX0_init 77 = .ok (.newarray .int, 2) := by decide +kernel
theorem dX0_init_79 : decode cX0_init 79 = .ok (.putfield 39, 3) := by decide +kernel
theorem dX0_init_82 : decode cX0_init 82 = .ok (.aload_n 0, 1) := by decide +kernel
theorem dX0_init_83 : decode cX0_init 83 = .ok (.bipush 40, 2) := by decide +kernel
theorem dX0_init_85 : decode cX0_init 85 = .ok (.newarray .int, 2) := by decide +kernel
theorem dX0_init_87 : decode cX0_init 87 = .ok (.putfield 42, 3) := by decide +kernel
theorem dX0_init_90 : decode cX0_init 90 = .ok (.aload_n 0, 1) := by decide +kernel
theorem dX0_init_91 : decode cX0_init 91 = .ok (.bipush 40, 2) := by decide +kernel
theorem dX0_init_93 : decode cX0_init 93 = .ok (.newarray .int, 2) := by decide +kernel
theorem dX0_init_95 : decode cX0_init 95 = .ok (.putfield 45, 3) := by decide +kernel
theorem dX0_init_98 : decode cX0_init 98 = .ok (.aload_n 0, 1) := by decide +kernel
theorem dX0_init_99 : decode cX0_init 99 = .ok (.bipush 40, 2) := by decide +kernel
theorem dX0_init_101 : decode cX0_init 101 = .ok (.newarray .int, 2) := by decide +kernel
theorem dX0_init_103 : decode cX0_init 103 = .ok (.putfield 48, 3) := by decide +kernel
theorem dX0_init_106 : decode cX0_init 106 = .ok (.aload_n 0, 1) := by decide +kernel
theorem dX0_init_107 : decode cX0_init 107 = .ok (.getfield 15, 3) := by decide +kernel
theorem dX0_init_110 : decode cX0_init 110 = .ok (.iconst (-1), 1) := by decide +kernel
theorem dX0_init_111 : decode cX0_init 111 = .ok (.invokestatic 51, 3) := by decide +kernel
theorem dX0_init_114 : decode cX0_init 114 = .ok (.aload_n 0, 1) := by decide +kernel
theorem dX0_init_115 : decode cX0_init 115 = .ok (.getfield 18, 3) := by decide +kernel
theorem dX0_init_118 : decode cX0_init 118 = .ok (.iconst (-1), 1) := by decide +kernel
theorem dX0_init_119 : decode cX0_init 119 = .ok (.invokestatic 51, 3) := by decide +kernel
theorem dX0_init_122 : decode cX0_init 122 = .ok (.return_, 1) := by decide +kernel
theorem dX0_copyFrom_0 : decode cX0_copyFrom 0 = .ok (.aload_n 0, 1) := by decide +kernel
theorem dX0_copyFrom_1 : decode cX0_copyFrom 1 = .ok (.aload_n 1, 1) := by decide +kernel
theorem dX0_copyFrom_2 : decode cX0_copyFrom 2 = .ok (.getfield 57, 3) := by decide +kernel
theorem dX0_copyFrom_5 : decode cX0_copyFrom 5 = .ok (.putfield 57, 3) := by decide +kernel
theorem dX0_copyFrom_8 : decode cX0_copyFrom 8 = .ok (.aload_n 0, 1) := by decide +kernel
theorem dX0_copyFrom_9 : decode cX0_copyFrom 9 = .ok (.aload_n 1, 1) := by decide +kernel
theorem dX0_copyFrom_10 : decode cX0_copyFrom 10 = .ok (.getfield 61, 3) := by decide +kernel
theorem dX0_copyFrom_13 : decode cX0_copyFrom 13 = .ok (.putfield 61, 3) := by decide +kernel
theorem dX0_copyFrom_16 : decode cX0_copyFrom 16 = .ok (.aload_n 0, 1) := by decide +kernel
theorem dX0_copyFrom_17 : decode cX0_copyFrom 17 = .ok (.aload_n 1, 1) := by decide +kernel
theorem dX0_copyFrom_18 : decode cX0_copyFrom 18 = .ok (.getfield 64, 3) := by decide +kernel
theorem dX0_copyFrom_21 : decode cX0_copyFrom 21 = .ok (.putfield 64, 3) := by decide +kernel
theorem dX0_copyFrom_24 : decode cX0_copyFrom 24 = .ok (.aload_n 0, 1) := by decide +kernel
theorem dX0_copyFrom_25 : decode cX0_copyFrom 25 = .ok (.aload_n 1, 1) := by decide +kernel
theorem dX0_copyFrom_26 : decode cX0_copyFrom 26 = .ok (.getfield 67, 3) := by decide +kernel
theorem dX0_copyFrom_29 : decode cX0_copyFrom 29 = .ok (.putfield 67, 3) := by decide +kernel
theorem dX0_copyFrom_32 : decode cX0_copyFrom 32 = .ok (.aload_n 0, 1) := by decide +kernel
theorem dX0_copyFrom_33 : decode cX0_copyFrom 33 = .ok (.aload_n 1, 1) := by decide +kernel
theorem dX0_copyFrom_34 : decode cX0_copyFrom 34 = .ok (.getfield 70, 3) := by decide +kernel
theorem dX0_copyFrom_37 : decode cX0_copyFrom 37 = .ok (.putfield 70, 3) := by decide +kernel
theorem dX0_copyFrom_40 : decode cX0_copyFrom 40 = .ok (.aload_n 0, 1) := by decide +kernel
theorem dX0_copyFrom_41 : decode cX0_copyFrom 41 = .ok (.aload_n 1, 1) := by decide +kernel
theorem dX0_copyFrom_42 : decode cX0_copyFrom 42 = .ok (.getfield 73, 3) := by decide +kernel
theorem dX0_copyFrom_45 : decode cX0_copyFrom 45 = .ok (.putfield 73, 3) := by decide +kernel
theorem dX0_copyFrom_48 : decode cX0_copyFrom 48 = .ok (.aload_n 1, 1) := by decide +kernel
theorem dX0_copyFrom_49 : decode cX0_copyFrom 49 = .ok (.getfield 9, 3) := by decide +kernel
theorem dX0_copyFrom_52 : decode cX0_copyFrom 52 = .ok (.iconst 0, 1) := by decide +kernel
theorem dX0_copyFrom_53 : decode cX0_copyFrom 53 = .ok (.aload_n 0, 1) := by decide +kernel
theorem dX0_copyFrom_54 : decode cX0_copyFrom 54 = .ok (.getfield 9, 3) := by decide +kernel
theorem dX0_copyFrom_57 : decode cX0_copyFrom 57 = .ok (.iconst 0, 1) := by decide +kernel
theorem dX0_copyFrom_58 : decode cX0_copyFrom 58 = .ok (.bipush 32, 2) := by decide +kernel
theorem dX0_copyFrom_60 : decode cX0_copyFrom 60 = .ok (.invokestatic 76, 3) := by decide +kernel
theorem dX0_copyFrom_63 : decode cX0_copyFrom 63 = .ok (.aload_n 1, 1) := by decide +kernel
theorem dX0_copyFrom_64 : decode cX0_copyFrom 64 = .ok (.getfield 15, 3) := by decide +kernel
theorem dX0_copyFrom_67 : decode cX0_copyFrom 67 = .ok (.iconst 0, 1) := by decide +kernel
theorem dX0_copyFrom_68 : decode cX0_copyFrom 68 = .ok (.aload_n 0, 1) := by decide +kernel
theorem dX0_copyFrom_69 : decode cX0_copyFrom 69 = .ok (.getfield 15, 3) := by decide +kernel
theorem dX0_copyFrom_72 : decode cX0_copyFrom 72 = .ok (.iconst 0, 1) := by decide +kernel
theorem dX0_copyFrom_73 : decode cX0_copyFrom 73 = .ok (.bipush 32, 2) := by decide +kernel
theorem dX0_copyFrom_75 : decode cX0_copyFrom 75 = .ok (.invokestatic 76, 3) := by decide +kernel
theorem dX0_copyFrom_78 : decode cX0_copyFrom 78 = .ok (.aload_n 1, 1) := by decide +kernel
theorem dX0_copyFrom_79 : decode cX0_copyFrom 79 = .ok (.getfield 18, 3) := by decide +kernel
theorem dX0_copyFrom_82 : decode cX0_copyFrom 82 = .ok (.iconst 0, 1) := by decide +kernel
theorem dX0_copyFrom_83 : decode cX0_copyFrom 83 = .ok (.aload_n 0, 1) := by decide +kernel
theorem dX0_copyFrom_84 : decode cX0_copyFrom 84 = .ok (.getfield 18, 3) := by decide +kernel
theorem dX0_copyFrom_87 : decode cX0_copyFrom 87 = .ok (.iconst 0, 1) := by decide +kernel
theorem dX0_copyFrom_88 : decode cX0_copyFrom 88 = .ok (.bipush 32, 2) := by decide +kernel
theorem dX0_copyFrom_90 : decode cX0_copyFrom 90 = .ok (.invokestatic 76, 3) := by decide +kernel
theorem dX0_copyFrom_93 : decode cX0_copyFrom 93 = .ok (.aload_n 1, 1) := by decide +kernel
theorem dX0_copyFrom_94 : decode cX0_copyFrom 94 = .ok (.getfield 21, 3) := by decide +kernel
theorem dX0_copyFrom_97 : decode cX0_copyFrom 97 = .ok (.iconst 0, 1) := by decide +kernel
theorem dX0_copyFrom_98 : decode cX0_copyFrom 98 = .ok (.aload_n 0, 1) := by decide +kernel
theorem dX0_copyFrom_99 : decode cX0_copyFrom 99 = .ok (.getfield 21, 3) := by decide +kernel
theorem dX0_copyFrom_102 : decode cX0_copyFrom 102 = .ok (.iconst 0, 1) := by decide +kernel
theorem dX0_copyFrom_103 : decode cX0_copyFrom 103 = .ok (.bipush 10, 2) := by decide +kernel
theorem dX0_copyFrom_105 : decode cX0_copyFrom 105 = .ok (.invokestatic 76, 3) := by decide +kernel
theorem dX0_copyFrom_108 : decode cX0_copyFrom 108 = .ok (.aload_n 1, 1) := by decide +kernel
theorem dX0_copyFrom_109 : decode cX0_copyFrom 109 = .ok (.getfield 24, 3) := by decide +kernel
theorem dX0_copyFrom_112 : decode cX0_copyFrom 112 = .ok (.iconst 0, 1) := by decide +kernel
theorem dX0_copyFrom_113 : decode cX0_copyFrom 113 = .ok (.aload_n 0, 1) := by decide +kernel
theorem dX0_copyFrom_114 : decode cX0_copyFrom 114 = .ok (.getfield 24, 3) := by decide +kernel
theorem dX0_copyFrom_117 : decode cX0_copyFrom 117 = .ok (.iconst 0, 1) := by decide +kernel
theorem dX0_copyFrom_118 : decode cX0_copyFrom 118 = .ok (.bipush 10, 2) := by decide +kernel
theorem dX0_copyFrom_120 : decode cX0_copyFrom 120 = .ok (.invokestatic 76, 3) := by decide +kernel
theorem dX0_copyFrom_123 : decode cX0_copyFrom 123 = .ok (.aload_n 1, 1) := by decide +kernel
theorem dX0_copyFrom_124 : decode cX0_copyFrom 124 = .ok (.getfield 27, 3) := by decide +kernel
theorem dX0_copyFrom_127 : decode cX0_copyFrom 127 = .ok (.iconst 0, 1) := by decide +kernel
theorem dX0_copyFrom_128 : decode cX0_copyFrom 128 = .ok (.aload_n 0, 1) := by decide +kernel
theorem dX0_copyFrom_129 : decode cX0_copyFrom 129 = .ok (.getfield 27, 3) := by decide +kernel
theorem dX0_copyFrom_132 : decode cX0_copyFrom 132 = .ok (.iconst 0, 1) := by decide +kernel
theorem dX0_copyFrom_133 : decode cX0_copyFrom 133 = .ok (.bipush 10, 2) := by decide +kernel
theorem dX0_copyFrom_135 : decode cX0_copyFrom 135 = .ok (.invokestatic 76, 3) := by decide +kernel
theorem dX0_copyFrom_138 : decode cX0_copyFrom 138 = .ok (.aload_n 1, 1) := by decide +kernel
theorem dX0_copyFrom_139 : decode cX0_copyFrom 139 = .ok (.getfield 30, 3) := by decide +kernel
theorem dX0_copyFrom_142 : decode cX0_copyFrom 142 = .ok (.iconst 0, 1) := by decide +kernel
theorem dX0_copyFrom_143 : decode cX0_copyFrom 143 = .ok (.aload_n 0, 1) := by decide +kernel
theorem dX0_copyFrom_144 : decode cX0_copyFrom 144 = .ok (.getfield 30, 3) := by decide +kernel
theorem dX0_copyFrom_147 : decode cX0_copyFrom 147 = .ok (.iconst 0, 1) := by decide +kernel
theorem dX0_copyFrom_148 : decode cX0_copyFrom 148 = .ok (.bipush 10, 2) := by decide +kernel
theorem dX0_copyFrom_150 : decode cX0_copyFrom 150 = .ok (.invokestatic 76, 3) := by decide +kernel
theorem dX0_copyFrom_153 : decode cX0_copyFrom 153 = .ok (.aload_n 1, 1) := by decide +kernel
theorem dX0_copyFrom_154 : decode cX0_copyFrom 154 = .ok (.getfield 33, 3) := by decide +kernel
theorem dX0_copyFrom_157 : decode cX0_copyFrom 157 = .ok (.iconst 0, 1) := by decide +kernel
theorem dX0_copyFrom_158 : decode cX0_copyFrom 158 = .ok (.aload_n 0, 1) := by decide +kernel
theorem dX0_copyFrom_159 : decode cX0_copyFrom 159 = .ok (.getfield 33, 3) := by decide +kernel
theorem dX0_copyFrom_162 : decode cX0_copyFrom 162 = .ok (.iconst 0, 1) := by decide +kernel
theorem dX0_copyFrom_163 : decode cX0_copyFrom 163 = .ok (.iconst 2, 1) := by decide +kernel
theorem dX0_copyFrom_164 : decode cX0_copyFrom 164 = .ok (.invokestatic 76, 3) := by decide +kernel
theorem dX0_copyFrom_167 : decode cX0_copyFrom 167 = .ok (.aload_n 1, 1) := by decide +kernel
theorem dX0_copyFrom_168 : decode cX0_copyFrom 168 = .ok (.getfield 36, 3) := by decide +kernel
theorem dX0_copyFrom_171 : decode cX0_copyFrom 171 = .ok (.iconst 0, 1) := by decide +kernel
theorem dX0_copyFrom_172 : decode cX0_copyFrom 172 = .ok (.aload_n 0, 1) := by decide +kernel
theorem dX0_copyFrom_173 : decode cX0_copyFrom 173 = .ok (.getfield 36, 3) := by decide +kernel
theorem dX0_copyFrom_176 : decode cX0_copyFrom 176 = .ok (.iconst 0, 1) := by decide +kernel
theorem dX0_copyFrom_177 : decode cX0_copyFrom 177 = .ok (.iconst 2, 1) := by decide +kernel
theorem dX0_copyFrom_178 : decode cX0_copyFrom 178 = .ok (.invokestatic 76, 3) := by decide +kernel
theorem dX0_copyFrom_181 : decode cX0_copyFrom 181 = .ok (.aload_n 1, 1) := by decide +kernel
theorem dX0_copyFrom_182 : decode cX0_copyFrom 182 = .ok (.getfield 39, 3) := by decide +kernel
theorem dX0_copyFrom_185 : decode cX0_copyFrom 185 = .ok (.iconst 0, 1) := by decide +kernel
theorem dX0_copyFrom_186 : decode cX0_copyFrom 186 = .ok (.aload_n 0, 1) := by decide +kernel
theorem dX0_copyFrom_187 : decode cX0_copyFrom 187 = .ok (.getfield 39, 3) := by decide +kernel
theorem dX0_copyFrom_190 : decode cX0_copyFrom 190 = .ok (.iconst 0, 1) := by decide +kernel
theorem dX0_copyFrom_191 : decode cX0_copyFrom 191 = .ok (.bipush 40, 2) := by decide +kernel
theorem dX0_copyFrom_193 : decode cX0_copyFrom 193 = .ok (.invokestatic 76, 3) := by decide +kernel
theorem dX0_copyFrom_196 : decode cX0_copyFrom 196 = .ok (.aload_n 1, 1) := by decide +kernel
theorem dX0_copyFrom_197 : decode cX0_copyFrom 197 = .ok (.getfield 42, 3) := by decide +kernel
theorem dX0_copyFrom_200 : decode cX0_copyFrom 200 = .ok (.iconst 0, 1) := by decide +kernel
theorem dX0_copyFrom_201 : decode cX0_copyFrom 201 = .ok (.aload_n 0, 1) := by decide +kernel
theorem dX0_copyFrom_202 : decode cX0_copyFrom 202 = .ok (.getfield 42, 3) := by decide +kernel
theorem dX0_copyFrom_205 : decode cX0_copyFrom 205 = .ok (.iconst 0, 1) := by decide +kernel
theorem dX0_copyFrom_206 : decode cX0_copyFrom 206 = .ok (.bipush 40, 2) := by decide +kernel
theorem dX0_copyFrom_208 : decode cX0_copyFrom 208 = .ok (.invokestatic 76, 3) := by decide +kernel
theorem dX0_copyFrom_211 : decode cX0_copyFrom 211 = .ok (.aload_n 1, 1) := by decide +kernel
theorem dX0_copyFrom_212 : decode cX0_copyFrom 212 = .ok (.getfield 45, 3) := by decide +kernel
theorem dX0_copyFrom_215 : decode cX0_copyFrom 215 = .ok (.iconst 0, 1) := by decide +kernel
theorem dX0_copyFrom_216 : decode cX0_copyFrom 216 = .ok (.aload_n 0, 1) := by decide +kernel
theorem dX0_copyFrom_217 : decode cX0_copyFrom 217 = .ok (.getfield 45, 3) := by decide +kernel
theorem dX0_copyFrom_220 : decode cX0_copyFrom 220 = .ok (.iconst 0, 1) := by decide +kernel
theorem dX0_copyFrom_221 : decode cX0_copyFrom 221 = .ok (.bipush 40, 2) := by decide +kernel
theorem dX0_copyFrom_223 : decode cX0_copyFrom 223 = .ok (.invokestatic 76, 3) := by decide +kernel
theorem dX0_copyFrom_226 : decode cX0_copyFrom 226 = .ok (.aload_n 1, 1) := by decide +kernel
theorem dX0_copyFrom_227 : decode cX0_copyFrom 227 = .ok (.getfield 48, 3) := by decide +kernel
theorem dX0_copyFrom_230 : decode cX0_copyFrom 230 = .ok (.iconst 0, 1) := by decide +kernel
theorem dX0_copyFrom_231 : decode cX0_copyFrom 231 = .ok (.aload_n 0, 1) := by decide +kernel
theorem dX0_copyFrom_232 : decode cX0_copyFrom 232 = .ok (.getfield 48, 3) := by decide +kernel
theorem dX0_copyFrom_235 : decode cX0_copyFrom 235 = .ok (.iconst 0, 1) := by decide +kernel
theorem dX0_copyFrom_236 : decode cX0_copyFrom 236 = .ok (.bipush 40, 2) := by decide +kernel
theorem dX0_copyFrom_238 : decode cX0_copyFrom 238 = .ok (.invokestatic 76, 3) := by decide +kernel
theorem dX0_copyFrom_241 : decode cX0_copyFrom 241 = .ok (.return_, 1) := by decide +kernel
theorem dX0_build_0 : decode cX0_build 0 = .ok (.aload_n 0, 1) := by decide +kernel
theorem dX0_build_1 : decode cX0_build 1 = .ok (.getfield 61, 3) := by decide +kernel
theorem dX0_build_4 : decode cX0_build 4 = .ok (.istore 4, 2) := by decide +kernel
theorem dX0_build_6 : decode cX0_build 6 = .ok (.aload_n 0, 1) := by decide +kernel
theorem dX0_build_7 : decode cX0_build 7 = .ok (.getfield 21, 3) := by decide +kernel
theorem dX0_build_10 : decode cX0_build 10 = .ok (.iload 4, 2) := by decide +kernel
theorem dX0_build_12 : decode cX0_build 12 = .ok (.iload_n 1, 1) := by decide +kernel
theorem dX0_build_13 : decode cX0_build 13 = .ok (.iastore, 1) := by decide +kernel
theorem dX0_build_14 : decode cX0_build 14 = .ok (.aload_n 0, 1) := by decide +kernel
theorem dX0_build_15 : decode cX0_build 15 = .ok (.getfield 24, 3) := by decide +kernel
theorem dX0_build_18 : decode cX0_build 18 = .ok (.iload 4, 2) := by decide +kernel
theorem dX0_build_20 : decode cX0_build 20 = .ok (.iload_n 2, 1) := by decide +kernel
theorem dX0_build_21 : decode cX0_build 21 = .ok (.iastore, 1) := by decide +kernel
theorem dX0_build_22 : decode cX0_build 22 = .ok (.aload_n 0, 1) := by decide +kernel
theorem dX0_build_23 : decode cX0_build 23 = .ok (.getfield 27, 3) := by decide +kernel
theorem dX0_build_26 : decode cX0_build 26 = .ok (.iload 4, 2) := by decide +kernel
theorem dX0_build_28 : decode cX0_build 28 = .ok (.iload_n 3, 1) := by decide +kernel
theorem dX0_build_29 : decode cX0_build 29 = .ok (.iastore, 1) := by decide +kernel
theorem dX0_build_30 : decode cX0_build 30 = .ok (.aload_n 0, 1) := by decide +kernel
theorem dX0_build_31 : decode cX0_build 31 = .ok (.getfield 30, 3) := by decide +kernel
theorem dX0_build_34 : decode cX0_build 34 = .ok (.iload 4, 2) := by decide +kernel
theorem dX0_build_36 : decode cX0_build 36 = .ok (.iconst 0, 1) := by decide +kernel
theorem dX0_build_37 : decode cX0_build 37 = .ok (.iastore, 1) := by decide +kernel
theorem dX0_build_38 : decode cX0_build 38 = .ok (.aload_n 0, 1) := by decide +kernel
theorem dX0_build_39 : decode cX0_build 39 = .ok (.getfield 15, 3) := by decide +kernel
theorem dX0_build_42 : decode cX0_build 42 = .ok (.iload_n 1, 1) := by decide +kernel
theorem dX0_build_43 : decode cX0_build 43 = .ok (.iload 4, 2) := by decide +kernel
theorem dX0_build_45 : decode cX0_build 45 = .ok (.iastore, 1) := by decide +kernel
theorem dX0_build_46 : decode cX0_build 46 = .ok (.aload_n 0, 1) := by decide +kernel
theorem dX0_build_47 : decode cX0_build 47 = .ok (.dup, 1) := by decide +kernel
theorem dX0_build_48 : decode cX0_build 48 = .ok (.getfield 61, 3) := by decide +kernel
theorem dX0_build_51 : decode cX0_build 51 = .ok (.iconst 1, 1) := by decide +kernel
theorem dX0_build_52 : decode cX0_build 52 = .ok (.iadd, 1) := by decide +kernel
theorem dX0_build_53 : decode cX0_build 53 = .ok (.putfield 61, 3) := by decide +kernel
theorem dX0_build_56 : decode cX0_build 56 = .ok (.iload 4, 2) := by decide +kernel
theorem dX0_build_58 : decode cX0_build 58 = .ok (.ireturn, 1) := by decide +kernel
theorem dX0_start_0 : decode cX0_start 0 = .ok (.aload_n 0, 1) := by decide +kernel
theorem dX0_start_1 : decode cX0_start 1 = .ok (.getfield 64, 3) := by decide +kernel
theorem dX0_start_4 : decode cX0_start 4 = .ok (.istore 4, 2) := by decide +kernel
theorem dX0_start_6 : decode cX0_start 6 = .ok (.aload_n 0, 1) := by decide +kernel
theorem dX0_start_7 : decode cX0_start 7 = .ok (.getfield 39, 3) := by decide +kernel
theorem dX0_start_10 : decode cX0_start 10 = .ok (.iload 4, 2) := by decide +kernel
theorem dX0_start_12 : decode cX0_start 12 = .ok (.iload_n 3, 1) := by decide +kernel
theorem dX0_start_13 : decode cX0_start 13 = .ok (.iastore, 1) := by decide +kernel
theorem dX0_start_14 : decode cX0_start 14 = .ok (.aload_n 0, 1) := by decide +kernel
theorem dX0_start_15 : decode cX0_start 15 = .ok (.getfield 42, 3) := by decide +kernel
theorem dX0_start_18 : decode cX0_start 18 = .ok (.iload 4, 2) := by decide +kernel
theorem dX0_start_20 : decode cX0_start 20 = .ok (.iload_n 1, 1) := by decide +kernel
theorem dX0_start_21 : decode cX0_start 21 = .ok (.iastore, 1) := by decide +kernel
theorem dX0_start_22 : decode cX0_start 22 = .ok (.aload_n 0, 1) := by decide +kernel
theorem dX0_start_23 : decode cX0_start 23 = .ok (.getfield 45, 3) := by decide +kernel
theorem dX0_start_26 : decode cX0_start 26 = .ok (.iload 4, 2) := by decide +kernel
theorem dX0_start_28 : decode cX0_start 28 = .ok (.iload_n 2, 1) := by decide +kernel
theorem dX0_start_29 : decode cX0_start 29 = .ok (.ifCond .eq 7, 3) := by decide +kernel
theorem dX0_start_32 : decode cX0_start 32 = .ok (.iconst 1, 1) := by decide +kernel
theorem dX0_start_33 : decode cX0_start 33 = .ok (.goto 4, 3) := by decide +kernel
theorem dX0_start_36 : decode cX0_start 36 = .ok (.iconst (-1), 1) := by decide +kernel
theorem dX0_start_37 : decode cX0_start 37 = .ok (.iastore, 1) := by decide +kernel
theorem dX0_start_38 : decode cX0_start 38 = .ok (.aload_n 0, 1) := by decide +kernel
theorem dX0_start_39 : decode cX0_start 39 = .ok (.getfield 48, 3) := by decide +kernel
theorem dX0_start_42 : decode cX0_start 42 = .ok (.iload 4, 2) := by decide +kernel
theorem dX0_start_44 : decode cX0_start 44 = .ok (.iconst 0, 1) := by decide +kernel
theorem dX0_start_45 : decode cX0_start 45 = .ok (.iastore, 1) := by decide +kernel
theorem dX0_start_46 : decode cX0_start 46 = .ok (.aload_n 0, 1) := by decide +kernel
theorem dX0_start_47 : decode cX0_start 47 = .ok (.getfield 18, 3) := by decide +kernel
theorem dX0_start_50 : decode cX0_start 50 = .ok (.iload_n 1, 1) := by decide +kernel
theorem dX0_start_51 : decode cX0_start 51 = .ok (.iload 4, 2) := by decide +kernel
theorem dX0_start_53 : decode cX0_start 53 = .ok (.iastore, 1) := by decide +kernel
theorem dX0_start_54 : decode cX0_start 54 = .ok (.aload_n 0, 1) := by decide +kernel
theorem dX0_start_55 : decode cX0_start 55 = .ok (.dup, 1) := by decide +kernel
theorem dX0_start_56 : decode cX0_start 56 = .ok (.getfield 64, 3) := by decide +kernel
theorem dX0_start_59 : decode cX0_start 59 = .ok (.iconst 1, 1) := by decide +kernel
theorem dX0_start_60 : decode cX0_start 60 = .ok (.iadd, 1) := by decide +kernel
theorem dX0_start_61 : decode cX0_start 61 = .ok (.putfield 64, 3) := by decide +kernel
theorem dX0_start_64 : decode cX0_start 64 = .ok (.aload_n 0, 1) := by decide +kernel
theorem dX0_start_65 : decode cX0_start 65 = .ok (.dup, 1) := by decide +kernel
theorem dX0_start_66 : decode cX0_start 66 = .ok (.getfield 67, 3) := by decide +kernel
theorem dX0_start_69 : decode cX0_start 69 = .ok (.iconst 1, 1) := by decide +kernel
theorem dX0_start_70 : decode cX0_start 70 = .ok (.iadd, 1) := by decide +kernel
theorem dX0_start_71 : decode cX0_start 71 = .ok (.putfield 67, 3) := by decide +kernel
theorem dX0_start_74 : decode cX0_start 74 = .ok (.iload 4, 2) := by decide +kernel
theorem dX0_start_76 : decode cX0_start 76 = .ok (.ireturn, 1) := by decide +kernel
theorem dX0_startAlone_0 : decode cX0_startAlone 0 = .ok (.aload_n 0, 1) := by decide +kernel
theorem dX0_startAlone_1 : decode cX0_startAlone 1 = .ok (.iconst 0, 1) := by decide +kernel
theorem dX0_startAlone_2 : decode cX0_startAlone 2 = .ok (.putfield 64, 3) := by decide +kernel
theorem dX0_startAlone_5 : decode cX0_startAlone 5 = .ok (.aload_n 0, 1) := by decide +kernel
theorem dX0_startAlone_6 : decode cX0_startAlone 6 = .ok (.iconst 0, 1) := by decide +kernel
theorem dX0_startAlone_7 : decode cX0_startAlone 7 = .ok (.putfield 67, 3) := by decide +kernel
theorem dX0_startAlone_10 : decode cX0_startAlone 10 = .ok (.aload_n 0, 1) := by decide +kernel
theorem dX0_startAlone_11 : decode cX0_startAlone 11 = .ok (.getfield 18, 3) := by decide +kernel
theorem dX0_startAlone_14 : decode cX0_startAlone 14 = .ok (.iconst (-1), 1) := by decide +kernel
theorem dX0_startAlone_15 : decode cX0_startAlone 15 = .ok (.invokestatic 51, 3) := by decide +kernel
theorem dX0_startAlone_18 : decode cX0_startAlone 18 = .ok (.aload_n 0, 1) := by decide +kernel
theorem dX0_startAlone_19 : decode cX0_startAlone 19 = .ok (.iload_n 1, 1) := by decide +kernel
theorem dX0_startAlone_20 : decode cX0_startAlone 20 = .ok (.iload_n 2, 1) := by decide +kernel
theorem dX0_startAlone_21 : decode cX0_startAlone 21 = .ok (.iload_n 3, 1) := by decide +kernel
theorem dX0_startAlone_22 : decode cX0_startAlone 22 = .ok (.invokevirtual 82, 3) := by decide +kernel
theorem dX0_startAlone_25 : decode cX0_startAlone 25 = .ok (.pop, 1) := by decide +kernel
theorem dX0_startAlone_26 : decode cX0_startAlone 26 = .ok (.return_, 1) := by decide +kernel
theorem dX0_loudAt_0 : decode cX0_loudAt 0 = .ok (.aload_n 0, 1) := by decide +kernel
theorem dX0_loudAt_1 : decode cX0_loudAt 1 = .ok (.getfield 18, 3) := by decide +kernel
theorem dX0_loudAt_4 : decode cX0_loudAt 4 = .ok (.iload_n 1, 1) := by decide +kernel
theorem dX0_loudAt_5 : decode cX0_loudAt 5 = .ok (.iaload, 1) := by decide +kernel
theorem dX0_loudAt_6 : decode cX0_loudAt 6 = .ok (.istore_n 2, 1) := by decide +kernel
theorem dX0_loudAt_7 : decode cX0_loudAt 7 = .ok (.iload_n 2, 1) := by decide +kernel
theorem dX0_loudAt_8 : decode cX0_loudAt 8 = .ok (.iconst (-1), 1) := by decide +kernel
theorem dX0_loudAt_9 : decode cX0_loudAt 9 = .ok (.if_icmp .ne 7, 3) := by decide +kernel
theorem dX0_loudAt_12 : decode cX0_loudAt 12 = .ok (.iconst 0, 1) := by decide +kernel
theorem dX0_loudAt_13 : decode cX0_loudAt 13 = .ok (.goto 9, 3) := by decide +kernel
theorem dX0_loudAt_16 : decode cX0_loudAt 16 = .ok (.aload_n 0, 1) := by decide +kernel
theorem dX0_loudAt_17 : decode cX0_loudAt 17 = .ok (.getfield 39, 3) := by decide +kernel
theorem dX0_loudAt_20 : decode cX0_loudAt 20 = .ok (.iload_n 2, 1) := by decide +kernel
theorem dX0_loudAt_21 : decode cX0_loudAt 21 = .ok (.iaload, 1) := by decide +kernel
theorem dX0_loudAt_22 : decode cX0_loudAt 22 = .ok (.ireturn, 1) := by decide +kernel
theorem dX0_goOn_0 : decode cX0_goOn 0 = .ok (.aload_n 0, 1) := by decide +kernel
theorem dX0_goOn_1 : decode cX0_goOn 1 = .ok (.getfield 33, 3) := by decide +kernel
theorem dX0_goOn_4 : decode cX0_goOn 4 = .ok (.iconst 0, 1) := by decide +kernel
theorem dX0_goOn_5 : decode cX0_goOn 5 = .ok (.iaload, 1) := by decide +kernel
theorem dX0_goOn_6 : decode cX0_goOn 6 = .ok (.istore_n 1, 1) := by decide +kernel
theorem dX0_goOn_7 : decode cX0_goOn 7 = .ok (.aload_n 0, 1) := by decide +kernel
theorem dX0_goOn_8 : decode cX0_goOn 8 = .ok (.getfield 33, 3) := by decide +kernel
theorem dX0_goOn_11 : decode cX0_goOn 11 = .ok (.iconst 1, 1) := by decide +kernel
theorem dX0_goOn_12 : decode cX0_goOn 12 = .ok (.iaload, 1) := by decide +kernel
theorem dX0_goOn_13 : decode cX0_goOn 13 = .ok (.istore_n 2, 1) := by decide +kernel
theorem dX0_goOn_14 : decode cX0_goOn 14 = .ok (.iconst 0, 1) := by decide +kernel
theorem dX0_goOn_15 : decode cX0_goOn 15 = .ok (.istore_n 3, 1) := by decide +kernel
theorem dX0_goOn_16 : decode cX0_goOn 16 = .ok (.iload_n 3, 1) := by decide +kernel
theorem dX0_goOn_17 : decode cX0_goOn 17 = .ok (.aload_n 0, 1) := by decide +kernel
theorem dX0_goOn_18 : decode cX0_goOn 18 = .ok (.getfield 64, 3) := by decide +kernel
theorem dX0_goOn_21 : decode cX0_goOn 21 = .ok (.if_icmp .ge 23, 3) := by decide +kernel
theorem dX0_goOn_24 : decode cX0_goOn 24 = .ok (.aload_n 0, 1) := by decide +kernel
theorem dX0_goOn_25 : decode cX0_goOn 25 = .ok (.getfield 39, 3) := by decide +kernel
theorem dX0_goOn_28 : decode cX0_goOn 28 = .ok (.iload_n 3, 1) := by decide +kernel
theorem dX0_goOn_29 : decode cX0_goOn 29 = .ok (.iaload, 1) := by decide +kernel
theorem dX0_goOn_30 : decode cX0_goOn 30 = .ok (.ifCond .le 8, 3) := by decide +kernel
theorem dX0_goOn_33 : decode cX0_goOn 33 = .ok (.aload_n 0, 1) := by decide +kernel
theorem dX0_goOn_34 : decode cX0_goOn 34 = .ok (.iload_n 3, 1) := by decide +kernel
theorem dX0_goOn_35 : decode cX0_goOn 35 = .ok (.invokevirtual 86, 3) := by decide +kernel
theorem dX0_goOn_38 : decode cX0_goOn 38 = .ok (.iinc 3 1, 3) := by decide +kernel
theorem dX0_goOn_41 : decode cX0_goOn 41 = .ok (.goto (-25), 3) := by decide +kernel
theorem dX0_goOn_44 : decode cX0_goOn 44 = .ok (.aload_n 0, 1) := by decide +kernel
theorem dX0_goOn_45 : decode cX0_goOn 45 = .ok (.invokevirtual 90, 3) := by decide +kernel
theorem dX0_goOn_48 : decode cX0_goOn 48 = .ok (.aload_n 0, 1) := by decide +kernel
theorem dX0_goOn_49 : decode cX0_goOn 49 = .ok (.iconst 0, 1) := by decide +kernel
theorem dX0_goOn_50 : decode cX0_goOn 50 = .ok (.aload_n 0, 1) := by decide +kernel
theorem dX0_goOn_51 : decode cX0_goOn 51 = .ok (.getfield 33, 3) := by decide +kernel
theorem dX0_goOn_54 : decode cX0_goOn 54 = .ok (.iconst 0, 1) := by decide +kernel
theorem dX0_goOn_55 : decode cX0_goOn 55 = .ok (.iaload, 1) := by decide +kernel
theorem dX0_goOn_56 : decode cX0_goOn 56 = .ok (.iload_n 1, 1) := by decide +kernel
theorem dX0_goOn_57 : decode cX0_goOn 57 = .ok (.if_icmp .le 7, 3) := by decide +kernel
theorem dX0_goOn_60 : decode cX0_goOn 60 = .ok (.iconst 1, 1) := by decide +kernel
theorem dX0_goOn_61 : decode cX0_goOn 61 = .ok (.goto 4, 3) := by decide +kernel
theorem dX0_goOn_64 : decode cX0_goOn 64 = .ok (.iconst 0, 1) := by decide +kernel
theorem dX0_goOn_65 : decode cX0_goOn 65 = .ok (.invokevirtual 93, 3) := by decide +kernel
theorem dX0_goOn_68 : decode cX0_goOn 68 = .ok (.aload_n 0, 1) := by decide +kernel
theorem dX0_goOn_69 : decode cX0_goOn 69 = .ok (.iconst 1, 1) := by decide +kernel
theorem dX0_goOn_70 : decode cX0_goOn 70 = .ok (.aload_n 0, 1) := by decide +kernel
theorem dX0_goOn_71 : decode cX0_goOn 71 = .ok (.getfield 33, 3) := by decide +kernel
theorem dX0_goOn_74 : decode cX0_goOn 74 = .ok (.iconst 1, 1) := by decide +kernel
theorem dX0_goOn_75 : decode cX0_goOn 75 = .ok (.iaload, 1) := by decide +kernel
theorem dX0_goOn_76 : decode cX0_goOn 76 = .ok (.iload_n 2, 1) := by decide +kernel
theorem dX0_goOn_77 : decode cX0_goOn 77 = .ok (.if_icmp .le 7, 3) := by decide +kernel
theorem dX0_goOn_80 : decode cX0_goOn 80 = .ok (.iconst 1, 1) := by decide +kernel
theorem dX0_goOn_81 : decode cX0_goOn 81 = .ok (.goto 4, 3) := by decide +kernel
theorem dX0_goOn_84 : decode cX0_goOn 84 = .ok (.iconst 0, 1) := by decide +kernel
theorem dX0_goOn_85 : decode cX0_goOn 85 = .ok (.invokevirtual 93, 3) := by decide +kernel
theorem dX0_goOn_88 : decode cX0_goOn 88 = .ok (.aload_n 0, 1) := by decide +kernel
theorem dX0_goOn_89 : decode cX0_goOn 89 = .ok (.dup, 1) := by decide +kernel
theorem dX0_goOn_90 : decode cX0_goOn 90 = .ok (.getfield 57, 3) := by decide +kernel
theorem dX0_goOn_93 : decode cX0_goOn 93 = .ok (.iconst 1, 1) := by decide +kernel
theorem dX0_goOn_94 : decode cX0_goOn 94 = .ok (.iadd, 1) := by decide +kernel
theorem dX0_goOn_95 : decode cX0_goOn 95 = .ok (.putfield 57, 3) := by decide +kernel
theorem dX0_goOn_98 : decode cX0_goOn 98 = .ok (.return_, 1) := by decide +kernel
theorem dX0_move_0 : decode cX0_move 0 = .ok (.aload_n 0, 1) := by decide +kernel
theorem dX0_move_1 : decode cX0_move 1 = .ok (.getfield 42, 3) := by decide +kernel
theorem dX0_move_4 : decode cX0_move 4 = .ok (.iload_n 1, 1) := by decide +kernel
theorem dX0_move_5 : decode cX0_move 5 = .ok (.iaload, 1) := by decide +kernel
theorem dX0_move_6 : decode cX0_move 6 = .ok (.aload_n 0, 1) := by decide +kernel
theorem dX0_move_7 : decode cX0_move 7 = .ok (.getfield 45, 3) := by decide +kernel
theorem dX0_move_10 : decode cX0_move 10 = .ok (.iload_n 1, 1) := by decide +kernel
theorem dX0_move_11 : decode cX0_move 11 = .ok (.iaload, 1) := by decide +kernel
theorem dX0_move_12 : decode cX0_move 12 = .ok (.iadd, 1) := by decide +kernel
theorem dX0_move_13 : decode cX0_move 13 = .ok (.istore_n 2, 1) := by decide +kernel
theorem dX0_move_14 : decode cX0_move 14 = .ok (.iload_n 2, 1) := by decide +kernel
theorem dX0_move_15 : decode cX0_move 15 = .ok (.invokestatic 97, 3) := by decide +kernel
theorem dX0_move_18 : decode cX0_move 18 = .ok (.ifCond .ne 9, 3) := by decide +kernel
theorem dX0_move_21 : decode cX0_move 21 = .ok (.aload_n 0, 1) := by decide +kernel
theorem dX0_move_22 : decode cX0_move 22 = .ok (.iload_n 1, 1) := by decide +kernel
theorem dX0_move_23 : decode cX0_move 23 = .ok (.invokevirtual 101, 3) := by decide +kernel
theorem dX0_move_26 : decode cX0_move 26 = .ok (.return_, 1) := by decide +kernel
theorem dX0_move_27 : decode cX0_move 27 = .ok (.aload_n 0, 1) := by decide +kernel
theorem dX0_move_28 : decode cX0_move 28 = .ok (.getfield 42, 3) := by decide +kernel
theorem dX0_move_31 : decode cX0_move 31 = .ok (.iload_n 1, 1) := by decide +kernel
theorem dX0_move_32 : decode cX0_move 32 = .ok (.iload_n 2, 1) := by decide +kernel
theorem dX0_move_33 : decode cX0_move 33 = .ok (.iastore, 1) := by decide +kernel
theorem dX0_move_34 : decode cX0_move 34 = .ok (.aload_n 0, 1) := by decide +kernel
theorem dX0_move_35 : decode cX0_move 35 = .ok (.getfield 39, 3) := by decide +kernel
theorem dX0_move_38 : decode cX0_move 38 = .ok (.iload_n 1, 1) := by decide +kernel
theorem dX0_move_39 : decode cX0_move 39 = .ok (.dup2, 1) := by decide +kernel
theorem dX0_move_40 : decode cX0_move 40 = .ok (.iaload, 1) := by decide +kernel
theorem dX0_move_41 : decode cX0_move 41 = .ok (.iconst 1, 1) := by decide +kernel
theorem dX0_move_42 : decode cX0_move 42 = .ok (.aload_n 0, 1) := by decide +kernel
theorem dX0_move_43 : decode cX0_move 43 = .ok (.getfield 9, 3) := by decide +kernel
theorem dX0_move_46 : decode cX0_move 46 = .ok (.iload_n 2, 1) := by decide +kernel
theorem dX0_move_47 : decode cX0_move 47 = .ok (.iaload, 1) := by decide +kernel
theorem dX0_move_48 : decode cX0_move 48 = .ok (.iadd, 1) := by decide +kernel
theorem dX0_move_49 : decode cX0_move 49 = .ok (.isub, 1) := by decide +kernel
theorem dX0_move_50 : decode cX0_move 50 = .ok (.iastore, 1) := by decide +kernel
theorem dX0_move_51 : decode cX0_move 51 = .ok (.aload_n 0, 1) := by decide +kernel
theorem dX0_move_52 : decode cX0_move 52 = .ok (.getfield 15, 3) := by decide +kernel
theorem dX0_move_55 : decode cX0_move 55 = .ok (.iload_n 2, 1) := by decide +kernel
theorem dX0_move_56 : decode cX0_move 56 = .ok (.iaload, 1) := by decide +kernel
theorem dX0_move_57 : decode cX0_move 57 = .ok (.istore_n 3, 1) := by decide +kernel
theorem dX0_move_58 : decode cX0_move 58 = .ok (.aload_n 0, 1) := by decide +kernel
theorem dX0_move_59 : decode cX0_move 59 = .ok (.getfield 39, 3) := by decide +kernel
theorem dX0_move_62 : decode cX0_move 62 = .ok (.iload_n 1, 1) := by decide +kernel
theorem dX0_move_63 : decode cX0_move 63 = .ok (.iaload, 1) := by decide +kernel
theorem dX0_move_64 : decode cX0_move 64 = .ok (.ifCond .le 14, 3) := by decide +kernel
theorem dX0_move_67 : decode cX0_move 67 = .ok (.iload_n 3, 1) := by decide +kernel
theorem dX0_move_68 : decode cX0_move 68 = .ok (.iconst (-1), 1) := by decide +kernel
theorem dX0_move_69 : decode cX0_move 69 = .ok (.if_icmp .eq 9, 3) := by decide +kernel
theorem dX0_move_72 : decode cX0_move 72 = .ok (.aload_n 0, 1) := by decide +kernel
theorem dX0_move_73 : decode cX0_move 73 = .ok (.iload_n 3, 1) := by decide +kernel
theorem dX0_move_74 : decode cX0_move 74 = .ok (.iload_n 1, 1) := by decide +kernel
theorem dX0_move_75 : decode cX0_move 75 = .ok (.invokevirtual 104, 3) := by decide +kernel
theorem dX0_move_78 : decode cX0_move 78 = .ok (.aload_n 0, 1) := by decide +kernel
theorem dX0_move_79 : decode cX0_move 79 = .ok (.getfield 39, 3) := by decide +kernel
theorem dX0_move_82 : decode cX0_move 82 = .ok (.iload_n 1, 1) := by decide +kernel
theorem dX0_move_83 : decode cX0_move 83 = .ok (.iaload, 1) := by decide +kernel
theorem dX0_move_84 : decode cX0_move 84 = .ok (.ifCond .gt 8, 3) := by decide +kernel
theorem dX0_move_87 : decode cX0_move 87 = .ok (.aload_n 0, 1) := by decide +kernel
theorem dX0_move_88 : decode cX0_move 88 = .ok (.iload_n 1, 1) := by decide +kernel
theorem dX0_move_89 : decode cX0_move 89 = .ok (.invokevirtual 101, 3) := by decide +kernel
theorem dX0_move_92 : decode cX0_move 92 = .ok (.return_, 1) := by decide +kernel
theorem dX0_turnAt_0 : decode cX0_turnAt 0 = .ok (.aload_n 0, 1) := by decide +kernel
theorem dX0_turnAt_1 : decode cX0_turnAt 1 = .ok (.getfield 33, 3) := by decide +kernel
theorem dX0_turnAt_4 : decode cX0_turnAt 4 = .ok (.aload_n 0, 1) := by decide +kernel
theorem dX0_turnAt_5 : decode cX0_turnAt 5 = .ok (.getfield 24, 3) := by decide +kernel
theorem dX0_turnAt_8 : decode cX0_turnAt 8 = .ok (.iload_n 1, 1) := by decide +kernel
theorem dX0_turnAt_9 : decode cX0_turnAt 9 = .ok (.iaload, 1) := by decide +kernel
theorem dX0_turnAt_10 : decode cX0_turnAt 10 = .ok (.dup2, 1) := by decide +kernel
theorem dX0_turnAt_11 : decode cX0_turnAt 11 = .ok (.iaload, 1) := by decide +kernel
theorem dX0_turnAt_12 : decode cX0_turnAt 12 = .ok (.iconst 1, 1) := by decide +kernel
theorem dX0_turnAt_13 : decode cX0_turnAt 13 = .ok (.iadd, 1) := by decide +kernel
theorem dX0_turnAt_14 : decode cX0_turnAt 14 = .ok (.iastore, 1) := by decide +kernel
theorem dX0_turnAt_15 : decode cX0_turnAt 15 = .ok (.aload_n 0, 1) := by decide +kernel
theorem dX0_turnAt_16 : decode cX0_turnAt 16 = .ok (.getfield 30, 3) := by decide +kernel
theorem dX0_turnAt_19 : decode cX0_turnAt 19 = .ok (.iload_n 1, 1) := by decide +kernel
theorem dX0_turnAt_20 : decode cX0_turnAt 20 = .ok (.dup2, 1) := by decide +kernel
theorem dX0_turnAt_21 : decode cX0_turnAt 21 = .ok (.iaload, 1) := by decide +kernel
theorem dX0_turnAt_22 : decode cX0_turnAt 22 = .ok (.iconst 1, 1) := by decide +kernel
theorem dX0_turnAt_23 : decode cX0_turnAt 23 = .ok (.iadd, 1) := by decide +kernel
theorem dX0_turnAt_24 : decode cX0_turnAt 24 = .ok (.iastore, 1) := by decide +kernel
theorem dX0_turnAt_25 : decode cX0_turnAt 25 = .ok (.aload_n 0, 1) := by decide +kernel
theorem dX0_turnAt_26 : decode cX0_turnAt 26 = .ok (.getfield 48, 3) := by decide +kernel
theorem dX0_turnAt_29 : decode cX0_turnAt 29 = .ok (.iload_n 2, 1) := by decide +kernel
theorem dX0_turnAt_30 : decode cX0_turnAt 30 = .ok (.dup2, 1) := by decide +kernel
theorem dX0_turnAt_31 : decode cX0_turnAt 31 = .ok (.iaload, 1) := by decide +kernel
theorem dX0_turnAt_32 : decode cX0_turnAt 32 = .ok (.iconst 1, 1) := by decide +kernel
theorem dX0_turnAt_33 : decode cX0_turnAt 33 = .ok (.iadd, 1) := by decide +kernel
theorem dX0_turnAt_34 : decode cX0_turnAt 34 = .ok (.iastore, 1) := by decide +kernel
theorem dX0_turnAt_35 : decode cX0_turnAt 35 = .ok (.aload_n 0, 1) := by decide +kernel
theorem dX0_turnAt_36 : decode cX0_turnAt 36 = .ok (.getfield 39, 3) := by decide +kernel
theorem dX0_turnAt_39 : decode cX0_turnAt 39 = .ok (.iload_n 2, 1) := by decide +kernel
theorem dX0_turnAt_40 : decode cX0_turnAt 40 = .ok (.dup2, 1) := by decide +kernel
theorem dX0_turnAt_41 : decode cX0_turnAt 41 = .ok (.iaload, 1) := by decide +kernel
theorem dX0_turnAt_42 : decode cX0_turnAt 42 = .ok (.aload_n 0, 1) := by decide +kernel
theorem dX0_turnAt_43 : decode cX0_turnAt 43 = .ok (.getfield 27, 3) := by decide +kernel
theorem dX0_turnAt_46 : decode cX0_turnAt 46 = .ok (.iload_n 1, 1) := by decide +kernel
theorem dX0_turnAt_47 : decode cX0_turnAt 47 = .ok (.iaload, 1) := by decide +kernel
theorem dX0_turnAt_48 : decode cX0_turnAt 48 = .ok (.isub, 1) := by decide +kernel
theorem dX0_turnAt_49 : decode cX0_turnAt 49 = .ok (.iastore, 1) := by decide +kernel
theorem dX0_turnAt_50 : decode cX0_turnAt 50 = .ok (.aload_n 0, 1) := by decide +kernel
theorem dX0_turnAt_51 : decode cX0_turnAt 51 = .ok (.getfield 45, 3) := by decide +kernel
theorem dX0_turnAt_54 : decode cX0_turnAt 54 = .ok (.iload_n 2, 1) := by decide +kernel
theorem dX0_turnAt_55 : decode cX0_turnAt 55 = .ok (.aload_n 0, 1) := by decide +kernel
theorem dX0_turnAt_56 : decode cX0_turnAt 56 = .ok (.getfield 45, 3) := by decide +kernel
theorem dX0_turnAt_59 : decode cX0_turnAt 59 = .ok (.iload_n 2, 1) := by decide +kernel
theorem dX0_turnAt_60 : decode cX0_turnAt 60 = .ok (.iaload, 1) := by decide +kernel
theorem dX0_turnAt_61 : decode cX0_turnAt 61 = .ok (.ineg, 1) := by decide +kernel
theorem dX0_turnAt_62 : decode cX0_turnAt 62 = .ok (.iastore, 1) := by decide +kernel
theorem dX0_turnAt_63 : decode cX0_turnAt 63 = .ok (.return_, 1) := by decide +kernel
theorem dX0_hush_0 : decode cX0_hush 0 = .ok (.aload_n 0, 1) := by decide +kernel
theorem dX0_hush_1 : decode cX0_hush 1 = .ok (.getfield 39, 3) := by decide +kernel
theorem dX0_hush_4 : decode cX0_hush 4 = .ok (.iload_n 1, 1) := by decide +kernel
theorem dX0_hush_5 : decode cX0_hush 5 = .ok (.iconst 0, 1) := by decide +kernel
theorem dX0_hush_6 : decode cX0_hush 6 = .ok (.iastore, 1) := by decide +kernel
theorem dX0_hush_7 : decode cX0_hush 7 = .ok (.aload_n 0, 1) := by decide +kernel
theorem dX0_hush_8 : decode cX0_hush 8 = .ok (.getfield 42, 3) := by decide +kernel
theorem dX0_hush_11 : decode cX0_hush 11 = .ok (.iload_n 1, 1) := by decide +kernel
theorem dX0_hush_12 : decode cX0_hush 12 = .ok (.iconst (-1), 1) := by decide +kernel
theorem dX0_hush_13 : decode cX0_hush 13 = .ok (.iastore, 1) := by decide +kernel
theorem dX0_hush_14 : decode cX0_hush 14 = .ok (.aload_n 0, 1) := by decide +kernel
theorem dX0_hush_15 : decode cX0_hush 15 = .ok (.getfield 45, 3) := by decide +kernel
theorem dX0_hush_18 : decode cX0_hush 18 = .ok (.iload_n 1, 1) := by decide +kernel
theorem dX0_hush_19 : decode cX0_hush 19 = .ok (.iconst 0, 1) := by decide +kernel
theorem dX0_hush_20 : decode cX0_hush 20 = .ok (.iastore, 1) := by decide +kernel
theorem dX0_hush_21 : decode cX0_hush 21 = .ok (.aload_n 0, 1) := by decide +kernel
theorem dX0_hush_22 : decode cX0_hush 22 = .ok (.dup, 1) := by decide +kernel
theorem dX0_hush_23 : decode cX0_hush 23 = .ok (.getfield 67, 3) := by decide +kernel
theorem dX0_hush_26 : decode cX0_hush 26 = .ok (.iconst 1, 1) := by decide +kernel
theorem dX0_hush_27 : decode cX0_hush 27 = .ok (.isub, 1) := by decide +kernel
theorem dX0_hush_28 : decode cX0_hush 28 = .ok (.putfield 67, 3) := by decide +kernel
theorem dX0_hush_31 : decode cX0_hush 31 = .ok (.return_, 1) := by decide +kernel
theorem dX0_meet_0 : decode cX0_meet 0 = .ok (.aload_n 0, 1) := by decide +kernel
theorem dX0_meet_1 : decode cX0_meet 1 = .ok (.getfield 18, 3) := by decide +kernel
theorem dX0_meet_4 : decode cX0_meet 4 = .ok (.iconst (-1), 1) := by decide +kernel
theorem dX0_meet_5 : decode cX0_meet 5 = .ok (.invokestatic 51, 3) := by decide +kernel
theorem dX0_meet_8 : decode cX0_meet 8 = .ok (.iconst 0, 1) := by decide +kernel
theorem dX0_meet_9 : decode cX0_meet 9 = .ok (.istore_n 1, 1) := by decide +kernel
theorem dX0_meet_10 : decode cX0_meet 10 = .ok (.iload_n 1, 1) := by decide +kernel
theorem dX0_meet_11 : decode cX0_meet 11 = .ok (.aload_n 0, 1) := by decide +kernel
theorem dX0_meet_12 : decode cX0_meet 12 = .ok (.getfield 64, 3) := by decide +kernel
theorem dX0_meet_15 : decode cX0_meet 15 = .ok (.if_icmp .ge 23, 3) := by decide +kernel
theorem dX0_meet_18 : decode cX0_meet 18 = .ok (.aload_n 0, 1) := by decide +kernel
theorem dX0_meet_19 : decode cX0_meet 19 = .ok (.getfield 39, 3) := by decide +kernel
theorem dX0_meet_22 : decode cX0_meet 22 = .ok (.iload_n 1, 1) := by decide +kernel
theorem dX0_meet_23 : decode cX0_meet 23 = .ok (.iaload, 1) := by decide +kernel
theorem dX0_meet_24 : decode cX0_meet 24 = .ok (.ifCond .le 8, 3) := by decide +kernel
theorem dX0_meet_27 : decode cX0_meet 27 = .ok (.aload_n 0, 1) := by decide +kernel
theorem dX0_meet_28 : decode cX0_meet 28 = .ok (.iload_n 1, 1) := by decide +kernel
theorem dX0_meet_29 : decode cX0_meet 29 = .ok (.invokevirtual 108, 3) := by decide +kernel
theorem dX0_meet_32 : decode cX0_meet 32 = .ok (.iinc 1 1, 3) := by decide +kernel
theorem dX0_meet_35 : decode cX0_meet 35 = .ok (.goto (-25), 3) := by decide +kernel
theorem dX0_meet_38 : decode cX0_meet 38 = .ok (.return_, 1) := by decide +kernel
theorem dX0_settle_0 : decode cX0_settle 0 = .ok (.aload_n 0, 1) := by decide +kernel
theorem dX0_settle_1 : decode cX0_settle 1 = .ok (.getfield 42, 3) := by decide +kernel
theorem dX0_settle_4 : decode cX0_settle 4 = .ok (.iload_n 1, 1) := by decide +kernel
theorem dX0_settle_5 : decode cX0_settle 5 = .ok (.iaload, 1) := by decide +kernel
theorem dX0_settle_6 : decode cX0_settle 6 = .ok (.istore_n 2, 1) := by decide +kernel
theorem dX0_settle_7 : decode cX0_settle 7 = .ok (.aload_n 0, 1) := by decide +kernel
theorem dX0_settle_8 : decode cX0_settle 8 = .ok (.getfield 18, 3) := by decide +kernel
theorem dX0_settle_11 : decode cX0_settle 11 = .ok (.iload_n 2, 1) := by decide +kernel
theorem dX0_settle_12 : decode cX0_settle 12 = .ok (.iaload, 1) := by decide +kernel
theorem dX0_settle_13 : decode cX0_settle 13 = .ok (.istore_n 3, 1) := by decide +kernel
theorem dX0_settle_14 : decode cX0_settle 14 = .ok (.iload_n 3, 1) := by decide +kernel
theorem dX0_settle_15 : decode cX0_settle 15 = .ok (.iconst (-1), 1) := by decide +kernel
theorem dX0_settle_16 : decode cX0_settle 16 = .ok (.if_icmp .ne 11, 3) := by decide +kernel
theorem dX0_settle_19 : decode cX0_settle 19 = .ok (.aload_n 0, 1) := by decide +kernel
theorem dX0_settle_20 : decode cX0_settle 20 = .ok (.getfield 18, 3) := by decide +kernel
theorem dX0_settle_23 : decode cX0_settle 23 = .ok (.iload_n 2, 1) := by decide +kernel
theorem dX0_settle_24 : decode cX0_settle 24 = .ok (.iload_n 1, 1) := by decide +kernel
theorem dX0_settle_25 : decode cX0_settle 25 = .ok (.iastore, 1) := by decide +kernel
theorem dX0_settle_26 : decode cX0_settle 26 = .ok (.return_, 1) := by decide +kernel
theorem dX0_settle_27 : decode cX0_settle 27 = .ok (.aload_n 0, 1) := by decide +kernel
theorem dX0_settle_28 : decode cX0_settle 28 = .ok (.dup, 1) := by decide +kernel
theorem dX0_settle_29 : decode cX0_settle 29 = .ok (.getfield 70, 3) := by decide +kernel
theorem dX0_settle_32 : decode cX0_settle 32 = .ok (.iconst 1, 1) := by decide +kernel
theorem dX0_settle_33 : decode cX0_settle 33 = .ok (.iadd, 1) := by decide +kernel
theorem dX0_settle_34 : decode cX0_settle 34 = .ok (.putfield 70, 3) := by decide +kernel
theorem dX0_settle_37 : decode cX0_settle 37 = .ok (.aload_n 0, 1) := by decide +kernel
theorem dX0_settle_38 : decode cX0_settle 38 = .ok (.getfield 39, 3) := by decide +kernel
theorem dX0_settle_41 : decode cX0_settle 41 = .ok (.iload_n 1, 1) := by decide +kernel
theorem dX0_settle_42 : decode cX0_settle 42 = .ok (.iaload, 1) := by decide +kernel
theorem dX0_settle_43 : decode cX0_settle 43 = .ok (.aload_n 0, 1) := by decide +kernel
theorem dX0_settle_44 : decode cX0_settle 44 = .ok (.getfield 39, 3) := by decide +kernel
theorem dX0_settle_47 : decode cX0_settle 47 = .ok (.iload_n 3, 1) := by decide +kernel
theorem dX0_settle_48 : decode cX0_settle 48 = .ok (.iaload, 1) := by decide +kernel
theorem dX0_settle_49 : decode cX0_settle 49 = .ok (.if_icmp .le 18, 3) := by decide +kernel
theorem dX0_settle_52 : decode cX0_settle 52 = .ok (.aload_n 0, 1) := by decide +kernel
theorem dX0_settle_53 : decode cX0_settle 53 = .ok (.iload_n 3, 1) := by decide +kernel
theorem dX0_settle_54 : decode cX0_settle 54 = .ok (.invokevirtual 101, 3) := by decide +kernel
theorem dX0_settle_57 : decode cX0_settle 57 = .ok (.aload_n 0, 1) := by decide +kernel
theorem dX0_settle_58 : decode cX0_settle 58 = .ok (.getfield 18, 3) := by decide +kernel
theorem dX0_settle_61 : decode cX0_settle 61 = .ok (.iload_n 2, 1) := by decide +kernel
theorem dX0_settle_62 : decode cX0_settle 62 = .ok (.iload_n 1, 1) := by decide +kernel
theorem dX0_settle_63 : decode cX0_settle 63 = .ok (.iastore, 1) := by decide +kernel
theorem dX0_settle_64 : decode cX0_settle 64 = .ok (.goto 8, 3) := by decide +kernel
theorem dX0_settle_67 : decode cX0_settle 67 = .ok (.aload_n 0, 1) := by decide +kernel
theorem dX0_settle_68 : decode cX0_settle 68 = .ok (.iload_n 1, 1) := by decide +kernel
theorem dX0_settle_69 : decode cX0_settle 69 = .ok (.invokevirtual 101, 3) := by decide +kernel
theorem dX0_settle_72 : decode cX0_settle 72 = .ok (.return_, 1) := by decide +kernel
theorem dX0_listen_0 : decode cX0_listen 0 = .ok (.aload_n 0, 1) := by decide +kernel
theorem dX0_listen_1 : decode cX0_listen 1 = .ok (.getfield 36, 3) := by decide +kernel
theorem dX0_listen_4 : decode cX0_listen 4 = .ok (.iload_n 1, 1) := by decide +kernel
theorem dX0_listen_5 : decode cX0_listen 5 = .ok (.iload_n 2, 1) := by decide +kernel
theorem dX0_listen_6 : decode cX0_listen 6 = .ok (.ifCond .eq 7, 3) := by decide +kernel
theorem dX0_listen_9 : decode cX0_listen 9 = .ok (.iconst 0, 1) := by decide +kernel
theorem dX0_listen_10 : decode cX0_listen 10 = .ok (.goto 11, 3) := by decide +kernel
theorem dX0_listen_13 : decode cX0_listen 13 = .ok (.aload_n 0, 1) := by decide +kernel
theorem dX0_listen_14 : decode cX0_listen 14 = .ok (.getfield 36, 3) := by decide +kernel
theorem dX0_listen_17 : decode cX0_listen 17 = .ok (.iload_n 1, 1) := by decide +kernel
theorem dX0_listen_18 : decode cX0_listen 18 = .ok (.iaload, 1) := by decide +kernel
theorem dX0_listen_19 : decode cX0_listen 19 = .ok (.iconst 1, 1) := by decide +kernel
theorem dX0_listen_20 : decode cX0_listen 20 = .ok (.iadd, 1) := by decide +kernel
theorem dX0_listen_21 : decode cX0_listen 21 = .ok (.iastore, 1) := by decide +kernel
theorem dX0_listen_22 : decode cX0_listen 22 = .ok (.aload_n 0, 1) := by decide +kernel
theorem dX0_listen_23 : decode cX0_listen 23 = .ok (.getfield 36, 3) := by decide +kernel
theorem dX0_listen_26 : decode cX0_listen 26 = .ok (.iload_n 1, 1) := by decide +kernel
theorem dX0_listen_27 : decode cX0_listen 27 = .ok (.iaload, 1) := by decide +kernel
theorem dX0_listen_28 : decode cX0_listen 28 = .ok (.bipush 12, 2) := by decide +kernel
theorem dX0_listen_30 : decode cX0_listen 30 = .ok (.if_icmp .ne 15, 3) := by decide +kernel
theorem dX0_listen_33 : decode cX0_listen 33 = .ok (.aload_n 0, 1) := by decide +kernel
theorem dX0_listen_34 : decode cX0_listen 34 = .ok (.getfield 36, 3) := by decide +kernel
theorem dX0_listen_37 : decode cX0_listen 37 = .ok (.iload_n 1, 1) := by decide +kernel
theorem dX0_listen_38 : decode cX0_listen 38 = .ok (.iconst 0, 1) := by decide +kernel
theorem dX0_listen_39 : decode cX0_listen 39 = .ok (.iastore, 1) := by decide +kernel
theorem dX0_listen_40 : decode cX0_listen 40 = .ok (.aload_n 0, 1) := by decide +kernel
theorem dX0_listen_41 : decode cX0_listen 41 = .ok (.iload_n 1, 1) := by decide +kernel
theorem dX0_listen_42 : decode cX0_listen 42 = .ok (.invokevirtual 111, 3) := by decide +kernel
theorem dX0_listen_45 : decode cX0_listen 45 = .ok (.return_, 1) := by decide +kernel
theorem dX0_loseWall_0 : decode cX0_loseWall 0 = .ok (.iconst 0, 1) := by decide +kernel
theorem dX0_loseWall_1 : decode cX0_loseWall 1 = .ok (.istore_n 2, 1) := by decide +kernel
theorem dX0_loseWall_2 : decode cX0_loseWall 2 = .ok (.iload_n 2, 1) := by decide +kernel
theorem dX0_loseWall_3 : decode cX0_loseWall 3 = .ok (.aload_n 0, 1) := by decide +kernel
theorem dX0_loseWall_4 : decode cX0_loseWall 4 = .ok (.getfield 61, 3) := by decide +kernel
theorem dX0_loseWall_7 : decode cX0_loseWall 7 = .ok (.if_icmp .ge 40, 3) := by decide +kernel
theorem dX0_loseWall_10 : decode cX0_loseWall 10 = .ok (.aload_n 0, 1) := by decide +kernel
theorem dX0_loseWall_11 : decode cX0_loseWall 11 = .ok (.getfield 24, 3) := by decide +kernel
theorem dX0_loseWall_14 : decode cX0_loseWall 14 = .ok (.iload_n 2, 1) := by decide +kernel
theorem dX0_loseWall_15 : decode cX0_loseWall 15 = .ok (.iaload, 1) := by decide +kernel
theorem dX0_loseWall_16 : decode cX0_loseWall 16 = .ok (.iload_n 1, 1) := by decide +kernel
theorem dX0_loseWall_17 : decode cX0_loseWall 17 = .ok (.if_icmp .ne 24, 3) := by decide +kernel
theorem dX0_loseWall_20 : decode cX0_loseWall 20 = .ok (.aload_n 0, 1) := by decide +kernel
theorem dX0_loseWall_21 : decode cX0_loseWall 21 = .ok (.getfield 24, 3) := by decide +kernel
theorem dX0_loseWall_24 : decode cX0_loseWall 24 = .ok (.iload_n 2, 1) := by decide +kernel
theorem dX0_loseWall_25 : decode cX0_loseWall 25 = .ok (.iload_n 1, 1) := by decide +kernel
theorem dX0_loseWall_26 : decode cX0_loseWall 26 = .ok (.invokestatic 114, 3) := by decide +kernel
theorem dX0_loseWall_29 : decode cX0_loseWall 29 = .ok (.iastore, 1) := by decide +kernel
theorem dX0_loseWall_30 : decode cX0_loseWall 30 = .ok (.aload_n 0, 1) := by decide +kernel
theorem dX0_loseWall_31 : decode cX0_loseWall 31 = .ok (.dup, 1) := by decide +kernel
theorem dX0_loseWall_32 : decode cX0_loseWall 32 = .ok (.getfield 73, 3) := by decide +kernel
theorem dX0_loseWall_35 : decode cX0_loseWall 35 = .ok (.iconst 1, 1) := by decide +kernel
theorem dX0_loseWall_36 : decode cX0_loseWall 36 = .ok (.iadd, 1) := by decide +kernel
theorem dX0_loseWall_37 : decode cX0_loseWall 37 = .ok (.putfield 73, 3) := by decide +kernel
theorem dX0_loseWall_40 : decode cX0_loseWall 40 = .ok (.return_, 1) := by decide +kernel
theorem dX0_loseWall_41 : decode cX0_loseWall 41 = .ok (.iinc 2 1, 3) := by decide +kernel
theorem dX0_loseWall_44 : decode cX0_loseWall 44 = .ok (.goto (-42), 3) := by decide +kernel
theorem dX0_loseWall_47 : decode cX0_loseWall 47 = .ok (.return_, 1) := by decide +kernel
theorem dJ9_max_7cf53_0 : decode cJ9_max_7cf53 0 = .ok (.iload_n 0, 1) := by decide +kernel
theorem dJ9_max_7cf53_1 : decode cJ9_max_7cf53 1 = .ok (.iload_n 1, 1) := by decide +kernel
theorem dJ9_max_7cf53_2 : decode cJ9_max_7cf53 2 = .ok (.if_icmp .lt 7, 3) := by decide +kernel
theorem dJ9_max_7cf53_5 : decode cJ9_max_7cf53 5 = .ok (.iload_n 0, 1) := by decide +kernel
theorem dJ9_max_7cf53_6 : decode cJ9_max_7cf53 6 = .ok (.goto 4, 3) := by decide +kernel
theorem dJ9_max_7cf53_9 : decode cJ9_max_7cf53 9 = .ok (.iload_n 1, 1) := by decide +kernel
theorem dJ9_max_7cf53_10 : decode cJ9_max_7cf53 10 = .ok (.ireturn, 1) := by decide +kernel
theorem dJ7_fill_53178_0 : decode cJ7_fill_53178 0 = .ok (.iconst 0, 1) := by decide +kernel
theorem dJ7_fill_53178_1 : decode cJ7_fill_53178 1 = .ok (.istore_n 2, 1) := by decide +kernel
theorem dJ7_fill_53178_2 : decode cJ7_fill_53178 2 = .ok (.aload_n 0, 1) := by decide +kernel
theorem dJ7_fill_53178_3 : decode cJ7_fill_53178 3 = .ok (.arraylength, 1) := by decide +kernel
theorem dJ7_fill_53178_4 : decode cJ7_fill_53178 4 = .ok (.istore_n 3, 1) := by decide +kernel
theorem dJ7_fill_53178_5 : decode cJ7_fill_53178 5 = .ok (.iload_n 2, 1) := by decide +kernel
theorem dJ7_fill_53178_6 : decode cJ7_fill_53178 6 = .ok (.iload_n 3, 1) := by decide +kernel
theorem dJ7_fill_53178_7 : decode cJ7_fill_53178 7 = .ok (.if_icmp .ge 13, 3) := by decide +kernel
theorem dJ7_fill_53178_10 : decode cJ7_fill_53178 10 = .ok (.aload_n 0, 1) := by decide +kernel
theorem dJ7_fill_53178_11 : decode cJ7_fill_53178 11 = .ok (.iload_n 2, 1) := by decide +kernel
theorem dJ7_fill_53178_12 : decode cJ7_fill_53178 12 = .ok (.iload_n 1, 1) := by decide +kernel
theorem dJ7_fill_53178_13 : decode cJ7_fill_53178 13 = .ok (.iastore, 1) := by decide +kernel
theorem dJ7_fill_53178_14 : decode cJ7_fill_53178 14 = .ok (.iinc 2 1, 3) := by decide +kernel
theorem dJ7_fill_53178_17 : decode cJ7_fill_53178 17 = .ok (.goto (-12), 3) := by decide +kernel
theorem dJ7_fill_53178_20 : decode cJ7_fill_53178 20 = .ok (.return_, 1) := by decide +kernel
end
section
theorem dX1_init_0 : decode cX1_init 0 = .ok (.aload_n 0, 1) := by decide +kernel
theorem dX1_init_1 : decode cX1_init 1 = .ok (.invokespecial 1, 3) := by decide +kernel
theorem dX1_init_4 : decode cX1_init 4 = .ok (.aload_n 0, 1) := by decide +kernel
theorem dX1_init_5 : decode cX1_init 5 = .ok (.new 7, 3) := by decide +kernel
theorem dX1_init_8 : decode cX1_init 8 = .ok (.dup, 1) := by decide +kernel
theorem dX1_init_9 : decode cX1_init 9 = .ok (.invokespecial 9, 3) := by decide +kernel
theorem dX1_init_12 : decode cX1_init 12 = .ok (.putfield 10, 3) := by decide +kernel
theorem dX1_init_15 : decode cX1_init 15 = .ok (.aload_n 0, 1) := by decide +kernel
theorem dX1_init_16 : decode cX1_init 16 = .ok (.new 7, 3) := by decide +kernel
theorem dX1_init_19 : decode cX1_init 19 = .ok (.dup, 1) := by decide +kernel
theorem dX1_init_20 : decode cX1_init 20 = .ok (.invokespecial 9, 3) := by decide +kernel
theorem dX1_init_23 : decode cX1_init 23 = .ok (.putfield 16, 3) := by decide +kernel
theorem dX1_init_26 : decode cX1_init 26 = .ok (.return_, 1) := by decide +kernel
theorem dX1_addWall_0 : decode cX1_addWall 0 = .ok (.iload_n 1, 1) := by decide +kernel
theorem dX1_addWall_1 : decode cX1_addWall 1 = .ok (.invokestatic 19, 3) := by decide +kernel
theorem dX1_addWall_4 : decode cX1_addWall 4 = .ok (.iload_n 2, 1) := by decide +kernel
theorem dX1_addWall_5 : decode cX1_addWall 5 = .ok (.invokestatic 23, 3) := by decide +kernel
theorem dX1_addWall_8 : decode cX1_addWall 8 = .ok (.iload_n 3, 1) := by decide +kernel
theorem dX1_addWall_9 : decode cX1_addWall 9 = .ok (.ifCond .lt 8, 3) := by decide +kernel
theorem dX1_addWall_12 : decode cX1_addWall 12 = .ok (.iload_n 3, 1) := by decide +kernel
theorem dX1_addWall_13 : decode cX1_addWall 13 = .ok (.iconst 5, 1) := by decide +kernel
theorem dX1_addWall_14 : decode cX1_addWall 14 = .ok (.if_icmp .le 13, 3) := by decide +kernel
theorem dX1_addWall_17 : decode cX1_addWall 17 = .ok (.new 26, 3) := by decide +kernel
theorem dX1_addWall_20 : decode cX1_addWall 20 = .ok (.dup, 1) := by decide +kernel
theorem dX1_addWall_21 : decode cX1_addWall 21 = .ok (.ldc 28, 2) := by decide +kernel
theorem dX1_addWall_23 : decode cX1_addWall 23 = .ok (.invokespecial 30, 3) := by decide +kernel
theorem dX1_addWall_26 : decode cX1_addWall 26 = .ok (.athrow, 1) := by decide +kernel
theorem dX1_addWall_27 : decode cX1_addWall 27 = .ok (.aload_n 0, 1) := by decide +kernel
theorem dX1_addWall_28 : decode cX1_addWall 28 = .ok (.getfield 10, 3) := by decide +kernel
theorem dX1_addWall_31 : decode cX1_addWall 31 = .ok (.getfield 33, 3) := by decide +kernel
theorem dX1_addWall_34 : decode cX1_addWall 34 = .ok (.bipush 10, 2) := by decide +kernel
theorem dX1_addWall_36 : decode cX1_addWall 36 = .ok (.if_icmp .ge 16, 3) := by decide +kernel
theorem dX1_addWall_39 : decode cX1_addWall 39 = .ok (.aload_n 0, 1) := by decide +kernel
theorem dX1_addWall_40 : decode cX1_addWall 40 = .ok (.getfield 10, 3) := by decide +kernel
theorem dX1_addWall_43 : decode cX1_addWall 43 = .ok (.getfield 37, 3) := by decide +kernel
theorem dX1_addWall_46 : decode cX1_addWall 46 = .ok (.iload_n 1, 1) := by decide +kernel
theorem dX1_addWall_47 : decode cX1_addWall 47 = .ok (.iaload, 1) := by decide +kernel
theorem dX1_addWall_48 : decode cX1_addWall 48 = .ok (.iconst (-1), 1) := by decide +kernel
theorem dX1_addWall_49 : decode cX1_addWall 49 = .ok (.if_icmp .eq 13, 3) := by decide +kernel
theorem dX1_addWall_52 : decode cX1_addWall 52 = .ok (.new 41, 3) := by decide +kernel
theorem dX1_addWall_55 : decode cX1_addWall 55 = .ok (.dup, 1) := by decide +kernel
theorem dX1_addWall_56 : decode cX1_addWall 56 = .ok (.ldc 43, 2) := by decide +kernel
theorem dX1_addWall_58 : decode cX1_addWall 58 = .ok (.invokespecial 45, 3) := by decide +kernel
theorem dX1_addWall_61 : decode cX1_addWall 61 = .ok (.athrow, 1) := by decide +kernel
theorem dX1_addWall_62 : decode cX1_addWall 62 = .ok (.aload_n 0, 1) := by decide +kernel
theorem dX1_addWall_63 : decode cX1_addWall 63 = .ok (.getfield 10, 3) := by decide +kernel
theorem dX1_addWall_66 : decode cX1_addWall 66 = .ok (.iload_n 1, 1) := by decide +kernel
theorem dX1_addWall_67 : decode cX1_addWall 67 = .ok (.iload_n 2, 1) := by decide +kernel
theorem dX1_addWall_68 : decode cX1_addWall 68 = .ok (.iload_n 3, 1) := by decide +kernel
theorem dX1_addWall_69 : decode cX1_addWall 69 = .ok (.invokevirtual 46, 3) := by decide +kernel
theorem dX1_addWall_72 : decode cX1_addWall 72 = .ok (.ireturn, 1) := by decide +kernel
theorem dX1_hand_0 : decode cX1_hand 0 = .ok (.aload_n 0, 1) := by decide +kernel
theorem dX1_hand_1 : decode cX1_hand 1 = .ok (.iload_n 1, 1) := by decide +kernel
theorem dX1_hand_2 : decode cX1_hand 2 = .ok (.invokevirtual 50, 3) := by decide +kernel
theorem dX1_hand_5 : decode cX1_hand 5 = .ok (.aload_n 0, 1) := by decide +kernel
theorem dX1_hand_6 : decode cX1_hand 6 = .ok (.getfield 10, 3) := by decide +kernel
theorem dX1_hand_9 : decode cX1_hand 9 = .ok (.getfield 53, 3) := by decide +kernel
theorem dX1_hand_12 : decode cX1_hand 12 = .ok (.iload_n 1, 1) := by decide +kernel
theorem dX1_hand_13 : decode cX1_hand 13 = .ok (.aload_n 0, 1) := by decide +kernel
theorem dX1_hand_14 : decode cX1_hand 14 = .ok (.getfield 10, 3) := by decide +kernel
theorem dX1_hand_17 : decode cX1_hand 17 = .ok (.getfield 53, 3) := by decide +kernel
theorem dX1_hand_20 : decode cX1_hand 20 = .ok (.iload_n 1, 1) := by decide +kernel
theorem dX1_hand_21 : decode cX1_hand 21 = .ok (.iaload, 1) := by decide +kernel
theorem dX1_hand_22 : decode cX1_hand 22 = .ok (.invokestatic 56, 3) := by decide +kernel
theorem dX1_hand_25 : decode cX1_hand 25 = .ok (.iastore, 1) := by decide +kernel
theorem dX1_hand_26 : decode cX1_hand 26 = .ok (.aload_n 0, 1) := by decide +kernel
theorem dX1_hand_27 : decode cX1_hand 27 = .ok (.getfield 10, 3) := by decide +kernel
theorem dX1_hand_30 : decode cX1_hand 30 = .ok (.getfield 53, 3) := by decide +kernel
theorem dX1_hand_33 : decode cX1_hand 33 = .ok (.iload_n 1, 1) := by decide +kernel
theorem dX1_hand_34 : decode cX1_hand 34 = .ok (.iaload, 1) := by decide +kernel
theorem dX1_hand_35 : decode cX1_hand 35 = .ok (.ireturn, 1) := by decide +kernel
theorem dX1_setSnow_0 : decode cX1_setSnow 0 = .ok (.iload_n 1, 1) := by decide +kernel
theorem dX1_setSnow_1 : decode cX1_setSnow 1 = .ok (.invokestatic 19, 3) := by decide +kernel
theorem dX1_setSnow_4 : decode cX1_setSnow 4 = .ok (.iload_n 2, 1) := by decide +kernel
theorem dX1_setSnow_5 : decode cX1_setSnow 5 = .ok (.ifCond .lt 8, 3) := by decide +kernel
theorem dX1_setSnow_8 : decode cX1_setSnow 8 = .ok (.iload_n 2, 1) := by decide +kernel
theorem dX1_setSnow_9 : decode cX1_setSnow 9 = .ok (.iconst 5, 1) := by decide +kernel
theorem dX1_setSnow_10 : decode cX1_setSnow 10 = .ok (.if_icmp .le 13, 3) := by decide +kernel
theorem dX1_setSnow_13 : decode cX1_setSnow 13 = .ok (.new 26, 3) := by decide +kernel
theorem dX1_setSnow_16 : decode cX1_setSnow 16 = .ok (.dup, 1) := by decide +kernel
theorem dX1_setSnow_17 : decode cX1_setSnow 17 = .ok (.ldc 60, 2) := by decide +kernel
theorem dX1_setSnow_19 : decode cX1_setSnow 19 = .ok (.invokespecial 30, 3) := by decide +kernel
theorem dX1_setSnow_22 : decode cX1_setSnow 22 = .ok (.athrow, 1) := by decide +kernel
theorem dX1_setSnow_23 : decode cX1_setSnow 23 = .ok (.aload_n 0, 1) := by decide +kernel
theorem dX1_setSnow_24 : decode cX1_setSnow 24 = .ok (.getfield 10, 3) := by decide +kernel
theorem dX1_setSnow_27 : decode cX1_setSnow 27 = .ok (.getfield 62, 3) := by decide +kernel
theorem dX1_setSnow_30 : decode cX1_setSnow 30 = .ok (.iload_n 1, 1) := by decide +kernel
theorem dX1_setSnow_31 : decode cX1_setSnow 31 = .ok (.iaload, 1) := by decide +kernel
theorem dX1_setSnow_32 : decode cX1_setSnow 32 = .ok (.istore_n 3, 1) := by decide +kernel
theorem dX1_setSnow_33 : decode cX1_setSnow 33 = .ok (.aload_n 0, 1) := by decide +kernel
theorem dX1_setSnow_34 : decode cX1_setSnow 34 = .ok (.getfield 10, 3) := by decide +kernel
theorem dX1_setSnow_37 : decode cX1_setSnow 37 = .ok (.getfield 62, 3) := by decide +kernel
theorem dX1_setSnow_40 : decode cX1_setSnow 40 = .ok (.iload_n 1, 1) := by decide +kernel
theorem dX1_setSnow_41 : decode cX1_setSnow 41 = .ok (.iload_n 2, 1) := by decide +kernel
theorem dX1_setSnow_42 : decode cX1_setSnow 42 = .ok (.iastore, 1) := by decide +kernel
theorem dX1_setSnow_43 : decode cX1_setSnow 43 = .ok (.iload_n 3, 1) := by decide +kernel
theorem dX1_setSnow_44 : decode cX1_setSnow 44 = .ok (.ireturn, 1) := by decide +kernel
theorem dX1_shout_0 : decode cX1_shout 0 = .ok (.iload_n 1, 1) := by decide +kernel
theorem dX1_shout_1 : decode cX1_shout 1 = .ok (.invokestatic 19, 3) := by decide +kernel
theorem dX1_shout_4 : decode cX1_shout 4 = .ok (.iload_n 3, 1) := by decide +kernel
theorem dX1_shout_5 : decode cX1_shout 5 = .ok (.invokestatic 65, 3) := by decide +kernel
theorem dX1_shout_8 : decode cX1_shout 8 = .ok (.aload_n 0, 1) := by decide +kernel
theorem dX1_shout_9 : decode cX1_shout 9 = .ok (.getfield 10, 3) := by decide +kernel
theorem dX1_shout_12 : decode cX1_shout 12 = .ok (.getfield 68, 3) := by decide +kernel
theorem dX1_shout_15 : decode cX1_shout 15 = .ok (.bipush 40, 2) := by decide +kernel
theorem dX1_shout_17 : decode cX1_shout 17 = .ok (.if_icmp .ge 15, 3) := by decide +kernel
theorem dX1_shout_20 : decode cX1_shout 20 = .ok (.aload_n 0, 1) := by decide +kernel
theorem dX1_shout_21 : decode cX1_shout 21 = .ok (.getfield 10, 3) := by decide +kernel
theorem dX1_shout_24 : decode cX1_shout 24 = .ok (.getfield 71, 3) := by decide +kernel
theorem dX1_shout_27 : decode cX1_shout 27 = .ok (.bipush 8, 2) := by decide +kernel
theorem dX1_shout_29 : decode cX1_shout 29 = .ok (.if_icmp .lt 13, 3) := by decide +kernel
theorem dX1_shout_32 : decode cX1_shout 32 = .ok (.new 41, 3) := by decide +kernel
theorem dX1_shout_35 : decode cX1_shout 35 = .ok (.dup, 1) := by decide +kernel
theorem dX1_shout_36 : decode cX1_shout 36 = .ok (.ldc 74, 2) := by decide +kernel
theorem dX1_shout_38 : decode cX1_shout 38 = .ok (.invokespecial 45, 3) := by decide +kernel
theorem dX1_shout_41 : decode cX1_shout 41 = .ok (.athrow, 1) := by decide +kernel
theorem dX1_shout_42 : decode cX1_shout 42 = .ok (.aload_n 0, 1) := by decide +kernel
theorem dX1_shout_43 : decode cX1_shout 43 = .ok (.getfield 10, 3) := by decide +kernel
theorem dX1_shout_46 : decode cX1_shout 46 = .ok (.getfield 76, 3) := by decide +kernel
theorem dX1_shout_49 : decode cX1_shout 49 = .ok (.iload_n 1, 1) := by decide +kernel
theorem dX1_shout_50 : decode cX1_shout 50 = .ok (.iaload, 1) := by decide +kernel
theorem dX1_shout_51 : decode cX1_shout 51 = .ok (.iconst (-1), 1) := by decide +kernel
theorem dX1_shout_52 : decode cX1_shout 52 = .ok (.if_icmp .eq 13, 3) := by decide +kernel
theorem dX1_shout_55 : decode cX1_shout 55 = .ok (.new 41, 3) := by decide +kernel
theorem dX1_shout_58 : decode cX1_shout 58 = .ok (.dup, 1) := by decide +kernel
theorem dX1_shout_59 : decode cX1_shout 59 = .ok (.ldc 79, 2) := by decide +kernel
theorem dX1_shout_61 : decode cX1_shout 61 = .ok (.invokespecial 45, 3) := by decide +kernel
theorem dX1_shout_64 : decode cX1_shout 64 = .ok (.athrow, 1) := by decide +kernel
theorem dX1_shout_65 : decode cX1_shout 65 = .ok (.aload_n 0, 1) := by decide +kernel
theorem dX1_shout_66 : decode cX1_shout 66 = .ok (.getfield 10, 3) := by decide +kernel
theorem dX1_shout_69 : decode cX1_shout 69 = .ok (.iload_n 1, 1) := by decide +kernel
theorem dX1_shout_70 : decode cX1_shout 70 = .ok (.iload_n 2, 1) := by decide +kernel
theorem dX1_shout_71 : decode cX1_shout 71 = .ok (.iload_n 3, 1) := by decide +kernel
theorem dX1_shout_72 : decode cX1_shout 72 = .ok (.invokevirtual 81, 3) := by decide +kernel
theorem dX1_shout_75 : decode cX1_shout 75 = .ok (.ireturn, 1) := by decide +kernel
theorem dX1_pass_0 : decode cX1_pass 0 = .ok (.iload_n 1, 1) := by decide +kernel
theorem dX1_pass_1 : decode cX1_pass 1 = .ok (.invokestatic 85, 3) := by decide +kernel
theorem dX1_pass_4 : decode cX1_pass 4 = .ok (.aload_n 0, 1) := by decide +kernel
theorem dX1_pass_5 : decode cX1_pass 5 = .ok (.getfield 10, 3) := by decide +kernel
theorem dX1_pass_8 : decode cX1_pass 8 = .ok (.getfield 88, 3) := by decide +kernel
theorem dX1_pass_11 : decode cX1_pass 11 = .ok (.iconst 0, 1) := by decide +kernel
theorem dX1_pass_12 : decode cX1_pass 12 = .ok (.iaload, 1) := by decide +kernel
theorem dX1_pass_13 : decode cX1_pass 13 = .ok (.aload_n 0, 1) := by decide +kernel
theorem dX1_pass_14 : decode cX1_pass 14 = .ok (.getfield 10, 3) := by decide +kernel
theorem dX1_pass_17 : decode cX1_pass 17 = .ok (.getfield 88, 3) := by decide +kernel
theorem dX1_pass_20 : decode cX1_pass 20 = .ok (.iconst 1, 1) := by decide +kernel
theorem dX1_pass_21 : decode cX1_pass 21 = .ok (.iaload, 1) := by decide +kernel
theorem dX1_pass_22 : decode cX1_pass 22 = .ok (.iadd, 1) := by decide +kernel
theorem dX1_pass_23 : decode cX1_pass 23 = .ok (.istore_n 2, 1) := by decide +kernel
theorem dX1_pass_24 : decode cX1_pass 24 = .ok (.iconst 0, 1) := by decide +kernel
theorem dX1_pass_25 : decode cX1_pass 25 = .ok (.istore_n 3, 1) := by decide +kernel
theorem dX1_pass_26 : decode cX1_pass 26 = .ok (.iload_n 3, 1) := by decide +kernel
theorem dX1_pass_27 : decode cX1_pass 27 = .ok (.iload_n 1, 1) := by decide +kernel
theorem dX1_pass_28 : decode cX1_pass 28 = .ok (.if_icmp .ge 16, 3) := by decide +kernel
theorem dX1_pass_31 : decode cX1_pass 31 = .ok (.aload_n 0, 1) := by decide +kernel
theorem dX1_pass_32 : decode cX1_pass 32 = .ok (.getfield 10, 3) := by decide +kernel
theorem dX1_pass_35 : decode cX1_pass 35 = .ok (.invokevirtual 91, 3) := by decide +kernel
theorem dX1_pass_38 : decode cX1_pass 38 = .ok (.iinc 3 1, 3) := by decide +kernel
theorem dX1_pass_41 : decode cX1_pass 41 = .ok (.goto (-15), 3) := by decide +kernel
theorem dX1_pass_44 : decode cX1_pass 44 = .ok (.aload_n 0, 1) := by decide +kernel
theorem dX1_pass_45 : decode cX1_pass 45 = .ok (.getfield 10, 3) := by decide +kernel
theorem dX1_pass_48 : decode cX1_pass 48 = .ok (.getfield 88, 3) := by decide +kernel
theorem dX1_pass_51 : decode cX1_pass 51 = .ok (.iconst 0, 1) := by decide +kernel
theorem dX1_pass_52 : decode cX1_pass 52 = .ok (.iaload, 1) := by decide +kernel
theorem dX1_pass_53 : decode cX1_pass 53 = .ok (.aload_n 0, 1) := by decide +kernel
theorem dX1_pass_54 : decode cX1_pass 54 = .ok (.getfield 10, 3) := by decide +kernel
theorem dX1_pass_57 : decode cX1_pass 57 = .ok (.getfield 88, 3) := by decide +kernel
theorem dX1_pass_60 : decode cX1_pass 60 = .ok (.iconst 1, 1) := by decide +kernel
theorem dX1_pass_61 : decode cX1_pass 61 = .ok (.iaload, 1) := by decide +kernel
theorem dX1_pass_62 : decode cX1_pass 62 = .ok (.iadd, 1) := by decide +kernel
theorem dX1_pass_63 : decode cX1_pass 63 = .ok (.iload_n 2, 1) := by decide +kernel
theorem dX1_pass_64 : decode cX1_pass 64 = .ok (.isub, 1) := by decide +kernel
theorem dX1_pass_65 : decode cX1_pass 65 = .ok (.ireturn, 1) := by decide +kernel
theorem dX1_beat_0 : decode cX1_beat 0 = .ok (.aload_n 0, 1) := by decide +kernel
theorem dX1_beat_1 : decode cX1_beat 1 = .ok (.getfield 10, 3) := by decide +kernel
theorem dX1_beat_4 : decode cX1_beat 4 = .ok (.getfield 94, 3) := by decide +kernel
theorem dX1_beat_7 : decode cX1_beat 7 = .ok (.ireturn, 1) := by decide +kernel
theorem dX1_walls_0 : decode cX1_walls 0 = .ok (.aload_n 0, 1) := by decide +kernel
theorem dX1_walls_1 : decode cX1_walls 1 = .ok (.getfield 10, 3) := by decide +kernel
theorem dX1_walls_4 : decode cX1_walls 4 = .ok (.getfield 33, 3) := by decide +kernel
theorem dX1_walls_7 : decode cX1_walls 7 = .ok (.ireturn, 1) := by decide +kernel
theorem dX1_shouts_0 : decode cX1_shouts 0 = .ok (.aload_n 0, 1) := by decide +kernel
theorem dX1_shouts_1 : decode cX1_shouts 1 = .ok (.getfield 10, 3) := by decide +kernel
theorem dX1_shouts_4 : decode cX1_shouts 4 = .ok (.getfield 68, 3) := by decide +kernel
theorem dX1_shouts_7 : decode cX1_shouts 7 = .ok (.ireturn, 1) := by decide +kernel
theorem dX1_underWay_0 : decode cX1_underWay 0 = .ok (.aload_n 0, 1) := by decide +kernel
theorem dX1_underWay_1 : decode cX1_underWay 1 = .ok (.getfield 10, 3) := by decide +kernel
theorem dX1_underWay_4 : decode cX1_underWay 4 = .ok (.getfield 71, 3) := by decide +kernel
theorem dX1_underWay_7 : decode cX1_underWay 7 = .ok (.ireturn, 1) := by decide +kernel
theorem dX1_overlaps_0 : decode cX1_overlaps 0 = .ok (.aload_n 0, 1) := by decide +kernel
theorem dX1_overlaps_1 : decode cX1_overlaps 1 = .ok (.getfield 10, 3) := by decide +kernel
theorem dX1_overlaps_4 : decode cX1_overlaps 4 = .ok (.getfield 97, 3) := by decide +kernel
theorem dX1_overlaps_7 : decode cX1_overlaps 7 = .ok (.ireturn, 1) := by decide +kernel
theorem dX1_snowOn_0 : decode cX1_snowOn 0 = .ok (.iload_n 1, 1) := by decide +kernel
theorem dX1_snowOn_1 : decode cX1_snowOn 1 = .ok (.invokestatic 19, 3) := by decide +kernel
theorem dX1_snowOn_4 : decode cX1_snowOn 4 = .ok (.aload_n 0, 1) := by decide +kernel
theorem dX1_snowOn_5 : decode cX1_snowOn 5 = .ok (.getfield 10, 3) := by decide +kernel
theorem dX1_snowOn_8 : decode cX1_snowOn 8 = .ok (.getfield 62, 3) := by decide +kernel
theorem dX1_snowOn_11 : decode cX1_snowOn 11 = .ok (.iload_n 1, 1) := by decide +kernel
theorem dX1_snowOn_12 : decode cX1_snowOn 12 = .ok (.iaload, 1) := by decide +kernel
theorem dX1_snowOn_13 : decode cX1_snowOn 13 = .ok (.ireturn, 1) := by decide +kernel
theorem dX1_wallOn_0 : decode cX1_wallOn 0 = .ok (.iload_n 1, 1) := by decide +kernel
theorem dX1_wallOn_1 : decode cX1_wallOn 1 = .ok (.invokestatic 19, 3) := by decide +kernel
theorem dX1_wallOn_4 : decode cX1_wallOn 4 = .ok (.aload_n 0, 1) := by decide +kernel
theorem dX1_wallOn_5 : decode cX1_wallOn 5 = .ok (.getfield 10, 3) := by decide +kernel
theorem dX1_wallOn_8 : decode cX1_wallOn 8 = .ok (.getfield 37, 3) := by decide +kernel
theorem dX1_wallOn_11 : decode cX1_wallOn 11 = .ok (.iload_n 1, 1) := by decide +kernel
theorem dX1_wallOn_12 : decode cX1_wallOn 12 = .ok (.iaload, 1) := by decide +kernel
theorem dX1_wallOn_13 : decode cX1_wallOn 13 = .ok (.ireturn, 1) := by decide +kernel
theorem dX1_loudOn_0 : decode cX1_loudOn 0 = .ok (.iload_n 1, 1) := by decide +kernel
theorem dX1_loudOn_1 : decode cX1_loudOn 1 = .ok (.invokestatic 19, 3) := by decide +kernel
theorem dX1_loudOn_4 : decode cX1_loudOn 4 = .ok (.aload_n 0, 1) := by decide +kernel
theorem dX1_loudOn_5 : decode cX1_loudOn 5 = .ok (.getfield 10, 3) := by decide +kernel
theorem dX1_loudOn_8 : decode cX1_loudOn 8 = .ok (.iload_n 1, 1) := by decide +kernel
theorem dX1_loudOn_9 : decode cX1_loudOn 9 = .ok (.invokevirtual 100, 3) := by decide +kernel
theorem dX1_loudOn_12 : decode cX1_loudOn 12 = .ok (.ireturn, 1) := by decide +kernel
theorem dX1_stoneOf_0 : decode cX1_stoneOf 0 = .ok (.aload_n 0, 1) := by decide +kernel
theorem dX1_stoneOf_1 : decode cX1_stoneOf 1 = .ok (.iload_n 1, 1) := by decide +kernel
theorem dX1_stoneOf_2 : decode cX1_stoneOf 2 = .ok (.invokevirtual 50, 3) := by decide +kernel
theorem dX1_stoneOf_5 : decode cX1_stoneOf 5 = .ok (.aload_n 0, 1) := by decide +kernel
theorem dX1_stoneOf_6 : decode cX1_stoneOf 6 = .ok (.getfield 10, 3) := by decide +kernel
theorem dX1_stoneOf_9 : decode cX1_stoneOf 9 = .ok (.getfield 103, 3) := by decide +kernel
theorem dX1_stoneOf_12 : decode cX1_stoneOf 12 = .ok (.iload_n 1, 1) := by decide +kernel
theorem dX1_stoneOf_13 : decode cX1_stoneOf 13 = .ok (.iaload, 1) := by decide +kernel
theorem dX1_stoneOf_14 : decode cX1_stoneOf 14 = .ok (.ireturn, 1) := by decide +kernel
theorem dX1_ownerOf_0 : decode cX1_ownerOf 0 = .ok (.aload_n 0, 1) := by decide +kernel
theorem dX1_ownerOf_1 : decode cX1_ownerOf 1 = .ok (.iload_n 1, 1) := by decide +kernel
theorem dX1_ownerOf_2 : decode cX1_ownerOf 2 = .ok (.invokevirtual 50, 3) := by decide +kernel
theorem dX1_ownerOf_5 : decode cX1_ownerOf 5 = .ok (.aload_n 0, 1) := by decide +kernel
theorem dX1_ownerOf_6 : decode cX1_ownerOf 6 = .ok (.getfield 10, 3) := by decide +kernel
theorem dX1_ownerOf_9 : decode cX1_ownerOf 9 = .ok (.getfield 53, 3) := by decide +kernel
theorem dX1_ownerOf_12 : decode cX1_ownerOf 12 = .ok (.iload_n 1, 1) := by decide +kernel
theorem dX1_ownerOf_13 : decode cX1_ownerOf 13 = .ok (.iaload, 1) := by decide +kernel
theorem dX1_ownerOf_14 : decode cX1_ownerOf 14 = .ok (.ireturn, 1) := by decide +kernel
theorem dX1_thrownBack_0 : decode cX1_thrownBack 0 = .ok (.aload_n 0, 1) := by decide +kernel
theorem dX1_thrownBack_1 : decode cX1_thrownBack 1 = .ok (.iload_n 1, 1) := by decide +kernel
theorem dX1_thrownBack_2 : decode cX1_thrownBack 2 = .ok (.invokevirtual 50, 3) := by decide +kernel
theorem dX1_thrownBack_5 : decode cX1_thrownBack 5 = .ok (.aload_n 0, 1) := by decide +kernel
theorem dX1_thrownBack_6 : decode cX1_thrownBack 6 = .ok (.getfield 10, 3) := by decide +kernel
theorem dX1_thrownBack_9 : decode cX1_thrownBack 9 = .ok (.getfield 106, 3) := by decide +kernel
theorem dX1_thrownBack_12 : decode cX1_thrownBack 12 = .ok (.iload_n 1, 1) := by decide +kernel
theorem dX1_thrownBack_13 : decode cX1_thrownBack 13 = .ok (.iaload, 1) := by decide +kernel
theorem dX1_thrownBack_14 : decode cX1_thrownBack 14 = .ok (.ireturn, 1) := by decide +kernel
theorem dX1_coinsOf_0 : decode cX1_coinsOf 0 = .ok (.iload_n 1, 1) := by decide +kernel
theorem dX1_coinsOf_1 : decode cX1_coinsOf 1 = .ok (.invokestatic 23, 3) := by decide +kernel
theorem dX1_coinsOf_4 : decode cX1_coinsOf 4 = .ok (.aload_n 0, 1) := by decide +kernel
theorem dX1_coinsOf_5 : decode cX1_coinsOf 5 = .ok (.getfield 10, 3) := by decide +kernel
theorem dX1_coinsOf_8 : decode cX1_coinsOf 8 = .ok (.getfield 88, 3) := by decide +kernel
theorem dX1_coinsOf_11 : decode cX1_coinsOf 11 = .ok (.iload_n 1, 1) := by decide +kernel
theorem dX1_coinsOf_12 : decode cX1_coinsOf 12 = .ok (.iaload, 1) := by decide +kernel
theorem dX1_coinsOf_13 : decode cX1_coinsOf 13 = .ok (.ireturn, 1) := by decide +kernel
theorem dX1_wallsOf_0 : decode cX1_wallsOf 0 = .ok (.iload_n 1, 1) := by decide +kernel
theorem dX1_wallsOf_1 : decode cX1_wallsOf 1 = .ok (.invokestatic 23, 3) := by decide +kernel
theorem dX1_wallsOf_4 : decode cX1_wallsOf 4 = .ok (.iconst 0, 1) := by decide +kernel
theorem dX1_wallsOf_5 : decode cX1_wallsOf 5 = .ok (.istore_n 2, 1) := by decide +kernel
theorem dX1_wallsOf_6 : decode cX1_wallsOf 6 = .ok (.iconst 0, 1) := by decide +kernel
theorem dX1_wallsOf_7 : decode cX1_wallsOf 7 = .ok (.istore_n 3, 1) := by decide +kernel
theorem dX1_wallsOf_8 : decode cX1_wallsOf 8 = .ok (.iload_n 3, 1) := by decide +kernel
theorem dX1_wallsOf_9 : decode cX1_wallsOf 9 = .ok (.aload_n 0, 1) := by decide +kernel
theorem dX1_wallsOf_10 : decode cX1_wallsOf 10 = .ok (.getfield 10, 3) := by decide +kernel
theorem dX1_wallsOf_13 : decode cX1_wallsOf 13 = .ok (.getfield 33, 3) := by decide +kernel
theorem dX1_wallsOf_16 : decode cX1_wallsOf 16 = .ok (.if_icmp .ge 25, 3) := by decide +kernel
theorem dX1_wallsOf_19 : decode cX1_wallsOf 19 = .ok (.aload_n 0, 1) := by decide +kernel
theorem dX1_wallsOf_20 : decode cX1_wallsOf 20 = .ok (.getfield 10, 3) := by decide +kernel
theorem dX1_wallsOf_23 : decode cX1_wallsOf 23 = .ok (.getfield 53, 3) := by decide +kernel
theorem dX1_wallsOf_26 : decode cX1_wallsOf 26 = .ok (.iload_n 3, 1) := by decide +kernel
theorem dX1_wallsOf_27 : decode cX1_wallsOf 27 = .ok (.iaload, 1) := by decide +kernel
theorem dX1_wallsOf_28 : decode cX1_wallsOf 28 = .ok (.iload_n 1, 1) := by decide +kernel
theorem dX1_wallsOf_29 : decode cX1_wallsOf 29 = .ok (.if_icmp .ne 6, 3) := by decide +kernel
theorem dX1_wallsOf_32 : decode cX1_wallsOf 32 = .ok (.iinc 2 1, 3) := by decide +kernel
theorem dX1_wallsOf_35 : decode cX1_wallsOf 35 = .ok (.iinc 3 1, 3) := by decide +kernel
theorem dX1_wallsOf_38 : decode cX1_wallsOf 38 = .ok (.goto (-30), 3) := by decide +kernel
theorem dX1_wallsOf_41 : decode cX1_wallsOf 41 = .ok (.iload_n 2, 1) := by decide +kernel
theorem dX1_wallsOf_42 : decode cX1_wallsOf 42 = .ok (.ireturn, 1) := by decide +kernel
theorem dX1_silentFor_0 : decode cX1_silentFor 0 = .ok (.iload_n 1, 1) := by decide +kernel
theorem dX1_silentFor_1 : decode cX1_silentFor 1 = .ok (.invokestatic 23, 3) := by decide +kernel
theorem dX1_silentFor_4 : decode cX1_silentFor 4 = .ok (.aload_n 0, 1) := by decide +kernel
theorem dX1_silentFor_5 : decode cX1_silentFor 5 = .ok (.getfield 10, 3) := by decide +kernel
theorem dX1_silentFor_8 : decode cX1_silentFor 8 = .ok (.getfield 109, 3) := by decide +kernel
theorem dX1_silentFor_11 : decode cX1_silentFor 11 = .ok (.iload_n 1, 1) := by decide +kernel
theorem dX1_silentFor_12 : decode cX1_silentFor 12 = .ok (.iaload, 1) := by decide +kernel
theorem dX1_silentFor_13 : decode cX1_silentFor 13 = .ok (.ireturn, 1) := by decide +kernel
theorem dX1_inherited_0 : decode cX1_inherited 0 = .ok (.aload_n 0, 1) := by decide +kernel
theorem dX1_inherited_1 : decode cX1_inherited 1 = .ok (.getfield 10, 3) := by decide +kernel
theorem dX1_inherited_4 : decode cX1_inherited 4 = .ok (.getfield 112, 3) := by decide +kernel
theorem dX1_inherited_7 : decode cX1_inherited 7 = .ok (.ireturn, 1) := by decide +kernel
theorem dX1_loudnessOf_0 : decode cX1_loudnessOf 0 = .ok (.aload_n 0, 1) := by decide +kernel
theorem dX1_loudnessOf_1 : decode cX1_loudnessOf 1 = .ok (.iload_n 1, 1) := by decide +kernel
theorem dX1_loudnessOf_2 : decode cX1_loudnessOf 2 = .ok (.invokevirtual 115, 3) := by decide +kernel
theorem dX1_loudnessOf_5 : decode cX1_loudnessOf 5 = .ok (.aload_n 0, 1) := by decide +kernel
theorem dX1_loudnessOf_6 : decode cX1_loudnessOf 6 = .ok (.getfield 10, 3) := by decide +kernel
theorem dX1_loudnessOf_9 : decode cX1_loudnessOf 9 = .ok (.getfield 118, 3) := by decide +kernel
theorem dX1_loudnessOf_12 : decode cX1_loudnessOf 12 = .ok (.iload_n 1, 1) := by decide +kernel
theorem dX1_loudnessOf_13 : decode cX1_loudnessOf 13 = .ok (.iaload, 1) := by decide +kernel
theorem dX1_loudnessOf_14 : decode cX1_loudnessOf 14 = .ok (.ireturn, 1) := by decide +kernel
theorem dX1_placeOf_0 : decode cX1_placeOf 0 = .ok (.aload_n 0, 1) := by decide +kernel
theorem dX1_placeOf_1 : decode cX1_placeOf 1 = .ok (.iload_n 1, 1) := by decide +kernel
theorem dX1_placeOf_2 : decode cX1_placeOf 2 = .ok (.invokevirtual 115, 3) := by decide +kernel
theorem dX1_placeOf_5 : decode cX1_placeOf 5 = .ok (.aload_n 0, 1) := by decide +kernel
theorem dX1_placeOf_6 : decode cX1_placeOf 6 = .ok (.getfield 10, 3) := by decide +kernel
theorem dX1_placeOf_9 : decode cX1_placeOf 9 = .ok (.getfield 121, 3) := by decide +kernel
theorem dX1_placeOf_12 : decode cX1_placeOf 12 = .ok (.iload_n 1, 1) := by decide +kernel
theorem dX1_placeOf_13 : decode cX1_placeOf 13 = .ok (.iaload, 1) := by decide +kernel
theorem dX1_placeOf_14 : decode cX1_placeOf 14 = .ok (.ireturn, 1) := by decide +kernel
theorem dX1_goesRight_0 : decode cX1_goesRight 0 = .ok (.aload_n 0, 1) := by decide +kernel
theorem dX1_goesRight_1 : decode cX1_goesRight 1 = .ok (.iload_n 1, 1) := by decide +kernel
theorem dX1_goesRight_2 : decode cX1_goesRight 2 = .ok (.invokevirtual 115, 3) := by decide +kernel
theorem dX1_goesRight_5 : decode cX1_goesRight 5 = .ok (.aload_n 0, 1) := by decide +kernel
theorem dX1_goesRight_6 : decode cX1_goesRight 6 = .ok (.getfield 10, 3) := by decide +kernel
theorem dX1_goesRight_9 : decode cX1_goesRight 9 = .ok (.getfield 124, 3) := by decide +kernel
theorem dX1_goesRight_12 : decode cX1_goesRight 12 = .ok (.iload_n 1, 1) := by decide +kernel
theorem dX1_goesRight_13 : decode cX1_goesRight 13 = .ok (.iaload, 1) := by decide +kernel
theorem dX1_goesRight_14 : decode cX1_goesRight 14 = .ok (.ifCond .le 7, 3) := by decide +kernel
theorem dX1_goesRight_17 : decode cX1_goesRight 17 = .ok (.iconst 1, 1) := by decide +kernel
theorem dX1_goesRight_18 : decode cX1_goesRight 18 = .ok (.goto 4, 3) := by decide +kernel
theorem dX1_goesRight_21 : decode cX1_goesRight 21 = .ok (.iconst 0, 1) := by decide +kernel
theorem dX1_goesRight_22 : decode cX1_goesRight 22 = .ok (.ireturn, 1) := by decide +kernel
theorem dX1_turnsOf_0 : decode cX1_turnsOf 0 = .ok (.aload_n 0, 1) := by decide +kernel
theorem dX1_turnsOf_1 : decode cX1_turnsOf 1 = .ok (.iload_n 1, 1) := by decide +kernel
theorem dX1_turnsOf_2 : decode cX1_turnsOf 2 = .ok (.invokevirtual 115, 3) := by decide +kernel
theorem dX1_turnsOf_5 : decode cX1_turnsOf 5 = .ok (.aload_n 0, 1) := by decide +kernel
theorem dX1_turnsOf_6 : decode cX1_turnsOf 6 = .ok (.getfield 10, 3) := by decide +kernel
theorem dX1_turnsOf_9 : decode cX1_turnsOf 9 = .ok (.getfield 127, 3) := by decide +kernel
theorem dX1_turnsOf_12 : decode cX1_turnsOf 12 = .ok (.iload_n 1, 1) := by decide +kernel
theorem dX1_turnsOf_13 : decode cX1_turnsOf 13 = .ok (.iaload, 1) := by decide +kernel
theorem dX1_turnsOf_14 : decode cX1_turnsOf 14 = .ok (.ireturn, 1) := by decide +kernel
theorem dX1_nextWall_0 : decode cX1_nextWall 0 = .ok (.iload_n 1, 1) := by decide +kernel
theorem dX1_nextWall_1 : decode cX1_nextWall 1 = .ok (.invokestatic 19, 3) := by decide +kernel
theorem dX1_nextWall_4 : decode cX1_nextWall 4 = .ok (.iload_n 2, 1) := by decide +kernel
theorem dX1_nextWall_5 : decode cX1_nextWall 5 = .ok (.ifCond .eq 7, 3) := by decide +kernel
theorem dX1_nextWall_8 : decode cX1_nextWall 8 = .ok (.iconst 1, 1) := by decide +kernel
theorem dX1_nextWall_9 : decode cX1_nextWall 9 = .ok (.goto 4, 3) := by decide +kernel
theorem dX1_nextWall_12 : decode cX1_nextWall 12 = .ok (.iconst (-1), 1) := by decide +kernel
theorem dX1_nextWall_13 : decode cX1_nextWall 13 = .ok (.istore_n 3, 1) := by decide +kernel
theorem dX1_nextWall_14 : decode cX1_nextWall 14 = .ok (.iload_n 1, 1) := by decide +kernel
theorem dX1_nextWall_15 : decode cX1_nextWall 15 = .ok (.iload_n 3, 1) := by decide +kernel
theorem dX1_nextWall_16 : decode cX1_nextWall 16 = .ok (.iadd, 1) := by decide +kernel
theorem dX1_nextWall_17 : decode cX1_nextWall 17 = .ok (.istore 4, 2) := by decide +kernel
theorem dX1_nextWall_19 : decode cX1_nextWall 19 = .ok (.iload 4, 2) := by decide +kernel
theorem dX1_nextWall_21 : decode cX1_nextWall 21 = .ok (.invokestatic 130, 3) := by decide +kernel
theorem dX1_nextWall_24 : decode cX1_nextWall 24 = .ok (.ifCond .eq 29, 3) := by decide +kernel
theorem dX1_nextWall_27 : decode cX1_nextWall 27 = .ok (.aload_n 0, 1) := by decide +kernel
theorem dX1_nextWall_28 : decode cX1_nextWall 28 = .ok (.getfield 10, 3) := by decide +kernel
theorem dX1_nextWall_31 : decode cX1_nextWall 31 = .ok (.getfield 37, 3) := by decide +kernel
theorem dX1_nextWall_34 : decode cX1_nextWall 34 = .ok (.iload 4, 2) := by decide +kernel
theorem dX1_nextWall_36 : decode cX1_nextWall 36 = .ok (.iaload, 1) := by decide +kernel
theorem dX1_nextWall_37 : decode cX1_nextWall 37 = .ok (.iconst (-1), 1) := by decide +kernel
theorem dX1_nextWall_38 : decode cX1_nextWall 38 = .ok (.if_icmp .eq 6, 3) := by decide +kernel
theorem dX1_nextWall_41 : decode cX1_nextWall 41 = .ok (.iload 4, 2) := by decide +kernel
theorem dX1_nextWall_43 : decode cX1_nextWall 43 = .ok (.ireturn, 1) := by decide +kernel
theorem dX1_nextWall_44 : decode cX1_nextWall 44 = .ok (.iload 4, 2) := by decide +kernel
theorem dX1_nextWall_46 : decode cX1_nextWall 46 = .ok (.iload_n 3, 1) := by decide +kernel
theorem dX1_nextWall_47 : decode cX1_nextWall 47 = .ok (.iadd, 1) := by decide +kernel
theorem dX1_nextWall_48 : decode cX1_nextWall 48 = .ok (.istore 4, 2) := by decide +kernel
theorem dX1_nextWall_50 : decode cX1_nextWall 50 = .ok (.goto (-31), 3) := by decide +kernel
theorem dX1_nextWall_53 : decode cX1_nextWall 53 = .ok (.iconst (-1), 1) := by decide +kernel
theorem dX1_nextWall_54 : decode cX1_nextWall 54 = .ok (.ireturn, 1) := by decide +kernel
theorem dX1_beatsUntilGone_0 : decode cX1_beatsUntilGone 0 = .ok (.aload_n 0, 1) := by decide +kernel
theorem dX1_beatsUntilGone_1 : decode cX1_beatsUntilGone 1 = .ok (.iload_n 1, 1) := by decide +kernel
theorem dX1_beatsUntilGone_2 : decode cX1_beatsUntilGone 2 = .ok (.invokevirtual 115, 3) := by decide +kernel
theorem dX1_beatsUntilGone_5 : decode cX1_beatsUntilGone 5 = .ok (.aload_n 0, 1) := by decide +kernel
theorem dX1_beatsUntilGone_6 : decode cX1_beatsUntilGone 6 = .ok (.getfield 16, 3) := by decide +kernel
theorem dX1_beatsUntilGone_9 : decode cX1_beatsUntilGone 9 = .ok (.aload_n 0, 1) := by decide +kernel
theorem dX1_beatsUntilGone_10 : decode cX1_beatsUntilGone 10 = .ok (.getfield 10, 3) := by decide +kernel
theorem dX1_beatsUntilGone_13 : decode cX1_beatsUntilGone 13 = .ok (.invokevirtual 134, 3) := by decide +kernel
theorem dX1_beatsUntilGone_16 : decode cX1_beatsUntilGone 16 = .ok (.iconst 0, 1) := by decide +kernel
theorem dX1_beatsUntilGone_17 : decode cX1_beatsUntilGone 17 = .ok (.istore_n 2, 1) := by decide +kernel
theorem dX1_beatsUntilGone_18 : decode cX1_beatsUntilGone 18 = .ok (.iload_n 2, 1) := by decide +kernel
theorem dX1_beatsUntilGone_19 : decode cX1_beatsUntilGone 19 = .ok (.bipush 99, 2) := by decide +kernel
theorem dX1_beatsUntilGone_21 : decode cX1_beatsUntilGone 21 = .ok (.if_icmp .ge 28, 3) := by decide +kernel
theorem dX1_beatsUntilGone_24 : decode cX1_beatsUntilGone 24 = .ok (.aload_n 0, 1) := by decide +kernel
theorem dX1_beatsUntilGone_25 : decode cX1_beatsUntilGone 25 = .ok (.getfield 16, 3) := by decide +kernel
theorem dX1_beatsUntilGone_28 : decode cX1_beatsUntilGone 28 = .ok (.getfield 118, 3) := by decide +kernel
theorem dX1_beatsUntilGone_31 : decode cX1_beatsUntilGone 31 = .ok (.iload_n 1, 1) := by decide +kernel
theorem dX1_beatsUntilGone_32 : decode cX1_beatsUntilGone 32 = .ok (.iaload, 1) := by decide +kernel
theorem dX1_beatsUntilGone_33 : decode cX1_beatsUntilGone 33 = .ok (.ifCond .le 16, 3) := by decide +kernel
theorem dX1_beatsUntilGone_36 : decode cX1_beatsUntilGone 36 = .ok (.aload_n 0, 1) := by decide +kernel
theorem dX1_beatsUntilGone_37 : decode cX1_beatsUntilGone 37 = .ok (.getfield 16, 3) := by decide +kernel
theorem dX1_beatsUntilGone_40 : decode cX1_beatsUntilGone 40 = .ok (.invokevirtual 91, 3) := by decide +kernel
theorem dX1_beatsUntilGone_43 : decode cX1_beatsUntilGone 43 = .ok (.iinc 2 1, 3) := by decide +kernel
theorem dX1_beatsUntilGone_46 : decode cX1_beatsUntilGone 46 = .ok (.goto (-28), 3) := by decide +kernel
theorem dX1_beatsUntilGone_49 : decode cX1_beatsUntilGone 49 = .ok (.iload_n 2, 1) := by decide +kernel
theorem dX1_beatsUntilGone_50 : decode cX1_beatsUntilGone 50 = .ok (.ireturn, 1) := by decide +kernel
theorem dX1_beatsUntilQuiet_0 : decode cX1_beatsUntilQuiet 0 = .ok (.aload_n 0, 1) := by decide +kernel
theorem dX1_beatsUntilQuiet_1 : decode cX1_beatsUntilQuiet 1 = .ok (.getfield 16, 3) := by decide +kernel
theorem dX1_beatsUntilQuiet_4 : decode cX1_beatsUntilQuiet 4 = .ok (.aload_n 0, 1) := by decide +kernel
theorem dX1_beatsUntilQuiet_5 : decode cX1_beatsUntilQuiet 5 = .ok (.getfield 10, 3) := by decide +kernel
theorem dX1_beatsUntilQuiet_8 : decode cX1_beatsUntilQuiet 8 = .ok (.invokevirtual 134, 3) := by decide +kernel
theorem dX1_beatsUntilQuiet_11 : decode cX1_beatsUntilQuiet 11 = .ok (.iconst 0, 1) := by decide +kernel
theorem dX1_beatsUntilQuiet_12 : decode cX1_beatsUntilQuiet 12 = .ok (.istore_n 1, 1) := by decide +kernel
theorem dX1_beatsUntilQuiet_13 : decode cX1_beatsUntilQuiet 13 = .ok (.iload_n 1, 1) := by decide +kernel
theorem dX1_beatsUntilQuiet_14 : decode cX1_beatsUntilQuiet 14 = .ok (.bipush 99, 2) := by decide +kernel
theorem dX1_beatsUntilQuiet_16 : decode cX1_beatsUntilQuiet 16 = .ok (.if_icmp .ge 26, 3) := by decide +kernel
theorem dX1_beatsUntilQuiet_19 : decode cX1_beatsUntilQuiet 19 = .ok (.aload_n 0, 1) := by decide +kernel
theorem dX1_beatsUntilQuiet_20 : decode cX1_beatsUntilQuiet 20 = .ok (.getfield 16, 3) := by decide +kernel
theorem dX1_beatsUntilQuiet_23 : decode cX1_beatsUntilQuiet 23 = .ok (.getfield 71, 3) := by decide +kernel
theorem dX1_beatsUntilQuiet_26 : decode cX1_beatsUntilQuiet 26 = .ok (.ifCond .le 16, 3) := by decide +kernel
theorem dX1_beatsUntilQuiet_29 : decode cX1_beatsUntilQuiet 29 = .ok (.aload_n 0, 1) := by decide +kernel
theorem dX1_beatsUntilQuiet_30 : decode cX1_beatsUntilQuiet 30 = .ok (.getfield 16, 3) := by decide +kernel
theorem dX1_beatsUntilQuiet_33 : decode cX1_beatsUntilQuiet 33 = .ok (.invokevirtual 91, 3) := by decide +kernel
theorem dX1_beatsUntilQuiet_36 : decode cX1_beatsUntilQuiet 36 = .ok (.iinc 1 1, 3) := by decide +kernel
theorem dX1_beatsUntilQuiet_39 : decode cX1_beatsUntilQuiet 39 = .ok (.goto (-26), 3) := by decide +kernel
theorem dX1_beatsUntilQuiet_42 : decode cX1_beatsUntilQuiet 42 = .ok (.iload_n 1, 1) := by decide +kernel
theorem dX1_beatsUntilQuiet_43 : decode cX1_beatsUntilQuiet 43 = .ok (.ireturn, 1) := by decide +kernel
theorem dX1_coinsIn_0 : decode cX1_coinsIn 0 = .ok (.iload_n 1, 1) := by decide +kernel
theorem dX1_coinsIn_1 : decode cX1_coinsIn 1 = .ok (.invokestatic 23, 3) := by decide +kernel
theorem dX1_coinsIn_4 : decode cX1_coinsIn 4 = .ok (.iload_n 2, 1) := by decide +kernel
theorem dX1_coinsIn_5 : decode cX1_coinsIn 5 = .ok (.invokestatic 85, 3) := by decide +kernel
theorem dX1_coinsIn_8 : decode cX1_coinsIn 8 = .ok (.aload_n 0, 1) := by decide +kernel
theorem dX1_coinsIn_9 : decode cX1_coinsIn 9 = .ok (.getfield 16, 3) := by decide +kernel
theorem dX1_coinsIn_12 : decode cX1_coinsIn 12 = .ok (.aload_n 0, 1) := by decide +kernel
theorem dX1_coinsIn_13 : decode cX1_coinsIn 13 = .ok (.getfield 10, 3) := by decide +kernel
theorem dX1_coinsIn_16 : decode cX1_coinsIn 16 = .ok (.invokevirtual 134, 3) := by decide +kernel
theorem dX1_coinsIn_19 : decode cX1_coinsIn 19 = .ok (.iconst 0, 1) := by decide +kernel
theorem dX1_coinsIn_20 : decode cX1_coinsIn 20 = .ok (.istore_n 3, 1) := by decide +kernel
theorem dX1_coinsIn_21 : decode cX1_coinsIn 21 = .ok (.iload_n 3, 1) := by decide +kernel
theorem dX1_coinsIn_22 : decode cX1_coinsIn 22 = .ok (.iload_n 2, 1) := by decide +kernel
theorem dX1_coinsIn_23 : decode cX1_coinsIn 23 = .ok (.if_icmp .ge 26, 3) := by decide +kernel
theorem dX1_coinsIn_26 : decode cX1_coinsIn 26 = .ok (.aload_n 0, 1) := by decide +kernel
theorem dX1_coinsIn_27 : decode cX1_coinsIn 27 = .ok (.getfield 16, 3) := by decide +kernel
theorem dX1_coinsIn_30 : decode cX1_coinsIn 30 = .ok (.getfield 71, 3) := by decide +kernel
theorem dX1_coinsIn_33 : decode cX1_coinsIn 33 = .ok (.ifCond .le 16, 3) := by decide +kernel
theorem dX1_coinsIn_36 : decode cX1_coinsIn 36 = .ok (.aload_n 0, 1) := by decide +kernel
theorem dX1_coinsIn_37 : decode cX1_coinsIn 37 = .ok (.getfield 16, 3) := by decide +kernel
theorem dX1_coinsIn_40 : decode cX1_coinsIn 40 = .ok (.invokevirtual 91, 3) := by decide +kernel
theorem dX1_coinsIn_43 : decode cX1_coinsIn 43 = .ok (.iinc 3 1, 3) := by decide +kernel
theorem dX1_coinsIn_46 : decode cX1_coinsIn 46 = .ok (.goto (-25), 3) := by decide +kernel
theorem dX1_coinsIn_49 : decode cX1_coinsIn 49 = .ok (.aload_n 0, 1) := by decide +kernel
theorem dX1_coinsIn_50 : decode cX1_coinsIn 50 = .ok (.getfield 16, 3) := by decide +kernel
theorem dX1_coinsIn_53 : decode cX1_coinsIn 53 = .ok (.getfield 88, 3) := by decide +kernel
theorem dX1_coinsIn_56 : decode cX1_coinsIn 56 = .ok (.iload_n 1, 1) := by decide +kernel
theorem dX1_coinsIn_57 : decode cX1_coinsIn 57 = .ok (.iaload, 1) := by decide +kernel
theorem dX1_coinsIn_58 : decode cX1_coinsIn 58 = .ok (.aload_n 0, 1) := by decide +kernel
theorem dX1_coinsIn_59 : decode cX1_coinsIn 59 = .ok (.getfield 10, 3) := by decide +kernel
theorem dX1_coinsIn_62 : decode cX1_coinsIn 62 = .ok (.getfield 88, 3) := by decide +kernel
theorem dX1_coinsIn_65 : decode cX1_coinsIn 65 = .ok (.iload_n 1, 1) := by decide +kernel
theorem dX1_coinsIn_66 : decode cX1_coinsIn 66 = .ok (.iaload, 1) := by decide +kernel
theorem dX1_coinsIn_67 : decode cX1_coinsIn 67 = .ok (.isub, 1) := by decide +kernel
theorem dX1_coinsIn_68 : decode cX1_coinsIn 68 = .ok (.ireturn, 1) := by decide +kernel
theorem dX1_loudestOn_0 : decode cX1_loudestOn 0 = .ok (.iload_n 1, 1) := by decide +kernel
theorem dX1_loudestOn_1 : decode cX1_loudestOn 1 = .ok (.invokestatic 19, 3) := by decide +kernel
theorem dX1_loudestOn_4 : decode cX1_loudestOn 4 = .ok (.iload_n 2, 1) := by decide +kernel
theorem dX1_loudestOn_5 : decode cX1_loudestOn 5 = .ok (.invokestatic 85, 3) := by decide +kernel
theorem dX1_loudestOn_8 : decode cX1_loudestOn 8 = .ok (.aload_n 0, 1) := by decide +kernel
theorem dX1_loudestOn_9 : decode cX1_loudestOn 9 = .ok (.getfield 16, 3) := by decide +kernel
theorem dX1_loudestOn_12 : decode cX1_loudestOn 12 = .ok (.aload_n 0, 1) := by decide +kernel
theorem dX1_loudestOn_13 : decode cX1_loudestOn 13 = .ok (.getfield 10, 3) := by decide +kernel
theorem dX1_loudestOn_16 : decode cX1_loudestOn 16 = .ok (.invokevirtual 134, 3) := by decide +kernel
theorem dX1_loudestOn_19 : decode cX1_loudestOn 19 = .ok (.iconst 0, 1) := by decide +kernel
theorem dX1_loudestOn_20 : decode cX1_loudestOn 20 = .ok (.istore_n 3, 1) := by decide +kernel
theorem dX1_loudestOn_21 : decode cX1_loudestOn 21 = .ok (.iconst 0, 1) := by decide +kernel
theorem dX1_loudestOn_22 : decode cX1_loudestOn 22 = .ok (.istore 4, 2) := by decide +kernel
theorem dX1_loudestOn_24 : decode cX1_loudestOn 24 = .ok (.iload 4, 2) := by decide +kernel
theorem dX1_loudestOn_26 : decode cX1_loudestOn 26 = .ok (.iload_n 2, 1) := by decide +kernel
theorem dX1_loudestOn_27 : decode cX1_loudestOn 27 = .ok (.if_icmp .ge 39, 3) := by decide +kernel
theorem dX1_loudestOn_30 : decode cX1_loudestOn 30 = .ok (.aload_n 0, 1) := by decide +kernel
theorem dX1_loudestOn_31 : decode cX1_loudestOn 31 = .ok (.getfield 16, 3) := by decide +kernel
theorem dX1_loudestOn_34 : decode cX1_loudestOn 34 = .ok (.getfield 71, 3) := by decide +kernel
theorem dX1_loudestOn_37 : decode cX1_loudestOn 37 = .ok (.ifCond .le 29, 3) := by decide +kernel
theorem dX1_loudestOn_40 : decode cX1_loudestOn 40 = .ok (.aload_n 0, 1) := by decide +kernel
theorem dX1_loudestOn_41 : decode cX1_loudestOn 41 = .ok (.getfield 16, 3) := by decide +kernel
theorem dX1_loudestOn_44 : decode cX1_loudestOn 44 = .ok (.invokevirtual 91, 3) := by decide +kernel
theorem dX1_loudestOn_47 : decode cX1_loudestOn 47 = .ok (.iload_n 3, 1) := by decide +kernel
theorem dX1_loudestOn_48 : decode cX1_loudestOn 48 = .ok (.aload_n 0, 1) := by decide +kernel
theorem dX1_loudestOn_49 : decode cX1_loudestOn 49 = .ok (.getfield 16, 3) := by decide +kernel
theorem dX1_loudestOn_52 : decode cX1_loudestOn 52 = .ok (.iload_n 1, 1) := by decide +kernel
theorem dX1_loudestOn_53 : decode cX1_loudestOn 53 = .ok (.invokevirtual 100, 3) := by decide +kernel
theorem dX1_loudestOn_56 : decode cX1_loudestOn 56 = .ok (.invokestatic 138, 3) := by decide +kernel
theorem dX1_loudestOn_59 : decode cX1_loudestOn 59 = .ok (.istore_n 3, 1) := by decide +kernel
theorem dX1_loudestOn_60 : decode cX1_loudestOn 60 = .ok (.iinc 4 1, 3) := by decide +kernel
theorem dX1_loudestOn_63 : decode cX1_loudestOn 63 = .ok (.goto (-39), 3) := by decide +kernel
theorem dX1_loudestOn_66 : decode cX1_loudestOn 66 = .ok (.iload_n 3, 1) := by decide +kernel
theorem dX1_loudestOn_67 : decode cX1_loudestOn 67 = .ok (.ireturn, 1) := by decide +kernel
theorem dX1_loudnessWanted_0 : decode cX1_loudnessWanted 0 = .ok (.iload_n 1, 1) := by decide +kernel
theorem dX1_loudnessWanted_1 : decode cX1_loudnessWanted 1 = .ok (.invokestatic 19, 3) := by decide +kernel
theorem dX1_loudnessWanted_4 : decode cX1_loudnessWanted 4 = .ok (.iload_n 3, 1) := by decide +kernel
theorem dX1_loudnessWanted_5 : decode cX1_loudnessWanted 5 = .ok (.invokestatic 19, 3) := by decide +kernel
theorem dX1_loudnessWanted_8 : decode cX1_loudnessWanted 8 = .ok (.aload_n 0, 1) := by decide +kernel
theorem dX1_loudnessWanted_9 : decode cX1_loudnessWanted 9 = .ok (.getfield 16, 3) := by decide +kernel
theorem dX1_loudnessWanted_12 : decode cX1_loudnessWanted 12 = .ok (.aload_n 0, 1) := by decide +kernel
theorem dX1_loudnessWanted_13 : decode cX1_loudnessWanted 13 = .ok (.getfield 10, 3) := by decide +kernel
theorem dX1_loudnessWanted_16 : decode cX1_loudnessWanted 16 = .ok (.invokevirtual 134, 3) := by decide +kernel
theorem dX1_loudnessWanted_19 : decode cX1_loudnessWanted 19 = .ok (.aload_n 0, 1) := by decide +kernel
theorem dX1_loudnessWanted_20 : decode cX1_loudnessWanted 20 = .ok (.getfield 16, 3) := by decide +kernel
theorem dX1_loudnessWanted_23 : decode cX1_loudnessWanted 23 = .ok (.iload_n 1, 1) := by decide +kernel
theorem dX1_loudnessWanted_24 : decode cX1_loudnessWanted 24 = .ok (.iload_n 2, 1) := by decide +kernel
theorem dX1_loudnessWanted_25 : decode cX1_loudnessWanted 25 = .ok (.bipush 99, 2) := by decide +kernel
theorem dX1_loudnessWanted_27 : decode cX1_loudnessWanted 27 = .ok (.invokevirtual 144, 3) := by decide +kernel
theorem dX1_loudnessWanted_30 : decode cX1_loudnessWanted 30 = .ok (.iconst 0, 1) := by decide +kernel
theorem dX1_loudnessWanted_31 : decode cX1_loudnessWanted 31 = .ok (.istore 4, 2) := by decide +kernel
theorem dX1_loudnessWanted_33 : decode cX1_loudnessWanted 33 = .ok (.iload 4, 2) := by decide +kernel
theorem dX1_loudnessWanted_35 : decode cX1_loudnessWanted 35 = .ok (.bipush 99, 2) := by decide +kernel
theorem dX1_loudnessWanted_37 : decode cX1_loudnessWanted 37 = .ok (.if_icmp .ge 57, 3) := by decide +kernel
theorem dX1_loudnessWanted_40 : decode cX1_loudnessWanted 40 = .ok (.aload_n 0, 1) := by decide +kernel
theorem dX1_loudnessWanted_41 : decode cX1_loudnessWanted 41 = .ok (.getfield 16, 3) := by decide +kernel
theorem dX1_loudnessWanted_44 : decode cX1_loudnessWanted 44 = .ok (.getfield 118, 3) := by decide +kernel
theorem dX1_loudnessWanted_47 : decode cX1_loudnessWanted 47 = .ok (.iconst 0, 1) := by decide +kernel
theorem dX1_loudnessWanted_48 : decode cX1_loudnessWanted 48 = .ok (.iaload, 1) := by decide +kernel
theorem dX1_loudnessWanted_49 : decode cX1_loudnessWanted 49 = .ok (.ifCond .le 45, 3) := by decide +kernel
theorem dX1_loudnessWanted_52 : decode cX1_loudnessWanted 52 = .ok (.aload_n 0, 1) := by decide +kernel
theorem dX1_loudnessWanted_53 : decode cX1_loudnessWanted 53 = .ok (.getfield 16, 3) := by decide +kernel
theorem dX1_loudnessWanted_56 : decode cX1_loudnessWanted 56 = .ok (.iconst 0, 1) := by decide +kernel
theorem dX1_loudnessWanted_57 : decode cX1_loudnessWanted 57 = .ok (.invokevirtual 148, 3) := by decide +kernel
theorem dX1_loudnessWanted_60 : decode cX1_loudnessWanted 60 = .ok (.aload_n 0, 1) := by decide +kernel
theorem dX1_loudnessWanted_61 : decode cX1_loudnessWanted 61 = .ok (.getfield 16, 3) := by decide +kernel
theorem dX1_loudnessWanted_64 : decode cX1_loudnessWanted 64 = .ok (.getfield 121, 3) := by decide +kernel
theorem dX1_loudnessWanted_67 : decode cX1_loudnessWanted 67 = .ok (.iconst 0, 1) := by decide +kernel
theorem dX1_loudnessWanted_68 : decode cX1_loudnessWanted 68 = .ok (.iaload, 1) := by decide +kernel
theorem dX1_loudnessWanted_69 : decode cX1_loudnessWanted 69 = .ok (.iload_n 3, 1) := by decide +kernel
theorem dX1_loudnessWanted_70 : decode cX1_loudnessWanted 70 = .ok (.if_icmp .ne 18, 3) := by decide +kernel
theorem dX1_loudnessWanted_73 : decode cX1_loudnessWanted 73 = .ok (.bipush 99, 2) := by decide +kernel
theorem dX1_loudnessWanted_75 : decode cX1_loudnessWanted 75 = .ok (.aload_n 0, 1) := by decide +kernel
theorem dX1_loudnessWanted_76 : decode cX1_loudnessWanted 76 = .ok (.getfield 16, 3) := by decide +kernel
theorem dX1_loudnessWanted_79 : decode cX1_loudnessWanted 79 = .ok (.getfield 118, 3) := by decide +kernel
theorem dX1_loudnessWanted_82 : decode cX1_loudnessWanted 82 = .ok (.iconst 0, 1) := by decide +kernel
theorem dX1_loudnessWanted_83 : decode cX1_loudnessWanted 83 = .ok (.iaload, 1) := by decide +kernel
theorem dX1_loudnessWanted_84 : decode cX1_loudnessWanted 84 = .ok (.isub, 1) := by decide +kernel
theorem dX1_loudnessWanted_85 : decode cX1_loudnessWanted 85 = .ok (.iconst 1, 1) := by decide +kernel
theorem dX1_loudnessWanted_86 : decode cX1_loudnessWanted 86 = .ok (.iadd, 1) := by decide +kernel
theorem dX1_loudnessWanted_87 : decode cX1_loudnessWanted 87 = .ok (.ireturn, 1) := by decide +kernel
theorem dX1_loudnessWanted_88 : decode cX1_loudnessWanted 88 = .ok (.iinc 4 1, 3) := by decide +kernel
theorem dX1_loudnessWanted_91 : decode cX1_loudnessWanted 91 = .ok (.goto (-58), 3) := by decide +kernel
theorem dX1_loudnessWanted_94 : decode cX1_loudnessWanted 94 = .ok (.iconst (-1), 1) := by decide +kernel
theorem dX1_loudnessWanted_95 : decode cX1_loudnessWanted 95 = .ok (.ireturn, 1) := by decide +kernel
theorem dX1_bestStone_0 : decode cX1_bestStone 0 = .ok (.iload_n 1, 1) := by decide +kernel
theorem dX1_bestStone_1 : decode cX1_bestStone 1 = .ok (.invokestatic 65, 3) := by decide +kernel
theorem dX1_bestStone_4 : decode cX1_bestStone 4 = .ok (.aload_n 0, 1) := by decide +kernel
theorem dX1_bestStone_5 : decode cX1_bestStone 5 = .ok (.getfield 16, 3) := by decide +kernel
theorem dX1_bestStone_8 : decode cX1_bestStone 8 = .ok (.aload_n 0, 1) := by decide +kernel
theorem dX1_bestStone_9 : decode cX1_bestStone 9 = .ok (.getfield 10, 3) := by decide +kernel
theorem dX1_bestStone_12 : decode cX1_bestStone 12 = .ok (.invokevirtual 134, 3) := by decide +kernel
theorem dX1_bestStone_15 : decode cX1_bestStone 15 = .ok (.iconst 0, 1) := by decide +kernel
theorem dX1_bestStone_16 : decode cX1_bestStone 16 = .ok (.istore_n 2, 1) := by decide +kernel
theorem dX1_bestStone_17 : decode cX1_bestStone 17 = .ok (.iconst 0, 1) := by decide +kernel
theorem dX1_bestStone_18 : decode cX1_bestStone 18 = .ok (.istore_n 3, 1) := by decide +kernel
theorem dX1_bestStone_19 : decode cX1_bestStone 19 = .ok (.iconst 0, 1) := by decide +kernel
theorem dX1_bestStone_20 : decode cX1_bestStone 20 = .ok (.istore 4, 2) := by decide +kernel
theorem dX1_bestStone_22 : decode cX1_bestStone 22 = .ok (.iload 4, 2) := by decide +kernel
theorem dX1_bestStone_24 : decode cX1_bestStone 24 = .ok (.bipush 32, 2) := by decide +kernel
theorem dX1_bestStone_26 : decode cX1_bestStone 26 = .ok (.if_icmp .ge 30, 3) := by decide +kernel
theorem dX1_bestStone_29 : decode cX1_bestStone 29 = .ok (.aload_n 0, 1) := by decide +kernel
theorem dX1_bestStone_30 : decode cX1_bestStone 30 = .ok (.iload 4, 2) := by decide +kernel
theorem dX1_bestStone_32 : decode cX1_bestStone 32 = .ok (.iload_n 1, 1) := by decide +kernel
theorem dX1_bestStone_33 : decode cX1_bestStone 33 = .ok (.invokevirtual 151, 3) := by decide +kernel
theorem dX1_bestStone_36 : decode cX1_bestStone 36 = .ok (.istore 5, 2) := by decide +kernel
theorem dX1_bestStone_38 : decode cX1_bestStone 38 = .ok (.iload 5, 2) := by decide +kernel
theorem dX1_bestStone_40 : decode cX1_bestStone 40 = .ok (.iload_n 3, 1) := by decide +kernel
theorem dX1_bestStone_41 : decode cX1_bestStone 41 = .ok (.if_icmp .le 9, 3) := by decide +kernel
theorem dX1_bestStone_44 : decode cX1_bestStone 44 = .ok (.iload 5, 2) := by decide +kernel
theorem dX1_bestStone_46 : decode cX1_bestStone 46 = .ok (.istore_n 3, 1) := by decide +kernel
theorem dX1_bestStone_47 : decode cX1_bestStone 47 = .ok (.iload 4, 2) := by decide +kernel
theorem dX1_bestStone_49 : decode cX1_bestStone 49 = .ok (.istore_n 2, 1) := by decide +kernel
theorem dX1_bestStone_50 : decode cX1_bestStone 50 = .ok (.iinc 4 1, 3) := by decide +kernel
theorem dX1_bestStone_53 : decode cX1_bestStone 53 = .ok (.goto (-31), 3) := by decide +kernel
theorem dX1_bestStone_56 : decode cX1_bestStone 56 = .ok (.iload_n 2, 1) := by decide +kernel
theorem dX1_bestStone_57 : decode cX1_bestStone 57 = .ok (.ireturn, 1) := by decide +kernel
theorem dX1_meanLoudness_0 : decode cX1_meanLoudness 0 = .ok (.iconst 0, 1) := by decide +kernel
theorem dX1_meanLoudness_1 : decode cX1_meanLoudness 1 = .ok (.istore_n 1, 1) := by decide +kernel
theorem dX1_meanLoudness_2 : decode cX1_meanLoudness 2 = .ok (.iconst 0, 1) := by decide +kernel
theorem dX1_meanLoudness_3 : decode cX1_meanLoudness 3 = .ok (.istore_n 2, 1) := by decide +kernel
theorem dX1_meanLoudness_4 : decode cX1_meanLoudness 4 = .ok (.iload_n 2, 1) := by decide +kernel
theorem dX1_meanLoudness_5 : decode cX1_meanLoudness 5 = .ok (.aload_n 0, 1) := by decide +kernel
theorem dX1_meanLoudness_6 : decode cX1_meanLoudness 6 = .ok (.getfield 10, 3) := by decide +kernel
theorem dX1_meanLoudness_9 : decode cX1_meanLoudness 9 = .ok (.getfield 68, 3) := by decide +kernel
theorem dX1_meanLoudness_12 : decode cX1_meanLoudness 12 = .ok (.if_icmp .ge 21, 3) := by decide +kernel
theorem dX1_meanLoudness_15 : decode cX1_meanLoudness 15 = .ok (.iload_n 1, 1) := by decide +kernel
theorem dX1_meanLoudness_16 : decode cX1_meanLoudness 16 = .ok (.aload_n 0, 1) := by decide +kernel
theorem dX1_meanLoudness_17 : decode cX1_meanLoudness 17 = .ok (.getfield 10, 3) := by decide +kernel
theorem dX1_meanLoudness_20 : decode cX1_meanLoudness 20 = .ok (.getfield 118, 3) := by decide +kernel
theorem dX1_meanLoudness_23 : decode cX1_meanLoudness 23 = .ok (.iload_n 2, 1) := by decide +kernel
theorem dX1_meanLoudness_24 : decode cX1_meanLoudness 24 = .ok (.iaload, 1) := by decide +kernel
theorem dX1_meanLoudness_25 : decode cX1_meanLoudness 25 = .ok (.iadd, 1) := by decide +kernel
theorem dX1_meanLoudness_26 : decode cX1_meanLoudness 26 = .ok (.istore_n 1, 1) := by decide +kernel
theorem dX1_meanLoudness_27 : decode cX1_meanLoudness 27 = .ok (.iinc 2 1, 3) := by decide +kernel
theorem dX1_meanLoudness_30 : decode cX1_meanLoudness 30 = .ok (.goto (-26), 3) := by decide +kernel
theorem dX1_meanLoudness_33 : decode cX1_meanLoudness 33 = .ok (.aload_n 0, 1) := by decide +kernel
theorem dX1_meanLoudness_34 : decode cX1_meanLoudness 34 = .ok (.getfield 10, 3) := by decide +kernel
theorem dX1_meanLoudness_37 : decode cX1_meanLoudness 37 = .ok (.getfield 71, 3) := by decide +kernel
theorem dX1_meanLoudness_40 : decode cX1_meanLoudness 40 = .ok (.ifCond .ne 7, 3) := by decide +kernel
theorem dX1_meanLoudness_43 : decode cX1_meanLoudness 43 = .ok (.dconst 0, 1) := by decide +kernel
theorem dX1_meanLoudness_44 : decode cX1_meanLoudness 44 = .ok (.goto 14, 3) := by decide +kernel
theorem dX1_meanLoudness_47 : decode cX1_meanLoudness 47 = .ok (.iload_n 1, 1) := by decide +kernel
theorem dX1_meanLoudness_48 : decode cX1_meanLoudness 48 = .ok (.i2d, 1) := by decide +kernel
theorem dX1_meanLoudness_49 : decode cX1_meanLoudness 49 = .ok (.aload_n 0, 1) := by decide +kernel
theorem dX1_meanLoudness_50 : decode cX1_meanLoudness 50 = .ok (.getfield 10, 3) := by decide +kernel
theorem dX1_meanLoudness_53 : decode cX1_meanLoudness 53 = .ok (.getfield 71, 3) := by decide +kernel
theorem dX1_meanLoudness_56 : decode cX1_meanLoudness 56 = .ok (.i2d, 1) := by decide +kernel
theorem dX1_meanLoudness_57 : decode cX1_meanLoudness 57 = .ok (.ddiv, 1) := by decide +kernel
theorem dX1_meanLoudness_58 : decode cX1_meanLoudness 58 = .ok (.dreturn, 1) := by decide +kernel
theorem dX1_digest_0 : decode cX1_digest 0 = .ok (.aload_n 0, 1) := by decide +kernel
theorem dX1_digest_1 : decode cX1_digest 1 = .ok (.ldc2_w 154, 3) := by decide +kernel
theorem dX1_digest_4 : decode cX1_digest 4 = .ok (.invokevirtual 156, 3) := by decide +kernel
theorem dX1_digest_7 : decode cX1_digest 7 = .ok (.lstore_n 1, 1) := by decide +kernel
theorem dX1_digest_8 : decode cX1_digest 8 = .ok (.aload_n 0, 1) := by decide +kernel
theorem dX1_digest_9 : decode cX1_digest 9 = .ok (.lload_n 1, 1) := by decide +kernel
theorem dX1_digest_10 : decode cX1_digest 10 = .ok (.invokevirtual 160, 3) := by decide +kernel
theorem dX1_digest_13 : decode cX1_digest 13 = .ok (.lstore_n 1, 1) := by decide +kernel
theorem dX1_digest_14 : decode cX1_digest 14 = .ok (.aload_n 0, 1) := by decide +kernel
theorem dX1_digest_15 : decode cX1_digest 15 = .ok (.lload_n 1, 1) := by decide +kernel
theorem dX1_digest_16 : decode cX1_digest 16 = .ok (.invokevirtual 163, 3) := by decide +kernel
theorem dX1_digest_19 : decode cX1_digest 19 = .ok (.lstore_n 1, 1) := by decide +kernel
theorem dX1_digest_20 : decode cX1_digest 20 = .ok (.aload_n 0, 1) := by decide +kernel
theorem dX1_digest_21 : decode cX1_digest 21 = .ok (.lload_n 1, 1) := by decide +kernel
theorem dX1_digest_22 : decode cX1_digest 22 = .ok (.invokevirtual 166, 3) := by decide +kernel
theorem dX1_digest_25 : decode cX1_digest 25 = .ok (.lstore_n 1, 1) := by decide +kernel
theorem dX1_digest_26 : decode cX1_digest 26 = .ok (.aload_n 0, 1) := by decide +kernel
theorem dX1_digest_27 : decode cX1_digest 27 = .ok (.lload_n 1, 1) := by decide +kernel
theorem dX1_digest_28 : decode cX1_digest 28 = .ok (.invokevirtual 169, 3) := by decide +kernel
theorem dX1_digest_31 : decode cX1_digest 31 = .ok (.lreturn, 1) := by decide +kernel
theorem dX1_digestCounts_0 : decode cX1_digestCounts 0 = .ok (.lload_n 1, 1) := by decide +kernel
theorem dX1_digestCounts_1 : decode cX1_digestCounts 1 = .ok (.aload_n 0, 1) := by decide +kernel
theorem dX1_digestCounts_2 : decode cX1_digestCounts 2 = .ok (.invokevirtual 172, 3) := by decide +kernel
theorem dX1_digestCounts_5 : decode cX1_digestCounts 5 = .ok (.invokestatic 176, 3) := by decide +kernel
theorem dX1_digestCounts_8 : decode cX1_digestCounts 8 = .ok (.lstore_n 3, 1) := by decide +kernel
theorem dX1_digestCounts_9 : decode cX1_digestCounts 9 = .ok (.lload_n 3, 1) := by decide +kernel
theorem dX1_digestCounts_10 : decode cX1_digestCounts 10 = .ok (.aload_n 0, 1) := by decide +kernel
theorem dX1_digestCounts_11 : decode cX1_digestCounts 11 = .ok (.invokevirtual 180, 3) := by decide +kernel
theorem dX1_digestCounts_14 : decode cX1_digestCounts 14 = .ok (.invokestatic 176, 3) := by decide +kernel
theorem dX1_digestCounts_17 : decode cX1_digestCounts 17 = .ok (.lstore_n 3, 1) := by decide +kernel
theorem dX1_digestCounts_18 : decode cX1_digestCounts 18 = .ok (.lload_n 3, 1) := by decide +kernel
theorem dX1_digestCounts_19 : decode cX1_digestCounts 19 = .ok (.aload_n 0, 1) := by decide +kernel
theorem dX1_digestCounts_20 : decode cX1_digestCounts 20 = .ok (.invokevirtual 183, 3) := by decide +kernel
theorem dX1_digestCounts_23 : decode cX1_digestCounts 23 = .ok (.invokestatic 176, 3) := by decide +kernel
theorem dX1_digestCounts_26 : decode cX1_digestCounts 26 = .ok (.lstore_n 3, 1) := by decide +kernel
theorem dX1_digestCounts_27 : decode cX1_digestCounts 27 = .ok (.lload_n 3, 1) := by decide +kernel
theorem dX1_digestCounts_28 : decode cX1_digestCounts 28 = .ok (.aload_n 0, 1) := by decide +kernel
theorem dX1_digestCounts_29 : decode cX1_digestCounts 29 = .ok (.invokevirtual 186, 3) := by decide +kernel
theorem dX1_digestCounts_32 : decode cX1_digestCounts 32 = .ok (.invokestatic 176, 3) := by decide +kernel
theorem dX1_digestCounts_35 : decode cX1_digestCounts 35 = .ok (.lstore_n 3, 1) := by decide +kernel
theorem dX1_digestCounts_36 : decode cX1_digestCounts 36 = .ok (.lload_n 3, 1) := by decide +kernel
theorem dX1_digestCounts_37 : decode cX1_digestCounts 37 = .ok (.aload_n 0, 1) := by decide +kernel
theorem dX1_digestCounts_38 : decode cX1_digestCounts 38 = .ok (.invokevirtual 189, 3) := by decide +kernel
theorem dX1_digestCounts_41 : decode cX1_digestCounts 41 = .ok (.invokestatic 176, 3) := by decide +kernel
theorem dX1_digestCounts_44 : decode cX1_digestCounts 44 = .ok (.lstore_n 3, 1) := by decide +kernel
theorem dX1_digestCounts_45 : decode cX1_digestCounts 45 = .ok (.lload_n 3, 1) := by decide +kernel
theorem dX1_digestCounts_46 : decode cX1_digestCounts 46 = .ok (.aload_n 0, 1) := by decide +kernel
theorem dX1_digestCounts_47 : decode cX1_digestCounts 47 = .ok (.invokevirtual 192, 3) := by decide +kernel
theorem dX1_digestCounts_50 : decode cX1_digestCounts 50 = .ok (.invokestatic 176, 3) := by decide +kernel
theorem dX1_digestCounts_53 : decode cX1_digestCounts 53 = .ok (.lstore_n 3, 1) := by decide +kernel
theorem dX1_digestCounts_54 : decode cX1_digestCounts 54 = .ok (.lload_n 3, 1) := by decide +kernel
theorem dX1_digestCounts_55 : decode cX1_digestCounts 55 = .ok (.aload_n 0, 1) := by decide +kernel
theorem dX1_digestCounts_56 : decode cX1_digestCounts 56 = .ok (.invokevirtual 195, 3) := by decide +kernel
theorem dX1_digestCounts_59 : decode cX1_digestCounts 59 = .ok (.invokestatic 176, 3) := by decide +kernel
theorem dX1_digestCounts_62 : decode cX1_digestCounts 62 = .ok (.lstore_n 3, 1) := by decide +kernel
theorem dX1_digestCounts_63 : decode cX1_digestCounts 63 = .ok (.lload_n 3, 1) := by decide +kernel
theorem dX1_digestCounts_64 : decode cX1_digestCounts 64 = .ok (.aload_n 0, 1) := by decide +kernel
theorem dX1_digestCounts_65 : decode cX1_digestCounts 65 = .ok (.bipush 30, 2) := by decide +kernel
theorem dX1_digestCounts_67 : decode cX1_digestCounts 67 = .ok (.invokevirtual 198, 3) := by decide +kernel
theorem dX1_digestCounts_70 : decode cX1_digestCounts 70 = .ok (.invokestatic 176, 3) := by decide +kernel
theorem dX1_digestCounts_73 : decode cX1_digestCounts 73 = .ok (.lreturn, 1) := by decide +kernel
theorem dX1_digestEchoes_0 : decode cX1_digestEchoes 0 = .ok (.lload_n 1, 1) := by decide +kernel
theorem dX1_digestEchoes_1 : decode cX1_digestEchoes 1 = .ok (.lstore_n 3, 1) := by decide +kernel
theorem dX1_digestEchoes_2 : decode cX1_digestEchoes 2 = .ok (.iconst 0, 1) := by decide +kernel
theorem dX1_digestEchoes_3 : decode cX1_digestEchoes 3 = .ok (.istore 5, 2) := by decide +kernel
theorem dX1_digestEchoes_5 : decode cX1_digestEchoes 5 = .ok (.iload 5, 2) := by decide +kernel
theorem dX1_digestEchoes_7 : decode cX1_digestEchoes 7 = .ok (.iconst 2, 1) := by decide +kernel
theorem dX1_digestEchoes_8 : decode cX1_digestEchoes 8 = .ok (.if_icmp .ge 55, 3) := by decide +kernel
theorem dX1_digestEchoes_11 : decode cX1_digestEchoes 11 = .ok (.lload_n 3, 1) := by decide +kernel
theorem dX1_digestEchoes_12 : decode cX1_digestEchoes 12 = .ok (.aload_n 0, 1) := by decide +kernel
theorem dX1_digestEchoes_13 : decode cX1_digestEchoes 13 = .ok (.iload 5, 2) := by decide +kernel
theorem dX1_digestEchoes_15 : decode cX1_digestEchoes 15 = .ok (.invokevirtual 201, 3) := by decide +kernel
theorem dX1_digestEchoes_18 : decode cX1_digestEchoes 18 = .ok (.invokestatic 176, 3) := by decide +kernel
theorem dX1_digestEchoes_21 : decode cX1_digestEchoes 21 = .ok (.lstore_n 3, 1) := by decide +kernel
theorem dX1_digestEchoes_22 : decode cX1_digestEchoes 22 = .ok (.lload_n 3, 1) := by decide +kernel
theorem dX1_digestEchoes_23 : decode cX1_digestEchoes 23 = .ok (.aload_n 0, 1) := by decide +kernel
theorem dX1_digestEchoes_24 : decode cX1_digestEchoes 24 = .ok (.iload 5, 2) := by decide +kernel
theorem dX1_digestEchoes_26 : decode cX1_digestEchoes 26 = .ok (.invokevirtual 204, 3) := by decide +kernel
theorem dX1_digestEchoes_29 : decode cX1_digestEchoes 29 = .ok (.invokestatic 176, 3) := by decide +kernel
theorem dX1_digestEchoes_32 : decode cX1_digestEchoes 32 = .ok (.lstore_n 3, 1) := by decide +kernel
theorem dX1_digestEchoes_33 : decode cX1_digestEchoes 33 = .ok (.lload_n 3, 1) := by decide +kernel
theorem dX1_digestEchoes_34 : decode cX1_digestEchoes 34 = .ok (.aload_n 0, 1) := by decide +kernel
theorem dX1_digestEchoes_35 : decode cX1_digestEchoes 35 = .ok (.iload 5, 2) := by decide +kernel
theorem dX1_digestEchoes_37 : decode cX1_digestEchoes 37 = .ok (.invokevirtual 207, 3) := by decide +kernel
theorem dX1_digestEchoes_40 : decode cX1_digestEchoes 40 = .ok (.invokestatic 176, 3) := by decide +kernel
theorem dX1_digestEchoes_43 : decode cX1_digestEchoes 43 = .ok (.lstore_n 3, 1) := by decide +kernel
theorem dX1_digestEchoes_44 : decode cX1_digestEchoes 44 = .ok (.lload_n 3, 1) := by decide +kernel
theorem dX1_digestEchoes_45 : decode cX1_digestEchoes 45 = .ok (.aload_n 0, 1) := by decide +kernel
theorem dX1_digestEchoes_46 : decode cX1_digestEchoes 46 = .ok (.iload 5, 2) := by decide +kernel
theorem dX1_digestEchoes_48 : decode cX1_digestEchoes 48 = .ok (.bipush 20, 2) := by decide +kernel
theorem dX1_digestEchoes_50 : decode cX1_digestEchoes 50 = .ok (.invokevirtual 210, 3) := by decide +kernel
theorem dX1_digestEchoes_53 : decode cX1_digestEchoes 53 = .ok (.invokestatic 176, 3) := by decide +kernel
theorem dX1_digestEchoes_56 : decode cX1_digestEchoes 56 = .ok (.lstore_n 3, 1) := by decide +kernel
theorem dX1_digestEchoes_57 : decode cX1_digestEchoes 57 = .ok (.iinc 5 1, 3) := by decide +kernel
theorem dX1_digestEchoes_60 : decode cX1_digestEchoes 60 = .ok (.goto (-55), 3) := by decide +kernel
theorem dX1_digestEchoes_63 : decode cX1_digestEchoes 63 = .ok (.lload_n 3, 1) := by decide +kernel
theorem dX1_digestEchoes_64 : decode cX1_digestEchoes 64 = .ok (.lreturn, 1) := by decide +kernel
theorem dX1_digestWalls_0 : decode cX1_digestWalls 0 = .ok (.lload_n 1, 1) := by decide +kernel
theorem dX1_digestWalls_1 : decode cX1_digestWalls 1 = .ok (.lstore_n 3, 1) := by decide +kernel
theorem dX1_digestWalls_2 : decode cX1_digestWalls 2 = .ok (.iconst 0, 1) := by decide +kernel
theorem dX1_digestWalls_3 : decode cX1_digestWalls 3 = .ok (.istore 5, 2) := by decide +kernel
theorem dX1_digestWalls_5 : decode cX1_digestWalls 5 = .ok (.iload 5, 2) := by decide +kernel
theorem dX1_digestWalls_7 : decode cX1_digestWalls 7 = .ok (.aload_n 0, 1) := by decide +kernel
theorem dX1_digestWalls_8 : decode cX1_digestWalls 8 = .ok (.getfield 10, 3) := by decide +kernel
theorem dX1_digestWalls_11 : decode cX1_digestWalls 11 = .ok (.getfield 33, 3) := by decide +kernel
theorem dX1_digestWalls_14 : decode cX1_digestWalls 14 = .ok (.if_icmp .ge 42, 3) := by decide +kernel
theorem dX1_digestWalls_17 : decode cX1_digestWalls 17 = .ok (.lload_n 3, 1) := by decide +kernel
theorem dX1_digestWalls_18 : decode cX1_digestWalls 18 = .ok (.aload_n 0, 1) := by decide +kernel
theorem dX1_digestWalls_19 : decode cX1_digestWalls 19 = .ok (.iload 5, 2) := by decide +kernel
theorem dX1_digestWalls_21 : decode cX1_digestWalls 21 = .ok (.invokevirtual 213, 3) := by decide +kernel
theorem dX1_digestWalls_24 : decode cX1_digestWalls 24 = .ok (.invokestatic 176, 3) := by decide +kernel
theorem dX1_digestWalls_27 : decode cX1_digestWalls 27 = .ok (.lstore_n 3, 1) := by decide +kernel
theorem dX1_digestWalls_28 : decode cX1_digestWalls 28 = .ok (.lload_n 3, 1) := by decide +kernel
theorem dX1_digestWalls_29 : decode cX1_digestWalls 29 = .ok (.aload_n 0, 1) := by decide +kernel
theorem dX1_digestWalls_30 : decode cX1_digestWalls 30 = .ok (.iload 5, 2) := by decide +kernel
theorem dX1_digestWalls_32 : decode cX1_digestWalls 32 = .ok (.invokevirtual 216, 3) := by decide +kernel
theorem dX1_digestWalls_35 : decode cX1_digestWalls 35 = .ok (.invokestatic 176, 3) := by decide +kernel
theorem dX1_digestWalls_38 : decode cX1_digestWalls 38 = .ok (.lstore_n 3, 1) := by decide +kernel
theorem dX1_digestWalls_39 : decode cX1_digestWalls 39 = .ok (.lload_n 3, 1) := by decide +kernel
theorem dX1_digestWalls_40 : decode cX1_digestWalls 40 = .ok (.aload_n 0, 1) := by decide +kernel
theorem dX1_digestWalls_41 : decode cX1_digestWalls 41 = .ok (.iload 5, 2) := by decide +kernel
theorem dX1_digestWalls_43 : decode cX1_digestWalls 43 = .ok (.invokevirtual 219, 3) := by decide +kernel
theorem dX1_digestWalls_46 : decode cX1_digestWalls 46 = .ok (.invokestatic 176, 3) := by decide +kernel
theorem dX1_digestWalls_49 : decode cX1_digestWalls 49 = .ok (.lstore_n 3, 1) := by decide +kernel
theorem dX1_digestWalls_50 : decode cX1_digestWalls 50 = .ok (.iinc 5 1, 3) := by decide +kernel
theorem dX1_digestWalls_53 : decode cX1_digestWalls 53 = .ok (.goto (-48), 3) := by decide +kernel
theorem dX1_digestWalls_56 : decode cX1_digestWalls 56 = .ok (.lload_n 3, 1) := by decide +kernel
theorem dX1_digestWalls_57 : decode cX1_digestWalls 57 = .ok (.lreturn, 1) := by decide +kernel
theorem dX1_digestShouts_0 : decode cX1_digestShouts 0 = .ok (.lload_n 1, 1) := by decide +kernel
theorem dX1_digestShouts_1 : decode cX1_digestShouts 1 = .ok (.lstore_n 3, 1) := by decide +kernel
theorem dX1_digestShouts_2 : decode cX1_digestShouts 2 = .ok (.iconst 0, 1) := by decide +kernel
theorem dX1_digestShouts_3 : decode cX1_digestShouts 3 = .ok (.istore 5, 2) := by decide +kernel
theorem dX1_digestShouts_5 : decode cX1_digestShouts 5 = .ok (.iload 5, 2) := by decide +kernel
theorem dX1_digestShouts_7 : decode cX1_digestShouts 7 = .ok (.aload_n 0, 1) := by decide +kernel
theorem dX1_digestShouts_8 : decode cX1_digestShouts 8 = .ok (.getfield 10, 3) := by decide +kernel
theorem dX1_digestShouts_11 : decode cX1_digestShouts 11 = .ok (.getfield 68, 3) := by decide +kernel
theorem dX1_digestShouts_14 : decode cX1_digestShouts 14 = .ok (.if_icmp .ge 61, 3) := by decide +kernel
theorem dX1_digestShouts_17 : decode cX1_digestShouts 17 = .ok (.lload_n 3, 1) := by decide +kernel
theorem dX1_digestShouts_18 : decode cX1_digestShouts 18 = .ok (.aload_n 0, 1) := by decide +kernel
theorem dX1_digestShouts_19 : decode cX1_digestShouts 19 = .ok (.iload 5, 2) := by decide +kernel
theorem dX1_digestShouts_21 : decode cX1_digestShouts 21 = .ok (.invokevirtual 222, 3) := by decide +kernel
theorem dX1_digestShouts_24 : decode cX1_digestShouts 24 = .ok (.invokestatic 176, 3) := by decide +kernel
theorem dX1_digestShouts_27 : decode cX1_digestShouts 27 = .ok (.lstore_n 3, 1) := by decide +kernel
theorem dX1_digestShouts_28 : decode cX1_digestShouts 28 = .ok (.lload_n 3, 1) := by decide +kernel
theorem dX1_digestShouts_29 : decode cX1_digestShouts 29 = .ok (.aload_n 0, 1) := by decide +kernel
theorem dX1_digestShouts_30 : decode cX1_digestShouts 30 = .ok (.iload 5, 2) := by decide +kernel
theorem dX1_digestShouts_32 : decode cX1_digestShouts 32 = .ok (.invokevirtual 225, 3) := by decide +kernel
theorem dX1_digestShouts_35 : decode cX1_digestShouts 35 = .ok (.invokestatic 176, 3) := by decide +kernel
theorem dX1_digestShouts_38 : decode cX1_digestShouts 38 = .ok (.lstore_n 3, 1) := by decide +kernel
theorem dX1_digestShouts_39 : decode cX1_digestShouts 39 = .ok (.lload_n 3, 1) := by decide +kernel
theorem dX1_digestShouts_40 : decode cX1_digestShouts 40 = .ok (.aload_n 0, 1) := by decide +kernel
theorem dX1_digestShouts_41 : decode cX1_digestShouts 41 = .ok (.iload 5, 2) := by decide +kernel
theorem dX1_digestShouts_43 : decode cX1_digestShouts 43 = .ok (.invokevirtual 228, 3) := by decide +kernel
theorem dX1_digestShouts_46 : decode cX1_digestShouts 46 = .ok (.ifCond .eq 7, 3) := by decide +kernel
theorem dX1_digestShouts_49 : decode cX1_digestShouts 49 = .ok (.iconst 1, 1) := by decide +kernel
theorem dX1_digestShouts_50 : decode cX1_digestShouts 50 = .ok (.goto 4, 3) := by decide +kernel
theorem dX1_digestShouts_53 : decode cX1_digestShouts 53 = .ok (.iconst 0, 1) := by decide +kernel
theorem dX1_digestShouts_54 : decode cX1_digestShouts 54 = .ok (.invokestatic 176, 3) := by decide +kernel
theorem dX1_digestShouts_57 : decode cX1_digestShouts 57 = .ok (.lstore_n 3, 1) := by decide +kernel
theorem dX1_digestShouts_58 : decode cX1_digestShouts 58 = .ok (.lload_n 3, 1) := by decide +kernel
theorem dX1_digestShouts_59 : decode cX1_digestShouts 59 = .ok (.aload_n 0, 1) := by decide +kernel
theorem dX1_digestShouts_60 : decode cX1_digestShouts 60 = .ok (.iload 5, 2) := by decide +kernel
theorem dX1_digestShouts_62 : decode cX1_digestShouts 62 = .ok (.invokevirtual 231, 3) := by decide +kernel
theorem dX1_digestShouts_65 : decode cX1_digestShouts 65 = .ok (.invokestatic 176, 3) := by decide +kernel
theorem dX1_digestShouts_68 : decode cX1_digestShouts 68 = .ok (.lstore_n 3, 1) := by decide +kernel
theorem dX1_digestShouts_69 : decode cX1_digestShouts 69 = .ok (.iinc 5 1, 3) := by decide +kernel
theorem dX1_digestShouts_72 : decode cX1_digestShouts 72 = .ok (.goto (-67), 3) := by decide +kernel
theorem dX1_digestShouts_75 : decode cX1_digestShouts 75 = .ok (.lload_n 3, 1) := by decide +kernel
theorem dX1_digestShouts_76 : decode cX1_digestShouts 76 = .ok (.lreturn, 1) := by decide +kernel
theorem dX1_digestStones_0 : decode cX1_digestStones 0 = .ok (.lload_n 1, 1) := by decide +kernel
theorem dX1_digestStones_1 : decode cX1_digestStones 1 = .ok (.lstore_n 3, 1) := by decide +kernel
theorem dX1_digestStones_2 : decode cX1_digestStones 2 = .ok (.iconst 0, 1) := by decide +kernel
theorem dX1_digestStones_3 : decode cX1_digestStones 3 = .ok (.istore 5, 2) := by decide +kernel
theorem dX1_digestStones_5 : decode cX1_digestStones 5 = .ok (.iload 5, 2) := by decide +kernel
theorem dX1_digestStones_7 : decode cX1_digestStones 7 = .ok (.bipush 32, 2) := by decide +kernel
theorem dX1_digestStones_9 : decode cX1_digestStones 9 = .ok (.if_icmp .ge 43, 3) := by decide +kernel
theorem dX1_digestStones_12 : decode cX1_digestStones 12 = .ok (.lload_n 3, 1) := by decide +kernel
theorem dX1_digestStones_13 : decode cX1_digestStones 13 = .ok (.aload_n 0, 1) := by decide +kernel
theorem dX1_digestStones_14 : decode cX1_digestStones 14 = .ok (.iload 5, 2) := by decide +kernel
theorem dX1_digestStones_16 : decode cX1_digestStones 16 = .ok (.invokevirtual 234, 3) := by decide +kernel
theorem dX1_digestStones_19 : decode cX1_digestStones 19 = .ok (.invokestatic 176, 3) := by decide +kernel
theorem dX1_digestStones_22 : decode cX1_digestStones 22 = .ok (.lstore_n 3, 1) := by decide +kernel
theorem dX1_digestStones_23 : decode cX1_digestStones 23 = .ok (.lload_n 3, 1) := by decide +kernel
theorem dX1_digestStones_24 : decode cX1_digestStones 24 = .ok (.aload_n 0, 1) := by decide +kernel
theorem dX1_digestStones_25 : decode cX1_digestStones 25 = .ok (.iload 5, 2) := by decide +kernel
theorem dX1_digestStones_27 : decode cX1_digestStones 27 = .ok (.invokevirtual 237, 3) := by decide +kernel
theorem dX1_digestStones_30 : decode cX1_digestStones 30 = .ok (.invokestatic 176, 3) := by decide +kernel
theorem dX1_digestStones_33 : decode cX1_digestStones 33 = .ok (.lstore_n 3, 1) := by decide +kernel
theorem dX1_digestStones_34 : decode cX1_digestStones 34 = .ok (.lload_n 3, 1) := by decide +kernel
theorem dX1_digestStones_35 : decode cX1_digestStones 35 = .ok (.aload_n 0, 1) := by decide +kernel
theorem dX1_digestStones_36 : decode cX1_digestStones 36 = .ok (.iload 5, 2) := by decide +kernel
theorem dX1_digestStones_38 : decode cX1_digestStones 38 = .ok (.iconst 1, 1) := by decide +kernel
theorem dX1_digestStones_39 : decode cX1_digestStones 39 = .ok (.invokevirtual 240, 3) := by decide +kernel
theorem dX1_digestStones_42 : decode cX1_digestStones 42 = .ok (.invokestatic 176, 3) := by decide +kernel
theorem dX1_digestStones_45 : decode cX1_digestStones 45 = .ok (.lstore_n 3, 1) := by decide +kernel
theorem dX1_digestStones_46 : decode cX1_digestStones 46 = .ok (.iinc 5 1, 3) := by decide +kernel
theorem dX1_digestStones_49 : decode cX1_digestStones 49 = .ok (.goto (-44), 3) := by decide +kernel
theorem dX1_digestStones_52 : decode cX1_digestStones 52 = .ok (.lload_n 3, 1) := by decide +kernel
theorem dX1_digestStones_53 : decode cX1_digestStones 53 = .ok (.lreturn, 1) := by decide +kernel
theorem dX1_mix_0 : decode cX1_mix 0 = .ok (.lload_n 0, 1) := by decide +kernel
theorem dX1_mix_1 : decode cX1_mix 1 = .ok (.ldc2_w 244, 3) := by decide +kernel
theorem dX1_mix_4 : decode cX1_mix 4 = .ok (.lmul, 1) := by decide +kernel
theorem dX1_mix_5 : decode cX1_mix 5 = .ok (.iload_n 2, 1) := by decide +kernel
theorem dX1_mix_6 : decode cX1_mix 6 = .ok (.i2l, 1) := by decide +kernel
theorem dX1_mix_7 : decode cX1_mix 7 = .ok (.ladd, 1) := by decide +kernel
theorem dX1_mix_8 : decode cX1_mix 8 = .ok (.lreturn, 1) := by decide +kernel
theorem dX1_turnsAlone_0 : decode cX1_turnsAlone 0 = .ok (.aload_n 0, 1) := by decide +kernel
theorem dX1_turnsAlone_1 : decode cX1_turnsAlone 1 = .ok (.getfield 16, 3) := by decide +kernel
theorem dX1_turnsAlone_4 : decode cX1_turnsAlone 4 = .ok (.iload_n 1, 1) := by decide +kernel
theorem dX1_turnsAlone_5 : decode cX1_turnsAlone 5 = .ok (.iconst 1, 1) := by decide +kernel
theorem dX1_turnsAlone_6 : decode cX1_turnsAlone 6 = .ok (.iload_n 2, 1) := by decide +kernel
theorem dX1_turnsAlone_7 : decode cX1_turnsAlone 7 = .ok (.invokevirtual 144, 3) := by decide +kernel
theorem dX1_turnsAlone_10 : decode cX1_turnsAlone 10 = .ok (.iconst 0, 1) := by decide +kernel
theorem dX1_turnsAlone_11 : decode cX1_turnsAlone 11 = .ok (.istore_n 3, 1) := by decide +kernel
theorem dX1_turnsAlone_12 : decode cX1_turnsAlone 12 = .ok (.iload_n 3, 1) := by decide +kernel
theorem dX1_turnsAlone_13 : decode cX1_turnsAlone 13 = .ok (.bipush 99, 2) := by decide +kernel
theorem dX1_turnsAlone_15 : decode cX1_turnsAlone 15 = .ok (.if_icmp .ge 29, 3) := by decide +kernel
theorem dX1_turnsAlone_18 : decode cX1_turnsAlone 18 = .ok (.aload_n 0, 1) := by decide +kernel
theorem dX1_turnsAlone_19 : decode cX1_turnsAlone 19 = .ok (.getfield 16, 3) := by decide +kernel
theorem dX1_turnsAlone_22 : decode cX1_turnsAlone 22 = .ok (.getfield 118, 3) := by decide +kernel
theorem dX1_turnsAlone_25 : decode cX1_turnsAlone 25 = .ok (.iconst 0, 1) := by decide +kernel
theorem dX1_turnsAlone_26 : decode cX1_turnsAlone 26 = .ok (.iaload, 1) := by decide +kernel
theorem dX1_turnsAlone_27 : decode cX1_turnsAlone 27 = .ok (.ifCond .le 17, 3) := by decide +kernel
theorem dX1_turnsAlone_30 : decode cX1_turnsAlone 30 = .ok (.aload_n 0, 1) := by decide +kernel
theorem dX1_turnsAlone_31 : decode cX1_turnsAlone 31 = .ok (.getfield 16, 3) := by decide +kernel
theorem dX1_turnsAlone_34 : decode cX1_turnsAlone 34 = .ok (.iconst 0, 1) := by decide +kernel
theorem dX1_turnsAlone_35 : decode cX1_turnsAlone 35 = .ok (.invokevirtual 148, 3) := by decide +kernel
theorem dX1_turnsAlone_38 : decode cX1_turnsAlone 38 = .ok (.iinc 3 1, 3) := by decide +kernel
theorem dX1_turnsAlone_41 : decode cX1_turnsAlone 41 = .ok (.goto (-29), 3) := by decide +kernel
theorem dX1_turnsAlone_44 : decode cX1_turnsAlone 44 = .ok (.aload_n 0, 1) := by decide +kernel
theorem dX1_turnsAlone_45 : decode cX1_turnsAlone 45 = .ok (.getfield 16, 3) := by decide +kernel
theorem dX1_turnsAlone_48 : decode cX1_turnsAlone 48 = .ok (.getfield 127, 3) := by decide +kernel
theorem dX1_turnsAlone_51 : decode cX1_turnsAlone 51 = .ok (.iconst 0, 1) := by decide +kernel
theorem dX1_turnsAlone_52 : decode cX1_turnsAlone 52 = .ok (.iaload, 1) := by decide +kernel
theorem dX1_turnsAlone_53 : decode cX1_turnsAlone 53 = .ok (.ireturn, 1) := by decide +kernel
theorem dX1_isStone_0 : decode cX1_isStone 0 = .ok (.iload_n 0, 1) := by decide +kernel
theorem dX1_isStone_1 : decode cX1_isStone 1 = .ok (.ifCond .lt 13, 3) := by decide +kernel
theorem dX1_isStone_4 : decode cX1_isStone 4 = .ok (.iload_n 0, 1) := by decide +kernel
theorem dX1_isStone_5 : decode cX1_isStone 5 = .ok (.bipush 32, 2) := by decide +kernel
theorem dX1_isStone_7 : decode cX1_isStone 7 = .ok (.if_icmp .ge 7, 3) := by decide +kernel
theorem dX1_isStone_10 : decode cX1_isStone 10 = .ok (.iconst 1, 1) := by decide +kernel
theorem dX1_isStone_11 : decode cX1_isStone 11 = .ok (.goto 4, 3) := by decide +kernel
theorem dX1_isStone_14 : decode cX1_isStone 14 = .ok (.iconst 0, 1) := by decide +kernel
theorem dX1_isStone_15 : decode cX1_isStone 15 = .ok (.ireturn, 1) := by decide +kernel
theorem dX1_otherEcho_0 : decode cX1_otherEcho 0 = .ok (.iload_n 0, 1) := by decide +kernel
theorem dX1_otherEcho_1 : decode cX1_otherEcho 1 = .ok (.ifCond .ne 7, 3) := by decide +kernel
theorem dX1_otherEcho_4 : decode cX1_otherEcho 4 = .ok (.iconst 1, 1) := by decide +kernel
theorem dX1_otherEcho_5 : decode cX1_otherEcho 5 = .ok (.goto 4, 3) := by decide +kernel
theorem dX1_otherEcho_8 : decode cX1_otherEcho 8 = .ok (.iconst 0, 1) := by decide +kernel
theorem dX1_otherEcho_9 : decode cX1_otherEcho 9 = .ok (.ireturn, 1) := by decide +kernel
theorem dX1_needStone_0 : decode cX1_needStone 0 = .ok (.iload_n 0, 1) := by decide +kernel
theorem dX1_needStone_1 : decode cX1_needStone 1 = .ok (.invokestatic 130, 3) := by decide +kernel
theorem dX1_needStone_4 : decode cX1_needStone 4 = .ok (.ifCond .ne 13, 3) := by decide +kernel
theorem dX1_needStone_7 : decode cX1_needStone 7 = .ok (.new 246, 3) := by decide +kernel
theorem dX1_needStone_10 : decode cX1_needStone 10 = .ok (.dup, 1) := by decide +kernel
theorem dX1_needStone_11 : decode cX1_needStone 11 = .ok (.ldc 248, 2) := by decide +kernel
theorem dX1_needStone_13 : decode cX1_needStone 13 = .ok (.invokespecial 250, 3) := by decide +kernel
theorem dX1_needStone_16 : decode cX1_needStone 16 = .ok (.athrow, 1) := by decide +kernel
theorem dX1_needStone_17 : decode cX1_needStone 17 = .ok (.return_, 1) := by decide +kernel
theorem dX1_needEcho_0 : decode cX1_needEcho 0 = .ok (.iload_n 0, 1) := by decide +kernel
theorem dX1_needEcho_1 : decode cX1_needEcho 1 = .ok (.ifCond .lt 8, 3) := by decide +kernel
theorem dX1_needEcho_4 : decode cX1_needEcho 4 = .ok (.iload_n 0, 1) := by decide +kernel
theorem dX1_needEcho_5 : decode cX1_needEcho 5 = .ok (.iconst 2, 1) := by decide +kernel
theorem dX1_needEcho_6 : decode cX1_needEcho 6 = .ok (.if_icmp .lt 13, 3) := by decide +kernel
theorem dX1_needEcho_9 : decode cX1_needEcho 9 = .ok (.new 246, 3) := by decide +kernel
theorem dX1_needEcho_12 : decode cX1_needEcho 12 = .ok (.dup, 1) := by decide +kernel
theorem dX1_needEcho_13 : decode cX1_needEcho 13 = .ok (.ldc 251, 2) := by decide +kernel
theorem dX1_needEcho_15 : decode cX1_needEcho 15 = .ok (.invokespecial 250, 3) := by decide +kernel
theorem dX1_needEcho_18 : decode cX1_needEcho 18 = .ok (.athrow, 1) := by decide +kernel
theorem dX1_needEcho_19 : decode cX1_needEcho 19 = .ok (.return_, 1) := by decide +kernel
theorem dX1_needWall_0 : decode cX1_needWall 0 = .ok (.iload_n 1, 1) := by decide +kernel
theorem dX1_needWall_1 : decode cX1_needWall 1 = .ok (.ifCond .lt 14, 3) := by decide +kernel
theorem dX1_needWall_4 : decode cX1_needWall 4 = .ok (.iload_n 1, 1) := by decide +kernel
theorem dX1_needWall_5 : decode cX1_needWall 5 = .ok (.aload_n 0, 1) := by decide +kernel
theorem dX1_needWall_6 : decode cX1_needWall 6 = .ok (.getfield 10, 3) := by decide +kernel
theorem dX1_needWall_9 : decode cX1_needWall 9 = .ok (.getfield 33, 3) := by decide +kernel
theorem dX1_needWall_12 : decode cX1_needWall 12 = .ok (.if_icmp .lt 13, 3) := by decide +kernel
theorem dX1_needWall_15 : decode cX1_needWall 15 = .ok (.new 246, 3) := by decide +kernel
theorem dX1_needWall_18 : decode cX1_needWall 18 = .ok (.dup, 1) := by decide +kernel
theorem dX1_needWall_19 : decode cX1_needWall 19 = .ok (.ldc 253, 2) := by decide +kernel
theorem dX1_needWall_21 : decode cX1_needWall 21 = .ok (.invokespecial 250, 3) := by decide +kernel
theorem dX1_needWall_24 : decode cX1_needWall 24 = .ok (.athrow, 1) := by decide +kernel
theorem dX1_needWall_25 : decode cX1_needWall 25 = .ok (.return_, 1) := by decide +kernel
theorem dX1_needShout_0 : decode cX1_needShout 0 = .ok (.iload_n 1, 1) := by decide +kernel
theorem dX1_needShout_1 : decode cX1_needShout 1 = .ok (.ifCond .lt 14, 3) := by decide +kernel
theorem dX1_needShout_4 : decode cX1_needShout 4 = .ok (.iload_n 1, 1) := by decide +kernel
theorem dX1_needShout_5 : decode cX1_needShout 5 = .ok (.aload_n 0, 1) := by decide +kernel
theorem dX1_needShout_6 : decode cX1_needShout 6 = .ok (.getfield 10, 3) := by decide +kernel
theorem dX1_needShout_9 : decode cX1_needShout 9 = .ok (.getfield 68, 3) := by decide +kernel
theorem dX1_needShout_12 : decode cX1_needShout 12 = .ok (.if_icmp .lt 13, 3) := by decide +kernel
theorem dX1_needShout_15 : decode cX1_needShout 15 = .ok (.new 246, 3) := by decide +kernel
theorem dX1_needShout_18 : decode cX1_needShout 18 = .ok (.dup, 1) := by decide +kernel
theorem dX1_needShout_19 : decode cX1_needShout 19 = .ok (.ldc 255, 2) := by decide +kernel
theorem dX1_needShout_21 : decode cX1_needShout 21 = .ok (.invokespecial 250, 3) := by decide +kernel
theorem dX1_needShout_24 : decode cX1_needShout 24 = .ok (.athrow, 1) := by decide +kernel
theorem dX1_needShout_25 : decode cX1_needShout 25 = .ok (.return_, 1) := by decide +kernel
theorem dX1_needLoud_0 : decode cX1_needLoud 0 = .ok (.iload_n 0, 1) := by decide +kernel
theorem dX1_needLoud_1 : decode cX1_needLoud 1 = .ok (.iconst 1, 1) := by decide +kernel
theorem dX1_needLoud_2 : decode cX1_needLoud 2 = .ok (.if_icmp .lt 9, 3) := by decide +kernel
theorem dX1_needLoud_5 : decode cX1_needLoud 5 = .ok (.iload_n 0, 1) := by decide +kernel
theorem dX1_needLoud_6 : decode cX1_needLoud 6 = .ok (.bipush 99, 2) := by decide +kernel
theorem dX1_needLoud_8 : decode cX1_needLoud 8 = .ok (.if_icmp .le 14, 3) := by decide +kernel
theorem dX1_needLoud_11 : decode cX1_needLoud 11 = .ok (.new 26, 3) := by decide +kernel
theorem dX1_needLoud_14 : decode cX1_needLoud 14 = .ok (.dup, 1) := by decide +kernel
theorem dX1_needLoud_15 : decode cX1_needLoud 15 = .ok (.ldc_w 257, 3) := by decide +kernel
theorem dX1_needLoud_18 : decode cX1_needLoud 18 = .ok (.invokespecial 30, 3) := by decide +kernel
theorem dX1_needLoud_21 : decode cX1_needLoud 21 = .ok (.athrow, 1) := by decide +kernel
theorem dX1_needLoud_22 : decode cX1_needLoud 22 = .ok (.return_, 1) := by decide +kernel
theorem dX1_needBeats_0 : decode cX1_needBeats 0 = .ok (.iload_n 0, 1) := by decide +kernel
theorem dX1_needBeats_1 : decode cX1_needBeats 1 = .ok (.iconst 1, 1) := by decide +kernel
theorem dX1_needBeats_2 : decode cX1_needBeats 2 = .ok (.if_icmp .lt 9, 3) := by decide +kernel
theorem dX1_needBeats_5 : decode cX1_needBeats 5 = .ok (.iload_n 0, 1) := by decide +kernel
theorem dX1_needBeats_6 : decode cX1_needBeats 6 = .ok (.bipush 100, 2) := by decide +kernel
theorem dX1_needBeats_8 : decode cX1_needBeats 8 = .ok (.if_icmp .le 14, 3) := by decide +kernel
theorem dX1_needBeats_11 : decode cX1_needBeats 11 = .ok (.new 26, 3) := by decide +kernel
theorem dX1_needBeats_14 : decode cX1_needBeats 14 = .ok (.dup, 1) := by decide +kernel
theorem dX1_needBeats_15 : decode cX1_needBeats 15 = .ok (.ldc_w 259, 3) := by decide +kernel
theorem dX1_needBeats_18 : decode cX1_needBeats 18 = .ok (.invokespecial 30, 3) := by decide +kernel
theorem dX1_needBeats_21 : decode cX1_needBeats 21 = .ok (.athrow, 1) := by decide +kernel
theorem dX1_needBeats_22 : decode cX1_needBeats 22 = .ok (.return_, 1) := by decide +kernel
end
section
theorem dX2_init_0 : decode cX2_init 0 = .ok (.aload_n 0, 1) := by decide +kernel
theorem dX2_init_1 : decode cX2_init 1 = .ok (.invokespecial 3, 3) := by decide +kernel
theorem dX2_init_4 : decode cX2_init 4 = .ok (.aload_n 0, 1) := by decide +kernel
theorem dX2_init_5 : decode cX2_init 5 = .ok (.bipush 32, 2) := by decide +kernel
theorem dX2_init_7 : decode cX2_init 7 = .ok (.newarray .int, 2) := by decide +kernel
theorem dX2_init_9 : decode cX2_init 9 = .ok (.putfield 9, 3) := by decide +kernel
theorem dX2_init_12 : decode cX2_init 12 = .ok (.aload_n 0, 1) := by decide +kernel
theorem dX2_init_13 : decode cX2_init 13 = .ok (.bipush 32, 2) := by decide +kernel
theorem dX2_init_15 : decode cX2_init 15 = .ok (.newarray .int, 2) := by decide +kernel
theorem dX2_init_17 : decode cX2_init 17 = .ok (.putfield 13, 3) := by decide +kernel
theorem dX2_init_20 : decode cX2_init 20 = .ok (.aload_n 0, 1) := by decide +kernel
theorem dX2_init_21 : decode cX2_init 21 = .ok (.bipush 10, 2) := by decide +kernel
theorem dX2_init_23 : decode cX2_init 23 = .ok (.newarray .int, 2) := by decide +kernel
theorem dX2_init_25 : decode cX2_init 25 = .ok (.putfield 16, 3) := by decide +kernel
theorem dX2_init_28 : decode cX2_init 28 = .ok (.aload_n 0, 1) := by decide +kernel
theorem dX2_init_29 : decode cX2_init 29 = .ok (.bipush 10, 2) := by decide +kernel
theorem dX2_init_31 : decode cX2_init 31 = .ok (.newarray .int, 2) := by decide +kernel
theorem dX2_init_33 : decode cX2_init 33 = .ok (.putfield 19, 3) := by decide +kernel
theorem dX2_init_36 : decode cX2_init 36 = .ok (.aload_n 0, 1) := by decide +kernel
theorem dX2_init_37 : decode cX2_init 37 = .ok (.sipush 187, 3) := by decide +kernel
theorem dX2_init_40 : decode cX2_init 40 = .ok (.newarray .int, 2) := by decide +kernel
theorem dX2_init_42 : decode cX2_init 42 = .ok (.putfield 22, 3) := by decide +kernel
theorem dX2_init_45 : decode cX2_init 45 = .ok (.aload_n 0, 1) := by decide +kernel
theorem dX2_init_46 : decode cX2_init 46 = .ok (.sipush 187, 3) := by decide +kernel
theorem dX2_init_49 : decode cX2_init 49 = .ok (.newarray .int, 2) := by decide +kernel
theorem dX2_init_51 : decode cX2_init 51 = .ok (.putfield 25, 3) := by decide +kernel
theorem dX2_init_54 : decode cX2_init 54 = .ok (.aload_n 0, 1) := by decide +kernel
theorem dX2_init_55 : decode cX2_init 55 = .ok (.iconst 2, 1) := by decide +kernel
theorem dX2_init_56 : decode cX2_init 56 = .ok (.newarray .boolean, 2) := by decide +kernel
theorem dX2_init_58 : decode cX2_init 58 = .ok (.putfield 28, 3) := by decide +kernel
theorem dX2_init_61 : decode cX2_init 61 = .ok (.iconst 0, 1) := by decide +kernel
theorem dX2_init_62 : decode cX2_init 62 = .ok (.istore_n 1, 1) := by decide +kernel
theorem dX2_init_63 : decode cX2_init 63 = .ok (.iload_n 1, 1) := by decide +kernel
theorem dX2_init_64 : decode cX2_init 64 = .ok (.bipush 32, 2) := by decide +kernel
theorem dX2_init_66 : decode cX2_init 66 = .ok (.if_icmp .ge 16, 3) := by decide +kernel
theorem dX2_init_69 : decode cX2_init 69 = .ok (.aload_n 0, 1) := by decide +kernel
theorem dX2_init_70 : decode cX2_init 70 = .ok (.getfield 13, 3) := by decide +kernel
theorem dX2_init_73 : decode cX2_init 73 = .ok (.iload_n 1, 1) := by decide +kernel
theorem dX2_init_74 : decode cX2_init 74 = .ok (.iconst (-1), 1) := by decide +kernel
theorem dX2_init_75 : decode cX2_init 75 = .ok (.iastore, 1) := by decide +kernel
theorem dX2_init_76 : decode cX2_init 76 = .ok (.iinc 1 1, 3) := by decide +kernel
theorem dX2_init_79 : decode cX2_init 79 = .ok (.goto (-16), 3) := by decide +kernel
theorem dX2_init_82 : decode cX2_init 82 = .ok (.return_, 1) := by decide +kernel
theorem dX2_thrown_0 : decode cX2_thrown 0 = .ok (.aload_n 0, 1) := by decide +kernel
theorem dX2_thrown_1 : decode cX2_thrown 1 = .ok (.getfield 32, 3) := by decide +kernel
theorem dX2_thrown_4 : decode cX2_thrown 4 = .ok (.ireturn, 1) := by decide +kernel
theorem dX2_no_0 : decode cX2_no 0 = .ok (.aload_n 0, 1) := by decide +kernel
theorem dX2_no_1 : decode cX2_no 1 = .ok (.iload_n 1, 1) := by decide +kernel
theorem dX2_no_2 : decode cX2_no 2 = .ok (.putfield 32, 3) := by decide +kernel
theorem dX2_no_5 : decode cX2_no 5 = .ok (.iconst 0, 1) := by decide +kernel
theorem dX2_no_6 : decode cX2_no 6 = .ok (.ireturn, 1) := by decide +kernel
theorem dX2_ok_0 : decode cX2_ok 0 = .ok (.aload_n 0, 1) := by decide +kernel
theorem dX2_ok_1 : decode cX2_ok 1 = .ok (.iconst 0, 1) := by decide +kernel
theorem dX2_ok_2 : decode cX2_ok 2 = .ok (.putfield 32, 3) := by decide +kernel
theorem dX2_ok_5 : decode cX2_ok 5 = .ok (.iload_n 1, 1) := by decide +kernel
theorem dX2_ok_6 : decode cX2_ok 6 = .ok (.ireturn, 1) := by decide +kernel
theorem dX2_isIn_0 : decode cX2_isIn 0 = .ok (.iload_n 0, 1) := by decide +kernel
theorem dX2_isIn_1 : decode cX2_isIn 1 = .ok (.iload_n 1, 1) := by decide +kernel
theorem dX2_isIn_2 : decode cX2_isIn 2 = .ok (.if_icmp .lt 12, 3) := by decide +kernel
theorem dX2_isIn_5 : decode cX2_isIn 5 = .ok (.iload_n 0, 1) := by decide +kernel
theorem dX2_isIn_6 : decode cX2_isIn 6 = .ok (.iload_n 2, 1) := by decide +kernel
theorem dX2_isIn_7 : decode cX2_isIn 7 = .ok (.if_icmp .gt 7, 3) := by decide +kernel
theorem dX2_isIn_10 : decode cX2_isIn 10 = .ok (.iconst 1, 1) := by decide +kernel
theorem dX2_isIn_11 : decode cX2_isIn 11 = .ok (.goto 4, 3) := by decide +kernel
theorem dX2_isIn_14 : decode cX2_isIn 14 = .ok (.iconst 0, 1) := by decide +kernel
theorem dX2_isIn_15 : decode cX2_isIn 15 = .ok (.ireturn, 1) := by decide +kernel
theorem dX2_isStone_0 : decode cX2_isStone 0 = .ok (.iload_n 0, 1) := by decide +kernel
theorem dX2_isStone_1 : decode cX2_isStone 1 = .ok (.iconst 0, 1) := by decide +kernel
theorem dX2_isStone_2 : decode cX2_isStone 2 = .ok (.bipush 31, 2) := by decide +kernel
theorem dX2_isStone_4 : decode cX2_isStone 4 = .ok (.invokestatic 36, 3) := by decide +kernel
theorem dX2_isStone_7 : decode cX2_isStone 7 = .ok (.ireturn, 1) := by decide +kernel
theorem dX2_isEcho_0 : decode cX2_isEcho 0 = .ok (.iload_n 0, 1) := by decide +kernel
theorem dX2_isEcho_1 : decode cX2_isEcho 1 = .ok (.iconst 0, 1) := by decide +kernel
theorem dX2_isEcho_2 : decode cX2_isEcho 2 = .ok (.iconst 1, 1) := by decide +kernel
theorem dX2_isEcho_3 : decode cX2_isEcho 3 = .ok (.invokestatic 36, 3) := by decide +kernel
theorem dX2_isEcho_6 : decode cX2_isEcho 6 = .ok (.ireturn, 1) := by decide +kernel
theorem dX2_isWall_0 : decode cX2_isWall 0 = .ok (.iload_n 1, 1) := by decide +kernel
theorem dX2_isWall_1 : decode cX2_isWall 1 = .ok (.iconst 0, 1) := by decide +kernel
theorem dX2_isWall_2 : decode cX2_isWall 2 = .ok (.aload_n 0, 1) := by decide +kernel
theorem dX2_isWall_3 : decode cX2_isWall 3 = .ok (.getfield 40, 3) := by decide +kernel
theorem dX2_isWall_6 : decode cX2_isWall 6 = .ok (.iconst 1, 1) := by decide +kernel
theorem dX2_isWall_7 : decode cX2_isWall 7 = .ok (.isub, 1) := by decide +kernel
theorem dX2_isWall_8 : decode cX2_isWall 8 = .ok (.invokestatic 36, 3) := by decide +kernel
theorem dX2_isWall_11 : decode cX2_isWall 11 = .ok (.ireturn, 1) := by decide +kernel
theorem dX2_isShout_0 : decode cX2_isShout 0 = .ok (.iload_n 1, 1) := by decide +kernel
theorem dX2_isShout_1 : decode cX2_isShout 1 = .ok (.iconst 0, 1) := by decide +kernel
theorem dX2_isShout_2 : decode cX2_isShout 2 = .ok (.aload_n 0, 1) := by decide +kernel
theorem dX2_isShout_3 : decode cX2_isShout 3 = .ok (.getfield 43, 3) := by decide +kernel
theorem dX2_isShout_6 : decode cX2_isShout 6 = .ok (.iconst 1, 1) := by decide +kernel
theorem dX2_isShout_7 : decode cX2_isShout 7 = .ok (.isub, 1) := by decide +kernel
theorem dX2_isShout_8 : decode cX2_isShout 8 = .ok (.invokestatic 36, 3) := by decide +kernel
theorem dX2_isShout_11 : decode cX2_isShout 11 = .ok (.ireturn, 1) := by decide +kernel
theorem dX2_keep_0 : decode cX2_keep 0 = .ok (.aload_n 0, 1) := by decide +kernel
theorem dX2_keep_1 : decode cX2_keep 1 = .ok (.getfield 22, 3) := by decide +kernel
theorem dX2_keep_4 : decode cX2_keep 4 = .ok (.iconst 0, 1) := by decide +kernel
theorem dX2_keep_5 : decode cX2_keep 5 = .ok (.aload_n 0, 1) := by decide +kernel
theorem dX2_keep_6 : decode cX2_keep 6 = .ok (.getfield 25, 3) := by decide +kernel
theorem dX2_keep_9 : decode cX2_keep 9 = .ok (.iconst 0, 1) := by decide +kernel
theorem dX2_keep_10 : decode cX2_keep 10 = .ok (.sipush 187, 3) := by decide +kernel
theorem dX2_keep_13 : decode cX2_keep 13 = .ok (.invokestatic 46, 3) := by decide +kernel
theorem dX2_keep_16 : decode cX2_keep 16 = .ok (.return_, 1) := by decide +kernel
theorem dX2_bringBack_0 : decode cX2_bringBack 0 = .ok (.aload_n 0, 1) := by decide +kernel
theorem dX2_bringBack_1 : decode cX2_bringBack 1 = .ok (.getfield 25, 3) := by decide +kernel
theorem dX2_bringBack_4 : decode cX2_bringBack 4 = .ok (.iconst 0, 1) := by decide +kernel
theorem dX2_bringBack_5 : decode cX2_bringBack 5 = .ok (.aload_n 0, 1) := by decide +kernel
theorem dX2_bringBack_6 : decode cX2_bringBack 6 = .ok (.getfield 22, 3) := by decide +kernel
theorem dX2_bringBack_9 : decode cX2_bringBack 9 = .ok (.iconst 0, 1) := by decide +kernel
theorem dX2_bringBack_10 : decode cX2_bringBack 10 = .ok (.sipush 187, 3) := by decide +kernel
theorem dX2_bringBack_13 : decode cX2_bringBack 13 = .ok (.invokestatic 46, 3) := by decide +kernel
theorem dX2_bringBack_16 : decode cX2_bringBack 16 = .ok (.return_, 1) := by decide +kernel
theorem dX2_goes_0 : decode cX2_goes 0 = .ok (.aload_n 0, 1) := by decide +kernel
theorem dX2_goes_1 : decode cX2_goes 1 = .ok (.getfield 22, 3) := by decide +kernel
theorem dX2_goes_4 : decode cX2_goes 4 = .ok (.bipush 27, 2) := by decide +kernel
theorem dX2_goes_6 : decode cX2_goes 6 = .ok (.iload_n 1, 1) := by decide +kernel
theorem dX2_goes_7 : decode cX2_goes 7 = .ok (.iadd, 1) := by decide +kernel
theorem dX2_goes_8 : decode cX2_goes 8 = .ok (.iaload, 1) := by decide +kernel
theorem dX2_goes_9 : decode cX2_goes 9 = .ok (.ifCond .le 7, 3) := by decide +kernel
theorem dX2_goes_12 : decode cX2_goes 12 = .ok (.iconst 1, 1) := by decide +kernel
theorem dX2_goes_13 : decode cX2_goes 13 = .ok (.goto 4, 3) := by decide +kernel
theorem dX2_goes_16 : decode cX2_goes 16 = .ok (.iconst 0, 1) := by decide +kernel
theorem dX2_goes_17 : decode cX2_goes 17 = .ok (.ireturn, 1) := by decide +kernel
theorem dX2_let_0 : decode cX2_let 0 = .ok (.aload_n 0, 1) := by decide +kernel
theorem dX2_let_1 : decode cX2_let 1 = .ok (.getfield 22, 3) := by decide +kernel
theorem dX2_let_4 : decode cX2_let 4 = .ok (.bipush 27, 2) := by decide +kernel
theorem dX2_let_6 : decode cX2_let 6 = .ok (.iload_n 1, 1) := by decide +kernel
theorem dX2_let_7 : decode cX2_let 7 = .ok (.iadd, 1) := by decide +kernel
theorem dX2_let_8 : decode cX2_let 8 = .ok (.iconst 0, 1) := by decide +kernel
theorem dX2_let_9 : decode cX2_let 9 = .ok (.iload_n 2, 1) := by decide +kernel
theorem dX2_let_10 : decode cX2_let 10 = .ok (.invokestatic 52, 3) := by decide +kernel
theorem dX2_let_13 : decode cX2_let 13 = .ok (.iastore, 1) := by decide +kernel
theorem dX2_let_14 : decode cX2_let 14 = .ok (.return_, 1) := by decide +kernel
theorem dX2_step_0 : decode cX2_step 0 = .ok (.aload_n 0, 1) := by decide +kernel
theorem dX2_step_1 : decode cX2_step 1 = .ok (.getfield 22, 3) := by decide +kernel
theorem dX2_step_4 : decode cX2_step 4 = .ok (.bipush 67, 2) := by decide +kernel
theorem dX2_step_6 : decode cX2_step 6 = .ok (.iload_n 1, 1) := by decide +kernel
theorem dX2_step_7 : decode cX2_step 7 = .ok (.iadd, 1) := by decide +kernel
theorem dX2_step_8 : decode cX2_step 8 = .ok (.iaload, 1) := by decide +kernel
theorem dX2_step_9 : decode cX2_step 9 = .ok (.aload_n 0, 1) := by decide +kernel
theorem dX2_step_10 : decode cX2_step 10 = .ok (.getfield 22, 3) := by decide +kernel
theorem dX2_step_13 : decode cX2_step 13 = .ok (.bipush 107, 2) := by decide +kernel
theorem dX2_step_15 : decode cX2_step 15 = .ok (.iload_n 1, 1) := by decide +kernel
theorem dX2_step_16 : decode cX2_step 16 = .ok (.iadd, 1) := by decide +kernel
theorem dX2_step_17 : decode cX2_step 17 = .ok (.iaload, 1) := by decide +kernel
theorem dX2_step_18 : decode cX2_step 18 = .ok (.iadd, 1) := by decide +kernel
theorem dX2_step_19 : decode cX2_step 19 = .ok (.istore_n 2, 1) := by decide +kernel
theorem dX2_step_20 : decode cX2_step 20 = .ok (.iload_n 2, 1) := by decide +kernel
theorem dX2_step_21 : decode cX2_step 21 = .ok (.invokestatic 58, 3) := by decide +kernel
theorem dX2_step_24 : decode cX2_step 24 = .ok (.ifCond .ne 10, 3) := by decide +kernel
theorem dX2_step_27 : decode cX2_step 27 = .ok (.aload_n 0, 1) := by decide +kernel
theorem dX2_step_28 : decode cX2_step 28 = .ok (.iload_n 1, 1) := by decide +kernel
theorem dX2_step_29 : decode cX2_step 29 = .ok (.iconst 0, 1) := by decide +kernel
theorem dX2_step_30 : decode cX2_step 30 = .ok (.invokevirtual 62, 3) := by decide +kernel
theorem dX2_step_33 : decode cX2_step 33 = .ok (.return_, 1) := by decide +kernel
theorem dX2_step_34 : decode cX2_step 34 = .ok (.aload_n 0, 1) := by decide +kernel
theorem dX2_step_35 : decode cX2_step 35 = .ok (.getfield 22, 3) := by decide +kernel
theorem dX2_step_38 : decode cX2_step 38 = .ok (.bipush 67, 2) := by decide +kernel
theorem dX2_step_40 : decode cX2_step 40 = .ok (.iload_n 1, 1) := by decide +kernel
theorem dX2_step_41 : decode cX2_step 41 = .ok (.iadd, 1) := by decide +kernel
theorem dX2_step_42 : decode cX2_step 42 = .ok (.iload_n 2, 1) := by decide +kernel
theorem dX2_step_43 : decode cX2_step 43 = .ok (.iastore, 1) := by decide +kernel
theorem dX2_step_44 : decode cX2_step 44 = .ok (.aload_n 0, 1) := by decide +kernel
theorem dX2_step_45 : decode cX2_step 45 = .ok (.iload_n 1, 1) := by decide +kernel
theorem dX2_step_46 : decode cX2_step 46 = .ok (.aload_n 0, 1) := by decide +kernel
theorem dX2_step_47 : decode cX2_step 47 = .ok (.getfield 22, 3) := by decide +kernel
theorem dX2_step_50 : decode cX2_step 50 = .ok (.bipush 27, 2) := by decide +kernel
theorem dX2_step_52 : decode cX2_step 52 = .ok (.iload_n 1, 1) := by decide +kernel
theorem dX2_step_53 : decode cX2_step 53 = .ok (.iadd, 1) := by decide +kernel
theorem dX2_step_54 : decode cX2_step 54 = .ok (.iaload, 1) := by decide +kernel
theorem dX2_step_55 : decode cX2_step 55 = .ok (.iconst 1, 1) := by decide +kernel
theorem dX2_step_56 : decode cX2_step 56 = .ok (.isub, 1) := by decide +kernel
theorem dX2_step_57 : decode cX2_step 57 = .ok (.aload_n 0, 1) := by decide +kernel
theorem dX2_step_58 : decode cX2_step 58 = .ok (.getfield 9, 3) := by decide +kernel
theorem dX2_step_61 : decode cX2_step 61 = .ok (.iload_n 2, 1) := by decide +kernel
theorem dX2_step_62 : decode cX2_step 62 = .ok (.iaload, 1) := by decide +kernel
theorem dX2_step_63 : decode cX2_step 63 = .ok (.isub, 1) := by decide +kernel
theorem dX2_step_64 : decode cX2_step 64 = .ok (.invokevirtual 62, 3) := by decide +kernel
theorem dX2_step_67 : decode cX2_step 67 = .ok (.aload_n 0, 1) := by decide +kernel
theorem dX2_step_68 : decode cX2_step 68 = .ok (.getfield 13, 3) := by decide +kernel
theorem dX2_step_71 : decode cX2_step 71 = .ok (.iload_n 2, 1) := by decide +kernel
theorem dX2_step_72 : decode cX2_step 72 = .ok (.iaload, 1) := by decide +kernel
theorem dX2_step_73 : decode cX2_step 73 = .ok (.istore_n 3, 1) := by decide +kernel
theorem dX2_step_74 : decode cX2_step 74 = .ok (.aload_n 0, 1) := by decide +kernel
theorem dX2_step_75 : decode cX2_step 75 = .ok (.iload_n 1, 1) := by decide +kernel
theorem dX2_step_76 : decode cX2_step 76 = .ok (.invokevirtual 66, 3) := by decide +kernel
theorem dX2_step_79 : decode cX2_step 79 = .ok (.ifCond .eq 8, 3) := by decide +kernel
theorem dX2_step_82 : decode cX2_step 82 = .ok (.iload_n 3, 1) := by decide +kernel
theorem dX2_step_83 : decode cX2_step 83 = .ok (.iconst (-1), 1) := by decide +kernel
theorem dX2_step_84 : decode cX2_step 84 = .ok (.if_icmp .ne 4, 3) := by decide +kernel
theorem dX2_step_87 : decode cX2_step 87 = .ok (.return_, 1) := by decide +kernel
theorem dX2_step_88 : decode cX2_step 88 = .ok (.aload_n 0, 1) := by decide +kernel
theorem dX2_step_89 : decode cX2_step 89 = .ok (.getfield 22, 3) := by decide +kernel
theorem dX2_step_92 : decode cX2_step 92 = .ok (.bipush 7, 2) := by decide +kernel
theorem dX2_step_94 : decode cX2_step 94 = .ok (.iload_n 3, 1) := by decide +kernel
theorem dX2_step_95 : decode cX2_step 95 = .ok (.iadd, 1) := by decide +kernel
theorem dX2_step_96 : decode cX2_step 96 = .ok (.iaload, 1) := by decide +kernel
theorem dX2_step_97 : decode cX2_step 97 = .ok (.istore 4, 2) := by decide +kernel
theorem dX2_step_99 : decode cX2_step 99 = .ok (.aload_n 0, 1) := by decide +kernel
theorem dX2_step_100 : decode cX2_step 100 = .ok (.getfield 22, 3) := by decide +kernel
theorem dX2_step_103 : decode cX2_step 103 = .ok (.iconst 3, 1) := by decide +kernel
theorem dX2_step_104 : decode cX2_step 104 = .ok (.iload 4, 2) := by decide +kernel
theorem dX2_step_106 : decode cX2_step 106 = .ok (.iadd, 1) := by decide +kernel
theorem dX2_step_107 : decode cX2_step 107 = .ok (.dup2, 1) := by decide +kernel
theorem dX2_step_108 : decode cX2_step 108 = .ok (.iaload, 1) := by decide +kernel
theorem dX2_step_109 : decode cX2_step 109 = .ok (.iconst 1, 1) := by decide +kernel
theorem dX2_step_110 : decode cX2_step 110 = .ok (.iadd, 1) := by decide +kernel
theorem dX2_step_111 : decode cX2_step 111 = .ok (.iastore, 1) := by decide +kernel
theorem dX2_step_112 : decode cX2_step 112 = .ok (.aload_n 0, 1) := by decide +kernel
theorem dX2_step_113 : decode cX2_step 113 = .ok (.getfield 28, 3) := by decide +kernel
theorem dX2_step_116 : decode cX2_step 116 = .ok (.iload 4, 2) := by decide +kernel
theorem dX2_step_118 : decode cX2_step 118 = .ok (.iconst 1, 1) := by decide +kernel
theorem dX2_step_119 : decode cX2_step 119 = .ok (.bastore, 1) := by decide +kernel
theorem dX2_step_120 : decode cX2_step 120 = .ok (.aload_n 0, 1) := by decide +kernel
theorem dX2_step_121 : decode cX2_step 121 = .ok (.getfield 22, 3) := by decide +kernel
theorem dX2_step_124 : decode cX2_step 124 = .ok (.bipush 17, 2) := by decide +kernel
theorem dX2_step_126 : decode cX2_step 126 = .ok (.iload_n 3, 1) := by decide +kernel
theorem dX2_step_127 : decode cX2_step 127 = .ok (.iadd, 1) := by decide +kernel
theorem dX2_step_128 : decode cX2_step 128 = .ok (.dup2, 1) := by decide +kernel
theorem dX2_step_129 : decode cX2_step 129 = .ok (.iaload, 1) := by decide +kernel
theorem dX2_step_130 : decode cX2_step 130 = .ok (.iconst 1, 1) := by decide +kernel
theorem dX2_step_131 : decode cX2_step 131 = .ok (.iadd, 1) := by decide +kernel
theorem dX2_step_132 : decode cX2_step 132 = .ok (.iastore, 1) := by decide +kernel
theorem dX2_step_133 : decode cX2_step 133 = .ok (.aload_n 0, 1) := by decide +kernel
theorem dX2_step_134 : decode cX2_step 134 = .ok (.getfield 22, 3) := by decide +kernel
theorem dX2_step_137 : decode cX2_step 137 = .ok (.sipush 147, 3) := by decide +kernel
theorem dX2_step_140 : decode cX2_step 140 = .ok (.iload_n 1, 1) := by decide +kernel
theorem dX2_step_141 : decode cX2_step 141 = .ok (.iadd, 1) := by decide +kernel
theorem dX2_step_142 : decode cX2_step 142 = .ok (.dup2, 1) := by decide +kernel
theorem dX2_step_143 : decode cX2_step 143 = .ok (.iaload, 1) := by decide +kernel
theorem dX2_step_144 : decode cX2_step 144 = .ok (.iconst 1, 1) := by decide +kernel
theorem dX2_step_145 : decode cX2_step 145 = .ok (.iadd, 1) := by decide +kernel
theorem dX2_step_146 : decode cX2_step 146 = .ok (.iastore, 1) := by decide +kernel
theorem dX2_step_147 : decode cX2_step 147 = .ok (.aload_n 0, 1) := by decide +kernel
theorem dX2_step_148 : decode cX2_step 148 = .ok (.getfield 22, 3) := by decide +kernel
theorem dX2_step_151 : decode cX2_step 151 = .ok (.bipush 107, 2) := by decide +kernel
theorem dX2_step_153 : decode cX2_step 153 = .ok (.iload_n 1, 1) := by decide +kernel
theorem dX2_step_154 : decode cX2_step 154 = .ok (.iadd, 1) := by decide +kernel
theorem dX2_step_155 : decode cX2_step 155 = .ok (.aload_n 0, 1) := by decide +kernel
theorem dX2_step_156 : decode cX2_step 156 = .ok (.getfield 22, 3) := by decide +kernel
theorem dX2_step_159 : decode cX2_step 159 = .ok (.bipush 107, 2) := by decide +kernel
theorem dX2_step_161 : decode cX2_step 161 = .ok (.iload_n 1, 1) := by decide +kernel
theorem dX2_step_162 : decode cX2_step 162 = .ok (.iadd, 1) := by decide +kernel
theorem dX2_step_163 : decode cX2_step 163 = .ok (.iaload, 1) := by decide +kernel
theorem dX2_step_164 : decode cX2_step 164 = .ok (.ineg, 1) := by decide +kernel
theorem dX2_step_165 : decode cX2_step 165 = .ok (.iastore, 1) := by decide +kernel
theorem dX2_step_166 : decode cX2_step 166 = .ok (.aload_n 0, 1) := by decide +kernel
theorem dX2_step_167 : decode cX2_step 167 = .ok (.iload_n 1, 1) := by decide +kernel
theorem dX2_step_168 : decode cX2_step 168 = .ok (.aload_n 0, 1) := by decide +kernel
theorem dX2_step_169 : decode cX2_step 169 = .ok (.getfield 22, 3) := by decide +kernel
theorem dX2_step_172 : decode cX2_step 172 = .ok (.bipush 27, 2) := by decide +kernel
theorem dX2_step_174 : decode cX2_step 174 = .ok (.iload_n 1, 1) := by decide +kernel
theorem dX2_step_175 : decode cX2_step 175 = .ok (.iadd, 1) := by decide +kernel
theorem dX2_step_176 : decode cX2_step 176 = .ok (.iaload, 1) := by decide +kernel
theorem dX2_step_177 : decode cX2_step 177 = .ok (.aload_n 0, 1) := by decide +kernel
theorem dX2_step_178 : decode cX2_step 178 = .ok (.getfield 19, 3) := by decide +kernel
theorem dX2_step_181 : decode cX2_step 181 = .ok (.iload_n 3, 1) := by decide +kernel
theorem dX2_step_182 : decode cX2_step 182 = .ok (.iaload, 1) := by decide +kernel
theorem dX2_step_183 : decode cX2_step 183 = .ok (.isub, 1) := by decide +kernel
theorem dX2_step_184 : decode cX2_step 184 = .ok (.invokevirtual 62, 3) := by decide +kernel
theorem dX2_step_187 : decode cX2_step 187 = .ok (.return_, 1) := by decide +kernel
theorem dX2_loudest_0 : decode cX2_loudest 0 = .ok (.iconst (-1), 1) := by decide +kernel
theorem dX2_loudest_1 : decode cX2_loudest 1 = .ok (.istore_n 2, 1) := by decide +kernel
theorem dX2_loudest_2 : decode cX2_loudest 2 = .ok (.iconst 0, 1) := by decide +kernel
theorem dX2_loudest_3 : decode cX2_loudest 3 = .ok (.istore_n 3, 1) := by decide +kernel
theorem dX2_loudest_4 : decode cX2_loudest 4 = .ok (.iload_n 3, 1) := by decide +kernel
theorem dX2_loudest_5 : decode cX2_loudest 5 = .ok (.aload_n 0, 1) := by decide +kernel
theorem dX2_loudest_6 : decode cX2_loudest 6 = .ok (.getfield 43, 3) := by decide +kernel
theorem dX2_loudest_9 : decode cX2_loudest 9 = .ok (.if_icmp .ge 58, 3) := by decide +kernel
theorem dX2_loudest_12 : decode cX2_loudest 12 = .ok (.aload_n 0, 1) := by decide +kernel
theorem dX2_loudest_13 : decode cX2_loudest 13 = .ok (.iload_n 3, 1) := by decide +kernel
theorem dX2_loudest_14 : decode cX2_loudest 14 = .ok (.invokevirtual 66, 3) := by decide +kernel
theorem dX2_loudest_17 : decode cX2_loudest 17 = .ok (.ifCond .eq 44, 3) := by decide +kernel
theorem dX2_loudest_20 : decode cX2_loudest 20 = .ok (.aload_n 0, 1) := by decide +kernel
theorem dX2_loudest_21 : decode cX2_loudest 21 = .ok (.getfield 22, 3) := by decide +kernel
theorem dX2_loudest_24 : decode cX2_loudest 24 = .ok (.bipush 67, 2) := by decide +kernel
theorem dX2_loudest_26 : decode cX2_loudest 26 = .ok (.iload_n 3, 1) := by decide +kernel
theorem dX2_loudest_27 : decode cX2_loudest 27 = .ok (.iadd, 1) := by decide +kernel
theorem dX2_loudest_28 : decode cX2_loudest 28 = .ok (.iaload, 1) := by decide +kernel
theorem dX2_loudest_29 : decode cX2_loudest 29 = .ok (.iload_n 1, 1) := by decide +kernel
theorem dX2_loudest_30 : decode cX2_loudest 30 = .ok (.if_icmp .ne 31, 3) := by decide +kernel
theorem dX2_loudest_33 : decode cX2_loudest 33 = .ok (.iload_n 2, 1) := by decide +kernel
theorem dX2_loudest_34 : decode cX2_loudest 34 = .ok (.iconst (-1), 1) := by decide +kernel
theorem dX2_loudest_35 : decode cX2_loudest 35 = .ok (.if_icmp .eq 24, 3) := by decide +kernel
theorem dX2_loudest_38 : decode cX2_loudest 38 = .ok (.aload_n 0, 1) := by decide +kernel
theorem dX2_loudest_39 : decode cX2_loudest 39 = .ok (.getfield 22, 3) := by decide +kernel
theorem dX2_loudest_42 : decode cX2_loudest 42 = .ok (.bipush 27, 2) := by decide +kernel
theorem dX2_loudest_44 : decode cX2_loudest 44 = .ok (.iload_n 3, 1) := by decide +kernel
theorem dX2_loudest_45 : decode cX2_loudest 45 = .ok (.iadd, 1) := by decide +kernel
theorem dX2_loudest_46 : decode cX2_loudest 46 = .ok (.iaload, 1) := by decide +kernel
theorem dX2_loudest_47 : decode cX2_loudest 47 = .ok (.aload_n 0, 1) := by decide +kernel
theorem dX2_loudest_48 : decode cX2_loudest 48 = .ok (.getfield 22, 3) := by decide +kernel
theorem dX2_loudest_51 : decode cX2_loudest 51 = .ok (.bipush 27, 2) := by decide +kernel
theorem dX2_loudest_53 : decode cX2_loudest 53 = .ok (.iload_n 2, 1) := by decide +kernel
theorem dX2_loudest_54 : decode cX2_loudest 54 = .ok (.iadd, 1) := by decide +kernel
theorem dX2_loudest_55 : decode cX2_loudest 55 = .ok (.iaload, 1) := by decide +kernel
theorem dX2_loudest_56 : decode cX2_loudest 56 = .ok (.if_icmp .le 5, 3) := by decide +kernel
theorem dX2_loudest_59 : decode cX2_loudest 59 = .ok (.iload_n 3, 1) := by decide +kernel
theorem dX2_loudest_60 : decode cX2_loudest 60 = .ok (.istore_n 2, 1) := by decide +kernel
theorem dX2_loudest_61 : decode cX2_loudest 61 = .ok (.iinc 3 1, 3) := by decide +kernel
theorem dX2_loudest_64 : decode cX2_loudest 64 = .ok (.goto (-60), 3) := by decide +kernel
theorem dX2_loudest_67 : decode cX2_loudest 67 = .ok (.iload_n 2, 1) := by decide +kernel
theorem dX2_loudest_68 : decode cX2_loudest 68 = .ok (.ireturn, 1) := by decide +kernel
theorem dX2_meet_0 : decode cX2_meet 0 = .ok (.aload_n 0, 1) := by decide +kernel
theorem dX2_meet_1 : decode cX2_meet 1 = .ok (.iload_n 1, 1) := by decide +kernel
theorem dX2_meet_2 : decode cX2_meet 2 = .ok (.invokevirtual 66, 3) := by decide +kernel
theorem dX2_meet_5 : decode cX2_meet 5 = .ok (.ifCond .eq 20, 3) := by decide +kernel
theorem dX2_meet_8 : decode cX2_meet 8 = .ok (.aload_n 0, 1) := by decide +kernel
theorem dX2_meet_9 : decode cX2_meet 9 = .ok (.aload_n 0, 1) := by decide +kernel
theorem dX2_meet_10 : decode cX2_meet 10 = .ok (.getfield 22, 3) := by decide +kernel
theorem dX2_meet_13 : decode cX2_meet 13 = .ok (.bipush 67, 2) := by decide +kernel
theorem dX2_meet_15 : decode cX2_meet 15 = .ok (.iload_n 1, 1) := by decide +kernel
theorem dX2_meet_16 : decode cX2_meet 16 = .ok (.iadd, 1) := by decide +kernel
theorem dX2_meet_17 : decode cX2_meet 17 = .ok (.iaload, 1) := by decide +kernel
theorem dX2_meet_18 : decode cX2_meet 18 = .ok (.invokevirtual 69, 3) := by decide +kernel
theorem dX2_meet_21 : decode cX2_meet 21 = .ok (.iload_n 1, 1) := by decide +kernel
theorem dX2_meet_22 : decode cX2_meet 22 = .ok (.if_icmp .ne 4, 3) := by decide +kernel
theorem dX2_meet_25 : decode cX2_meet 25 = .ok (.return_, 1) := by decide +kernel
theorem dX2_meet_26 : decode cX2_meet 26 = .ok (.aload_n 0, 1) := by decide +kernel
theorem dX2_meet_27 : decode cX2_meet 27 = .ok (.iload_n 1, 1) := by decide +kernel
theorem dX2_meet_28 : decode cX2_meet 28 = .ok (.iconst 0, 1) := by decide +kernel
theorem dX2_meet_29 : decode cX2_meet 29 = .ok (.invokevirtual 62, 3) := by decide +kernel
theorem dX2_meet_32 : decode cX2_meet 32 = .ok (.aload_n 0, 1) := by decide +kernel
theorem dX2_meet_33 : decode cX2_meet 33 = .ok (.getfield 22, 3) := by decide +kernel
theorem dX2_meet_36 : decode cX2_meet 36 = .ok (.iconst 1, 1) := by decide +kernel
theorem dX2_meet_37 : decode cX2_meet 37 = .ok (.dup2, 1) := by decide +kernel
theorem dX2_meet_38 : decode cX2_meet 38 = .ok (.iaload, 1) := by decide +kernel
theorem dX2_meet_39 : decode cX2_meet 39 = .ok (.iconst 1, 1) := by decide +kernel
theorem dX2_meet_40 : decode cX2_meet 40 = .ok (.iadd, 1) := by decide +kernel
theorem dX2_meet_41 : decode cX2_meet 41 = .ok (.iastore, 1) := by decide +kernel
theorem dX2_meet_42 : decode cX2_meet 42 = .ok (.return_, 1) := by decide +kernel
theorem dX2_firstOf_0 : decode cX2_firstOf 0 = .ok (.iconst 0, 1) := by decide +kernel
theorem dX2_firstOf_1 : decode cX2_firstOf 1 = .ok (.istore_n 2, 1) := by decide +kernel
theorem dX2_firstOf_2 : decode cX2_firstOf 2 = .ok (.iload_n 2, 1) := by decide +kernel
theorem dX2_firstOf_3 : decode cX2_firstOf 3 = .ok (.aload_n 0, 1) := by decide +kernel
theorem dX2_firstOf_4 : decode cX2_firstOf 4 = .ok (.getfield 40, 3) := by decide +kernel
theorem dX2_firstOf_7 : decode cX2_firstOf 7 = .ok (.if_icmp .ge 24, 3) := by decide +kernel
theorem dX2_firstOf_10 : decode cX2_firstOf 10 = .ok (.aload_n 0, 1) := by decide +kernel
theorem dX2_firstOf_11 : decode cX2_firstOf 11 = .ok (.getfield 22, 3) := by decide +kernel
theorem dX2_firstOf_14 : decode cX2_firstOf 14 = .ok (.bipush 7, 2) := by decide +kernel
theorem dX2_firstOf_16 : decode cX2_firstOf 16 = .ok (.iload_n 2, 1) := by decide +kernel
theorem dX2_firstOf_17 : decode cX2_firstOf 17 = .ok (.iadd, 1) := by decide +kernel
theorem dX2_firstOf_18 : decode cX2_firstOf 18 = .ok (.iaload, 1) := by decide +kernel
theorem dX2_firstOf_19 : decode cX2_firstOf 19 = .ok (.iload_n 1, 1) := by decide +kernel
theorem dX2_firstOf_20 : decode cX2_firstOf 20 = .ok (.if_icmp .ne 5, 3) := by decide +kernel
theorem dX2_firstOf_23 : decode cX2_firstOf 23 = .ok (.iload_n 2, 1) := by decide +kernel
theorem dX2_firstOf_24 : decode cX2_firstOf 24 = .ok (.ireturn, 1) := by decide +kernel
theorem dX2_firstOf_25 : decode cX2_firstOf 25 = .ok (.iinc 2 1, 3) := by decide +kernel
theorem dX2_firstOf_28 : decode cX2_firstOf 28 = .ok (.goto (-26), 3) := by decide +kernel
theorem dX2_firstOf_31 : decode cX2_firstOf 31 = .ok (.iconst (-1), 1) := by decide +kernel
theorem dX2_firstOf_32 : decode cX2_firstOf 32 = .ok (.ireturn, 1) := by decide +kernel
theorem dX2_hush_0 : decode cX2_hush 0 = .ok (.aload_n 0, 1) := by decide +kernel
theorem dX2_hush_1 : decode cX2_hush 1 = .ok (.getfield 22, 3) := by decide +kernel
theorem dX2_hush_4 : decode cX2_hush 4 = .ok (.iconst 5, 1) := by decide +kernel
theorem dX2_hush_5 : decode cX2_hush 5 = .ok (.iload_n 1, 1) := by decide +kernel
theorem dX2_hush_6 : decode cX2_hush 6 = .ok (.iadd, 1) := by decide +kernel
theorem dX2_hush_7 : decode cX2_hush 7 = .ok (.aload_n 0, 1) := by decide +kernel
theorem dX2_hush_8 : decode cX2_hush 8 = .ok (.getfield 28, 3) := by decide +kernel
theorem dX2_hush_11 : decode cX2_hush 11 = .ok (.iload_n 1, 1) := by decide +kernel
theorem dX2_hush_12 : decode cX2_hush 12 = .ok (.baload, 1) := by decide +kernel
theorem dX2_hush_13 : decode cX2_hush 13 = .ok (.ifCond .eq 7, 3) := by decide +kernel
theorem dX2_hush_16 : decode cX2_hush 16 = .ok (.iconst 0, 1) := by decide +kernel
theorem dX2_hush_17 : decode cX2_hush 17 = .ok (.goto 13, 3) := by decide +kernel
theorem dX2_hush_20 : decode cX2_hush 20 = .ok (.aload_n 0, 1) := by decide +kernel
theorem dX2_hush_21 : decode cX2_hush 21 = .ok (.getfield 22, 3) := by decide +kernel
theorem dX2_hush_24 : decode cX2_hush 24 = .ok (.iconst 5, 1) := by decide +kernel
theorem dX2_hush_25 : decode cX2_hush 25 = .ok (.iload_n 1, 1) := by decide +kernel
theorem dX2_hush_26 : decode cX2_hush 26 = .ok (.iadd, 1) := by decide +kernel
theorem dX2_hush_27 : decode cX2_hush 27 = .ok (.iaload, 1) := by decide +kernel
theorem dX2_hush_28 : decode cX2_hush 28 = .ok (.iconst 1, 1) := by decide +kernel
theorem dX2_hush_29 : decode cX2_hush 29 = .ok (.iadd, 1) := by decide +kernel
theorem dX2_hush_30 : decode cX2_hush 30 = .ok (.iastore, 1) := by decide +kernel
theorem dX2_hush_31 : decode cX2_hush 31 = .ok (.aload_n 0, 1) := by decide +kernel
theorem dX2_hush_32 : decode cX2_hush 32 = .ok (.getfield 22, 3) := by decide +kernel
theorem dX2_hush_35 : decode cX2_hush 35 = .ok (.iconst 5, 1) := by decide +kernel
theorem dX2_hush_36 : decode cX2_hush 36 = .ok (.iload_n 1, 1) := by decide +kernel
theorem dX2_hush_37 : decode cX2_hush 37 = .ok (.iadd, 1) := by decide +kernel
theorem dX2_hush_38 : decode cX2_hush 38 = .ok (.iaload, 1) := by decide +kernel
theorem dX2_hush_39 : decode cX2_hush 39 = .ok (.bipush 12, 2) := by decide +kernel
theorem dX2_hush_41 : decode cX2_hush 41 = .ok (.if_icmp .ge 4, 3) := by decide +kernel
theorem dX2_hush_44 : decode cX2_hush 44 = .ok (.return_, 1) := by decide +kernel
theorem dX2_hush_45 : decode cX2_hush 45 = .ok (.aload_n 0, 1) := by decide +kernel
theorem dX2_hush_46 : decode cX2_hush 46 = .ok (.getfield 22, 3) := by decide +kernel
theorem dX2_hush_49 : decode cX2_hush 49 = .ok (.iconst 5, 1) := by decide +kernel
theorem dX2_hush_50 : decode cX2_hush 50 = .ok (.iload_n 1, 1) := by decide +kernel
theorem dX2_hush_51 : decode cX2_hush 51 = .ok (.iadd, 1) := by decide +kernel
theorem dX2_hush_52 : decode cX2_hush 52 = .ok (.iconst 0, 1) := by decide +kernel
theorem dX2_hush_53 : decode cX2_hush 53 = .ok (.iastore, 1) := by decide +kernel
theorem dX2_hush_54 : decode cX2_hush 54 = .ok (.aload_n 0, 1) := by decide +kernel
theorem dX2_hush_55 : decode cX2_hush 55 = .ok (.iload_n 1, 1) := by decide +kernel
theorem dX2_hush_56 : decode cX2_hush 56 = .ok (.invokevirtual 73, 3) := by decide +kernel
theorem dX2_hush_59 : decode cX2_hush 59 = .ok (.istore_n 2, 1) := by decide +kernel
theorem dX2_hush_60 : decode cX2_hush 60 = .ok (.iload_n 2, 1) := by decide +kernel
theorem dX2_hush_61 : decode cX2_hush 61 = .ok (.iconst (-1), 1) := by decide +kernel
theorem dX2_hush_62 : decode cX2_hush 62 = .ok (.if_icmp .ne 4, 3) := by decide +kernel
theorem dX2_hush_65 : decode cX2_hush 65 = .ok (.return_, 1) := by decide +kernel
theorem dX2_hush_66 : decode cX2_hush 66 = .ok (.aload_n 0, 1) := by decide +kernel
theorem dX2_hush_67 : decode cX2_hush 67 = .ok (.getfield 22, 3) := by decide +kernel
theorem dX2_hush_70 : decode cX2_hush 70 = .ok (.bipush 7, 2) := by decide +kernel
theorem dX2_hush_72 : decode cX2_hush 72 = .ok (.iload_n 2, 1) := by decide +kernel
theorem dX2_hush_73 : decode cX2_hush 73 = .ok (.iadd, 1) := by decide +kernel
theorem dX2_hush_74 : decode cX2_hush 74 = .ok (.iconst 1, 1) := by decide +kernel
theorem dX2_hush_75 : decode cX2_hush 75 = .ok (.iload_n 1, 1) := by decide +kernel
theorem dX2_hush_76 : decode cX2_hush 76 = .ok (.isub, 1) := by decide +kernel
theorem dX2_hush_77 : decode cX2_hush 77 = .ok (.iastore, 1) := by decide +kernel
theorem dX2_hush_78 : decode cX2_hush 78 = .ok (.aload_n 0, 1) := by decide +kernel
theorem dX2_hush_79 : decode cX2_hush 79 = .ok (.getfield 22, 3) := by decide +kernel
theorem dX2_hush_82 : decode cX2_hush 82 = .ok (.iconst 2, 1) := by decide +kernel
theorem dX2_hush_83 : decode cX2_hush 83 = .ok (.dup2, 1) := by decide +kernel
theorem dX2_hush_84 : decode cX2_hush 84 = .ok (.iaload, 1) := by decide +kernel
theorem dX2_hush_85 : decode cX2_hush 85 = .ok (.iconst 1, 1) := by decide +kernel
theorem dX2_hush_86 : decode cX2_hush 86 = .ok (.iadd, 1) := by decide +kernel
theorem dX2_hush_87 : decode cX2_hush 87 = .ok (.iastore, 1) := by decide +kernel
theorem dX2_hush_88 : decode cX2_hush 88 = .ok (.return_, 1) := by decide +kernel
theorem dX2_beatOn_0 : decode cX2_beatOn 0 = .ok (.aload_n 0, 1) := by decide +kernel
theorem dX2_beatOn_1 : decode cX2_beatOn 1 = .ok (.getfield 28, 3) := by decide +kernel
theorem dX2_beatOn_4 : decode cX2_beatOn 4 = .ok (.iconst 0, 1) := by decide +kernel
theorem dX2_beatOn_5 : decode cX2_beatOn 5 = .ok (.iconst 0, 1) := by decide +kernel
theorem dX2_beatOn_6 : decode cX2_beatOn 6 = .ok (.bastore, 1) := by decide +kernel
theorem dX2_beatOn_7 : decode cX2_beatOn 7 = .ok (.aload_n 0, 1) := by decide +kernel
theorem dX2_beatOn_8 : decode cX2_beatOn 8 = .ok (.getfield 28, 3) := by decide +kernel
theorem dX2_beatOn_11 : decode cX2_beatOn 11 = .ok (.iconst 1, 1) := by decide +kernel
theorem dX2_beatOn_12 : decode cX2_beatOn 12 = .ok (.iconst 0, 1) := by decide +kernel
theorem dX2_beatOn_13 : decode cX2_beatOn 13 = .ok (.bastore, 1) := by decide +kernel
theorem dX2_beatOn_14 : decode cX2_beatOn 14 = .ok (.iconst 0, 1) := by decide +kernel
theorem dX2_beatOn_15 : decode cX2_beatOn 15 = .ok (.istore_n 1, 1) := by decide +kernel
theorem dX2_beatOn_16 : decode cX2_beatOn 16 = .ok (.iload_n 1, 1) := by decide +kernel
theorem dX2_beatOn_17 : decode cX2_beatOn 17 = .ok (.aload_n 0, 1) := by decide +kernel
theorem dX2_beatOn_18 : decode cX2_beatOn 18 = .ok (.getfield 43, 3) := by decide +kernel
theorem dX2_beatOn_21 : decode cX2_beatOn 21 = .ok (.if_icmp .ge 22, 3) := by decide +kernel
theorem dX2_beatOn_24 : decode cX2_beatOn 24 = .ok (.aload_n 0, 1) := by decide +kernel
theorem dX2_beatOn_25 : decode cX2_beatOn 25 = .ok (.iload_n 1, 1) := by decide +kernel
theorem dX2_beatOn_26 : decode cX2_beatOn 26 = .ok (.invokevirtual 66, 3) := by decide +kernel
theorem dX2_beatOn_29 : decode cX2_beatOn 29 = .ok (.ifCond .eq 8, 3) := by decide +kernel
theorem dX2_beatOn_32 : decode cX2_beatOn 32 = .ok (.aload_n 0, 1) := by decide +kernel
theorem dX2_beatOn_33 : decode cX2_beatOn 33 = .ok (.iload_n 1, 1) := by decide +kernel
theorem dX2_beatOn_34 : decode cX2_beatOn 34 = .ok (.invokevirtual 76, 3) := by decide +kernel
theorem dX2_beatOn_37 : decode cX2_beatOn 37 = .ok (.iinc 1 1, 3) := by decide +kernel
theorem dX2_beatOn_40 : decode cX2_beatOn 40 = .ok (.goto (-24), 3) := by decide +kernel
theorem dX2_beatOn_43 : decode cX2_beatOn 43 = .ok (.iconst 0, 1) := by decide +kernel
theorem dX2_beatOn_44 : decode cX2_beatOn 44 = .ok (.istore_n 1, 1) := by decide +kernel
theorem dX2_beatOn_45 : decode cX2_beatOn 45 = .ok (.iload_n 1, 1) := by decide +kernel
theorem dX2_beatOn_46 : decode cX2_beatOn 46 = .ok (.aload_n 0, 1) := by decide +kernel
theorem dX2_beatOn_47 : decode cX2_beatOn 47 = .ok (.getfield 43, 3) := by decide +kernel
theorem dX2_beatOn_50 : decode cX2_beatOn 50 = .ok (.if_icmp .ge 14, 3) := by decide +kernel
theorem dX2_beatOn_53 : decode cX2_beatOn 53 = .ok (.aload_n 0, 1) := by decide +kernel
theorem dX2_beatOn_54 : decode cX2_beatOn 54 = .ok (.iload_n 1, 1) := by decide +kernel
theorem dX2_beatOn_55 : decode cX2_beatOn 55 = .ok (.invokevirtual 80, 3) := by decide +kernel
theorem dX2_beatOn_58 : decode cX2_beatOn 58 = .ok (.iinc 1 1, 3) := by decide +kernel
theorem dX2_beatOn_61 : decode cX2_beatOn 61 = .ok (.goto (-16), 3) := by decide +kernel
theorem dX2_beatOn_64 : decode cX2_beatOn 64 = .ok (.aload_n 0, 1) := by decide +kernel
theorem dX2_beatOn_65 : decode cX2_beatOn 65 = .ok (.iconst 0, 1) := by decide +kernel
theorem dX2_beatOn_66 : decode cX2_beatOn 66 = .ok (.invokevirtual 83, 3) := by decide +kernel
theorem dX2_beatOn_69 : decode cX2_beatOn 69 = .ok (.aload_n 0, 1) := by decide +kernel
theorem dX2_beatOn_70 : decode cX2_beatOn 70 = .ok (.iconst 1, 1) := by decide +kernel
theorem dX2_beatOn_71 : decode cX2_beatOn 71 = .ok (.invokevirtual 83, 3) := by decide +kernel
theorem dX2_beatOn_74 : decode cX2_beatOn 74 = .ok (.aload_n 0, 1) := by decide +kernel
theorem dX2_beatOn_75 : decode cX2_beatOn 75 = .ok (.getfield 22, 3) := by decide +kernel
theorem dX2_beatOn_78 : decode cX2_beatOn 78 = .ok (.iconst 0, 1) := by decide +kernel
theorem dX2_beatOn_79 : decode cX2_beatOn 79 = .ok (.dup2, 1) := by decide +kernel
theorem dX2_beatOn_80 : decode cX2_beatOn 80 = .ok (.iaload, 1) := by decide +kernel
theorem dX2_beatOn_81 : decode cX2_beatOn 81 = .ok (.iconst 1, 1) := by decide +kernel
theorem dX2_beatOn_82 : decode cX2_beatOn 82 = .ok (.iadd, 1) := by decide +kernel
theorem dX2_beatOn_83 : decode cX2_beatOn 83 = .ok (.iastore, 1) := by decide +kernel
theorem dX2_beatOn_84 : decode cX2_beatOn 84 = .ok (.return_, 1) := by decide +kernel
theorem dX2_beatsOn_0 : decode cX2_beatsOn 0 = .ok (.iconst 0, 1) := by decide +kernel
theorem dX2_beatsOn_1 : decode cX2_beatsOn 1 = .ok (.istore_n 2, 1) := by decide +kernel
theorem dX2_beatsOn_2 : decode cX2_beatsOn 2 = .ok (.iload_n 2, 1) := by decide +kernel
theorem dX2_beatsOn_3 : decode cX2_beatsOn 3 = .ok (.iload_n 1, 1) := by decide +kernel
theorem dX2_beatsOn_4 : decode cX2_beatsOn 4 = .ok (.if_icmp .ge 13, 3) := by decide +kernel
theorem dX2_beatsOn_7 : decode cX2_beatsOn 7 = .ok (.aload_n 0, 1) := by decide +kernel
theorem dX2_beatsOn_8 : decode cX2_beatsOn 8 = .ok (.invokevirtual 86, 3) := by decide +kernel
theorem dX2_beatsOn_11 : decode cX2_beatsOn 11 = .ok (.iinc 2 1, 3) := by decide +kernel
theorem dX2_beatsOn_14 : decode cX2_beatsOn 14 = .ok (.goto (-12), 3) := by decide +kernel
theorem dX2_beatsOn_17 : decode cX2_beatsOn 17 = .ok (.return_, 1) := by decide +kernel
theorem dX2_coins_0 : decode cX2_coins 0 = .ok (.aload_n 0, 1) := by decide +kernel
theorem dX2_coins_1 : decode cX2_coins 1 = .ok (.getfield 22, 3) := by decide +kernel
theorem dX2_coins_4 : decode cX2_coins 4 = .ok (.iconst 3, 1) := by decide +kernel
theorem dX2_coins_5 : decode cX2_coins 5 = .ok (.iaload, 1) := by decide +kernel
theorem dX2_coins_6 : decode cX2_coins 6 = .ok (.aload_n 0, 1) := by decide +kernel
theorem dX2_coins_7 : decode cX2_coins 7 = .ok (.getfield 22, 3) := by decide +kernel
theorem dX2_coins_10 : decode cX2_coins 10 = .ok (.iconst 4, 1) := by decide +kernel
theorem dX2_coins_11 : decode cX2_coins 11 = .ok (.iaload, 1) := by decide +kernel
theorem dX2_coins_12 : decode cX2_coins 12 = .ok (.iadd, 1) := by decide +kernel
theorem dX2_coins_13 : decode cX2_coins 13 = .ok (.ireturn, 1) := by decide +kernel
theorem dX2_many_0 : decode cX2_many 0 = .ok (.iconst 0, 1) := by decide +kernel
theorem dX2_many_1 : decode cX2_many 1 = .ok (.istore_n 1, 1) := by decide +kernel
theorem dX2_many_2 : decode cX2_many 2 = .ok (.iconst 0, 1) := by decide +kernel
theorem dX2_many_3 : decode cX2_many 3 = .ok (.istore_n 2, 1) := by decide +kernel
theorem dX2_many_4 : decode cX2_many 4 = .ok (.iload_n 2, 1) := by decide +kernel
theorem dX2_many_5 : decode cX2_many 5 = .ok (.aload_n 0, 1) := by decide +kernel
theorem dX2_many_6 : decode cX2_many 6 = .ok (.getfield 43, 3) := by decide +kernel
theorem dX2_many_9 : decode cX2_many 9 = .ok (.if_icmp .ge 25, 3) := by decide +kernel
theorem dX2_many_12 : decode cX2_many 12 = .ok (.iload_n 1, 1) := by decide +kernel
theorem dX2_many_13 : decode cX2_many 13 = .ok (.aload_n 0, 1) := by decide +kernel
theorem dX2_many_14 : decode cX2_many 14 = .ok (.iload_n 2, 1) := by decide +kernel
theorem dX2_many_15 : decode cX2_many 15 = .ok (.invokevirtual 66, 3) := by decide +kernel
theorem dX2_many_18 : decode cX2_many 18 = .ok (.ifCond .eq 7, 3) := by decide +kernel
theorem dX2_many_21 : decode cX2_many 21 = .ok (.iconst 1, 1) := by decide +kernel
theorem dX2_many_22 : decode cX2_many 22 = .ok (.goto 4, 3) := by decide +kernel
theorem dX2_many_25 : decode cX2_many 25 = .ok (.iconst 0, 1) := by decide +kernel
theorem dX2_many_26 : decode cX2_many 26 = .ok (.iadd, 1) := by decide +kernel
theorem dX2_many_27 : decode cX2_many 27 = .ok (.istore_n 1, 1) := by decide +kernel
theorem dX2_many_28 : decode cX2_many 28 = .ok (.iinc 2 1, 3) := by decide +kernel
theorem dX2_many_31 : decode cX2_many 31 = .ok (.goto (-27), 3) := by decide +kernel
theorem dX2_many_34 : decode cX2_many 34 = .ok (.iload_n 1, 1) := by decide +kernel
theorem dX2_many_35 : decode cX2_many 35 = .ok (.ireturn, 1) := by decide +kernel
theorem dX2_addWall_0 : decode cX2_addWall 0 = .ok (.aload_n 0, 1) := by decide +kernel
theorem dX2_addWall_1 : decode cX2_addWall 1 = .ok (.iconst 0, 1) := by decide +kernel
theorem dX2_addWall_2 : decode cX2_addWall 2 = .ok (.putfield 32, 3) := by decide +kernel
theorem dX2_addWall_5 : decode cX2_addWall 5 = .ok (.iload_n 1, 1) := by decide +kernel
theorem dX2_addWall_6 : decode cX2_addWall 6 = .ok (.invokestatic 58, 3) := by decide +kernel
theorem dX2_addWall_9 : decode cX2_addWall 9 = .ok (.ifCond .eq 10, 3) := by decide +kernel
theorem dX2_addWall_12 : decode cX2_addWall 12 = .ok (.iload_n 2, 1) := by decide +kernel
theorem dX2_addWall_13 : decode cX2_addWall 13 = .ok (.invokestatic 89, 3) := by decide +kernel
theorem dX2_addWall_16 : decode cX2_addWall 16 = .ok (.ifCond .ne 9, 3) := by decide +kernel
theorem dX2_addWall_19 : decode cX2_addWall 19 = .ok (.aload_n 0, 1) := by decide +kernel
theorem dX2_addWall_20 : decode cX2_addWall 20 = .ok (.iconst 1, 1) := by decide +kernel
theorem dX2_addWall_21 : decode cX2_addWall 21 = .ok (.invokevirtual 92, 3) := by decide +kernel
theorem dX2_addWall_24 : decode cX2_addWall 24 = .ok (.ireturn, 1) := by decide +kernel
theorem dX2_addWall_25 : decode cX2_addWall 25 = .ok (.iload_n 3, 1) := by decide +kernel
theorem dX2_addWall_26 : decode cX2_addWall 26 = .ok (.iconst 0, 1) := by decide +kernel
theorem dX2_addWall_27 : decode cX2_addWall 27 = .ok (.iconst 5, 1) := by decide +kernel
theorem dX2_addWall_28 : decode cX2_addWall 28 = .ok (.invokestatic 36, 3) := by decide +kernel
theorem dX2_addWall_31 : decode cX2_addWall 31 = .ok (.ifCond .ne 9, 3) := by decide +kernel
theorem dX2_addWall_34 : decode cX2_addWall 34 = .ok (.aload_n 0, 1) := by decide +kernel
theorem dX2_addWall_35 : decode cX2_addWall 35 = .ok (.iconst 2, 1) := by decide +kernel
theorem dX2_addWall_36 : decode cX2_addWall 36 = .ok (.invokevirtual 92, 3) := by decide +kernel
theorem dX2_addWall_39 : decode cX2_addWall 39 = .ok (.ireturn, 1) := by decide +kernel
theorem dX2_addWall_40 : decode cX2_addWall 40 = .ok (.aload_n 0, 1) := by decide +kernel
theorem dX2_addWall_41 : decode cX2_addWall 41 = .ok (.getfield 40, 3) := by decide +kernel
theorem dX2_addWall_44 : decode cX2_addWall 44 = .ok (.bipush 10, 2) := by decide +kernel
theorem dX2_addWall_46 : decode cX2_addWall 46 = .ok (.if_icmp .eq 13, 3) := by decide +kernel
theorem dX2_addWall_49 : decode cX2_addWall 49 = .ok (.aload_n 0, 1) := by decide +kernel
theorem dX2_addWall_50 : decode cX2_addWall 50 = .ok (.getfield 13, 3) := by decide +kernel
theorem dX2_addWall_53 : decode cX2_addWall 53 = .ok (.iload_n 1, 1) := by decide +kernel
theorem dX2_addWall_54 : decode cX2_addWall 54 = .ok (.iaload, 1) := by decide +kernel
theorem dX2_addWall_55 : decode cX2_addWall 55 = .ok (.iconst (-1), 1) := by decide +kernel
theorem dX2_addWall_56 : decode cX2_addWall 56 = .ok (.if_icmp .eq 9, 3) := by decide +kernel
theorem dX2_addWall_59 : decode cX2_addWall 59 = .ok (.aload_n 0, 1) := by decide +kernel
theorem dX2_addWall_60 : decode cX2_addWall 60 = .ok (.iconst 3, 1) := by decide +kernel
theorem dX2_addWall_61 : decode cX2_addWall 61 = .ok (.invokevirtual 92, 3) := by decide +kernel
theorem dX2_addWall_64 : decode cX2_addWall 64 = .ok (.ireturn, 1) := by decide +kernel
theorem dX2_addWall_65 : decode cX2_addWall 65 = .ok (.aload_n 0, 1) := by decide +kernel
theorem dX2_addWall_66 : decode cX2_addWall 66 = .ok (.getfield 13, 3) := by decide +kernel
theorem dX2_addWall_69 : decode cX2_addWall 69 = .ok (.iload_n 1, 1) := by decide +kernel
theorem dX2_addWall_70 : decode cX2_addWall 70 = .ok (.aload_n 0, 1) := by decide +kernel
theorem dX2_addWall_71 : decode cX2_addWall 71 = .ok (.getfield 40, 3) := by decide +kernel
theorem dX2_addWall_74 : decode cX2_addWall 74 = .ok (.iastore, 1) := by decide +kernel
theorem dX2_addWall_75 : decode cX2_addWall 75 = .ok (.aload_n 0, 1) := by decide +kernel
theorem dX2_addWall_76 : decode cX2_addWall 76 = .ok (.getfield 16, 3) := by decide +kernel
theorem dX2_addWall_79 : decode cX2_addWall 79 = .ok (.aload_n 0, 1) := by decide +kernel
theorem dX2_addWall_80 : decode cX2_addWall 80 = .ok (.getfield 40, 3) := by decide +kernel
theorem dX2_addWall_83 : decode cX2_addWall 83 = .ok (.iload_n 1, 1) := by decide +kernel
theorem dX2_addWall_84 : decode cX2_addWall 84 = .ok (.iastore, 1) := by decide +kernel
theorem dX2_addWall_85 : decode cX2_addWall 85 = .ok (.aload_n 0, 1) := by decide +kernel
theorem dX2_addWall_86 : decode cX2_addWall 86 = .ok (.getfield 19, 3) := by decide +kernel
theorem dX2_addWall_89 : decode cX2_addWall 89 = .ok (.aload_n 0, 1) := by decide +kernel
theorem dX2_addWall_90 : decode cX2_addWall 90 = .ok (.getfield 40, 3) := by decide +kernel
theorem dX2_addWall_93 : decode cX2_addWall 93 = .ok (.iload_n 3, 1) := by decide +kernel
theorem dX2_addWall_94 : decode cX2_addWall 94 = .ok (.iastore, 1) := by decide +kernel
theorem dX2_addWall_95 : decode cX2_addWall 95 = .ok (.aload_n 0, 1) := by decide +kernel
theorem dX2_addWall_96 : decode cX2_addWall 96 = .ok (.getfield 22, 3) := by decide +kernel
theorem dX2_addWall_99 : decode cX2_addWall 99 = .ok (.bipush 7, 2) := by decide +kernel
theorem dX2_addWall_101 : decode cX2_addWall 101 = .ok (.aload_n 0, 1) := by decide +kernel
theorem dX2_addWall_102 : decode cX2_addWall 102 = .ok (.getfield 40, 3) := by decide +kernel
theorem dX2_addWall_105 : decode cX2_addWall 105 = .ok (.iadd, 1) := by decide +kernel
theorem dX2_addWall_106 : decode cX2_addWall 106 = .ok (.iload_n 2, 1) := by decide +kernel
theorem dX2_addWall_107 : decode cX2_addWall 107 = .ok (.iastore, 1) := by decide +kernel
theorem dX2_addWall_108 : decode cX2_addWall 108 = .ok (.aload_n 0, 1) := by decide +kernel
theorem dX2_addWall_109 : decode cX2_addWall 109 = .ok (.dup, 1) := by decide +kernel
theorem dX2_addWall_110 : decode cX2_addWall 110 = .ok (.getfield 40, 3) := by decide +kernel
theorem dX2_addWall_113 : decode cX2_addWall 113 = .ok (.iconst 1, 1) := by decide +kernel
theorem dX2_addWall_114 : decode cX2_addWall 114 = .ok (.iadd, 1) := by decide +kernel
theorem dX2_addWall_115 : decode cX2_addWall 115 = .ok (.putfield 40, 3) := by decide +kernel
theorem dX2_addWall_118 : decode cX2_addWall 118 = .ok (.aload_n 0, 1) := by decide +kernel
theorem dX2_addWall_119 : decode cX2_addWall 119 = .ok (.getfield 40, 3) := by decide +kernel
theorem dX2_addWall_122 : decode cX2_addWall 122 = .ok (.iconst 1, 1) := by decide +kernel
theorem dX2_addWall_123 : decode cX2_addWall 123 = .ok (.isub, 1) := by decide +kernel
theorem dX2_addWall_124 : decode cX2_addWall 124 = .ok (.ireturn, 1) := by decide +kernel
theorem dX2_hand_0 : decode cX2_hand 0 = .ok (.aload_n 0, 1) := by decide +kernel
theorem dX2_hand_1 : decode cX2_hand 1 = .ok (.iconst 0, 1) := by decide +kernel
theorem dX2_hand_2 : decode cX2_hand 2 = .ok (.putfield 32, 3) := by decide +kernel
theorem dX2_hand_5 : decode cX2_hand 5 = .ok (.aload_n 0, 1) := by decide +kernel
theorem dX2_hand_6 : decode cX2_hand 6 = .ok (.iload_n 1, 1) := by decide +kernel
theorem dX2_hand_7 : decode cX2_hand 7 = .ok (.invokevirtual 95, 3) := by decide +kernel
theorem dX2_hand_10 : decode cX2_hand 10 = .ok (.ifCond .ne 9, 3) := by decide +kernel
theorem dX2_hand_13 : decode cX2_hand 13 = .ok (.aload_n 0, 1) := by decide +kernel
theorem dX2_hand_14 : decode cX2_hand 14 = .ok (.iconst 1, 1) := by decide +kernel
theorem dX2_hand_15 : decode cX2_hand 15 = .ok (.invokevirtual 92, 3) := by decide +kernel
theorem dX2_hand_18 : decode cX2_hand 18 = .ok (.ireturn, 1) := by decide +kernel
theorem dX2_hand_19 : decode cX2_hand 19 = .ok (.aload_n 0, 1) := by decide +kernel
theorem dX2_hand_20 : decode cX2_hand 20 = .ok (.getfield 22, 3) := by decide +kernel
theorem dX2_hand_23 : decode cX2_hand 23 = .ok (.bipush 7, 2) := by decide +kernel
theorem dX2_hand_25 : decode cX2_hand 25 = .ok (.iload_n 1, 1) := by decide +kernel
theorem dX2_hand_26 : decode cX2_hand 26 = .ok (.iadd, 1) := by decide +kernel
theorem dX2_hand_27 : decode cX2_hand 27 = .ok (.iconst 1, 1) := by decide +kernel
theorem dX2_hand_28 : decode cX2_hand 28 = .ok (.aload_n 0, 1) := by decide +kernel
theorem dX2_hand_29 : decode cX2_hand 29 = .ok (.getfield 22, 3) := by decide +kernel
theorem dX2_hand_32 : decode cX2_hand 32 = .ok (.bipush 7, 2) := by decide +kernel
theorem dX2_hand_34 : decode cX2_hand 34 = .ok (.iload_n 1, 1) := by decide +kernel
theorem dX2_hand_35 : decode cX2_hand 35 = .ok (.iadd, 1) := by decide +kernel
theorem dX2_hand_36 : decode cX2_hand 36 = .ok (.iaload, 1) := by decide +kernel
theorem dX2_hand_37 : decode cX2_hand 37 = .ok (.isub, 1) := by decide +kernel
theorem dX2_hand_38 : decode cX2_hand 38 = .ok (.iastore, 1) := by decide +kernel
theorem dX2_hand_39 : decode cX2_hand 39 = .ok (.aload_n 0, 1) := by decide +kernel
theorem dX2_hand_40 : decode cX2_hand 40 = .ok (.getfield 22, 3) := by decide +kernel
theorem dX2_hand_43 : decode cX2_hand 43 = .ok (.bipush 7, 2) := by decide +kernel
theorem dX2_hand_45 : decode cX2_hand 45 = .ok (.iload_n 1, 1) := by decide +kernel
theorem dX2_hand_46 : decode cX2_hand 46 = .ok (.iadd, 1) := by decide +kernel
theorem dX2_hand_47 : decode cX2_hand 47 = .ok (.iaload, 1) := by decide +kernel
theorem dX2_hand_48 : decode cX2_hand 48 = .ok (.ireturn, 1) := by decide +kernel
theorem dX2_setSnow_0 : decode cX2_setSnow 0 = .ok (.aload_n 0, 1) := by decide +kernel
theorem dX2_setSnow_1 : decode cX2_setSnow 1 = .ok (.iconst 0, 1) := by decide +kernel
theorem dX2_setSnow_2 : decode cX2_setSnow 2 = .ok (.putfield 32, 3) := by decide +kernel
theorem dX2_setSnow_5 : decode cX2_setSnow 5 = .ok (.iload_n 1, 1) := by decide +kernel
theorem dX2_setSnow_6 : decode cX2_setSnow 6 = .ok (.invokestatic 58, 3) := by decide +kernel
theorem dX2_setSnow_9 : decode cX2_setSnow 9 = .ok (.ifCond .ne 9, 3) := by decide +kernel
theorem dX2_setSnow_12 : decode cX2_setSnow 12 = .ok (.aload_n 0, 1) := by decide +kernel
theorem dX2_setSnow_13 : decode cX2_setSnow 13 = .ok (.iconst 1, 1) := by decide +kernel
theorem dX2_setSnow_14 : decode cX2_setSnow 14 = .ok (.invokevirtual 92, 3) := by decide +kernel
theorem dX2_setSnow_17 : decode cX2_setSnow 17 = .ok (.ireturn, 1) := by decide +kernel
theorem dX2_setSnow_18 : decode cX2_setSnow 18 = .ok (.iload_n 2, 1) := by decide +kernel
theorem dX2_setSnow_19 : decode cX2_setSnow 19 = .ok (.iconst 0, 1) := by decide +kernel
theorem dX2_setSnow_20 : decode cX2_setSnow 20 = .ok (.iconst 5, 1) := by decide +kernel
theorem dX2_setSnow_21 : decode cX2_setSnow 21 = .ok (.invokestatic 36, 3) := by decide +kernel
theorem dX2_setSnow_24 : decode cX2_setSnow 24 = .ok (.ifCond .ne 9, 3) := by decide +kernel
theorem dX2_setSnow_27 : decode cX2_setSnow 27 = .ok (.aload_n 0, 1) := by decide +kernel
theorem dX2_setSnow_28 : decode cX2_setSnow 28 = .ok (.iconst 2, 1) := by decide +kernel
theorem dX2_setSnow_29 : decode cX2_setSnow 29 = .ok (.invokevirtual 92, 3) := by decide +kernel
theorem dX2_setSnow_32 : decode cX2_setSnow 32 = .ok (.ireturn, 1) := by decide +kernel
theorem dX2_setSnow_33 : decode cX2_setSnow 33 = .ok (.aload_n 0, 1) := by decide +kernel
theorem dX2_setSnow_34 : decode cX2_setSnow 34 = .ok (.getfield 9, 3) := by decide +kernel
theorem dX2_setSnow_37 : decode cX2_setSnow 37 = .ok (.iload_n 1, 1) := by decide +kernel
theorem dX2_setSnow_38 : decode cX2_setSnow 38 = .ok (.iaload, 1) := by decide +kernel
theorem dX2_setSnow_39 : decode cX2_setSnow 39 = .ok (.istore_n 3, 1) := by decide +kernel
theorem dX2_setSnow_40 : decode cX2_setSnow 40 = .ok (.aload_n 0, 1) := by decide +kernel
theorem dX2_setSnow_41 : decode cX2_setSnow 41 = .ok (.getfield 9, 3) := by decide +kernel
theorem dX2_setSnow_44 : decode cX2_setSnow 44 = .ok (.iload_n 1, 1) := by decide +kernel
theorem dX2_setSnow_45 : decode cX2_setSnow 45 = .ok (.iload_n 2, 1) := by decide +kernel
theorem dX2_setSnow_46 : decode cX2_setSnow 46 = .ok (.iastore, 1) := by decide +kernel
theorem dX2_setSnow_47 : decode cX2_setSnow 47 = .ok (.iload_n 3, 1) := by decide +kernel
theorem dX2_setSnow_48 : decode cX2_setSnow 48 = .ok (.ireturn, 1) := by decide +kernel
theorem dX2_shout_0 : decode cX2_shout 0 = .ok (.aload_n 0, 1) := by decide +kernel
theorem dX2_shout_1 : decode cX2_shout 1 = .ok (.iconst 0, 1) := by decide +kernel
theorem dX2_shout_2 : decode cX2_shout 2 = .ok (.putfield 32, 3) := by decide +kernel
theorem dX2_shout_5 : decode cX2_shout 5 = .ok (.iload_n 1, 1) := by decide +kernel
theorem dX2_shout_6 : decode cX2_shout 6 = .ok (.invokestatic 58, 3) := by decide +kernel
theorem dX2_shout_9 : decode cX2_shout 9 = .ok (.ifCond .ne 9, 3) := by decide +kernel
theorem dX2_shout_12 : decode cX2_shout 12 = .ok (.aload_n 0, 1) := by decide +kernel
theorem dX2_shout_13 : decode cX2_shout 13 = .ok (.iconst 1, 1) := by decide +kernel
theorem dX2_shout_14 : decode cX2_shout 14 = .ok (.invokevirtual 92, 3) := by decide +kernel
theorem dX2_shout_17 : decode cX2_shout 17 = .ok (.ireturn, 1) := by decide +kernel
theorem dX2_shout_18 : decode cX2_shout 18 = .ok (.iload_n 3, 1) := by decide +kernel
theorem dX2_shout_19 : decode cX2_shout 19 = .ok (.iconst 1, 1) := by decide +kernel
theorem dX2_shout_20 : decode cX2_shout 20 = .ok (.bipush 99, 2) := by decide +kernel
theorem dX2_shout_22 : decode cX2_shout 22 = .ok (.invokestatic 36, 3) := by decide +kernel
theorem dX2_shout_25 : decode cX2_shout 25 = .ok (.ifCond .ne 9, 3) := by decide +kernel
theorem dX2_shout_28 : decode cX2_shout 28 = .ok (.aload_n 0, 1) := by decide +kernel
theorem dX2_shout_29 : decode cX2_shout 29 = .ok (.iconst 2, 1) := by decide +kernel
theorem dX2_shout_30 : decode cX2_shout 30 = .ok (.invokevirtual 92, 3) := by decide +kernel
theorem dX2_shout_33 : decode cX2_shout 33 = .ok (.ireturn, 1) := by decide +kernel
theorem dX2_shout_34 : decode cX2_shout 34 = .ok (.aload_n 0, 1) := by decide +kernel
theorem dX2_shout_35 : decode cX2_shout 35 = .ok (.getfield 43, 3) := by decide +kernel
theorem dX2_shout_38 : decode cX2_shout 38 = .ok (.bipush 40, 2) := by decide +kernel
theorem dX2_shout_40 : decode cX2_shout 40 = .ok (.if_icmp .eq 21, 3) := by decide +kernel
theorem dX2_shout_43 : decode cX2_shout 43 = .ok (.aload_n 0, 1) := by decide +kernel
theorem dX2_shout_44 : decode cX2_shout 44 = .ok (.invokevirtual 98, 3) := by decide +kernel
theorem dX2_shout_47 : decode cX2_shout 47 = .ok (.bipush 8, 2) := by decide +kernel
theorem dX2_shout_49 : decode cX2_shout 49 = .ok (.if_icmp .eq 12, 3) := by decide +kernel
theorem dX2_shout_52 : decode cX2_shout 52 = .ok (.aload_n 0, 1) := by decide +kernel
theorem dX2_shout_53 : decode cX2_shout 53 = .ok (.iload_n 1, 1) := by decide +kernel
theorem dX2_shout_54 : decode cX2_shout 54 = .ok (.invokevirtual 69, 3) := by decide +kernel
theorem dX2_shout_57 : decode cX2_shout 57 = .ok (.iconst (-1), 1) := by decide +kernel
theorem dX2_shout_58 : decode cX2_shout 58 = .ok (.if_icmp .eq 9, 3) := by decide +kernel
theorem dX2_shout_61 : decode cX2_shout 61 = .ok (.aload_n 0, 1) := by decide +kernel
theorem dX2_shout_62 : decode cX2_shout 62 = .ok (.iconst 3, 1) := by decide +kernel
theorem dX2_shout_63 : decode cX2_shout 63 = .ok (.invokevirtual 92, 3) := by decide +kernel
theorem dX2_shout_66 : decode cX2_shout 66 = .ok (.ireturn, 1) := by decide +kernel
theorem dX2_shout_67 : decode cX2_shout 67 = .ok (.aload_n 0, 1) := by decide +kernel
theorem dX2_shout_68 : decode cX2_shout 68 = .ok (.getfield 22, 3) := by decide +kernel
theorem dX2_shout_71 : decode cX2_shout 71 = .ok (.bipush 27, 2) := by decide +kernel
theorem dX2_shout_73 : decode cX2_shout 73 = .ok (.aload_n 0, 1) := by decide +kernel
theorem dX2_shout_74 : decode cX2_shout 74 = .ok (.getfield 43, 3) := by decide +kernel
theorem dX2_shout_77 : decode cX2_shout 77 = .ok (.iadd, 1) := by decide +kernel
theorem dX2_shout_78 : decode cX2_shout 78 = .ok (.iload_n 3, 1) := by decide +kernel
theorem dX2_shout_79 : decode cX2_shout 79 = .ok (.iastore, 1) := by decide +kernel
theorem dX2_shout_80 : decode cX2_shout 80 = .ok (.aload_n 0, 1) := by decide +kernel
theorem dX2_shout_81 : decode cX2_shout 81 = .ok (.getfield 22, 3) := by decide +kernel
theorem dX2_shout_84 : decode cX2_shout 84 = .ok (.bipush 67, 2) := by decide +kernel
theorem dX2_shout_86 : decode cX2_shout 86 = .ok (.aload_n 0, 1) := by decide +kernel
theorem dX2_shout_87 : decode cX2_shout 87 = .ok (.getfield 43, 3) := by decide +kernel
theorem dX2_shout_90 : decode cX2_shout 90 = .ok (.iadd, 1) := by decide +kernel
theorem dX2_shout_91 : decode cX2_shout 91 = .ok (.iload_n 1, 1) := by decide +kernel
theorem dX2_shout_92 : decode cX2_shout 92 = .ok (.iastore, 1) := by decide +kernel
theorem dX2_shout_93 : decode cX2_shout 93 = .ok (.aload_n 0, 1) := by decide +kernel
theorem dX2_shout_94 : decode cX2_shout 94 = .ok (.getfield 22, 3) := by decide +kernel
theorem dX2_shout_97 : decode cX2_shout 97 = .ok (.bipush 107, 2) := by decide +kernel
theorem dX2_shout_99 : decode cX2_shout 99 = .ok (.aload_n 0, 1) := by decide +kernel
theorem dX2_shout_100 : decode cX2_shout 100 = .ok (.getfield 43, 3) := by decide +kernel
theorem dX2_shout_103 : decode cX2_shout 103 = .ok (.iadd, 1) := by decide +kernel
theorem dX2_shout_104 : decode cX2_shout 104 = .ok (.iload_n 2, 1) := by decide +kernel
theorem dX2_shout_105 : decode cX2_shout 105 = .ok (.ifCond .eq 7, 3) := by decide +kernel
theorem dX2_shout_108 : decode cX2_shout 108 = .ok (.iconst 1, 1) := by decide +kernel
theorem dX2_shout_109 : decode cX2_shout 109 = .ok (.goto 4, 3) := by decide +kernel
theorem dX2_shout_112 : decode cX2_shout 112 = .ok (.iconst (-1), 1) := by decide +kernel
theorem dX2_shout_113 : decode cX2_shout 113 = .ok (.iastore, 1) := by decide +kernel
theorem dX2_shout_114 : decode cX2_shout 114 = .ok (.aload_n 0, 1) := by decide +kernel
theorem dX2_shout_115 : decode cX2_shout 115 = .ok (.getfield 22, 3) := by decide +kernel
theorem dX2_shout_118 : decode cX2_shout 118 = .ok (.sipush 147, 3) := by decide +kernel
theorem dX2_shout_121 : decode cX2_shout 121 = .ok (.aload_n 0, 1) := by decide +kernel
theorem dX2_shout_122 : decode cX2_shout 122 = .ok (.getfield 43, 3) := by decide +kernel
theorem dX2_shout_125 : decode cX2_shout 125 = .ok (.iadd, 1) := by decide +kernel
theorem dX2_shout_126 : decode cX2_shout 126 = .ok (.iconst 0, 1) := by decide +kernel
theorem dX2_shout_127 : decode cX2_shout 127 = .ok (.iastore, 1) := by decide +kernel
theorem dX2_shout_128 : decode cX2_shout 128 = .ok (.aload_n 0, 1) := by decide +kernel
theorem dX2_shout_129 : decode cX2_shout 129 = .ok (.dup, 1) := by decide +kernel
theorem dX2_shout_130 : decode cX2_shout 130 = .ok (.getfield 43, 3) := by decide +kernel
theorem dX2_shout_133 : decode cX2_shout 133 = .ok (.iconst 1, 1) := by decide +kernel
theorem dX2_shout_134 : decode cX2_shout 134 = .ok (.iadd, 1) := by decide +kernel
theorem dX2_shout_135 : decode cX2_shout 135 = .ok (.putfield 43, 3) := by decide +kernel
theorem dX2_shout_138 : decode cX2_shout 138 = .ok (.aload_n 0, 1) := by decide +kernel
theorem dX2_shout_139 : decode cX2_shout 139 = .ok (.getfield 43, 3) := by decide +kernel
theorem dX2_shout_142 : decode cX2_shout 142 = .ok (.iconst 1, 1) := by decide +kernel
theorem dX2_shout_143 : decode cX2_shout 143 = .ok (.isub, 1) := by decide +kernel
theorem dX2_shout_144 : decode cX2_shout 144 = .ok (.ireturn, 1) := by decide +kernel
theorem dX2_pass_0 : decode cX2_pass 0 = .ok (.aload_n 0, 1) := by decide +kernel
theorem dX2_pass_1 : decode cX2_pass 1 = .ok (.iconst 0, 1) := by decide +kernel
theorem dX2_pass_2 : decode cX2_pass 2 = .ok (.putfield 32, 3) := by decide +kernel
theorem dX2_pass_5 : decode cX2_pass 5 = .ok (.iload_n 1, 1) := by decide +kernel
theorem dX2_pass_6 : decode cX2_pass 6 = .ok (.iconst 1, 1) := by decide +kernel
theorem dX2_pass_7 : decode cX2_pass 7 = .ok (.bipush 100, 2) := by decide +kernel
theorem dX2_pass_9 : decode cX2_pass 9 = .ok (.invokestatic 36, 3) := by decide +kernel
theorem dX2_pass_12 : decode cX2_pass 12 = .ok (.ifCond .ne 9, 3) := by decide +kernel
theorem dX2_pass_15 : decode cX2_pass 15 = .ok (.aload_n 0, 1) := by decide +kernel
theorem dX2_pass_16 : decode cX2_pass 16 = .ok (.iconst 1, 1) := by decide +kernel
theorem dX2_pass_17 : decode cX2_pass 17 = .ok (.invokevirtual 92, 3) := by decide +kernel
theorem dX2_pass_20 : decode cX2_pass 20 = .ok (.ireturn, 1) := by decide +kernel
theorem dX2_pass_21 : decode cX2_pass 21 = .ok (.aload_n 0, 1) := by decide +kernel
theorem dX2_pass_22 : decode cX2_pass 22 = .ok (.invokevirtual 102, 3) := by decide +kernel
theorem dX2_pass_25 : decode cX2_pass 25 = .ok (.istore_n 2, 1) := by decide +kernel
theorem dX2_pass_26 : decode cX2_pass 26 = .ok (.aload_n 0, 1) := by decide +kernel
theorem dX2_pass_27 : decode cX2_pass 27 = .ok (.iload_n 1, 1) := by decide +kernel
theorem dX2_pass_28 : decode cX2_pass 28 = .ok (.invokevirtual 105, 3) := by decide +kernel
theorem dX2_pass_31 : decode cX2_pass 31 = .ok (.aload_n 0, 1) := by decide +kernel
theorem dX2_pass_32 : decode cX2_pass 32 = .ok (.invokevirtual 102, 3) := by decide +kernel
theorem dX2_pass_35 : decode cX2_pass 35 = .ok (.iload_n 2, 1) := by decide +kernel
theorem dX2_pass_36 : decode cX2_pass 36 = .ok (.isub, 1) := by decide +kernel
theorem dX2_pass_37 : decode cX2_pass 37 = .ok (.ireturn, 1) := by decide +kernel
theorem dX2_beat_0 : decode cX2_beat 0 = .ok (.aload_n 0, 1) := by decide +kernel
theorem dX2_beat_1 : decode cX2_beat 1 = .ok (.aload_n 0, 1) := by decide +kernel
theorem dX2_beat_2 : decode cX2_beat 2 = .ok (.getfield 22, 3) := by decide +kernel
theorem dX2_beat_5 : decode cX2_beat 5 = .ok (.iconst 0, 1) := by decide +kernel
theorem dX2_beat_6 : decode cX2_beat 6 = .ok (.iaload, 1) := by decide +kernel
theorem dX2_beat_7 : decode cX2_beat 7 = .ok (.invokevirtual 108, 3) := by decide +kernel
theorem dX2_beat_10 : decode cX2_beat 10 = .ok (.ireturn, 1) := by decide +kernel
theorem dX2_walls_0 : decode cX2_walls 0 = .ok (.aload_n 0, 1) := by decide +kernel
theorem dX2_walls_1 : decode cX2_walls 1 = .ok (.aload_n 0, 1) := by decide +kernel
theorem dX2_walls_2 : decode cX2_walls 2 = .ok (.getfield 40, 3) := by decide +kernel
theorem dX2_walls_5 : decode cX2_walls 5 = .ok (.invokevirtual 108, 3) := by decide +kernel
theorem dX2_walls_8 : decode cX2_walls 8 = .ok (.ireturn, 1) := by decide +kernel
theorem dX2_shouts_0 : decode cX2_shouts 0 = .ok (.aload_n 0, 1) := by decide +kernel
theorem dX2_shouts_1 : decode cX2_shouts 1 = .ok (.aload_n 0, 1) := by decide +kernel
theorem dX2_shouts_2 : decode cX2_shouts 2 = .ok (.getfield 43, 3) := by decide +kernel
theorem dX2_shouts_5 : decode cX2_shouts 5 = .ok (.invokevirtual 108, 3) := by decide +kernel
theorem dX2_shouts_8 : decode cX2_shouts 8 = .ok (.ireturn, 1) := by decide +kernel
theorem dX2_underWay_0 : decode cX2_underWay 0 = .ok (.aload_n 0, 1) := by decide +kernel
theorem dX2_underWay_1 : decode cX2_underWay 1 = .ok (.aload_n 0, 1) := by decide +kernel
theorem dX2_underWay_2 : decode cX2_underWay 2 = .ok (.invokevirtual 98, 3) := by decide +kernel
theorem dX2_underWay_5 : decode cX2_underWay 5 = .ok (.invokevirtual 108, 3) := by decide +kernel
theorem dX2_underWay_8 : decode cX2_underWay 8 = .ok (.ireturn, 1) := by decide +kernel
theorem dX2_overlaps_0 : decode cX2_overlaps 0 = .ok (.aload_n 0, 1) := by decide +kernel
theorem dX2_overlaps_1 : decode cX2_overlaps 1 = .ok (.aload_n 0, 1) := by decide +kernel
theorem dX2_overlaps_2 : decode cX2_overlaps 2 = .ok (.getfield 22, 3) := by decide +kernel
theorem dX2_overlaps_5 : decode cX2_overlaps 5 = .ok (.iconst 1, 1) := by decide +kernel
theorem dX2_overlaps_6 : decode cX2_overlaps 6 = .ok (.iaload, 1) := by decide +kernel
theorem dX2_overlaps_7 : decode cX2_overlaps 7 = .ok (.invokevirtual 108, 3) := by decide +kernel
theorem dX2_overlaps_10 : decode cX2_overlaps 10 = .ok (.ireturn, 1) := by decide +kernel
theorem dX2_isKnown_0 : decode cX2_isKnown 0 = .ok (.aload_n 0, 1) := by decide +kernel
theorem dX2_isKnown_1 : decode cX2_isKnown 1 = .ok (.iload_n 1, 1) := by decide +kernel
theorem dX2_isKnown_2 : decode cX2_isKnown 2 = .ok (.ifCond .eq 7, 3) := by decide +kernel
theorem dX2_isKnown_5 : decode cX2_isKnown 5 = .ok (.iconst 0, 1) := by decide +kernel
theorem dX2_isKnown_6 : decode cX2_isKnown 6 = .ok (.goto 4, 3) := by decide +kernel
theorem dX2_isKnown_9 : decode cX2_isKnown 9 = .ok (.iconst 1, 1) := by decide +kernel
theorem dX2_isKnown_10 : decode cX2_isKnown 10 = .ok (.putfield 32, 3) := by decide +kernel
theorem dX2_isKnown_13 : decode cX2_isKnown 13 = .ok (.iload_n 1, 1) := by decide +kernel
theorem dX2_isKnown_14 : decode cX2_isKnown 14 = .ok (.ireturn, 1) := by decide +kernel
theorem dX2_snowOn_0 : decode cX2_snowOn 0 = .ok (.aload_n 0, 1) := by decide +kernel
theorem dX2_snowOn_1 : decode cX2_snowOn 1 = .ok (.iload_n 1, 1) := by decide +kernel
theorem dX2_snowOn_2 : decode cX2_snowOn 2 = .ok (.invokestatic 58, 3) := by decide +kernel
theorem dX2_snowOn_5 : decode cX2_snowOn 5 = .ok (.invokevirtual 111, 3) := by decide +kernel
theorem dX2_snowOn_8 : decode cX2_snowOn 8 = .ok (.ifCond .eq 12, 3) := by decide +kernel
theorem dX2_snowOn_11 : decode cX2_snowOn 11 = .ok (.aload_n 0, 1) := by decide +kernel
theorem dX2_snowOn_12 : decode cX2_snowOn 12 = .ok (.getfield 9, 3) := by decide +kernel
theorem dX2_snowOn_15 : decode cX2_snowOn 15 = .ok (.iload_n 1, 1) := by decide +kernel
theorem dX2_snowOn_16 : decode cX2_snowOn 16 = .ok (.iaload, 1) := by decide +kernel
theorem dX2_snowOn_17 : decode cX2_snowOn 17 = .ok (.goto 4, 3) := by decide +kernel
theorem dX2_snowOn_20 : decode cX2_snowOn 20 = .ok (.iconst 0, 1) := by decide +kernel
theorem dX2_snowOn_21 : decode cX2_snowOn 21 = .ok (.ireturn, 1) := by decide +kernel
theorem dX2_wallOn_0 : decode cX2_wallOn 0 = .ok (.aload_n 0, 1) := by decide +kernel
theorem dX2_wallOn_1 : decode cX2_wallOn 1 = .ok (.iload_n 1, 1) := by decide +kernel
theorem dX2_wallOn_2 : decode cX2_wallOn 2 = .ok (.invokestatic 58, 3) := by decide +kernel
theorem dX2_wallOn_5 : decode cX2_wallOn 5 = .ok (.invokevirtual 111, 3) := by decide +kernel
theorem dX2_wallOn_8 : decode cX2_wallOn 8 = .ok (.ifCond .eq 12, 3) := by decide +kernel
theorem dX2_wallOn_11 : decode cX2_wallOn 11 = .ok (.aload_n 0, 1) := by decide +kernel
theorem dX2_wallOn_12 : decode cX2_wallOn 12 = .ok (.getfield 13, 3) := by decide +kernel
theorem dX2_wallOn_15 : decode cX2_wallOn 15 = .ok (.iload_n 1, 1) := by decide +kernel
theorem dX2_wallOn_16 : decode cX2_wallOn 16 = .ok (.iaload, 1) := by decide +kernel
theorem dX2_wallOn_17 : decode cX2_wallOn 17 = .ok (.goto 4, 3) := by decide +kernel
theorem dX2_wallOn_20 : decode cX2_wallOn 20 = .ok (.iconst 0, 1) := by decide +kernel
theorem dX2_wallOn_21 : decode cX2_wallOn 21 = .ok (.ireturn, 1) := by decide +kernel
theorem dX2_loudAt_0 : decode cX2_loudAt 0 = .ok (.aload_n 0, 1) := by decide +kernel
theorem dX2_loudAt_1 : decode cX2_loudAt 1 = .ok (.iload_n 1, 1) := by decide +kernel
theorem dX2_loudAt_2 : decode cX2_loudAt 2 = .ok (.invokevirtual 69, 3) := by decide +kernel
theorem dX2_loudAt_5 : decode cX2_loudAt 5 = .ok (.iconst (-1), 1) := by decide +kernel
theorem dX2_loudAt_6 : decode cX2_loudAt 6 = .ok (.if_icmp .ne 7, 3) := by decide +kernel
theorem dX2_loudAt_9 : decode cX2_loudAt 9 = .ok (.iconst 0, 1) := by decide +kernel
theorem dX2_loudAt_10 : decode cX2_loudAt 10 = .ok (.goto 16, 3) := by decide +kernel
theorem dX2_loudAt_13 : decode cX2_loudAt 13 = .ok (.aload_n 0, 1) := by decide +kernel
theorem dX2_loudAt_14 : decode cX2_loudAt 14 = .ok (.getfield 22, 3) := by decide +kernel
theorem dX2_loudAt_17 : decode cX2_loudAt 17 = .ok (.bipush 27, 2) := by decide +kernel
theorem dX2_loudAt_19 : decode cX2_loudAt 19 = .ok (.aload_n 0, 1) := by decide +kernel
theorem dX2_loudAt_20 : decode cX2_loudAt 20 = .ok (.iload_n 1, 1) := by decide +kernel
theorem dX2_loudAt_21 : decode cX2_loudAt 21 = .ok (.invokevirtual 69, 3) := by decide +kernel
theorem dX2_loudAt_24 : decode cX2_loudAt 24 = .ok (.iadd, 1) := by decide +kernel
theorem dX2_loudAt_25 : decode cX2_loudAt 25 = .ok (.iaload, 1) := by decide +kernel
theorem dX2_loudAt_26 : decode cX2_loudAt 26 = .ok (.ireturn, 1) := by decide +kernel
theorem dX2_loudOn_0 : decode cX2_loudOn 0 = .ok (.aload_n 0, 1) := by decide +kernel
theorem dX2_loudOn_1 : decode cX2_loudOn 1 = .ok (.iload_n 1, 1) := by decide +kernel
theorem dX2_loudOn_2 : decode cX2_loudOn 2 = .ok (.invokestatic 58, 3) := by decide +kernel
theorem dX2_loudOn_5 : decode cX2_loudOn 5 = .ok (.invokevirtual 111, 3) := by decide +kernel
theorem dX2_loudOn_8 : decode cX2_loudOn 8 = .ok (.ifCond .eq 11, 3) := by decide +kernel
theorem dX2_loudOn_11 : decode cX2_loudOn 11 = .ok (.aload_n 0, 1) := by decide +kernel
theorem dX2_loudOn_12 : decode cX2_loudOn 12 = .ok (.iload_n 1, 1) := by decide +kernel
theorem dX2_loudOn_13 : decode cX2_loudOn 13 = .ok (.invokevirtual 115, 3) := by decide +kernel
theorem dX2_loudOn_16 : decode cX2_loudOn 16 = .ok (.goto 4, 3) := by decide +kernel
theorem dX2_loudOn_19 : decode cX2_loudOn 19 = .ok (.iconst 0, 1) := by decide +kernel
theorem dX2_loudOn_20 : decode cX2_loudOn 20 = .ok (.ireturn, 1) := by decide +kernel
theorem dX2_stoneOf_0 : decode cX2_stoneOf 0 = .ok (.aload_n 0, 1) := by decide +kernel
theorem dX2_stoneOf_1 : decode cX2_stoneOf 1 = .ok (.aload_n 0, 1) := by decide +kernel
theorem dX2_stoneOf_2 : decode cX2_stoneOf 2 = .ok (.iload_n 1, 1) := by decide +kernel
theorem dX2_stoneOf_3 : decode cX2_stoneOf 3 = .ok (.invokevirtual 95, 3) := by decide +kernel
theorem dX2_stoneOf_6 : decode cX2_stoneOf 6 = .ok (.invokevirtual 111, 3) := by decide +kernel
theorem dX2_stoneOf_9 : decode cX2_stoneOf 9 = .ok (.ifCond .eq 12, 3) := by decide +kernel
theorem dX2_stoneOf_12 : decode cX2_stoneOf 12 = .ok (.aload_n 0, 1) := by decide +kernel
theorem dX2_stoneOf_13 : decode cX2_stoneOf 13 = .ok (.getfield 16, 3) := by decide +kernel
theorem dX2_stoneOf_16 : decode cX2_stoneOf 16 = .ok (.iload_n 1, 1) := by decide +kernel
theorem dX2_stoneOf_17 : decode cX2_stoneOf 17 = .ok (.iaload, 1) := by decide +kernel
theorem dX2_stoneOf_18 : decode cX2_stoneOf 18 = .ok (.goto 4, 3) := by decide +kernel
theorem dX2_stoneOf_21 : decode cX2_stoneOf 21 = .ok (.iconst 0, 1) := by decide +kernel
theorem dX2_stoneOf_22 : decode cX2_stoneOf 22 = .ok (.ireturn, 1) := by decide +kernel
theorem dX2_ownerOf_0 : decode cX2_ownerOf 0 = .ok (.aload_n 0, 1) := by decide +kernel
theorem dX2_ownerOf_1 : decode cX2_ownerOf 1 = .ok (.aload_n 0, 1) := by decide +kernel
theorem dX2_ownerOf_2 : decode cX2_ownerOf 2 = .ok (.iload_n 1, 1) := by decide +kernel
theorem dX2_ownerOf_3 : decode cX2_ownerOf 3 = .ok (.invokevirtual 95, 3) := by decide +kernel
theorem dX2_ownerOf_6 : decode cX2_ownerOf 6 = .ok (.invokevirtual 111, 3) := by decide +kernel
theorem dX2_ownerOf_9 : decode cX2_ownerOf 9 = .ok (.ifCond .eq 15, 3) := by decide +kernel
theorem dX2_ownerOf_12 : decode cX2_ownerOf 12 = .ok (.aload_n 0, 1) := by decide +kernel
theorem dX2_ownerOf_13 : decode cX2_ownerOf 13 = .ok (.getfield 22, 3) := by decide +kernel
theorem dX2_ownerOf_16 : decode cX2_ownerOf 16 = .ok (.bipush 7, 2) := by decide +kernel
theorem dX2_ownerOf_18 : decode cX2_ownerOf 18 = .ok (.iload_n 1, 1) := by decide +kernel
theorem dX2_ownerOf_19 : decode cX2_ownerOf 19 = .ok (.iadd, 1) := by decide +kernel
theorem dX2_ownerOf_20 : decode cX2_ownerOf 20 = .ok (.iaload, 1) := by decide +kernel
theorem dX2_ownerOf_21 : decode cX2_ownerOf 21 = .ok (.goto 4, 3) := by decide +kernel
theorem dX2_ownerOf_24 : decode cX2_ownerOf 24 = .ok (.iconst 0, 1) := by decide +kernel
theorem dX2_ownerOf_25 : decode cX2_ownerOf 25 = .ok (.ireturn, 1) := by decide +kernel
theorem dX2_thrownBack_0 : decode cX2_thrownBack 0 = .ok (.aload_n 0, 1) := by decide +kernel
theorem dX2_thrownBack_1 : decode cX2_thrownBack 1 = .ok (.aload_n 0, 1) := by decide +kernel
theorem dX2_thrownBack_2 : decode cX2_thrownBack 2 = .ok (.iload_n 1, 1) := by decide +kernel
theorem dX2_thrownBack_3 : decode cX2_thrownBack 3 = .ok (.invokevirtual 95, 3) := by decide +kernel
theorem dX2_thrownBack_6 : decode cX2_thrownBack 6 = .ok (.invokevirtual 111, 3) := by decide +kernel
theorem dX2_thrownBack_9 : decode cX2_thrownBack 9 = .ok (.ifCond .eq 15, 3) := by decide +kernel
theorem dX2_thrownBack_12 : decode cX2_thrownBack 12 = .ok (.aload_n 0, 1) := by decide +kernel
theorem dX2_thrownBack_13 : decode cX2_thrownBack 13 = .ok (.getfield 22, 3) := by decide +kernel
theorem dX2_thrownBack_16 : decode cX2_thrownBack 16 = .ok (.bipush 17, 2) := by decide +kernel
theorem dX2_thrownBack_18 : decode cX2_thrownBack 18 = .ok (.iload_n 1, 1) := by decide +kernel
theorem dX2_thrownBack_19 : decode cX2_thrownBack 19 = .ok (.iadd, 1) := by decide +kernel
theorem dX2_thrownBack_20 : decode cX2_thrownBack 20 = .ok (.iaload, 1) := by decide +kernel
theorem dX2_thrownBack_21 : decode cX2_thrownBack 21 = .ok (.goto 4, 3) := by decide +kernel
theorem dX2_thrownBack_24 : decode cX2_thrownBack 24 = .ok (.iconst 0, 1) := by decide +kernel
theorem dX2_thrownBack_25 : decode cX2_thrownBack 25 = .ok (.ireturn, 1) := by decide +kernel
theorem dX2_coinsOf_0 : decode cX2_coinsOf 0 = .ok (.aload_n 0, 1) := by decide +kernel
theorem dX2_coinsOf_1 : decode cX2_coinsOf 1 = .ok (.iload_n 1, 1) := by decide +kernel
theorem dX2_coinsOf_2 : decode cX2_coinsOf 2 = .ok (.invokestatic 89, 3) := by decide +kernel
theorem dX2_coinsOf_5 : decode cX2_coinsOf 5 = .ok (.invokevirtual 111, 3) := by decide +kernel
theorem dX2_coinsOf_8 : decode cX2_coinsOf 8 = .ok (.ifCond .eq 14, 3) := by decide +kernel
theorem dX2_coinsOf_11 : decode cX2_coinsOf 11 = .ok (.aload_n 0, 1) := by decide +kernel
theorem dX2_coinsOf_12 : decode cX2_coinsOf 12 = .ok (.getfield 22, 3) := by decide +kernel
theorem dX2_coinsOf_15 : decode cX2_coinsOf 15 = .ok (.iconst 3, 1) := by decide +kernel
theorem dX2_coinsOf_16 : decode cX2_coinsOf 16 = .ok (.iload_n 1, 1) := by decide +kernel
theorem dX2_coinsOf_17 : decode cX2_coinsOf 17 = .ok (.iadd, 1) := by decide +kernel
theorem dX2_coinsOf_18 : decode cX2_coinsOf 18 = .ok (.iaload, 1) := by decide +kernel
theorem dX2_coinsOf_19 : decode cX2_coinsOf 19 = .ok (.goto 4, 3) := by decide +kernel
theorem dX2_coinsOf_22 : decode cX2_coinsOf 22 = .ok (.iconst 0, 1) := by decide +kernel
theorem dX2_coinsOf_23 : decode cX2_coinsOf 23 = .ok (.ireturn, 1) := by decide +kernel
theorem dX2_manyOf_0 : decode cX2_manyOf 0 = .ok (.iconst 0, 1) := by decide +kernel
theorem dX2_manyOf_1 : decode cX2_manyOf 1 = .ok (.istore_n 2, 1) := by decide +kernel
theorem dX2_manyOf_2 : decode cX2_manyOf 2 = .ok (.iconst 0, 1) := by decide +kernel
theorem dX2_manyOf_3 : decode cX2_manyOf 3 = .ok (.istore_n 3, 1) := by decide +kernel
theorem dX2_manyOf_4 : decode cX2_manyOf 4 = .ok (.iload_n 3, 1) := by decide +kernel
theorem dX2_manyOf_5 : decode cX2_manyOf 5 = .ok (.aload_n 0, 1) := by decide +kernel
theorem dX2_manyOf_6 : decode cX2_manyOf 6 = .ok (.getfield 40, 3) := by decide +kernel
theorem dX2_manyOf_9 : decode cX2_manyOf 9 = .ok (.if_icmp .ge 30, 3) := by decide +kernel
theorem dX2_manyOf_12 : decode cX2_manyOf 12 = .ok (.iload_n 2, 1) := by decide +kernel
theorem dX2_manyOf_13 : decode cX2_manyOf 13 = .ok (.aload_n 0, 1) := by decide +kernel
theorem dX2_manyOf_14 : decode cX2_manyOf 14 = .ok (.getfield 22, 3) := by decide +kernel
theorem dX2_manyOf_17 : decode cX2_manyOf 17 = .ok (.bipush 7, 2) := by decide +kernel
theorem dX2_manyOf_19 : decode cX2_manyOf 19 = .ok (.iload_n 3, 1) := by decide +kernel
theorem dX2_manyOf_20 : decode cX2_manyOf 20 = .ok (.iadd, 1) := by decide +kernel
theorem dX2_manyOf_21 : decode cX2_manyOf 21 = .ok (.iaload, 1) := by decide +kernel
theorem dX2_manyOf_22 : decode cX2_manyOf 22 = .ok (.iload_n 1, 1) := by decide +kernel
theorem dX2_manyOf_23 : decode cX2_manyOf 23 = .ok (.if_icmp .ne 7, 3) := by decide +kernel
theorem dX2_manyOf_26 : decode cX2_manyOf 26 = .ok (.iconst 1, 1) := by decide +kernel
theorem dX2_manyOf_27 : decode cX2_manyOf 27 = .ok (.goto 4, 3) := by decide +kernel
theorem dX2_manyOf_30 : decode cX2_manyOf 30 = .ok (.iconst 0, 1) := by decide +kernel
theorem dX2_manyOf_31 : decode cX2_manyOf 31 = .ok (.iadd, 1) := by decide +kernel
theorem dX2_manyOf_32 : decode cX2_manyOf 32 = .ok (.istore_n 2, 1) := by decide +kernel
theorem dX2_manyOf_33 : decode cX2_manyOf 33 = .ok (.iinc 3 1, 3) := by decide +kernel
theorem dX2_manyOf_36 : decode cX2_manyOf 36 = .ok (.goto (-32), 3) := by decide +kernel
theorem dX2_manyOf_39 : decode cX2_manyOf 39 = .ok (.iload_n 2, 1) := by decide +kernel
theorem dX2_manyOf_40 : decode cX2_manyOf 40 = .ok (.ireturn, 1) := by decide +kernel
theorem dX2_wallsOf_0 : decode cX2_wallsOf 0 = .ok (.aload_n 0, 1) := by decide +kernel
theorem dX2_wallsOf_1 : decode cX2_wallsOf 1 = .ok (.iload_n 1, 1) := by decide +kernel
theorem dX2_wallsOf_2 : decode cX2_wallsOf 2 = .ok (.invokestatic 89, 3) := by decide +kernel
theorem dX2_wallsOf_5 : decode cX2_wallsOf 5 = .ok (.invokevirtual 111, 3) := by decide +kernel
theorem dX2_wallsOf_8 : decode cX2_wallsOf 8 = .ok (.ifCond .eq 11, 3) := by decide +kernel
theorem dX2_wallsOf_11 : decode cX2_wallsOf 11 = .ok (.aload_n 0, 1) := by decide +kernel
theorem dX2_wallsOf_12 : decode cX2_wallsOf 12 = .ok (.iload_n 1, 1) := by decide +kernel
theorem dX2_wallsOf_13 : decode cX2_wallsOf 13 = .ok (.invokevirtual 118, 3) := by decide +kernel
theorem dX2_wallsOf_16 : decode cX2_wallsOf 16 = .ok (.goto 4, 3) := by decide +kernel
theorem dX2_wallsOf_19 : decode cX2_wallsOf 19 = .ok (.iconst 0, 1) := by decide +kernel
theorem dX2_wallsOf_20 : decode cX2_wallsOf 20 = .ok (.ireturn, 1) := by decide +kernel
theorem dX2_silentFor_0 : decode cX2_silentFor 0 = .ok (.aload_n 0, 1) := by decide +kernel
theorem dX2_silentFor_1 : decode cX2_silentFor 1 = .ok (.iload_n 1, 1) := by decide +kernel
theorem dX2_silentFor_2 : decode cX2_silentFor 2 = .ok (.invokestatic 89, 3) := by decide +kernel
theorem dX2_silentFor_5 : decode cX2_silentFor 5 = .ok (.invokevirtual 111, 3) := by decide +kernel
theorem dX2_silentFor_8 : decode cX2_silentFor 8 = .ok (.ifCond .eq 14, 3) := by decide +kernel
theorem dX2_silentFor_11 : decode cX2_silentFor 11 = .ok (.aload_n 0, 1) := by decide +kernel
theorem dX2_silentFor_12 : decode cX2_silentFor 12 = .ok (.getfield 22, 3) := by decide +kernel
theorem dX2_silentFor_15 : decode cX2_silentFor 15 = .ok (.iconst 5, 1) := by decide +kernel
theorem dX2_silentFor_16 : decode cX2_silentFor 16 = .ok (.iload_n 1, 1) := by decide +kernel
theorem dX2_silentFor_17 : decode cX2_silentFor 17 = .ok (.iadd, 1) := by decide +kernel
theorem dX2_silentFor_18 : decode cX2_silentFor 18 = .ok (.iaload, 1) := by decide +kernel
theorem dX2_silentFor_19 : decode cX2_silentFor 19 = .ok (.goto 4, 3) := by decide +kernel
theorem dX2_silentFor_22 : decode cX2_silentFor 22 = .ok (.iconst 0, 1) := by decide +kernel
theorem dX2_silentFor_23 : decode cX2_silentFor 23 = .ok (.ireturn, 1) := by decide +kernel
theorem dX2_inherited_0 : decode cX2_inherited 0 = .ok (.aload_n 0, 1) := by decide +kernel
theorem dX2_inherited_1 : decode cX2_inherited 1 = .ok (.aload_n 0, 1) := by decide +kernel
theorem dX2_inherited_2 : decode cX2_inherited 2 = .ok (.getfield 22, 3) := by decide +kernel
theorem dX2_inherited_5 : decode cX2_inherited 5 = .ok (.iconst 2, 1) := by decide +kernel
theorem dX2_inherited_6 : decode cX2_inherited 6 = .ok (.iaload, 1) := by decide +kernel
theorem dX2_inherited_7 : decode cX2_inherited 7 = .ok (.invokevirtual 108, 3) := by decide +kernel
theorem dX2_inherited_10 : decode cX2_inherited 10 = .ok (.ireturn, 1) := by decide +kernel
theorem dX2_loudnessOf_0 : decode cX2_loudnessOf 0 = .ok (.aload_n 0, 1) := by decide +kernel
theorem dX2_loudnessOf_1 : decode cX2_loudnessOf 1 = .ok (.aload_n 0, 1) := by decide +kernel
theorem dX2_loudnessOf_2 : decode cX2_loudnessOf 2 = .ok (.iload_n 1, 1) := by decide +kernel
theorem dX2_loudnessOf_3 : decode cX2_loudnessOf 3 = .ok (.invokevirtual 121, 3) := by decide +kernel
theorem dX2_loudnessOf_6 : decode cX2_loudnessOf 6 = .ok (.invokevirtual 111, 3) := by decide +kernel
theorem dX2_loudnessOf_9 : decode cX2_loudnessOf 9 = .ok (.ifCond .eq 15, 3) := by decide +kernel
theorem dX2_loudnessOf_12 : decode cX2_loudnessOf 12 = .ok (.aload_n 0, 1) := by decide +kernel
theorem dX2_loudnessOf_13 : decode cX2_loudnessOf 13 = .ok (.getfield 22, 3) := by decide +kernel
theorem dX2_loudnessOf_16 : decode cX2_loudnessOf 16 = .ok (.bipush 27, 2) := by decide +kernel
theorem dX2_loudnessOf_18 : decode cX2_loudnessOf 18 = .ok (.iload_n 1, 1) := by decide +kernel
theorem dX2_loudnessOf_19 : decode cX2_loudnessOf 19 = .ok (.iadd, 1) := by decide +kernel
theorem dX2_loudnessOf_20 : decode cX2_loudnessOf 20 = .ok (.iaload, 1) := by decide +kernel
theorem dX2_loudnessOf_21 : decode cX2_loudnessOf 21 = .ok (.goto 4, 3) := by decide +kernel
theorem dX2_loudnessOf_24 : decode cX2_loudnessOf 24 = .ok (.iconst 0, 1) := by decide +kernel
theorem dX2_loudnessOf_25 : decode cX2_loudnessOf 25 = .ok (.ireturn, 1) := by decide +kernel
theorem dX2_place_0 : decode cX2_place 0 = .ok (.aload_n 0, 1) := by decide +kernel
theorem dX2_place_1 : decode cX2_place 1 = .ok (.iload_n 1, 1) := by decide +kernel
theorem dX2_place_2 : decode cX2_place 2 = .ok (.invokevirtual 66, 3) := by decide +kernel
theorem dX2_place_5 : decode cX2_place 5 = .ok (.ifCond .eq 15, 3) := by decide +kernel
theorem dX2_place_8 : decode cX2_place 8 = .ok (.aload_n 0, 1) := by decide +kernel
theorem dX2_place_9 : decode cX2_place 9 = .ok (.getfield 22, 3) := by decide +kernel
theorem dX2_place_12 : decode cX2_place 12 = .ok (.bipush 67, 2) := by decide +kernel
theorem dX2_place_14 : decode cX2_place 14 = .ok (.iload_n 1, 1) := by decide +kernel
theorem dX2_place_15 : decode cX2_place 15 = .ok (.iadd, 1) := by decide +kernel
theorem dX2_place_16 : decode cX2_place 16 = .ok (.iaload, 1) := by decide +kernel
theorem dX2_place_17 : decode cX2_place 17 = .ok (.goto 4, 3) := by decide +kernel
theorem dX2_place_20 : decode cX2_place 20 = .ok (.iconst (-1), 1) := by decide +kernel
theorem dX2_place_21 : decode cX2_place 21 = .ok (.ireturn, 1) := by decide +kernel
theorem dX2_placeOf_0 : decode cX2_placeOf 0 = .ok (.aload_n 0, 1) := by decide +kernel
theorem dX2_placeOf_1 : decode cX2_placeOf 1 = .ok (.aload_n 0, 1) := by decide +kernel
theorem dX2_placeOf_2 : decode cX2_placeOf 2 = .ok (.iload_n 1, 1) := by decide +kernel
theorem dX2_placeOf_3 : decode cX2_placeOf 3 = .ok (.invokevirtual 121, 3) := by decide +kernel
theorem dX2_placeOf_6 : decode cX2_placeOf 6 = .ok (.invokevirtual 111, 3) := by decide +kernel
theorem dX2_placeOf_9 : decode cX2_placeOf 9 = .ok (.ifCond .eq 11, 3) := by decide +kernel
theorem dX2_placeOf_12 : decode cX2_placeOf 12 = .ok (.aload_n 0, 1) := by decide +kernel
theorem dX2_placeOf_13 : decode cX2_placeOf 13 = .ok (.iload_n 1, 1) := by decide +kernel
theorem dX2_placeOf_14 : decode cX2_placeOf 14 = .ok (.invokevirtual 124, 3) := by decide +kernel
theorem dX2_placeOf_17 : decode cX2_placeOf 17 = .ok (.goto 4, 3) := by decide +kernel
theorem dX2_placeOf_20 : decode cX2_placeOf 20 = .ok (.iconst 0, 1) := by decide +kernel
theorem dX2_placeOf_21 : decode cX2_placeOf 21 = .ok (.ireturn, 1) := by decide +kernel
theorem dX2_isRight_0 : decode cX2_isRight 0 = .ok (.aload_n 0, 1) := by decide +kernel
theorem dX2_isRight_1 : decode cX2_isRight 1 = .ok (.iload_n 1, 1) := by decide +kernel
theorem dX2_isRight_2 : decode cX2_isRight 2 = .ok (.invokevirtual 66, 3) := by decide +kernel
theorem dX2_isRight_5 : decode cX2_isRight 5 = .ok (.ifCond .eq 19, 3) := by decide +kernel
theorem dX2_isRight_8 : decode cX2_isRight 8 = .ok (.aload_n 0, 1) := by decide +kernel
theorem dX2_isRight_9 : decode cX2_isRight 9 = .ok (.getfield 22, 3) := by decide +kernel
theorem dX2_isRight_12 : decode cX2_isRight 12 = .ok (.bipush 107, 2) := by decide +kernel
theorem dX2_isRight_14 : decode cX2_isRight 14 = .ok (.iload_n 1, 1) := by decide +kernel
theorem dX2_isRight_15 : decode cX2_isRight 15 = .ok (.iadd, 1) := by decide +kernel
theorem dX2_isRight_16 : decode cX2_isRight 16 = .ok (.iaload, 1) := by decide +kernel
theorem dX2_isRight_17 : decode cX2_isRight 17 = .ok (.ifCond .le 7, 3) := by decide +kernel
theorem dX2_isRight_20 : decode cX2_isRight 20 = .ok (.iconst 1, 1) := by decide +kernel
theorem dX2_isRight_21 : decode cX2_isRight 21 = .ok (.goto 4, 3) := by decide +kernel
theorem dX2_isRight_24 : decode cX2_isRight 24 = .ok (.iconst 0, 1) := by decide +kernel
theorem dX2_isRight_25 : decode cX2_isRight 25 = .ok (.ireturn, 1) := by decide +kernel
theorem dX2_goesRight_0 : decode cX2_goesRight 0 = .ok (.aload_n 0, 1) := by decide +kernel
theorem dX2_goesRight_1 : decode cX2_goesRight 1 = .ok (.aload_n 0, 1) := by decide +kernel
theorem dX2_goesRight_2 : decode cX2_goesRight 2 = .ok (.iload_n 1, 1) := by decide +kernel
theorem dX2_goesRight_3 : decode cX2_goesRight 3 = .ok (.invokevirtual 121, 3) := by decide +kernel
theorem dX2_goesRight_6 : decode cX2_goesRight 6 = .ok (.invokevirtual 111, 3) := by decide +kernel
theorem dX2_goesRight_9 : decode cX2_goesRight 9 = .ok (.ifCond .eq 15, 3) := by decide +kernel
theorem dX2_goesRight_12 : decode cX2_goesRight 12 = .ok (.aload_n 0, 1) := by decide +kernel
theorem dX2_goesRight_13 : decode cX2_goesRight 13 = .ok (.iload_n 1, 1) := by decide +kernel
theorem dX2_goesRight_14 : decode cX2_goesRight 14 = .ok (.invokevirtual 127, 3) := by decide +kernel
theorem dX2_goesRight_17 : decode cX2_goesRight 17 = .ok (.ifCond .eq 7, 3) := by decide +kernel
theorem dX2_goesRight_20 : decode cX2_goesRight 20 = .ok (.iconst 1, 1) := by decide +kernel
theorem dX2_goesRight_21 : decode cX2_goesRight 21 = .ok (.goto 4, 3) := by decide +kernel
theorem dX2_goesRight_24 : decode cX2_goesRight 24 = .ok (.iconst 0, 1) := by decide +kernel
theorem dX2_goesRight_25 : decode cX2_goesRight 25 = .ok (.ireturn, 1) := by decide +kernel
theorem dX2_turnsOf_0 : decode cX2_turnsOf 0 = .ok (.aload_n 0, 1) := by decide +kernel
theorem dX2_turnsOf_1 : decode cX2_turnsOf 1 = .ok (.aload_n 0, 1) := by decide +kernel
theorem dX2_turnsOf_2 : decode cX2_turnsOf 2 = .ok (.iload_n 1, 1) := by decide +kernel
theorem dX2_turnsOf_3 : decode cX2_turnsOf 3 = .ok (.invokevirtual 121, 3) := by decide +kernel
theorem dX2_turnsOf_6 : decode cX2_turnsOf 6 = .ok (.invokevirtual 111, 3) := by decide +kernel
theorem dX2_turnsOf_9 : decode cX2_turnsOf 9 = .ok (.ifCond .eq 16, 3) := by decide +kernel
theorem dX2_turnsOf_12 : decode cX2_turnsOf 12 = .ok (.aload_n 0, 1) := by decide +kernel
theorem dX2_turnsOf_13 : decode cX2_turnsOf 13 = .ok (.getfield 22, 3) := by decide +kernel
theorem dX2_turnsOf_16 : decode cX2_turnsOf 16 = .ok (.sipush 147, 3) := by decide +kernel
theorem dX2_turnsOf_19 : decode cX2_turnsOf 19 = .ok (.iload_n 1, 1) := by decide +kernel
theorem dX2_turnsOf_20 : decode cX2_turnsOf 20 = .ok (.iadd, 1) := by decide +kernel
theorem dX2_turnsOf_21 : decode cX2_turnsOf 21 = .ok (.iaload, 1) := by decide +kernel
theorem dX2_turnsOf_22 : decode cX2_turnsOf 22 = .ok (.goto 4, 3) := by decide +kernel
theorem dX2_turnsOf_25 : decode cX2_turnsOf 25 = .ok (.iconst 0, 1) := by decide +kernel
theorem dX2_turnsOf_26 : decode cX2_turnsOf 26 = .ok (.ireturn, 1) := by decide +kernel
theorem dX2_next_0 : decode cX2_next 0 = .ok (.iload_n 1, 1) := by decide +kernel
theorem dX2_next_1 : decode cX2_next 1 = .ok (.iload_n 2, 1) := by decide +kernel
theorem dX2_next_2 : decode cX2_next 2 = .ok (.iadd, 1) := by decide +kernel
theorem dX2_next_3 : decode cX2_next 3 = .ok (.istore_n 3, 1) := by decide +kernel
theorem dX2_next_4 : decode cX2_next 4 = .ok (.iload_n 3, 1) := by decide +kernel
theorem dX2_next_5 : decode cX2_next 5 = .ok (.invokestatic 58, 3) := by decide +kernel
theorem dX2_next_8 : decode cX2_next 8 = .ok (.ifCond .eq 22, 3) := by decide +kernel
theorem dX2_next_11 : decode cX2_next 11 = .ok (.aload_n 0, 1) := by decide +kernel
theorem dX2_next_12 : decode cX2_next 12 = .ok (.getfield 13, 3) := by decide +kernel
theorem dX2_next_15 : decode cX2_next 15 = .ok (.iload_n 3, 1) := by decide +kernel
theorem dX2_next_16 : decode cX2_next 16 = .ok (.iaload, 1) := by decide +kernel
theorem dX2_next_17 : decode cX2_next 17 = .ok (.iconst (-1), 1) := by decide +kernel
theorem dX2_next_18 : decode cX2_next 18 = .ok (.if_icmp .eq 5, 3) := by decide +kernel
theorem dX2_next_21 : decode cX2_next 21 = .ok (.iload_n 3, 1) := by decide +kernel
theorem dX2_next_22 : decode cX2_next 22 = .ok (.ireturn, 1) := by decide +kernel
theorem dX2_next_23 : decode cX2_next 23 = .ok (.iload_n 3, 1) := by decide +kernel
theorem dX2_next_24 : decode cX2_next 24 = .ok (.iload_n 2, 1) := by decide +kernel
theorem dX2_next_25 : decode cX2_next 25 = .ok (.iadd, 1) := by decide +kernel
theorem dX2_next_26 : decode cX2_next 26 = .ok (.istore_n 3, 1) := by decide +kernel
theorem dX2_next_27 : decode cX2_next 27 = .ok (.goto (-23), 3) := by decide +kernel
theorem dX2_next_30 : decode cX2_next 30 = .ok (.iconst (-1), 1) := by decide +kernel
theorem dX2_next_31 : decode cX2_next 31 = .ok (.ireturn, 1) := by decide +kernel
theorem dX2_nextWall_0 : decode cX2_nextWall 0 = .ok (.aload_n 0, 1) := by decide +kernel
theorem dX2_nextWall_1 : decode cX2_nextWall 1 = .ok (.iload_n 1, 1) := by decide +kernel
theorem dX2_nextWall_2 : decode cX2_nextWall 2 = .ok (.invokestatic 58, 3) := by decide +kernel
theorem dX2_nextWall_5 : decode cX2_nextWall 5 = .ok (.invokevirtual 111, 3) := by decide +kernel
theorem dX2_nextWall_8 : decode cX2_nextWall 8 = .ok (.ifCond .eq 20, 3) := by decide +kernel
theorem dX2_nextWall_11 : decode cX2_nextWall 11 = .ok (.aload_n 0, 1) := by decide +kernel
theorem dX2_nextWall_12 : decode cX2_nextWall 12 = .ok (.iload_n 1, 1) := by decide +kernel
theorem dX2_nextWall_13 : decode cX2_nextWall 13 = .ok (.iload_n 2, 1) := by decide +kernel
theorem dX2_nextWall_14 : decode cX2_nextWall 14 = .ok (.ifCond .eq 7, 3) := by decide +kernel
theorem dX2_nextWall_17 : decode cX2_nextWall 17 = .ok (.iconst 1, 1) := by decide +kernel
theorem dX2_nextWall_18 : decode cX2_nextWall 18 = .ok (.goto 4, 3) := by decide +kernel
theorem dX2_nextWall_21 : decode cX2_nextWall 21 = .ok (.iconst (-1), 1) := by decide +kernel
theorem dX2_nextWall_22 : decode cX2_nextWall 22 = .ok (.invokevirtual 130, 3) := by decide +kernel
theorem dX2_nextWall_25 : decode cX2_nextWall 25 = .ok (.goto 4, 3) := by decide +kernel
theorem dX2_nextWall_28 : decode cX2_nextWall 28 = .ok (.iconst 0, 1) := by decide +kernel
theorem dX2_nextWall_29 : decode cX2_nextWall 29 = .ok (.ireturn, 1) := by decide +kernel
theorem dX2_untilGone_0 : decode cX2_untilGone 0 = .ok (.aload_n 0, 1) := by decide +kernel
theorem dX2_untilGone_1 : decode cX2_untilGone 1 = .ok (.invokevirtual 133, 3) := by decide +kernel
theorem dX2_untilGone_4 : decode cX2_untilGone 4 = .ok (.iconst 0, 1) := by decide +kernel
theorem dX2_untilGone_5 : decode cX2_untilGone 5 = .ok (.istore_n 2, 1) := by decide +kernel
theorem dX2_untilGone_6 : decode cX2_untilGone 6 = .ok (.aload_n 0, 1) := by decide +kernel
theorem dX2_untilGone_7 : decode cX2_untilGone 7 = .ok (.iload_n 1, 1) := by decide +kernel
theorem dX2_untilGone_8 : decode cX2_untilGone 8 = .ok (.invokevirtual 66, 3) := by decide +kernel
theorem dX2_untilGone_11 : decode cX2_untilGone 11 = .ok (.ifCond .eq 13, 3) := by decide +kernel
theorem dX2_untilGone_14 : decode cX2_untilGone 14 = .ok (.aload_n 0, 1) := by decide +kernel
theorem dX2_untilGone_15 : decode cX2_untilGone 15 = .ok (.invokevirtual 86, 3) := by decide +kernel
theorem dX2_untilGone_18 : decode cX2_untilGone 18 = .ok (.iinc 2 1, 3) := by decide +kernel
theorem dX2_untilGone_21 : decode cX2_untilGone 21 = .ok (.goto (-15), 3) := by decide +kernel
theorem dX2_untilGone_24 : decode cX2_untilGone 24 = .ok (.aload_n 0, 1) := by decide +kernel
theorem dX2_untilGone_25 : decode cX2_untilGone 25 = .ok (.invokevirtual 136, 3) := by decide +kernel
theorem dX2_untilGone_28 : decode cX2_untilGone 28 = .ok (.iload_n 2, 1) := by decide +kernel
theorem dX2_untilGone_29 : decode cX2_untilGone 29 = .ok (.ireturn, 1) := by decide +kernel
theorem dX2_beatsUntilGone_0 : decode cX2_beatsUntilGone 0 = .ok (.aload_n 0, 1) := by decide +kernel
theorem dX2_beatsUntilGone_1 : decode cX2_beatsUntilGone 1 = .ok (.aload_n 0, 1) := by decide +kernel
theorem dX2_beatsUntilGone_2 : decode cX2_beatsUntilGone 2 = .ok (.iload_n 1, 1) := by decide +kernel
theorem dX2_beatsUntilGone_3 : decode cX2_beatsUntilGone 3 = .ok (.invokevirtual 121, 3) := by decide +kernel
theorem dX2_beatsUntilGone_6 : decode cX2_beatsUntilGone 6 = .ok (.invokevirtual 111, 3) := by decide +kernel
theorem dX2_beatsUntilGone_9 : decode cX2_beatsUntilGone 9 = .ok (.ifCond .eq 11, 3) := by decide +kernel
theorem dX2_beatsUntilGone_12 : decode cX2_beatsUntilGone 12 = .ok (.aload_n 0, 1) := by decide +kernel
theorem dX2_beatsUntilGone_13 : decode cX2_beatsUntilGone 13 = .ok (.iload_n 1, 1) := by decide +kernel
theorem dX2_beatsUntilGone_14 : decode cX2_beatsUntilGone 14 = .ok (.invokevirtual 139, 3) := by decide +kernel
theorem dX2_beatsUntilGone_17 : decode cX2_beatsUntilGone 17 = .ok (.goto 4, 3) := by decide +kernel
theorem dX2_beatsUntilGone_20 : decode cX2_beatsUntilGone 20 = .ok (.iconst 0, 1) := by decide +kernel
theorem dX2_beatsUntilGone_21 : decode cX2_beatsUntilGone 21 = .ok (.ireturn, 1) := by decide +kernel
theorem dX2_untilQuiet_0 : decode cX2_untilQuiet 0 = .ok (.aload_n 0, 1) := by decide +kernel
theorem dX2_untilQuiet_1 : decode cX2_untilQuiet 1 = .ok (.invokevirtual 133, 3) := by decide +kernel
theorem dX2_untilQuiet_4 : decode cX2_untilQuiet 4 = .ok (.iconst 0, 1) := by decide +kernel
theorem dX2_untilQuiet_5 : decode cX2_untilQuiet 5 = .ok (.istore_n 1, 1) := by decide +kernel
theorem dX2_untilQuiet_6 : decode cX2_untilQuiet 6 = .ok (.aload_n 0, 1) := by decide +kernel
theorem dX2_untilQuiet_7 : decode cX2_untilQuiet 7 = .ok (.invokevirtual 98, 3) := by decide +kernel
theorem dX2_untilQuiet_10 : decode cX2_untilQuiet 10 = .ok (.ifCond .le 13, 3) := by decide +kernel
theorem dX2_untilQuiet_13 : decode cX2_untilQuiet 13 = .ok (.aload_n 0, 1) := by decide +kernel
theorem dX2_untilQuiet_14 : decode cX2_untilQuiet 14 = .ok (.invokevirtual 86, 3) := by decide +kernel
theorem dX2_untilQuiet_17 : decode cX2_untilQuiet 17 = .ok (.iinc 1 1, 3) := by decide +kernel
theorem dX2_untilQuiet_20 : decode cX2_untilQuiet 20 = .ok (.goto (-14), 3) := by decide +kernel
theorem dX2_untilQuiet_23 : decode cX2_untilQuiet 23 = .ok (.aload_n 0, 1) := by decide +kernel
theorem dX2_untilQuiet_24 : decode cX2_untilQuiet 24 = .ok (.invokevirtual 136, 3) := by decide +kernel
theorem dX2_untilQuiet_27 : decode cX2_untilQuiet 27 = .ok (.iload_n 1, 1) := by decide +kernel
theorem dX2_untilQuiet_28 : decode cX2_untilQuiet 28 = .ok (.ireturn, 1) := by decide +kernel
theorem dX2_beatsUntilQuiet_0 : decode cX2_beatsUntilQuiet 0 = .ok (.aload_n 0, 1) := by decide +kernel
theorem dX2_beatsUntilQuiet_1 : decode cX2_beatsUntilQuiet 1 = .ok (.aload_n 0, 1) := by decide +kernel
theorem dX2_beatsUntilQuiet_2 : decode cX2_beatsUntilQuiet 2 = .ok (.invokevirtual 142, 3) := by decide +kernel
theorem dX2_beatsUntilQuiet_5 : decode cX2_beatsUntilQuiet 5 = .ok (.invokevirtual 108, 3) := by decide +kernel
theorem dX2_beatsUntilQuiet_8 : decode cX2_beatsUntilQuiet 8 = .ok (.ireturn, 1) := by decide +kernel
theorem dX2_earns_0 : decode cX2_earns 0 = .ok (.aload_n 0, 1) := by decide +kernel
theorem dX2_earns_1 : decode cX2_earns 1 = .ok (.invokevirtual 133, 3) := by decide +kernel
theorem dX2_earns_4 : decode cX2_earns 4 = .ok (.aload_n 0, 1) := by decide +kernel
theorem dX2_earns_5 : decode cX2_earns 5 = .ok (.iload_n 2, 1) := by decide +kernel
theorem dX2_earns_6 : decode cX2_earns 6 = .ok (.invokevirtual 105, 3) := by decide +kernel
theorem dX2_earns_9 : decode cX2_earns 9 = .ok (.aload_n 0, 1) := by decide +kernel
theorem dX2_earns_10 : decode cX2_earns 10 = .ok (.getfield 22, 3) := by decide +kernel
theorem dX2_earns_13 : decode cX2_earns 13 = .ok (.iconst 3, 1) := by decide +kernel
theorem dX2_earns_14 : decode cX2_earns 14 = .ok (.iload_n 1, 1) := by decide +kernel
theorem dX2_earns_15 : decode cX2_earns 15 = .ok (.iadd, 1) := by decide +kernel
theorem dX2_earns_16 : decode cX2_earns 16 = .ok (.iaload, 1) := by decide +kernel
theorem dX2_earns_17 : decode cX2_earns 17 = .ok (.istore_n 3, 1) := by decide +kernel
theorem dX2_earns_18 : decode cX2_earns 18 = .ok (.aload_n 0, 1) := by decide +kernel
theorem dX2_earns_19 : decode cX2_earns 19 = .ok (.invokevirtual 136, 3) := by decide +kernel
theorem dX2_earns_22 : decode cX2_earns 22 = .ok (.iload_n 3, 1) := by decide +kernel
theorem dX2_earns_23 : decode cX2_earns 23 = .ok (.aload_n 0, 1) := by decide +kernel
theorem dX2_earns_24 : decode cX2_earns 24 = .ok (.getfield 22, 3) := by decide +kernel
theorem dX2_earns_27 : decode cX2_earns 27 = .ok (.iconst 3, 1) := by decide +kernel
theorem dX2_earns_28 : decode cX2_earns 28 = .ok (.iload_n 1, 1) := by decide +kernel
theorem dX2_earns_29 : decode cX2_earns 29 = .ok (.iadd, 1) := by decide +kernel
theorem dX2_earns_30 : decode cX2_earns 30 = .ok (.iaload, 1) := by decide +kernel
theorem dX2_earns_31 : decode cX2_earns 31 = .ok (.isub, 1) := by decide +kernel
theorem dX2_earns_32 : decode cX2_earns 32 = .ok (.ireturn, 1) := by decide +kernel
theorem dX2_coinsIn_0 : decode cX2_coinsIn 0 = .ok (.aload_n 0, 1) := by decide +kernel
theorem dX2_coinsIn_1 : decode cX2_coinsIn 1 = .ok (.iload_n 1, 1) := by decide +kernel
theorem dX2_coinsIn_2 : decode cX2_coinsIn 2 = .ok (.invokestatic 89, 3) := by decide +kernel
theorem dX2_coinsIn_5 : decode cX2_coinsIn 5 = .ok (.invokevirtual 111, 3) := by decide +kernel
theorem dX2_coinsIn_8 : decode cX2_coinsIn 8 = .ok (.ifCond .ne 5, 3) := by decide +kernel
theorem dX2_coinsIn_11 : decode cX2_coinsIn 11 = .ok (.iconst 0, 1) := by decide +kernel
theorem dX2_coinsIn_12 : decode cX2_coinsIn 12 = .ok (.ireturn, 1) := by decide +kernel
theorem dX2_coinsIn_13 : decode cX2_coinsIn 13 = .ok (.iload_n 2, 1) := by decide +kernel
theorem dX2_coinsIn_14 : decode cX2_coinsIn 14 = .ok (.iconst 1, 1) := by decide +kernel
theorem dX2_coinsIn_15 : decode cX2_coinsIn 15 = .ok (.bipush 100, 2) := by decide +kernel
theorem dX2_coinsIn_17 : decode cX2_coinsIn 17 = .ok (.invokestatic 36, 3) := by decide +kernel
theorem dX2_coinsIn_20 : decode cX2_coinsIn 20 = .ok (.ifCond .eq 12, 3) := by decide +kernel
theorem dX2_coinsIn_23 : decode cX2_coinsIn 23 = .ok (.aload_n 0, 1) := by decide +kernel
theorem dX2_coinsIn_24 : decode cX2_coinsIn 24 = .ok (.iload_n 1, 1) := by decide +kernel
theorem dX2_coinsIn_25 : decode cX2_coinsIn 25 = .ok (.iload_n 2, 1) := by decide +kernel
theorem dX2_coinsIn_26 : decode cX2_coinsIn 26 = .ok (.invokevirtual 145, 3) := by decide +kernel
theorem dX2_coinsIn_29 : decode cX2_coinsIn 29 = .ok (.goto 8, 3) := by decide +kernel
theorem dX2_coinsIn_32 : decode cX2_coinsIn 32 = .ok (.aload_n 0, 1) := by decide +kernel
theorem dX2_coinsIn_33 : decode cX2_coinsIn 33 = .ok (.iconst 2, 1) := by decide +kernel
theorem dX2_coinsIn_34 : decode cX2_coinsIn 34 = .ok (.invokevirtual 92, 3) := by decide +kernel
theorem dX2_coinsIn_37 : decode cX2_coinsIn 37 = .ok (.ireturn, 1) := by decide +kernel
theorem dX2_loudestOn_0 : decode cX2_loudestOn 0 = .ok (.aload_n 0, 1) := by decide +kernel
theorem dX2_loudestOn_1 : decode cX2_loudestOn 1 = .ok (.iload_n 1, 1) := by decide +kernel
theorem dX2_loudestOn_2 : decode cX2_loudestOn 2 = .ok (.invokestatic 58, 3) := by decide +kernel
theorem dX2_loudestOn_5 : decode cX2_loudestOn 5 = .ok (.invokevirtual 111, 3) := by decide +kernel
theorem dX2_loudestOn_8 : decode cX2_loudestOn 8 = .ok (.ifCond .ne 5, 3) := by decide +kernel
theorem dX2_loudestOn_11 : decode cX2_loudestOn 11 = .ok (.iconst 0, 1) := by decide +kernel
theorem dX2_loudestOn_12 : decode cX2_loudestOn 12 = .ok (.ireturn, 1) := by decide +kernel
theorem dX2_loudestOn_13 : decode cX2_loudestOn 13 = .ok (.iload_n 2, 1) := by decide +kernel
theorem dX2_loudestOn_14 : decode cX2_loudestOn 14 = .ok (.iconst 1, 1) := by decide +kernel
theorem dX2_loudestOn_15 : decode cX2_loudestOn 15 = .ok (.bipush 100, 2) := by decide +kernel
theorem dX2_loudestOn_17 : decode cX2_loudestOn 17 = .ok (.invokestatic 36, 3) := by decide +kernel
theorem dX2_loudestOn_20 : decode cX2_loudestOn 20 = .ok (.ifCond .ne 9, 3) := by decide +kernel
theorem dX2_loudestOn_23 : decode cX2_loudestOn 23 = .ok (.aload_n 0, 1) := by decide +kernel
theorem dX2_loudestOn_24 : decode cX2_loudestOn 24 = .ok (.iconst 2, 1) := by decide +kernel
theorem dX2_loudestOn_25 : decode cX2_loudestOn 25 = .ok (.invokevirtual 92, 3) := by decide +kernel
theorem dX2_loudestOn_28 : decode cX2_loudestOn 28 = .ok (.ireturn, 1) := by decide +kernel
theorem dX2_loudestOn_29 : decode cX2_loudestOn 29 = .ok (.aload_n 0, 1) := by decide +kernel
theorem dX2_loudestOn_30 : decode cX2_loudestOn 30 = .ok (.invokevirtual 133, 3) := by decide +kernel
theorem dX2_loudestOn_33 : decode cX2_loudestOn 33 = .ok (.iconst 0, 1) := by decide +kernel
theorem dX2_loudestOn_34 : decode cX2_loudestOn 34 = .ok (.istore_n 3, 1) := by decide +kernel
theorem dX2_loudestOn_35 : decode cX2_loudestOn 35 = .ok (.iconst 0, 1) := by decide +kernel
theorem dX2_loudestOn_36 : decode cX2_loudestOn 36 = .ok (.istore 4, 2) := by decide +kernel
theorem dX2_loudestOn_38 : decode cX2_loudestOn 38 = .ok (.iload 4, 2) := by decide +kernel
theorem dX2_loudestOn_40 : decode cX2_loudestOn 40 = .ok (.iload_n 2, 1) := by decide +kernel
theorem dX2_loudestOn_41 : decode cX2_loudestOn 41 = .ok (.if_icmp .ge 23, 3) := by decide +kernel
theorem dX2_loudestOn_44 : decode cX2_loudestOn 44 = .ok (.aload_n 0, 1) := by decide +kernel
theorem dX2_loudestOn_45 : decode cX2_loudestOn 45 = .ok (.invokevirtual 86, 3) := by decide +kernel
theorem dX2_loudestOn_48 : decode cX2_loudestOn 48 = .ok (.iload_n 3, 1) := by decide +kernel
theorem dX2_loudestOn_49 : decode cX2_loudestOn 49 = .ok (.aload_n 0, 1) := by decide +kernel
theorem dX2_loudestOn_50 : decode cX2_loudestOn 50 = .ok (.iload_n 1, 1) := by decide +kernel
theorem dX2_loudestOn_51 : decode cX2_loudestOn 51 = .ok (.invokevirtual 115, 3) := by decide +kernel
theorem dX2_loudestOn_54 : decode cX2_loudestOn 54 = .ok (.invokestatic 52, 3) := by decide +kernel
theorem dX2_loudestOn_57 : decode cX2_loudestOn 57 = .ok (.istore_n 3, 1) := by decide +kernel
theorem dX2_loudestOn_58 : decode cX2_loudestOn 58 = .ok (.iinc 4 1, 3) := by decide +kernel
theorem dX2_loudestOn_61 : decode cX2_loudestOn 61 = .ok (.goto (-23), 3) := by decide +kernel
theorem dX2_loudestOn_64 : decode cX2_loudestOn 64 = .ok (.aload_n 0, 1) := by decide +kernel
theorem dX2_loudestOn_65 : decode cX2_loudestOn 65 = .ok (.invokevirtual 136, 3) := by decide +kernel
theorem dX2_loudestOn_68 : decode cX2_loudestOn 68 = .ok (.iload_n 3, 1) := by decide +kernel
theorem dX2_loudestOn_69 : decode cX2_loudestOn 69 = .ok (.ireturn, 1) := by decide +kernel
theorem dX2_loses_0 : decode cX2_loses 0 = .ok (.iload_n 1, 1) := by decide +kernel
theorem dX2_loses_1 : decode cX2_loses 1 = .ok (.istore 4, 2) := by decide +kernel
theorem dX2_loses_3 : decode cX2_loses 3 = .ok (.iload_n 2, 1) := by decide +kernel
theorem dX2_loses_4 : decode cX2_loses 4 = .ok (.istore 5, 2) := by decide +kernel
theorem dX2_loses_6 : decode cX2_loses 6 = .ok (.iconst 0, 1) := by decide +kernel
theorem dX2_loses_7 : decode cX2_loses 7 = .ok (.istore 6, 2) := by decide +kernel
theorem dX2_loses_9 : decode cX2_loses 9 = .ok (.iload 6, 2) := by decide +kernel
theorem dX2_loses_11 : decode cX2_loses 11 = .ok (.bipush 99, 2) := by decide +kernel
theorem dX2_loses_13 : decode cX2_loses 13 = .ok (.if_icmp .ge 77, 3) := by decide +kernel
theorem dX2_loses_16 : decode cX2_loses 16 = .ok (.iload 4, 2) := by decide +kernel
theorem dX2_loses_18 : decode cX2_loses 18 = .ok (.iload 5, 2) := by decide +kernel
theorem dX2_loses_20 : decode cX2_loses 20 = .ok (.iadd, 1) := by decide +kernel
theorem dX2_loses_21 : decode cX2_loses 21 = .ok (.istore 4, 2) := by decide +kernel
theorem dX2_loses_23 : decode cX2_loses 23 = .ok (.iload 4, 2) := by decide +kernel
theorem dX2_loses_25 : decode cX2_loses 25 = .ok (.invokestatic 58, 3) := by decide +kernel
theorem dX2_loses_28 : decode cX2_loses 28 = .ok (.ifCond .ne 6, 3) := by decide +kernel
theorem dX2_loses_31 : decode cX2_loses 31 = .ok (.bipush 99, 2) := by decide +kernel
theorem dX2_loses_33 : decode cX2_loses 33 = .ok (.ireturn, 1) := by decide +kernel
theorem dX2_loses_34 : decode cX2_loses 34 = .ok (.iload 6, 2) := by decide +kernel
theorem dX2_loses_36 : decode cX2_loses 36 = .ok (.iconst 1, 1) := by decide +kernel
theorem dX2_loses_37 : decode cX2_loses 37 = .ok (.aload_n 0, 1) := by decide +kernel
theorem dX2_loses_38 : decode cX2_loses 38 = .ok (.getfield 9, 3) := by decide +kernel
theorem dX2_loses_41 : decode cX2_loses 41 = .ok (.iload 4, 2) := by decide +kernel
theorem dX2_loses_43 : decode cX2_loses 43 = .ok (.iaload, 1) := by decide +kernel
theorem dX2_loses_44 : decode cX2_loses 44 = .ok (.iadd, 1) := by decide +kernel
theorem dX2_loses_45 : decode cX2_loses 45 = .ok (.iadd, 1) := by decide +kernel
theorem dX2_loses_46 : decode cX2_loses 46 = .ok (.istore 6, 2) := by decide +kernel
theorem dX2_loses_48 : decode cX2_loses 48 = .ok (.aload_n 0, 1) := by decide +kernel
theorem dX2_loses_49 : decode cX2_loses 49 = .ok (.getfield 13, 3) := by decide +kernel
theorem dX2_loses_52 : decode cX2_loses 52 = .ok (.iload 4, 2) := by decide +kernel
theorem dX2_loses_54 : decode cX2_loses 54 = .ok (.iaload, 1) := by decide +kernel
theorem dX2_loses_55 : decode cX2_loses 55 = .ok (.iconst (-1), 1) := by decide +kernel
theorem dX2_loses_56 : decode cX2_loses 56 = .ok (.if_icmp .eq 25, 3) := by decide +kernel
theorem dX2_loses_59 : decode cX2_loses 59 = .ok (.iload 5, 2) := by decide +kernel
theorem dX2_loses_61 : decode cX2_loses 61 = .ok (.ineg, 1) := by decide +kernel
theorem dX2_loses_62 : decode cX2_loses 62 = .ok (.istore 5, 2) := by decide +kernel
theorem dX2_loses_64 : decode cX2_loses 64 = .ok (.iload 6, 2) := by decide +kernel
theorem dX2_loses_66 : decode cX2_loses 66 = .ok (.aload_n 0, 1) := by decide +kernel
theorem dX2_loses_67 : decode cX2_loses 67 = .ok (.getfield 19, 3) := by decide +kernel
theorem dX2_loses_70 : decode cX2_loses 70 = .ok (.aload_n 0, 1) := by decide +kernel
theorem dX2_loses_71 : decode cX2_loses 71 = .ok (.getfield 13, 3) := by decide +kernel
theorem dX2_loses_74 : decode cX2_loses 74 = .ok (.iload 4, 2) := by decide +kernel
theorem dX2_loses_76 : decode cX2_loses 76 = .ok (.iaload, 1) := by decide +kernel
theorem dX2_loses_77 : decode cX2_loses 77 = .ok (.iaload, 1) := by decide +kernel
theorem dX2_loses_78 : decode cX2_loses 78 = .ok (.iadd, 1) := by decide +kernel
theorem dX2_loses_79 : decode cX2_loses 79 = .ok (.istore 6, 2) := by decide +kernel
theorem dX2_loses_81 : decode cX2_loses 81 = .ok (.iload 4, 2) := by decide +kernel
theorem dX2_loses_83 : decode cX2_loses 83 = .ok (.iload_n 3, 1) := by decide +kernel
theorem dX2_loses_84 : decode cX2_loses 84 = .ok (.if_icmp .ne (-75), 3) := by decide +kernel
theorem dX2_loses_87 : decode cX2_loses 87 = .ok (.iload 6, 2) := by decide +kernel
theorem dX2_loses_89 : decode cX2_loses 89 = .ok (.ireturn, 1) := by decide +kernel
theorem dX2_loses_90 : decode cX2_loses 90 = .ok (.iload 6, 2) := by decide +kernel
theorem dX2_loses_92 : decode cX2_loses 92 = .ok (.ireturn, 1) := by decide +kernel
theorem dX2_loudnessWanted_0 : decode cX2_loudnessWanted 0 = .ok (.aload_n 0, 1) := by decide +kernel
theorem dX2_loudnessWanted_1 : decode cX2_loudnessWanted 1 = .ok (.iload_n 1, 1) := by decide +kernel
theorem dX2_loudnessWanted_2 : decode cX2_loudnessWanted 2 = .ok (.invokestatic 58, 3) := by decide +kernel
theorem dX2_loudnessWanted_5 : decode cX2_loudnessWanted 5 = .ok (.ifCond .eq 14, 3) := by decide +kernel
theorem dX2_loudnessWanted_8 : decode cX2_loudnessWanted 8 = .ok (.iload_n 3, 1) := by decide +kernel
theorem dX2_loudnessWanted_9 : decode cX2_loudnessWanted 9 = .ok (.invokestatic 58, 3) := by decide +kernel
theorem dX2_loudnessWanted_12 : decode cX2_loudnessWanted 12 = .ok (.ifCond .eq 7, 3) := by decide +kernel
theorem dX2_loudnessWanted_15 : decode cX2_loudnessWanted 15 = .ok (.iconst 1, 1) := by decide +kernel
theorem dX2_loudnessWanted_16 : decode cX2_loudnessWanted 16 = .ok (.goto 4, 3) := by decide +kernel
theorem dX2_loudnessWanted_19 : decode cX2_loudnessWanted 19 = .ok (.iconst 0, 1) := by decide +kernel
theorem dX2_loudnessWanted_20 : decode cX2_loudnessWanted 20 = .ok (.invokevirtual 111, 3) := by decide +kernel
theorem dX2_loudnessWanted_23 : decode cX2_loudnessWanted 23 = .ok (.ifCond .ne 5, 3) := by decide +kernel
theorem dX2_loudnessWanted_26 : decode cX2_loudnessWanted 26 = .ok (.iconst 0, 1) := by decide +kernel
theorem dX2_loudnessWanted_27 : decode cX2_loudnessWanted 27 = .ok (.ireturn, 1) := by decide +kernel
theorem dX2_loudnessWanted_28 : decode cX2_loudnessWanted 28 = .ok (.aload_n 0, 1) := by decide +kernel
theorem dX2_loudnessWanted_29 : decode cX2_loudnessWanted 29 = .ok (.iload_n 1, 1) := by decide +kernel
theorem dX2_loudnessWanted_30 : decode cX2_loudnessWanted 30 = .ok (.iload_n 2, 1) := by decide +kernel
theorem dX2_loudnessWanted_31 : decode cX2_loudnessWanted 31 = .ok (.ifCond .eq 7, 3) := by decide +kernel
theorem dX2_loudnessWanted_34 : decode cX2_loudnessWanted 34 = .ok (.iconst 1, 1) := by decide +kernel
theorem dX2_loudnessWanted_35 : decode cX2_loudnessWanted 35 = .ok (.goto 4, 3) := by decide +kernel
theorem dX2_loudnessWanted_38 : decode cX2_loudnessWanted 38 = .ok (.iconst (-1), 1) := by decide +kernel
theorem dX2_loudnessWanted_39 : decode cX2_loudnessWanted 39 = .ok (.iload_n 3, 1) := by decide +kernel
theorem dX2_loudnessWanted_40 : decode cX2_loudnessWanted 40 = .ok (.invokevirtual 148, 3) := by decide +kernel
theorem dX2_loudnessWanted_43 : decode cX2_loudnessWanted 43 = .ok (.iconst 1, 1) := by decide +kernel
theorem dX2_loudnessWanted_44 : decode cX2_loudnessWanted 44 = .ok (.iadd, 1) := by decide +kernel
theorem dX2_loudnessWanted_45 : decode cX2_loudnessWanted 45 = .ok (.istore 4, 2) := by decide +kernel
theorem dX2_loudnessWanted_47 : decode cX2_loudnessWanted 47 = .ok (.iload 4, 2) := by decide +kernel
theorem dX2_loudnessWanted_49 : decode cX2_loudnessWanted 49 = .ok (.bipush 99, 2) := by decide +kernel
theorem dX2_loudnessWanted_51 : decode cX2_loudnessWanted 51 = .ok (.if_icmp .le 7, 3) := by decide +kernel
theorem dX2_loudnessWanted_54 : decode cX2_loudnessWanted 54 = .ok (.iconst (-1), 1) := by decide +kernel
theorem dX2_loudnessWanted_55 : decode cX2_loudnessWanted 55 = .ok (.goto 5, 3) := by decide +kernel
theorem dX2_loudnessWanted_58 : decode cX2_loudnessWanted 58 = .ok (.iload 4, 2) := by decide +kernel
theorem dX2_loudnessWanted_60 : decode cX2_loudnessWanted 60 = .ok (.ireturn, 1) := by decide +kernel
theorem dX2_turns_0 : decode cX2_turns 0 = .ok (.iload_n 1, 1) := by decide +kernel
theorem dX2_turns_1 : decode cX2_turns 1 = .ok (.iconst 1, 1) := by decide +kernel
theorem dX2_turns_2 : decode cX2_turns 2 = .ok (.iadd, 1) := by decide +kernel
theorem dX2_turns_3 : decode cX2_turns 3 = .ok (.istore_n 3, 1) := by decide +kernel
theorem dX2_turns_4 : decode cX2_turns 4 = .ok (.iconst 1, 1) := by decide +kernel
theorem dX2_turns_5 : decode cX2_turns 5 = .ok (.istore 4, 2) := by decide +kernel
theorem dX2_turns_7 : decode cX2_turns 7 = .ok (.iload_n 2, 1) := by decide +kernel
theorem dX2_turns_8 : decode cX2_turns 8 = .ok (.istore 5, 2) := by decide +kernel
theorem dX2_turns_10 : decode cX2_turns 10 = .ok (.iconst 0, 1) := by decide +kernel
theorem dX2_turns_11 : decode cX2_turns 11 = .ok (.istore 6, 2) := by decide +kernel
theorem dX2_turns_13 : decode cX2_turns 13 = .ok (.iload_n 3, 1) := by decide +kernel
theorem dX2_turns_14 : decode cX2_turns 14 = .ok (.invokestatic 58, 3) := by decide +kernel
theorem dX2_turns_17 : decode cX2_turns 17 = .ok (.ifCond .eq 72, 3) := by decide +kernel
theorem dX2_turns_20 : decode cX2_turns 20 = .ok (.iload 5, 2) := by decide +kernel
theorem dX2_turns_22 : decode cX2_turns 22 = .ok (.iconst 1, 1) := by decide +kernel
theorem dX2_turns_23 : decode cX2_turns 23 = .ok (.isub, 1) := by decide +kernel
theorem dX2_turns_24 : decode cX2_turns 24 = .ok (.aload_n 0, 1) := by decide +kernel
theorem dX2_turns_25 : decode cX2_turns 25 = .ok (.getfield 9, 3) := by decide +kernel
theorem dX2_turns_28 : decode cX2_turns 28 = .ok (.iload_n 3, 1) := by decide +kernel
theorem dX2_turns_29 : decode cX2_turns 29 = .ok (.iaload, 1) := by decide +kernel
theorem dX2_turns_30 : decode cX2_turns 30 = .ok (.isub, 1) := by decide +kernel
theorem dX2_turns_31 : decode cX2_turns 31 = .ok (.ifCond .le 58, 3) := by decide +kernel
theorem dX2_turns_34 : decode cX2_turns 34 = .ok (.iload 5, 2) := by decide +kernel
theorem dX2_turns_36 : decode cX2_turns 36 = .ok (.iconst 1, 1) := by decide +kernel
theorem dX2_turns_37 : decode cX2_turns 37 = .ok (.aload_n 0, 1) := by decide +kernel
theorem dX2_turns_38 : decode cX2_turns 38 = .ok (.getfield 9, 3) := by decide +kernel
theorem dX2_turns_41 : decode cX2_turns 41 = .ok (.iload_n 3, 1) := by decide +kernel
theorem dX2_turns_42 : decode cX2_turns 42 = .ok (.iaload, 1) := by decide +kernel
theorem dX2_turns_43 : decode cX2_turns 43 = .ok (.iadd, 1) := by decide +kernel
theorem dX2_turns_44 : decode cX2_turns 44 = .ok (.isub, 1) := by decide +kernel
theorem dX2_turns_45 : decode cX2_turns 45 = .ok (.istore 5, 2) := by decide +kernel
theorem dX2_turns_47 : decode cX2_turns 47 = .ok (.aload_n 0, 1) := by decide +kernel
theorem dX2_turns_48 : decode cX2_turns 48 = .ok (.getfield 13, 3) := by decide +kernel
theorem dX2_turns_51 : decode cX2_turns 51 = .ok (.iload_n 3, 1) := by decide +kernel
theorem dX2_turns_52 : decode cX2_turns 52 = .ok (.iaload, 1) := by decide +kernel
theorem dX2_turns_53 : decode cX2_turns 53 = .ok (.iconst (-1), 1) := by decide +kernel
theorem dX2_turns_54 : decode cX2_turns 54 = .ok (.if_icmp .eq 27, 3) := by decide +kernel
theorem dX2_turns_57 : decode cX2_turns 57 = .ok (.iinc 6 1, 3) := by decide +kernel
theorem dX2_turns_60 : decode cX2_turns 60 = .ok (.iload 5, 2) := by decide +kernel
theorem dX2_turns_62 : decode cX2_turns 62 = .ok (.aload_n 0, 1) := by decide +kernel
theorem dX2_turns_63 : decode cX2_turns 63 = .ok (.getfield 19, 3) := by decide +kernel
theorem dX2_turns_66 : decode cX2_turns 66 = .ok (.aload_n 0, 1) := by decide +kernel
theorem dX2_turns_67 : decode cX2_turns 67 = .ok (.getfield 13, 3) := by decide +kernel
theorem dX2_turns_70 : decode cX2_turns 70 = .ok (.iload_n 3, 1) := by decide +kernel
theorem dX2_turns_71 : decode cX2_turns 71 = .ok (.iaload, 1) := by decide +kernel
theorem dX2_turns_72 : decode cX2_turns 72 = .ok (.iaload, 1) := by decide +kernel
theorem dX2_turns_73 : decode cX2_turns 73 = .ok (.isub, 1) := by decide +kernel
theorem dX2_turns_74 : decode cX2_turns 74 = .ok (.istore 5, 2) := by decide +kernel
theorem dX2_turns_76 : decode cX2_turns 76 = .ok (.iload 4, 2) := by decide +kernel
theorem dX2_turns_78 : decode cX2_turns 78 = .ok (.ineg, 1) := by decide +kernel
theorem dX2_turns_79 : decode cX2_turns 79 = .ok (.istore 4, 2) := by decide +kernel
theorem dX2_turns_81 : decode cX2_turns 81 = .ok (.iload_n 3, 1) := by decide +kernel
theorem dX2_turns_82 : decode cX2_turns 82 = .ok (.iload 4, 2) := by decide +kernel
theorem dX2_turns_84 : decode cX2_turns 84 = .ok (.iadd, 1) := by decide +kernel
theorem dX2_turns_85 : decode cX2_turns 85 = .ok (.istore_n 3, 1) := by decide +kernel
theorem dX2_turns_86 : decode cX2_turns 86 = .ok (.goto (-73), 3) := by decide +kernel
theorem dX2_turns_89 : decode cX2_turns 89 = .ok (.iload 6, 2) := by decide +kernel
theorem dX2_turns_91 : decode cX2_turns 91 = .ok (.ireturn, 1) := by decide +kernel
theorem dX2_best_0 : decode cX2_best 0 = .ok (.iconst 0, 1) := by decide +kernel
theorem dX2_best_1 : decode cX2_best 1 = .ok (.istore_n 2, 1) := by decide +kernel
theorem dX2_best_2 : decode cX2_best 2 = .ok (.iconst 1, 1) := by decide +kernel
theorem dX2_best_3 : decode cX2_best 3 = .ok (.istore_n 3, 1) := by decide +kernel
theorem dX2_best_4 : decode cX2_best 4 = .ok (.iload_n 3, 1) := by decide +kernel
theorem dX2_best_5 : decode cX2_best 5 = .ok (.bipush 32, 2) := by decide +kernel
theorem dX2_best_7 : decode cX2_best 7 = .ok (.if_icmp .ge 26, 3) := by decide +kernel
theorem dX2_best_10 : decode cX2_best 10 = .ok (.aload_n 0, 1) := by decide +kernel
theorem dX2_best_11 : decode cX2_best 11 = .ok (.iload_n 3, 1) := by decide +kernel
theorem dX2_best_12 : decode cX2_best 12 = .ok (.iload_n 1, 1) := by decide +kernel
theorem dX2_best_13 : decode cX2_best 13 = .ok (.invokevirtual 152, 3) := by decide +kernel
theorem dX2_best_16 : decode cX2_best 16 = .ok (.aload_n 0, 1) := by decide +kernel
theorem dX2_best_17 : decode cX2_best 17 = .ok (.iload_n 2, 1) := by decide +kernel
theorem dX2_best_18 : decode cX2_best 18 = .ok (.iload_n 1, 1) := by decide +kernel
theorem dX2_best_19 : decode cX2_best 19 = .ok (.invokevirtual 152, 3) := by decide +kernel
theorem dX2_best_22 : decode cX2_best 22 = .ok (.if_icmp .le 5, 3) := by decide +kernel
theorem dX2_best_25 : decode cX2_best 25 = .ok (.iload_n 3, 1) := by decide +kernel
theorem dX2_best_26 : decode cX2_best 26 = .ok (.istore_n 2, 1) := by decide +kernel
theorem dX2_best_27 : decode cX2_best 27 = .ok (.iinc 3 1, 3) := by decide +kernel
theorem dX2_best_30 : decode cX2_best 30 = .ok (.goto (-26), 3) := by decide +kernel
theorem dX2_best_33 : decode cX2_best 33 = .ok (.iload_n 2, 1) := by decide +kernel
theorem dX2_best_34 : decode cX2_best 34 = .ok (.ireturn, 1) := by decide +kernel
theorem dX2_bestStone_0 : decode cX2_bestStone 0 = .ok (.aload_n 0, 1) := by decide +kernel
theorem dX2_bestStone_1 : decode cX2_bestStone 1 = .ok (.iconst 0, 1) := by decide +kernel
theorem dX2_bestStone_2 : decode cX2_bestStone 2 = .ok (.putfield 32, 3) := by decide +kernel
theorem dX2_bestStone_5 : decode cX2_bestStone 5 = .ok (.iload_n 1, 1) := by decide +kernel
theorem dX2_bestStone_6 : decode cX2_bestStone 6 = .ok (.iconst 1, 1) := by decide +kernel
theorem dX2_bestStone_7 : decode cX2_bestStone 7 = .ok (.bipush 99, 2) := by decide +kernel
theorem dX2_bestStone_9 : decode cX2_bestStone 9 = .ok (.invokestatic 36, 3) := by decide +kernel
theorem dX2_bestStone_12 : decode cX2_bestStone 12 = .ok (.ifCond .eq 11, 3) := by decide +kernel
theorem dX2_bestStone_15 : decode cX2_bestStone 15 = .ok (.aload_n 0, 1) := by decide +kernel
theorem dX2_bestStone_16 : decode cX2_bestStone 16 = .ok (.iload_n 1, 1) := by decide +kernel
theorem dX2_bestStone_17 : decode cX2_bestStone 17 = .ok (.invokevirtual 155, 3) := by decide +kernel
theorem dX2_bestStone_20 : decode cX2_bestStone 20 = .ok (.goto 8, 3) := by decide +kernel
theorem dX2_bestStone_23 : decode cX2_bestStone 23 = .ok (.aload_n 0, 1) := by decide +kernel
theorem dX2_bestStone_24 : decode cX2_bestStone 24 = .ok (.iconst 1, 1) := by decide +kernel
theorem dX2_bestStone_25 : decode cX2_bestStone 25 = .ok (.invokevirtual 92, 3) := by decide +kernel
theorem dX2_bestStone_28 : decode cX2_bestStone 28 = .ok (.ireturn, 1) := by decide +kernel
theorem dX2_meanLoudness_0 : decode cX2_meanLoudness 0 = .ok (.aload_n 0, 1) := by decide +kernel
theorem dX2_meanLoudness_1 : decode cX2_meanLoudness 1 = .ok (.iconst 0, 1) := by decide +kernel
theorem dX2_meanLoudness_2 : decode cX2_meanLoudness 2 = .ok (.putfield 32, 3) := by decide +kernel
theorem dX2_meanLoudness_5 : decode cX2_meanLoudness 5 = .ok (.iconst 0, 1) := by decide +kernel
theorem dX2_meanLoudness_6 : decode cX2_meanLoudness 6 = .ok (.istore_n 1, 1) := by decide +kernel
theorem dX2_meanLoudness_7 : decode cX2_meanLoudness 7 = .ok (.iconst 0, 1) := by decide +kernel
theorem dX2_meanLoudness_8 : decode cX2_meanLoudness 8 = .ok (.istore_n 2, 1) := by decide +kernel
theorem dX2_meanLoudness_9 : decode cX2_meanLoudness 9 = .ok (.iload_n 2, 1) := by decide +kernel
theorem dX2_meanLoudness_10 : decode cX2_meanLoudness 10 = .ok (.aload_n 0, 1) := by decide +kernel
theorem dX2_meanLoudness_11 : decode cX2_meanLoudness 11 = .ok (.getfield 43, 3) := by decide +kernel
theorem dX2_meanLoudness_14 : decode cX2_meanLoudness 14 = .ok (.if_icmp .ge 21, 3) := by decide +kernel
theorem dX2_meanLoudness_17 : decode cX2_meanLoudness 17 = .ok (.iload_n 1, 1) := by decide +kernel
theorem dX2_meanLoudness_18 : decode cX2_meanLoudness 18 = .ok (.aload_n 0, 1) := by decide +kernel
theorem dX2_meanLoudness_19 : decode cX2_meanLoudness 19 = .ok (.getfield 22, 3) := by decide +kernel
theorem dX2_meanLoudness_22 : decode cX2_meanLoudness 22 = .ok (.bipush 27, 2) := by decide +kernel
theorem dX2_meanLoudness_24 : decode cX2_meanLoudness 24 = .ok (.iload_n 2, 1) := by decide +kernel
theorem dX2_meanLoudness_25 : decode cX2_meanLoudness 25 = .ok (.iadd, 1) := by decide +kernel
theorem dX2_meanLoudness_26 : decode cX2_meanLoudness 26 = .ok (.iaload, 1) := by decide +kernel
theorem dX2_meanLoudness_27 : decode cX2_meanLoudness 27 = .ok (.iadd, 1) := by decide +kernel
theorem dX2_meanLoudness_28 : decode cX2_meanLoudness 28 = .ok (.istore_n 1, 1) := by decide +kernel
theorem dX2_meanLoudness_29 : decode cX2_meanLoudness 29 = .ok (.iinc 2 1, 3) := by decide +kernel
theorem dX2_meanLoudness_32 : decode cX2_meanLoudness 32 = .ok (.goto (-23), 3) := by decide +kernel
theorem dX2_meanLoudness_35 : decode cX2_meanLoudness 35 = .ok (.aload_n 0, 1) := by decide +kernel
theorem dX2_meanLoudness_36 : decode cX2_meanLoudness 36 = .ok (.invokevirtual 98, 3) := by decide +kernel
theorem dX2_meanLoudness_39 : decode cX2_meanLoudness 39 = .ok (.ifCond .ne 7, 3) := by decide +kernel
theorem dX2_meanLoudness_42 : decode cX2_meanLoudness 42 = .ok (.dconst 0, 1) := by decide +kernel
theorem dX2_meanLoudness_43 : decode cX2_meanLoudness 43 = .ok (.goto 11, 3) := by decide +kernel
theorem dX2_meanLoudness_46 : decode cX2_meanLoudness 46 = .ok (.iload_n 1, 1) := by decide +kernel
theorem dX2_meanLoudness_47 : decode cX2_meanLoudness 47 = .ok (.i2d, 1) := by decide +kernel
theorem dX2_meanLoudness_48 : decode cX2_meanLoudness 48 = .ok (.aload_n 0, 1) := by decide +kernel
theorem dX2_meanLoudness_49 : decode cX2_meanLoudness 49 = .ok (.invokevirtual 98, 3) := by decide +kernel
theorem dX2_meanLoudness_52 : decode cX2_meanLoudness 52 = .ok (.i2d, 1) := by decide +kernel
theorem dX2_meanLoudness_53 : decode cX2_meanLoudness 53 = .ok (.ddiv, 1) := by decide +kernel
theorem dX2_meanLoudness_54 : decode cX2_meanLoudness 54 = .ok (.dreturn, 1) := by decide +kernel
theorem dX2_digest_0 : decode cX2_digest 0 = .ok (.aload_n 0, 1) := by decide +kernel
theorem dX2_digest_1 : decode cX2_digest 1 = .ok (.iconst 0, 1) := by decide +kernel
theorem dX2_digest_2 : decode cX2_digest 2 = .ok (.putfield 32, 3) := by decide +kernel
theorem dX2_digest_5 : decode cX2_digest 5 = .ok (.bipush 8, 2) := by decide +kernel
theorem dX2_digest_7 : decode cX2_digest 7 = .ok (.newarray .int, 2) := by decide +kernel
theorem dX2_digest_9 : decode cX2_digest 9 = .ok (.dup, 1) := by decide +kernel
theorem dX2_digest_10 : decode cX2_digest 10 = .ok (.iconst 0, 1) := by decide +kernel
theorem dX2_digest_11 : decode cX2_digest 11 = .ok (.aload_n 0, 1) := by decide +kernel
theorem dX2_digest_12 : decode cX2_digest 12 = .ok (.getfield 22, 3) := by decide +kernel
theorem dX2_digest_15 : decode cX2_digest 15 = .ok (.iconst 0, 1) := by decide +kernel
theorem dX2_digest_16 : decode cX2_digest 16 = .ok (.iaload, 1) := by decide +kernel
theorem dX2_digest_17 : decode cX2_digest 17 = .ok (.iastore, 1) := by decide +kernel
theorem dX2_digest_18 : decode cX2_digest 18 = .ok (.dup, 1) := by decide +kernel
theorem dX2_digest_19 : decode cX2_digest 19 = .ok (.iconst 1, 1) := by decide +kernel
theorem dX2_digest_20 : decode cX2_digest 20 = .ok (.aload_n 0, 1) := by decide +kernel
theorem dX2_digest_21 : decode cX2_digest 21 = .ok (.getfield 40, 3) := by decide +kernel
theorem dX2_digest_24 : decode cX2_digest 24 = .ok (.iastore, 1) := by decide +kernel
theorem dX2_digest_25 : decode cX2_digest 25 = .ok (.dup, 1) := by decide +kernel
theorem dX2_digest_26 : decode cX2_digest 26 = .ok (.iconst 2, 1) := by decide +kernel
theorem dX2_digest_27 : decode cX2_digest 27 = .ok (.aload_n 0, 1) := by decide +kernel
theorem dX2_digest_28 : decode cX2_digest 28 = .ok (.getfield 43, 3) := by decide +kernel
theorem dX2_digest_31 : decode cX2_digest 31 = .ok (.iastore, 1) := by decide +kernel
theorem dX2_digest_32 : decode cX2_digest 32 = .ok (.dup, 1) := by decide +kernel
theorem dX2_digest_33 : decode cX2_digest 33 = .ok (.iconst 3, 1) := by decide +kernel
theorem dX2_digest_34 : decode cX2_digest 34 = .ok (.aload_n 0, 1) := by decide +kernel
theorem dX2_digest_35 : decode cX2_digest 35 = .ok (.invokevirtual 98, 3) := by decide +kernel
theorem dX2_digest_38 : decode cX2_digest 38 = .ok (.iastore, 1) := by decide +kernel
theorem dX2_digest_39 : decode cX2_digest 39 = .ok (.dup, 1) := by decide +kernel
theorem dX2_digest_40 : decode cX2_digest 40 = .ok (.iconst 4, 1) := by decide +kernel
theorem dX2_digest_41 : decode cX2_digest 41 = .ok (.aload_n 0, 1) := by decide +kernel
theorem dX2_digest_42 : decode cX2_digest 42 = .ok (.getfield 22, 3) := by decide +kernel
theorem dX2_digest_45 : decode cX2_digest 45 = .ok (.iconst 1, 1) := by decide +kernel
theorem dX2_digest_46 : decode cX2_digest 46 = .ok (.iaload, 1) := by decide +kernel
theorem dX2_digest_47 : decode cX2_digest 47 = .ok (.iastore, 1) := by decide +kernel
theorem dX2_digest_48 : decode cX2_digest 48 = .ok (.dup, 1) := by decide +kernel
theorem dX2_digest_49 : decode cX2_digest 49 = .ok (.iconst 5, 1) := by decide +kernel
theorem dX2_digest_50 : decode cX2_digest 50 = .ok (.aload_n 0, 1) := by decide +kernel
theorem dX2_digest_51 : decode cX2_digest 51 = .ok (.getfield 22, 3) := by decide +kernel
theorem dX2_digest_54 : decode cX2_digest 54 = .ok (.iconst 2, 1) := by decide +kernel
theorem dX2_digest_55 : decode cX2_digest 55 = .ok (.iaload, 1) := by decide +kernel
theorem dX2_digest_56 : decode cX2_digest 56 = .ok (.iastore, 1) := by decide +kernel
theorem dX2_digest_57 : decode cX2_digest 57 = .ok (.dup, 1) := by decide +kernel
theorem dX2_digest_58 : decode cX2_digest 58 = .ok (.bipush 6, 2) := by decide +kernel
theorem dX2_digest_60 : decode cX2_digest 60 = .ok (.aload_n 0, 1) := by decide +kernel
theorem dX2_digest_61 : decode cX2_digest 61 = .ok (.invokevirtual 142, 3) := by decide +kernel
theorem dX2_digest_64 : decode cX2_digest 64 = .ok (.iastore, 1) := by decide +kernel
theorem dX2_digest_65 : decode cX2_digest 65 = .ok (.dup, 1) := by decide +kernel
theorem dX2_digest_66 : decode cX2_digest 66 = .ok (.bipush 7, 2) := by decide +kernel
theorem dX2_digest_68 : decode cX2_digest 68 = .ok (.aload_n 0, 1) := by decide +kernel
theorem dX2_digest_69 : decode cX2_digest 69 = .ok (.bipush 30, 2) := by decide +kernel
theorem dX2_digest_71 : decode cX2_digest 71 = .ok (.invokevirtual 155, 3) := by decide +kernel
theorem dX2_digest_74 : decode cX2_digest 74 = .ok (.iastore, 1) := by decide +kernel
theorem dX2_digest_75 : decode cX2_digest 75 = .ok (.astore_n 1, 1) := by decide +kernel
theorem dX2_digest_76 : decode cX2_digest 76 = .ok (.ldc2_w 158, 3) := by decide +kernel
theorem dX2_digest_79 : decode cX2_digest 79 = .ok (.lstore_n 2, 1) := by decide +kernel
theorem dX2_digest_80 : decode cX2_digest 80 = .ok (.aload_n 1, 1) := by decide +kernel
theorem dX2_digest_81 : decode cX2_digest 81 = .ok (.astore 4, 2) := by decide +kernel
theorem dX2_digest_83 : decode cX2_digest 83 = .ok (.aload 4, 2) := by decide +kernel
theorem dX2_digest_85 : decode cX2_digest 85 = .ok (.arraylength, 1) := by decide +kernel
theorem dX2_digest_86 : decode cX2_digest 86 = .ok (.istore 5, 2) := by decide +kernel
theorem dX2_digest_88 : decode cX2_digest 88 = .ok (.iconst 0, 1) := by decide +kernel
theorem dX2_digest_89 : decode cX2_digest 89 = .ok (.istore 6, 2) := by decide +kernel
theorem dX2_digest_91 : decode cX2_digest 91 = .ok (.iload 6, 2) := by decide +kernel
theorem dX2_digest_93 : decode cX2_digest 93 = .ok (.iload 5, 2) := by decide +kernel
theorem dX2_digest_95 : decode cX2_digest 95 = .ok (.if_icmp .ge 26, 3) := by decide +kernel
theorem dX2_digest_98 : decode cX2_digest 98 = .ok (.aload 4, 2) := by decide +kernel
theorem dX2_digest_100 : decode cX2_digest 100 = .ok (.iload 6, 2) := by decide +kernel
theorem dX2_digest_102 : decode cX2_digest 102 = .ok (.iaload, 1) := by decide +kernel
theorem dX2_digest_103 : decode cX2_digest 103 = .ok (.istore 7, 2) := by decide +kernel
theorem dX2_digest_105 : decode cX2_digest 105 = .ok (.lload_n 2, 1) := by decide +kernel
theorem dX2_digest_106 : decode cX2_digest 106 = .ok (.ldc2_w 160, 3) := by decide +kernel
theorem dX2_digest_109 : decode cX2_digest 109 = .ok (.lmul, 1) := by decide +kernel
theorem dX2_digest_110 : decode cX2_digest 110 = .ok (.iload 7, 2) := by decide +kernel
theorem dX2_digest_112 : decode cX2_digest 112 = .ok (.i2l, 1) := by decide +kernel
theorem dX2_digest_113 : decode cX2_digest 113 = .ok (.ladd, 1) := by decide +kernel
theorem dX2_digest_114 : decode cX2_digest 114 = .ok (.lstore_n 2, 1) := by decide +kernel
theorem dX2_digest_115 : decode cX2_digest 115 = .ok (.iinc 6 1, 3) := by decide +kernel
theorem dX2_digest_118 : decode cX2_digest 118 = .ok (.goto (-27), 3) := by decide +kernel
theorem dX2_digest_121 : decode cX2_digest 121 = .ok (.iconst 0, 1) := by decide +kernel
theorem dX2_digest_122 : decode cX2_digest 122 = .ok (.istore 4, 2) := by decide +kernel
theorem dX2_digest_124 : decode cX2_digest 124 = .ok (.iload 4, 2) := by decide +kernel
theorem dX2_digest_126 : decode cX2_digest 126 = .ok (.iconst 2, 1) := by decide +kernel
theorem dX2_digest_127 : decode cX2_digest 127 = .ok (.if_icmp .ge 67, 3) := by decide +kernel
theorem dX2_digest_130 : decode cX2_digest 130 = .ok (.lload_n 2, 1) := by decide +kernel
theorem dX2_digest_131 : decode cX2_digest 131 = .ok (.ldc2_w 160, 3) := by decide +kernel
theorem dX2_digest_134 : decode cX2_digest 134 = .ok (.lmul, 1) := by decide +kernel
theorem dX2_digest_135 : decode cX2_digest 135 = .ok (.aload_n 0, 1) := by decide +kernel
theorem dX2_digest_136 : decode cX2_digest 136 = .ok (.getfield 22, 3) := by decide +kernel
theorem dX2_digest_139 : decode cX2_digest 139 = .ok (.iconst 3, 1) := by decide +kernel
theorem dX2_digest_140 : decode cX2_digest 140 = .ok (.iload 4, 2) := by decide +kernel
theorem dX2_digest_142 : decode cX2_digest 142 = .ok (.iadd, 1) := by decide +kernel
theorem dX2_digest_143 : decode cX2_digest 143 = .ok (.iaload, 1) := by decide +kernel
theorem dX2_digest_144 : decode cX2_digest 144 = .ok (.i2l, 1) := by decide +kernel
theorem dX2_digest_145 : decode cX2_digest 145 = .ok (.ladd, 1) := by decide +kernel
theorem dX2_digest_146 : decode cX2_digest 146 = .ok (.ldc2_w 160, 3) := by decide +kernel
theorem dX2_digest_149 : decode cX2_digest 149 = .ok (.lmul, 1) := by decide +kernel
theorem dX2_digest_150 : decode cX2_digest 150 = .ok (.aload_n 0, 1) := by decide +kernel
theorem dX2_digest_151 : decode cX2_digest 151 = .ok (.iload 4, 2) := by decide +kernel
theorem dX2_digest_153 : decode cX2_digest 153 = .ok (.invokevirtual 118, 3) := by decide +kernel
theorem dX2_digest_156 : decode cX2_digest 156 = .ok (.i2l, 1) := by decide +kernel
theorem dX2_digest_157 : decode cX2_digest 157 = .ok (.ladd, 1) := by decide +kernel
theorem dX2_digest_158 : decode cX2_digest 158 = .ok (.ldc2_w 160, 3) := by decide +kernel
theorem dX2_digest_161 : decode cX2_digest 161 = .ok (.lmul, 1) := by decide +kernel
theorem dX2_digest_162 : decode cX2_digest 162 = .ok (.aload_n 0, 1) := by decide +kernel
theorem dX2_digest_163 : decode cX2_digest 163 = .ok (.getfield 22, 3) := by decide +kernel
theorem dX2_digest_166 : decode cX2_digest 166 = .ok (.iconst 5, 1) := by decide +kernel
theorem dX2_digest_167 : decode cX2_digest 167 = .ok (.iload 4, 2) := by decide +kernel
theorem dX2_digest_169 : decode cX2_digest 169 = .ok (.iadd, 1) := by decide +kernel
theorem dX2_digest_170 : decode cX2_digest 170 = .ok (.iaload, 1) := by decide +kernel
theorem dX2_digest_171 : decode cX2_digest 171 = .ok (.i2l, 1) := by decide +kernel
theorem dX2_digest_172 : decode cX2_digest 172 = .ok (.ladd, 1) := by decide +kernel
theorem dX2_digest_173 : decode cX2_digest 173 = .ok (.ldc2_w 160, 3) := by decide +kernel
theorem dX2_digest_176 : decode cX2_digest 176 = .ok (.lmul, 1) := by decide +kernel
theorem dX2_digest_177 : decode cX2_digest 177 = .ok (.aload_n 0, 1) := by decide +kernel
theorem dX2_digest_178 : decode cX2_digest 178 = .ok (.iload 4, 2) := by decide +kernel
theorem dX2_digest_180 : decode cX2_digest 180 = .ok (.bipush 20, 2) := by decide +kernel
theorem dX2_digest_182 : decode cX2_digest 182 = .ok (.invokevirtual 145, 3) := by decide +kernel
theorem dX2_digest_185 : decode cX2_digest 185 = .ok (.i2l, 1) := by decide +kernel
theorem dX2_digest_186 : decode cX2_digest 186 = .ok (.ladd, 1) := by decide +kernel
theorem dX2_digest_187 : decode cX2_digest 187 = .ok (.lstore_n 2, 1) := by decide +kernel
theorem dX2_digest_188 : decode cX2_digest 188 = .ok (.iinc 4 1, 3) := by decide +kernel
theorem dX2_digest_191 : decode cX2_digest 191 = .ok (.goto (-67), 3) := by decide +kernel
theorem dX2_digest_194 : decode cX2_digest 194 = .ok (.iconst 0, 1) := by decide +kernel
theorem dX2_digest_195 : decode cX2_digest 195 = .ok (.istore 4, 2) := by decide +kernel
theorem dX2_digest_197 : decode cX2_digest 197 = .ok (.iload 4, 2) := by decide +kernel
theorem dX2_digest_199 : decode cX2_digest 199 = .ok (.aload_n 0, 1) := by decide +kernel
theorem dX2_digest_200 : decode cX2_digest 200 = .ok (.getfield 40, 3) := by decide +kernel
theorem dX2_digest_203 : decode cX2_digest 203 = .ok (.if_icmp .ge 56, 3) := by decide +kernel
theorem dX2_digest_206 : decode cX2_digest 206 = .ok (.lload_n 2, 1) := by decide +kernel
theorem dX2_digest_207 : decode cX2_digest 207 = .ok (.ldc2_w 160, 3) := by decide +kernel
theorem dX2_digest_210 : decode cX2_digest 210 = .ok (.lmul, 1) := by decide +kernel
theorem dX2_digest_211 : decode cX2_digest 211 = .ok (.aload_n 0, 1) := by decide +kernel
theorem dX2_digest_212 : decode cX2_digest 212 = .ok (.getfield 16, 3) := by decide +kernel
theorem dX2_digest_215 : decode cX2_digest 215 = .ok (.iload 4, 2) := by decide +kernel
theorem dX2_digest_217 : decode cX2_digest 217 = .ok (.iaload, 1) := by decide +kernel
theorem dX2_digest_218 : decode cX2_digest 218 = .ok (.i2l, 1) := by decide +kernel
theorem dX2_digest_219 : decode cX2_digest 219 = .ok (.ladd, 1) := by decide +kernel
theorem dX2_digest_220 : decode cX2_digest 220 = .ok (.ldc2_w 160, 3) := by decide +kernel
theorem dX2_digest_223 : decode cX2_digest 223 = .ok (.lmul, 1) := by decide +kernel
theorem dX2_digest_224 : decode cX2_digest 224 = .ok (.aload_n 0, 1) := by decide +kernel
theorem dX2_digest_225 : decode cX2_digest 225 = .ok (.getfield 22, 3) := by decide +kernel
theorem dX2_digest_228 : decode cX2_digest 228 = .ok (.bipush 7, 2) := by decide +kernel
theorem dX2_digest_230 : decode cX2_digest 230 = .ok (.iload 4, 2) := by decide +kernel
theorem dX2_digest_232 : decode cX2_digest 232 = .ok (.iadd, 1) := by decide +kernel
theorem dX2_digest_233 : decode cX2_digest 233 = .ok (.iaload, 1) := by decide +kernel
theorem dX2_digest_234 : decode cX2_digest 234 = .ok (.i2l, 1) := by decide +kernel
theorem dX2_digest_235 : decode cX2_digest 235 = .ok (.ladd, 1) := by decide +kernel
theorem dX2_digest_236 : decode cX2_digest 236 = .ok (.ldc2_w 160, 3) := by decide +kernel
theorem dX2_digest_239 : decode cX2_digest 239 = .ok (.lmul, 1) := by decide +kernel
theorem dX2_digest_240 : decode cX2_digest 240 = .ok (.aload_n 0, 1) := by decide +kernel
theorem dX2_digest_241 : decode cX2_digest 241 = .ok (.getfield 22, 3) := by decide +kernel
theorem dX2_digest_244 : decode cX2_digest 244 = .ok (.bipush 17, 2) := by decide +kernel
theorem dX2_digest_246 : decode cX2_digest 246 = .ok (.iload 4, 2) := by decide +kernel
theorem dX2_digest_248 : decode cX2_digest 248 = .ok (.iadd, 1) := by decide +kernel
theorem dX2_digest_249 : decode cX2_digest 249 = .ok (.iaload, 1) := by decide +kernel
theorem dX2_digest_250 : decode cX2_digest 250 = .ok (.i2l, 1) := by decide +kernel
theorem dX2_digest_251 : decode cX2_digest 251 = .ok (.ladd, 1) := by decide +kernel
theorem dX2_digest_252 : decode cX2_digest 252 = .ok (.lstore_n 2, 1) := by decide +kernel
theorem dX2_digest_253 : decode cX2_digest 253 = .ok (.iinc 4 1, 3) := by decide +kernel
theorem dX2_digest_256 : decode cX2_digest 256 = .ok (.goto (-59), 3) := by decide +kernel
theorem dX2_digest_259 : decode cX2_digest 259 = .ok (.iconst 0, 1) := by decide +kernel
theorem dX2_digest_260 : decode cX2_digest 260 = .ok (.istore 4, 2) := by decide +kernel
theorem dX2_digest_262 : decode cX2_digest 262 = .ok (.iload 4, 2) := by decide +kernel
theorem dX2_digest_264 : decode cX2_digest 264 = .ok (.aload_n 0, 1) := by decide +kernel
theorem dX2_digest_265 : decode cX2_digest 265 = .ok (.getfield 43, 3) := by decide +kernel
theorem dX2_digest_268 : decode cX2_digest 268 = .ok (.if_icmp .ge 76, 3) := by decide +kernel
theorem dX2_digest_271 : decode cX2_digest 271 = .ok (.lload_n 2, 1) := by decide +kernel
theorem dX2_digest_272 : decode cX2_digest 272 = .ok (.ldc2_w 160, 3) := by decide +kernel
theorem dX2_digest_275 : decode cX2_digest 275 = .ok (.lmul, 1) := by decide +kernel
theorem dX2_digest_276 : decode cX2_digest 276 = .ok (.aload_n 0, 1) := by decide +kernel
theorem dX2_digest_277 : decode cX2_digest 277 = .ok (.getfield 22, 3) := by decide +kernel
theorem dX2_digest_280 : decode cX2_digest 280 = .ok (.bipush 27, 2) := by decide +kernel
theorem dX2_digest_282 : decode cX2_digest 282 = .ok (.iload 4, 2) := by decide +kernel
theorem dX2_digest_284 : decode cX2_digest 284 = .ok (.iadd, 1) := by decide +kernel
theorem dX2_digest_285 : decode cX2_digest 285 = .ok (.iaload, 1) := by decide +kernel
theorem dX2_digest_286 : decode cX2_digest 286 = .ok (.i2l, 1) := by decide +kernel
theorem dX2_digest_287 : decode cX2_digest 287 = .ok (.ladd, 1) := by decide +kernel
theorem dX2_digest_288 : decode cX2_digest 288 = .ok (.ldc2_w 160, 3) := by decide +kernel
theorem dX2_digest_291 : decode cX2_digest 291 = .ok (.lmul, 1) := by decide +kernel
theorem dX2_digest_292 : decode cX2_digest 292 = .ok (.aload_n 0, 1) := by decide +kernel
theorem dX2_digest_293 : decode cX2_digest 293 = .ok (.iload 4, 2) := by decide +kernel
theorem dX2_digest_295 : decode cX2_digest 295 = .ok (.invokevirtual 124, 3) := by decide +kernel
theorem dX2_digest_298 : decode cX2_digest 298 = .ok (.i2l, 1) := by decide +kernel
theorem dX2_digest_299 : decode cX2_digest 299 = .ok (.ladd, 1) := by decide +kernel
theorem dX2_digest_300 : decode cX2_digest 300 = .ok (.ldc2_w 160, 3) := by decide +kernel
theorem dX2_digest_303 : decode cX2_digest 303 = .ok (.lmul, 1) := by decide +kernel
theorem dX2_digest_304 : decode cX2_digest 304 = .ok (.aload_n 0, 1) := by decide +kernel
theorem dX2_digest_305 : decode cX2_digest 305 = .ok (.iload 4, 2) := by decide +kernel
theorem dX2_digest_307 : decode cX2_digest 307 = .ok (.invokevirtual 127, 3) := by decide +kernel
theorem dX2_digest_310 : decode cX2_digest 310 = .ok (.ifCond .eq 7, 3) := by decide +kernel
theorem dX2_digest_313 : decode cX2_digest 313 = .ok (.iconst 1, 1) := by decide +kernel
theorem dX2_digest_314 : decode cX2_digest 314 = .ok (.goto 4, 3) := by decide +kernel
theorem dX2_digest_317 : decode cX2_digest 317 = .ok (.iconst 0, 1) := by decide +kernel
theorem dX2_digest_318 : decode cX2_digest 318 = .ok (.i2l, 1) := by decide +kernel
theorem dX2_digest_319 : decode cX2_digest 319 = .ok (.ladd, 1) := by decide +kernel
theorem dX2_digest_320 : decode cX2_digest 320 = .ok (.ldc2_w 160, 3) := by decide +kernel
theorem dX2_digest_323 : decode cX2_digest 323 = .ok (.lmul, 1) := by decide +kernel
theorem dX2_digest_324 : decode cX2_digest 324 = .ok (.aload_n 0, 1) := by decide +kernel
theorem dX2_digest_325 : decode cX2_digest 325 = .ok (.getfield 22, 3) := by decide +kernel
theorem dX2_digest_328 : decode cX2_digest 328 = .ok (.sipush 147, 3) := by decide +kernel
theorem dX2_digest_331 : decode cX2_digest 331 = .ok (.iload 4, 2) := by decide +kernel
theorem dX2_digest_333 : decode cX2_digest 333 = .ok (.iadd, 1) := by decide +kernel
theorem dX2_digest_334 : decode cX2_digest 334 = .ok (.iaload, 1) := by decide +kernel
theorem dX2_digest_335 : decode cX2_digest 335 = .ok (.i2l, 1) := by decide +kernel
theorem dX2_digest_336 : decode cX2_digest 336 = .ok (.ladd, 1) := by decide +kernel
theorem dX2_digest_337 : decode cX2_digest 337 = .ok (.lstore_n 2, 1) := by decide +kernel
theorem dX2_digest_338 : decode cX2_digest 338 = .ok (.iinc 4 1, 3) := by decide +kernel
theorem dX2_digest_341 : decode cX2_digest 341 = .ok (.goto (-79), 3) := by decide +kernel
theorem dX2_digest_344 : decode cX2_digest 344 = .ok (.iconst 0, 1) := by decide +kernel
theorem dX2_digest_345 : decode cX2_digest 345 = .ok (.istore 4, 2) := by decide +kernel
theorem dX2_digest_347 : decode cX2_digest 347 = .ok (.iload 4, 2) := by decide +kernel
theorem dX2_digest_349 : decode cX2_digest 349 = .ok (.bipush 32, 2) := by decide +kernel
theorem dX2_digest_351 : decode cX2_digest 351 = .ok (.if_icmp .ge 49, 3) := by decide +kernel
theorem dX2_digest_354 : decode cX2_digest 354 = .ok (.lload_n 2, 1) := by decide +kernel
theorem dX2_digest_355 : decode cX2_digest 355 = .ok (.ldc2_w 160, 3) := by decide +kernel
theorem dX2_digest_358 : decode cX2_digest 358 = .ok (.lmul, 1) := by decide +kernel
theorem dX2_digest_359 : decode cX2_digest 359 = .ok (.aload_n 0, 1) := by decide +kernel
theorem dX2_digest_360 : decode cX2_digest 360 = .ok (.getfield 9, 3) := by decide +kernel
theorem dX2_digest_363 : decode cX2_digest 363 = .ok (.iload 4, 2) := by decide +kernel
theorem dX2_digest_365 : decode cX2_digest 365 = .ok (.iaload, 1) := by decide +kernel
theorem dX2_digest_366 : decode cX2_digest 366 = .ok (.i2l, 1) := by decide +kernel
theorem dX2_digest_367 : decode cX2_digest 367 = .ok (.ladd, 1) := by decide +kernel
theorem dX2_digest_368 : decode cX2_digest 368 = .ok (.ldc2_w 160, 3) := by decide +kernel
theorem dX2_digest_371 : decode cX2_digest 371 = .ok (.lmul, 1) := by decide +kernel
theorem dX2_digest_372 : decode cX2_digest 372 = .ok (.aload_n 0, 1) := by decide +kernel
theorem dX2_digest_373 : decode cX2_digest 373 = .ok (.iload 4, 2) := by decide +kernel
theorem dX2_digest_375 : decode cX2_digest 375 = .ok (.invokevirtual 115, 3) := by decide +kernel
theorem dX2_digest_378 : decode cX2_digest 378 = .ok (.i2l, 1) := by decide +kernel
theorem dX2_digest_379 : decode cX2_digest 379 = .ok (.ladd, 1) := by decide +kernel
theorem dX2_digest_380 : decode cX2_digest 380 = .ok (.ldc2_w 160, 3) := by decide +kernel
theorem dX2_digest_383 : decode cX2_digest 383 = .ok (.lmul, 1) := by decide +kernel
theorem dX2_digest_384 : decode cX2_digest 384 = .ok (.aload_n 0, 1) := by decide +kernel
theorem dX2_digest_385 : decode cX2_digest 385 = .ok (.iload 4, 2) := by decide +kernel
theorem dX2_digest_387 : decode cX2_digest 387 = .ok (.iconst 1, 1) := by decide +kernel
theorem dX2_digest_388 : decode cX2_digest 388 = .ok (.invokevirtual 130, 3) := by decide +kernel
theorem dX2_digest_391 : decode cX2_digest 391 = .ok (.i2l, 1) := by decide +kernel
theorem dX2_digest_392 : decode cX2_digest 392 = .ok (.ladd, 1) := by decide +kernel
theorem dX2_digest_393 : decode cX2_digest 393 = .ok (.lstore_n 2, 1) := by decide +kernel
theorem dX2_digest_394 : decode cX2_digest 394 = .ok (.iinc 4 1, 3) := by decide +kernel
theorem dX2_digest_397 : decode cX2_digest 397 = .ok (.goto (-50), 3) := by decide +kernel
theorem dX2_digest_400 : decode cX2_digest 400 = .ok (.lload_n 2, 1) := by decide +kernel
theorem dX2_digest_401 : decode cX2_digest 401 = .ok (.lreturn, 1) := by decide +kernel
end
section
theorem dL_addWall_0 : decode cL_addWall 0 = .ok (.aload 4, 2) := by decide +kernel
theorem dL_addWall_2 : decode cL_addWall 2 = .ok (.iconst 0, 1) := by decide +kernel
theorem dL_addWall_3 : decode cL_addWall 3 = .ok (.aload_n 0, 1) := by decide +kernel
theorem dL_addWall_4 : decode cL_addWall 4 = .ok (.iload_n 1, 1) := by decide +kernel
theorem dL_addWall_5 : decode cL_addWall 5 = .ok (.iload_n 2, 1) := by decide +kernel
theorem dL_addWall_6 : decode cL_addWall 6 = .ok (.iload_n 3, 1) := by decide +kernel
theorem dL_addWall_7 : decode cL_addWall 7 = .ok (.invokevirtual 7, 3) := by decide +kernel
theorem dL_addWall_10 : decode cL_addWall 10 = .ok (.i2l, 1) := by decide +kernel
theorem dL_addWall_11 : decode cL_addWall 11 = .ok (.lastore, 1) := by decide +kernel
theorem dL_addWall_12 : decode cL_addWall 12 = .ok (.goto 15, 3) := by decide +kernel
theorem dL_addWall_15 : decode cL_addWall 15 = .ok (.astore 5, 2) := by decide +kernel
theorem dL_addWall_17 : decode cL_addWall 17 = .ok (.iconst 1, 1) := by decide +kernel
theorem dL_addWall_18 : decode cL_addWall 18 = .ok (.ireturn, 1) := by decide +kernel
theorem dL_addWall_19 : decode cL_addWall 19 = .ok (.astore 5, 2) := by decide +kernel
theorem dL_addWall_21 : decode cL_addWall 21 = .ok (.iconst 2, 1) := by decide +kernel
theorem dL_addWall_22 : decode cL_addWall 22 = .ok (.ireturn, 1) := by decide +kernel
theorem dL_addWall_23 : decode cL_addWall 23 = .ok (.astore 5, 2) := by decide +kernel
theorem dL_addWall_25 : decode cL_addWall 25 = .ok (.iconst 3, 1) := by decide +kernel
theorem dL_addWall_26 : decode cL_addWall 26 = .ok (.ireturn, 1) := by decide +kernel
theorem dL_addWall_27 : decode cL_addWall 27 = .ok (.iconst 0, 1) := by decide +kernel
theorem dL_addWall_28 : decode cL_addWall 28 = .ok (.ireturn, 1) := by decide +kernel
theorem dL_hand_0 : decode cL_hand 0 = .ok (.aload_n 2, 1) := by decide +kernel
theorem dL_hand_1 : decode cL_hand 1 = .ok (.iconst 0, 1) := by decide +kernel
theorem dL_hand_2 : decode cL_hand 2 = .ok (.aload_n 0, 1) := by decide +kernel
theorem dL_hand_3 : decode cL_hand 3 = .ok (.iload_n 1, 1) := by decide +kernel
theorem dL_hand_4 : decode cL_hand 4 = .ok (.invokevirtual 19, 3) := by decide +kernel
theorem dL_hand_7 : decode cL_hand 7 = .ok (.i2l, 1) := by decide +kernel
theorem dL_hand_8 : decode cL_hand 8 = .ok (.lastore, 1) := by decide +kernel
theorem dL_hand_9 : decode cL_hand 9 = .ok (.goto 6, 3) := by decide +kernel
theorem dL_hand_12 : decode cL_hand 12 = .ok (.astore_n 3, 1) := by decide +kernel
theorem dL_hand_13 : decode cL_hand 13 = .ok (.iconst 1, 1) := by decide +kernel
theorem dL_hand_14 : decode cL_hand 14 = .ok (.ireturn, 1) := by decide +kernel
theorem dL_hand_15 : decode cL_hand 15 = .ok (.iconst 0, 1) := by decide +kernel
theorem dL_hand_16 : decode cL_hand 16 = .ok (.ireturn, 1) := by decide +kernel
theorem dL_setSnow_0 : decode cL_setSnow 0 = .ok (.aload_n 3, 1) := by decide +kernel
theorem dL_setSnow_1 : decode cL_setSnow 1 = .ok (.iconst 0, 1) := by decide +kernel
theorem dL_setSnow_2 : decode cL_setSnow 2 = .ok (.aload_n 0, 1) := by decide +kernel
theorem dL_setSnow_3 : decode cL_setSnow 3 = .ok (.iload_n 1, 1) := by decide +kernel
theorem dL_setSnow_4 : decode cL_setSnow 4 = .ok (.iload_n 2, 1) := by decide +kernel
theorem dL_setSnow_5 : decode cL_setSnow 5 = .ok (.invokevirtual 23, 3) := by decide +kernel
theorem dL_setSnow_8 : decode cL_setSnow 8 = .ok (.i2l, 1) := by decide +kernel
theorem dL_setSnow_9 : decode cL_setSnow 9 = .ok (.lastore, 1) := by decide +kernel
theorem dL_setSnow_10 : decode cL_setSnow 10 = .ok (.goto 11, 3) := by decide +kernel
theorem dL_setSnow_13 : decode cL_setSnow 13 = .ok (.astore 4, 2) := by decide +kernel
theorem dL_setSnow_15 : decode cL_setSnow 15 = .ok (.iconst 1, 1) := by decide +kernel
theorem dL_setSnow_16 : decode cL_setSnow 16 = .ok (.ireturn, 1) := by decide +kernel
theorem dL_setSnow_17 : decode cL_setSnow 17 = .ok (.astore 4, 2) := by decide +kernel
theorem dL_setSnow_19 : decode cL_setSnow 19 = .ok (.iconst 2, 1) := by decide +kernel
theorem dL_setSnow_20 : decode cL_setSnow 20 = .ok (.ireturn, 1) := by decide +kernel
theorem dL_setSnow_21 : decode cL_setSnow 21 = .ok (.iconst 0, 1) := by decide +kernel
theorem dL_setSnow_22 : decode cL_setSnow 22 = .ok (.ireturn, 1) := by decide +kernel
theorem dL_shout_0 : decode cL_shout 0 = .ok (.aload 4, 2) := by decide +kernel
theorem dL_shout_2 : decode cL_shout 2 = .ok (.iconst 0, 1) := by decide +kernel
theorem dL_shout_3 : decode cL_shout 3 = .ok (.aload_n 0, 1) := by decide +kernel
theorem dL_shout_4 : decode cL_shout 4 = .ok (.iload_n 1, 1) := by decide +kernel
theorem dL_shout_5 : decode cL_shout 5 = .ok (.iload_n 2, 1) := by decide +kernel
theorem dL_shout_6 : decode cL_shout 6 = .ok (.iload_n 3, 1) := by decide +kernel
theorem dL_shout_7 : decode cL_shout 7 = .ok (.invokevirtual 27, 3) := by decide +kernel
theorem dL_shout_10 : decode cL_shout 10 = .ok (.i2l, 1) := by decide +kernel
theorem dL_shout_11 : decode cL_shout 11 = .ok (.lastore, 1) := by decide +kernel
theorem dL_shout_12 : decode cL_shout 12 = .ok (.goto 15, 3) := by decide +kernel
theorem dL_shout_15 : decode cL_shout 15 = .ok (.astore 5, 2) := by decide +kernel
theorem dL_shout_17 : decode cL_shout 17 = .ok (.iconst 1, 1) := by decide +kernel
theorem dL_shout_18 : decode cL_shout 18 = .ok (.ireturn, 1) := by decide +kernel
theorem dL_shout_19 : decode cL_shout 19 = .ok (.astore 5, 2) := by decide +kernel
theorem dL_shout_21 : decode cL_shout 21 = .ok (.iconst 2, 1) := by decide +kernel
theorem dL_shout_22 : decode cL_shout 22 = .ok (.ireturn, 1) := by decide +kernel
theorem dL_shout_23 : decode cL_shout 23 = .ok (.astore 5, 2) := by decide +kernel
theorem dL_shout_25 : decode cL_shout 25 = .ok (.iconst 3, 1) := by decide +kernel
theorem dL_shout_26 : decode cL_shout 26 = .ok (.ireturn, 1) := by decide +kernel
theorem dL_shout_27 : decode cL_shout 27 = .ok (.iconst 0, 1) := by decide +kernel
theorem dL_shout_28 : decode cL_shout 28 = .ok (.ireturn, 1) := by decide +kernel
theorem dL_pass_0 : decode cL_pass 0 = .ok (.aload_n 2, 1) := by decide +kernel
theorem dL_pass_1 : decode cL_pass 1 = .ok (.iconst 0, 1) := by decide +kernel
theorem dL_pass_2 : decode cL_pass 2 = .ok (.aload_n 0, 1) := by decide +kernel
theorem dL_pass_3 : decode cL_pass 3 = .ok (.iload_n 1, 1) := by decide +kernel
theorem dL_pass_4 : decode cL_pass 4 = .ok (.invokevirtual 31, 3) := by decide +kernel
theorem dL_pass_7 : decode cL_pass 7 = .ok (.i2l, 1) := by decide +kernel
theorem dL_pass_8 : decode cL_pass 8 = .ok (.lastore, 1) := by decide +kernel
theorem dL_pass_9 : decode cL_pass 9 = .ok (.goto 6, 3) := by decide +kernel
theorem dL_pass_12 : decode cL_pass 12 = .ok (.astore_n 3, 1) := by decide +kernel
theorem dL_pass_13 : decode cL_pass 13 = .ok (.iconst 1, 1) := by decide +kernel
theorem dL_pass_14 : decode cL_pass 14 = .ok (.ireturn, 1) := by decide +kernel
theorem dL_pass_15 : decode cL_pass 15 = .ok (.iconst 0, 1) := by decide +kernel
theorem dL_pass_16 : decode cL_pass 16 = .ok (.ireturn, 1) := by decide +kernel
theorem dL_snowOn_0 : decode cL_snowOn 0 = .ok (.aload_n 2, 1) := by decide +kernel
theorem dL_snowOn_1 : decode cL_snowOn 1 = .ok (.iconst 0, 1) := by decide +kernel
theorem dL_snowOn_2 : decode cL_snowOn 2 = .ok (.aload_n 0, 1) := by decide +kernel
theorem dL_snowOn_3 : decode cL_snowOn 3 = .ok (.iload_n 1, 1) := by decide +kernel
theorem dL_snowOn_4 : decode cL_snowOn 4 = .ok (.invokevirtual 34, 3) := by decide +kernel
theorem dL_snowOn_7 : decode cL_snowOn 7 = .ok (.i2l, 1) := by decide +kernel
theorem dL_snowOn_8 : decode cL_snowOn 8 = .ok (.lastore, 1) := by decide +kernel
theorem dL_snowOn_9 : decode cL_snowOn 9 = .ok (.goto 6, 3) := by decide +kernel
theorem dL_snowOn_12 : decode cL_snowOn 12 = .ok (.astore_n 3, 1) := by decide +kernel
theorem dL_snowOn_13 : decode cL_snowOn 13 = .ok (.iconst 1, 1) := by decide +kernel
theorem dL_snowOn_14 : decode cL_snowOn 14 = .ok (.ireturn, 1) := by decide +kernel
theorem dL_snowOn_15 : decode cL_snowOn 15 = .ok (.iconst 0, 1) := by decide +kernel
theorem dL_snowOn_16 : decode cL_snowOn 16 = .ok (.ireturn, 1) := by decide +kernel
theorem dL_wallOn_0 : decode cL_wallOn 0 = .ok (.aload_n 2, 1) := by decide +kernel
theorem dL_wallOn_1 : decode cL_wallOn 1 = .ok (.iconst 0, 1) := by decide +kernel
theorem dL_wallOn_2 : decode cL_wallOn 2 = .ok (.aload_n 0, 1) := by decide +kernel
theorem dL_wallOn_3 : decode cL_wallOn 3 = .ok (.iload_n 1, 1) := by decide +kernel
theorem dL_wallOn_4 : decode cL_wallOn 4 = .ok (.invokevirtual 37, 3) := by decide +kernel
theorem dL_wallOn_7 : decode cL_wallOn 7 = .ok (.i2l, 1) := by decide +kernel
theorem dL_wallOn_8 : decode cL_wallOn 8 = .ok (.lastore, 1) := by decide +kernel
theorem dL_wallOn_9 : decode cL_wallOn 9 = .ok (.goto 6, 3) := by decide +kernel
theorem dL_wallOn_12 : decode cL_wallOn 12 = .ok (.astore_n 3, 1) := by decide +kernel
theorem dL_wallOn_13 : decode cL_wallOn 13 = .ok (.iconst 1, 1) := by decide +kernel
theorem dL_wallOn_14 : decode cL_wallOn 14 = .ok (.ireturn, 1) := by decide +kernel
theorem dL_wallOn_15 : decode cL_wallOn 15 = .ok (.iconst 0, 1) := by decide +kernel
theorem dL_wallOn_16 : decode cL_wallOn 16 = .ok (.ireturn, 1) := by decide +kernel
theorem dL_loudOn_0 : decode cL_loudOn 0 = .ok (.aload_n 2, 1) := by decide +kernel
theorem dL_loudOn_1 : decode cL_loudOn 1 = .ok (.iconst 0, 1) := by decide +kernel
theorem dL_loudOn_2 : decode cL_loudOn 2 = .ok (.aload_n 0, 1) := by decide +kernel
theorem dL_loudOn_3 : decode cL_loudOn 3 = .ok (.iload_n 1, 1) := by decide +kernel
theorem dL_loudOn_4 : decode cL_loudOn 4 = .ok (.invokevirtual 40, 3) := by decide +kernel
theorem dL_loudOn_7 : decode cL_loudOn 7 = .ok (.i2l, 1) := by decide +kernel
theorem dL_loudOn_8 : decode cL_loudOn 8 = .ok (.lastore, 1) := by decide +kernel
theorem dL_loudOn_9 : decode cL_loudOn 9 = .ok (.goto 6, 3) := by decide +kernel
theorem dL_loudOn_12 : decode cL_loudOn 12 = .ok (.astore_n 3, 1) := by decide +kernel
theorem dL_loudOn_13 : decode cL_loudOn 13 = .ok (.iconst 1, 1) := by decide +kernel
theorem dL_loudOn_14 : decode cL_loudOn 14 = .ok (.ireturn, 1) := by decide +kernel
theorem dL_loudOn_15 : decode cL_loudOn 15 = .ok (.iconst 0, 1) := by decide +kernel
theorem dL_loudOn_16 : decode cL_loudOn 16 = .ok (.ireturn, 1) := by decide +kernel
theorem dL_stoneOf_0 : decode cL_stoneOf 0 = .ok (.aload_n 2, 1) := by decide +kernel
theorem dL_stoneOf_1 : decode cL_stoneOf 1 = .ok (.iconst 0, 1) := by decide +kernel
theorem dL_stoneOf_2 : decode cL_stoneOf 2 = .ok (.aload_n 0, 1) := by decide +kernel
theorem dL_stoneOf_3 : decode cL_stoneOf 3 = .ok (.iload_n 1, 1) := by decide +kernel
theorem dL_stoneOf_4 : decode cL_stoneOf 4 = .ok (.invokevirtual 43, 3) := by decide +kernel
theorem dL_stoneOf_7 : decode cL_stoneOf 7 = .ok (.i2l, 1) := by decide +kernel
theorem dL_stoneOf_8 : decode cL_stoneOf 8 = .ok (.lastore, 1) := by decide +kernel
theorem dL_stoneOf_9 : decode cL_stoneOf 9 = .ok (.goto 6, 3) := by decide +kernel
theorem dL_stoneOf_12 : decode cL_stoneOf 12 = .ok (.astore_n 3, 1) := by decide +kernel
theorem dL_stoneOf_13 : decode cL_stoneOf 13 = .ok (.iconst 1, 1) := by decide +kernel
theorem dL_stoneOf_14 : decode cL_stoneOf 14 = .ok (.ireturn, 1) := by decide +kernel
theorem dL_stoneOf_15 : decode cL_stoneOf 15 = .ok (.iconst 0, 1) := by decide +kernel
theorem dL_stoneOf_16 : decode cL_stoneOf 16 = .ok (.ireturn, 1) := by decide +kernel
theorem dL_ownerOf_0 : decode cL_ownerOf 0 = .ok (.aload_n 2, 1) := by decide +kernel
theorem dL_ownerOf_1 : decode cL_ownerOf 1 = .ok (.iconst 0, 1) := by decide +kernel
theorem dL_ownerOf_2 : decode cL_ownerOf 2 = .ok (.aload_n 0, 1) := by decide +kernel
theorem dL_ownerOf_3 : decode cL_ownerOf 3 = .ok (.iload_n 1, 1) := by decide +kernel
theorem dL_ownerOf_4 : decode cL_ownerOf 4 = .ok (.invokevirtual 46, 3) := by decide +kernel
theorem dL_ownerOf_7 : decode cL_ownerOf 7 = .ok (.i2l, 1) := by decide +kernel
theorem dL_ownerOf_8 : decode cL_ownerOf 8 = .ok (.lastore, 1) := by decide +kernel
theorem dL_ownerOf_9 : decode cL_ownerOf 9 = .ok (.goto 6, 3) := by decide +kernel
theorem dL_ownerOf_12 : decode cL_ownerOf 12 = .ok (.astore_n 3, 1) := by decide +kernel
theorem dL_ownerOf_13 : decode cL_ownerOf 13 = .ok (.iconst 1, 1) := by decide +kernel
theorem dL_ownerOf_14 : decode cL_ownerOf 14 = .ok (.ireturn, 1) := by decide +kernel
theorem dL_ownerOf_15 : decode cL_ownerOf 15 = .ok (.iconst 0, 1) := by decide +kernel
theorem dL_ownerOf_16 : decode cL_ownerOf 16 = .ok (.ireturn, 1) := by decide +kernel
theorem dL_thrownBack_0 : decode cL_thrownBack 0 = .ok (.aload_n 2, 1) := by decide +kernel
theorem dL_thrownBack_1 : decode cL_thrownBack 1 = .ok (.iconst 0, 1) := by decide +kernel
theorem dL_thrownBack_2 : decode cL_thrownBack 2 = .ok (.aload_n 0, 1) := by decide +kernel
theorem dL_thrownBack_3 : decode cL_thrownBack 3 = .ok (.iload_n 1, 1) := by decide +kernel
theorem dL_thrownBack_4 : decode cL_thrownBack 4 = .ok (.invokevirtual 49, 3) := by decide +kernel
theorem dL_thrownBack_7 : decode cL_thrownBack 7 = .ok (.i2l, 1) := by decide +kernel
theorem dL_thrownBack_8 : decode cL_thrownBack 8 = .ok (.lastore, 1) := by decide +kernel
theorem dL_thrownBack_9 : decode cL_thrownBack 9 = .ok (.goto 6, 3) := by decide +kernel
theorem dL_thrownBack_12 : decode cL_thrownBack 12 = .ok (.astore_n 3, 1) := by decide +kernel
theorem dL_thrownBack_13 : decode cL_thrownBack 13 = .ok (.iconst 1, 1) := by decide +kernel
theorem dL_thrownBack_14 : decode cL_thrownBack 14 = .ok (.ireturn, 1) := by decide +kernel
theorem dL_thrownBack_15 : decode cL_thrownBack 15 = .ok (.iconst 0, 1) := by decide +kernel
theorem dL_thrownBack_16 : decode cL_thrownBack 16 = .ok (.ireturn, 1) := by decide +kernel
theorem dL_coinsOf_0 : decode cL_coinsOf 0 = .ok (.aload_n 2, 1) := by decide +kernel
theorem dL_coinsOf_1 : decode cL_coinsOf 1 = .ok (.iconst 0, 1) := by decide +kernel
theorem dL_coinsOf_2 : decode cL_coinsOf 2 = .ok (.aload_n 0, 1) := by decide +kernel
theorem dL_coinsOf_3 : decode cL_coinsOf 3 = .ok (.iload_n 1, 1) := by decide +kernel
theorem dL_coinsOf_4 : decode cL_coinsOf 4 = .ok (.invokevirtual 52, 3) := by decide +kernel
theorem dL_coinsOf_7 : decode cL_coinsOf 7 = .ok (.i2l, 1) := by decide +kernel
theorem dL_coinsOf_8 : decode cL_coinsOf 8 = .ok (.lastore, 1) := by decide +kernel
theorem dL_coinsOf_9 : decode cL_coinsOf 9 = .ok (.goto 6, 3) := by decide +kernel
theorem dL_coinsOf_12 : decode cL_coinsOf 12 = .ok (.astore_n 3, 1) := by decide +kernel
theorem dL_coinsOf_13 : decode cL_coinsOf 13 = .ok (.iconst 1, 1) := by decide +kernel
theorem dL_coinsOf_14 : decode cL_coinsOf 14 = .ok (.ireturn, 1) := by decide +kernel
theorem dL_coinsOf_15 : decode cL_coinsOf 15 = .ok (.iconst 0, 1) := by decide +kernel
theorem dL_coinsOf_16 : decode cL_coinsOf 16 = .ok (.ireturn, 1) := by decide +kernel
theorem dL_wallsOf_0 : decode cL_wallsOf 0 = .ok (.aload_n 2, 1) := by decide +kernel
theorem dL_wallsOf_1 : decode cL_wallsOf 1 = .ok (.iconst 0, 1) := by decide +kernel
theorem dL_wallsOf_2 : decode cL_wallsOf 2 = .ok (.aload_n 0, 1) := by decide +kernel
theorem dL_wallsOf_3 : decode cL_wallsOf 3 = .ok (.iload_n 1, 1) := by decide +kernel
theorem dL_wallsOf_4 : decode cL_wallsOf 4 = .ok (.invokevirtual 55, 3) := by decide +kernel
theorem dL_wallsOf_7 : decode cL_wallsOf 7 = .ok (.i2l, 1) := by decide +kernel
theorem dL_wallsOf_8 : decode cL_wallsOf 8 = .ok (.lastore, 1) := by decide +kernel
theorem dL_wallsOf_9 : decode cL_wallsOf 9 = .ok (.goto 6, 3) := by decide +kernel
theorem dL_wallsOf_12 : decode cL_wallsOf 12 = .ok (.astore_n 3, 1) := by decide +kernel
theorem dL_wallsOf_13 : decode cL_wallsOf 13 = .ok (.iconst 1, 1) := by decide +kernel
theorem dL_wallsOf_14 : decode cL_wallsOf 14 = .ok (.ireturn, 1) := by decide +kernel
theorem dL_wallsOf_15 : decode cL_wallsOf 15 = .ok (.iconst 0, 1) := by decide +kernel
theorem dL_wallsOf_16 : decode cL_wallsOf 16 = .ok (.ireturn, 1) := by decide +kernel
theorem dL_silentFor_0 : decode cL_silentFor 0 = .ok (.aload_n 2, 1) := by decide +kernel
theorem dL_silentFor_1 : decode cL_silentFor 1 = .ok (.iconst 0, 1) := by decide +kernel
theorem dL_silentFor_2 : decode cL_silentFor 2 = .ok (.aload_n 0, 1) := by decide +kernel
theorem dL_silentFor_3 : decode cL_silentFor 3 = .ok (.iload_n 1, 1) := by decide +kernel
theorem dL_silentFor_4 : decode cL_silentFor 4 = .ok (.invokevirtual 58, 3) := by decide +kernel
theorem dL_silentFor_7 : decode cL_silentFor 7 = .ok (.i2l, 1) := by decide +kernel
theorem dL_silentFor_8 : decode cL_silentFor 8 = .ok (.lastore, 1) := by decide +kernel
theorem dL_silentFor_9 : decode cL_silentFor 9 = .ok (.goto 6, 3) := by decide +kernel
theorem dL_silentFor_12 : decode cL_silentFor 12 = .ok (.astore_n 3, 1) := by decide +kernel
theorem dL_silentFor_13 : decode cL_silentFor 13 = .ok (.iconst 1, 1) := by decide +kernel
theorem dL_silentFor_14 : decode cL_silentFor 14 = .ok (.ireturn, 1) := by decide +kernel
theorem dL_silentFor_15 : decode cL_silentFor 15 = .ok (.iconst 0, 1) := by decide +kernel
theorem dL_silentFor_16 : decode cL_silentFor 16 = .ok (.ireturn, 1) := by decide +kernel
theorem dL_loudnessOf_0 : decode cL_loudnessOf 0 = .ok (.aload_n 2, 1) := by decide +kernel
theorem dL_loudnessOf_1 : decode cL_loudnessOf 1 = .ok (.iconst 0, 1) := by decide +kernel
theorem dL_loudnessOf_2 : decode cL_loudnessOf 2 = .ok (.aload_n 0, 1) := by decide +kernel
theorem dL_loudnessOf_3 : decode cL_loudnessOf 3 = .ok (.iload_n 1, 1) := by decide +kernel
theorem dL_loudnessOf_4 : decode cL_loudnessOf 4 = .ok (.invokevirtual 61, 3) := by decide +kernel
theorem dL_loudnessOf_7 : decode cL_loudnessOf 7 = .ok (.i2l, 1) := by decide +kernel
theorem dL_loudnessOf_8 : decode cL_loudnessOf 8 = .ok (.lastore, 1) := by decide +kernel
theorem dL_loudnessOf_9 : decode cL_loudnessOf 9 = .ok (.goto 6, 3) := by decide +kernel
theorem dL_loudnessOf_12 : decode cL_loudnessOf 12 = .ok (.astore_n 3, 1) := by decide +kernel
theorem dL_loudnessOf_13 : decode cL_loudnessOf 13 = .ok (.iconst 1, 1) := by decide +kernel
theorem dL_loudnessOf_14 : decode cL_loudnessOf 14 = .ok (.ireturn, 1) := by decide +kernel
theorem dL_loudnessOf_15 : decode cL_loudnessOf 15 = .ok (.iconst 0, 1) := by decide +kernel
theorem dL_loudnessOf_16 : decode cL_loudnessOf 16 = .ok (.ireturn, 1) := by decide +kernel
theorem dL_placeOf_0 : decode cL_placeOf 0 = .ok (.aload_n 2, 1) := by decide +kernel
theorem dL_placeOf_1 : decode cL_placeOf 1 = .ok (.iconst 0, 1) := by decide +kernel
theorem dL_placeOf_2 : decode cL_placeOf 2 = .ok (.aload_n 0, 1) := by decide +kernel
theorem dL_placeOf_3 : decode cL_placeOf 3 = .ok (.iload_n 1, 1) := by decide +kernel
theorem dL_placeOf_4 : decode cL_placeOf 4 = .ok (.invokevirtual 64, 3) := by decide +kernel
theorem dL_placeOf_7 : decode cL_placeOf 7 = .ok (.i2l, 1) := by decide +kernel
theorem dL_placeOf_8 : decode cL_placeOf 8 = .ok (.lastore, 1) := by decide +kernel
theorem dL_placeOf_9 : decode cL_placeOf 9 = .ok (.goto 6, 3) := by decide +kernel
theorem dL_placeOf_12 : decode cL_placeOf 12 = .ok (.astore_n 3, 1) := by decide +kernel
theorem dL_placeOf_13 : decode cL_placeOf 13 = .ok (.iconst 1, 1) := by decide +kernel
theorem dL_placeOf_14 : decode cL_placeOf 14 = .ok (.ireturn, 1) := by decide +kernel
theorem dL_placeOf_15 : decode cL_placeOf 15 = .ok (.iconst 0, 1) := by decide +kernel
theorem dL_placeOf_16 : decode cL_placeOf 16 = .ok (.ireturn, 1) := by decide +kernel
theorem dL_goesRight_0 : decode cL_goesRight 0 = .ok (.aload_n 2, 1) := by decide +kernel
theorem dL_goesRight_1 : decode cL_goesRight 1 = .ok (.iconst 0, 1) := by decide +kernel
theorem dL_goesRight_2 : decode cL_goesRight 2 = .ok (.aload_n 0, 1) := by decide +kernel
theorem dL_goesRight_3 : decode cL_goesRight 3 = .ok (.iload_n 1, 1) := by decide +kernel
theorem dL_goesRight_4 : decode cL_goesRight 4 = .ok (.invokevirtual 67, 3) := by decide +kernel
theorem dL_goesRight_7 : decode cL_goesRight 7 = .ok (.ifCond .eq 7, 3) := by decide +kernel
theorem dL_goesRight_10 : decode cL_goesRight 10 = .ok (.lconst 1, 1) := by decide +kernel
theorem dL_goesRight_11 : decode cL_goesRight 11 = .ok (.goto 4, 3) := by decide +kernel
theorem dL_goesRight_14 : decode cL_goesRight 14 = .ok (.lconst 0, 1) := by decide +kernel
theorem dL_goesRight_15 : decode cL_goesRight 15 = .ok (.lastore, 1) := by decide +kernel
theorem dL_goesRight_16 : decode cL_goesRight 16 = .ok (.goto 6, 3) := by decide +kernel
theorem dL_goesRight_19 : decode cL_goesRight 19 = .ok (.astore_n 3, 1) := by decide +kernel
theorem dL_goesRight_20 : decode cL_goesRight 20 = .ok (.iconst 1, 1) := by decide +kernel
theorem dL_goesRight_21 : decode cL_goesRight 21 = .ok (.ireturn, 1) := by decide +kernel
theorem dL_goesRight_22 : decode cL_goesRight 22 = .ok (.iconst 0, 1) := by decide +kernel
theorem dL_goesRight_23 : decode cL_goesRight 23 = .ok (.ireturn, 1) := by decide +kernel
theorem dL_turnsOf_0 : decode cL_turnsOf 0 = .ok (.aload_n 2, 1) := by decide +kernel
theorem dL_turnsOf_1 : decode cL_turnsOf 1 = .ok (.iconst 0, 1) := by decide +kernel
theorem dL_turnsOf_2 : decode cL_turnsOf 2 = .ok (.aload_n 0, 1) := by decide +kernel
theorem dL_turnsOf_3 : decode cL_turnsOf 3 = .ok (.iload_n 1, 1) := by decide +kernel
theorem dL_turnsOf_4 : decode cL_turnsOf 4 = .ok (.invokevirtual 71, 3) := by decide +kernel
theorem dL_turnsOf_7 : decode cL_turnsOf 7 = .ok (.i2l, 1) := by decide +kernel
theorem dL_turnsOf_8 : decode cL_turnsOf 8 = .ok (.lastore, 1) := by decide +kernel
theorem dL_turnsOf_9 : decode cL_turnsOf 9 = .ok (.goto 6, 3) := by decide +kernel
theorem dL_turnsOf_12 : decode cL_turnsOf 12 = .ok (.astore_n 3, 1) := by decide +kernel
theorem dL_turnsOf_13 : decode cL_turnsOf 13 = .ok (.iconst 1, 1) := by decide +kernel
theorem dL_turnsOf_14 : decode cL_turnsOf 14 = .ok (.ireturn, 1) := by decide +kernel
theorem dL_turnsOf_15 : decode cL_turnsOf 15 = .ok (.iconst 0, 1) := by decide +kernel
theorem dL_turnsOf_16 : decode cL_turnsOf 16 = .ok (.ireturn, 1) := by decide +kernel
theorem dL_nextWall_0 : decode cL_nextWall 0 = .ok (.aload_n 3, 1) := by decide +kernel
theorem dL_nextWall_1 : decode cL_nextWall 1 = .ok (.iconst 0, 1) := by decide +kernel
theorem dL_nextWall_2 : decode cL_nextWall 2 = .ok (.aload_n 0, 1) := by decide +kernel
theorem dL_nextWall_3 : decode cL_nextWall 3 = .ok (.iload_n 1, 1) := by decide +kernel
theorem dL_nextWall_4 : decode cL_nextWall 4 = .ok (.iload_n 2, 1) := by decide +kernel
theorem dL_nextWall_5 : decode cL_nextWall 5 = .ok (.invokevirtual 74, 3) := by decide +kernel
theorem dL_nextWall_8 : decode cL_nextWall 8 = .ok (.i2l, 1) := by decide +kernel
theorem dL_nextWall_9 : decode cL_nextWall 9 = .ok (.lastore, 1) := by decide +kernel
theorem dL_nextWall_10 : decode cL_nextWall 10 = .ok (.goto 7, 3) := by decide +kernel
theorem dL_nextWall_13 : decode cL_nextWall 13 = .ok (.astore 4, 2) := by decide +kernel
theorem dL_nextWall_15 : decode cL_nextWall 15 = .ok (.iconst 1, 1) := by decide +kernel
theorem dL_nextWall_16 : decode cL_nextWall 16 = .ok (.ireturn, 1) := by decide +kernel
theorem dL_nextWall_17 : decode cL_nextWall 17 = .ok (.iconst 0, 1) := by decide +kernel
theorem dL_nextWall_18 : decode cL_nextWall 18 = .ok (.ireturn, 1) := by decide +kernel
theorem dL_beatsUntilGone_0 : decode cL_beatsUntilGone 0 = .ok (.aload_n 2, 1) := by decide +kernel
theorem dL_beatsUntilGone_1 : decode cL_beatsUntilGone 1 = .ok (.iconst 0, 1) := by decide +kernel
theorem dL_beatsUntilGone_2 : decode cL_beatsUntilGone 2 = .ok (.aload_n 0, 1) := by decide +kernel
theorem dL_beatsUntilGone_3 : decode cL_beatsUntilGone 3 = .ok (.iload_n 1, 1) := by decide +kernel
theorem dL_beatsUntilGone_4 : decode cL_beatsUntilGone 4 = .ok (.invokevirtual 78, 3) := by decide +kernel
theorem dL_beatsUntilGone_7 : decode cL_beatsUntilGone 7 = .ok (.i2l, 1) := by decide +kernel
theorem dL_beatsUntilGone_8 : decode cL_beatsUntilGone 8 = .ok (.lastore, 1) := by decide +kernel
theorem dL_beatsUntilGone_9 : decode cL_beatsUntilGone 9 = .ok (.goto 6, 3) := by decide +kernel
theorem dL_beatsUntilGone_12 : decode cL_beatsUntilGone 12 = .ok (.astore_n 3, 1) := by decide +kernel
theorem dL_beatsUntilGone_13 : decode cL_beatsUntilGone 13 = .ok (.iconst 1, 1) := by decide +kernel
theorem dL_beatsUntilGone_14 : decode cL_beatsUntilGone 14 = .ok (.ireturn, 1) := by decide +kernel
theorem dL_beatsUntilGone_15 : decode cL_beatsUntilGone 15 = .ok (.iconst 0, 1) := by decide +kernel
theorem dL_beatsUntilGone_16 : decode cL_beatsUntilGone 16 = .ok (.ireturn, 1) := by decide +kernel
theorem dL_coinsIn_0 : decode cL_coinsIn 0 = .ok (.aload_n 3, 1) := by decide +kernel
theorem dL_coinsIn_1 : decode cL_coinsIn 1 = .ok (.iconst 0, 1) := by decide +kernel
theorem dL_coinsIn_2 : decode cL_coinsIn 2 = .ok (.aload_n 0, 1) := by decide +kernel
theorem dL_coinsIn_3 : decode cL_coinsIn 3 = .ok (.iload_n 1, 1) := by decide +kernel
theorem dL_coinsIn_4 : decode cL_coinsIn 4 = .ok (.iload_n 2, 1) := by decide +kernel
theorem dL_coinsIn_5 : decode cL_coinsIn 5 = .ok (.invokevirtual 81, 3) := by decide +kernel
theorem dL_coinsIn_8 : decode cL_coinsIn 8 = .ok (.i2l, 1) := by decide +kernel
theorem dL_coinsIn_9 : decode cL_coinsIn 9 = .ok (.lastore, 1) := by decide +kernel
theorem dL_coinsIn_10 : decode cL_coinsIn 10 = .ok (.goto 11, 3) := by decide +kernel
theorem dL_coinsIn_13 : decode cL_coinsIn 13 = .ok (.astore 4, 2) := by decide +kernel
theorem dL_coinsIn_15 : decode cL_coinsIn 15 = .ok (.iconst 1, 1) := by decide +kernel
theorem dL_coinsIn_16 : decode cL_coinsIn 16 = .ok (.ireturn, 1) := by decide +kernel
theorem dL_coinsIn_17 : decode cL_coinsIn 17 = .ok (.astore 4, 2) := by decide +kernel
theorem dL_coinsIn_19 : decode cL_coinsIn 19 = .ok (.iconst 2, 1) := by decide +kernel
theorem dL_coinsIn_20 : decode cL_coinsIn 20 = .ok (.ireturn, 1) := by decide +kernel
theorem dL_coinsIn_21 : decode cL_coinsIn 21 = .ok (.iconst 0, 1) := by decide +kernel
theorem dL_coinsIn_22 : decode cL_coinsIn 22 = .ok (.ireturn, 1) := by decide +kernel
theorem dL_loudestOn_0 : decode cL_loudestOn 0 = .ok (.aload_n 3, 1) := by decide +kernel
theorem dL_loudestOn_1 : decode cL_loudestOn 1 = .ok (.iconst 0, 1) := by decide +kernel
theorem dL_loudestOn_2 : decode cL_loudestOn 2 = .ok (.aload_n 0, 1) := by decide +kernel
theorem dL_loudestOn_3 : decode cL_loudestOn 3 = .ok (.iload_n 1, 1) := by decide +kernel
theorem dL_loudestOn_4 : decode cL_loudestOn 4 = .ok (.iload_n 2, 1) := by decide +kernel
theorem dL_loudestOn_5 : decode cL_loudestOn 5 = .ok (.invokevirtual 84, 3) := by decide +kernel
theorem dL_loudestOn_8 : decode cL_loudestOn 8 = .ok (.i2l, 1) := by decide +kernel
theorem dL_loudestOn_9 : decode cL_loudestOn 9 = .ok (.lastore, 1) := by decide +kernel
theorem dL_loudestOn_10 : decode cL_loudestOn 10 = .ok (.goto 11, 3) := by decide +kernel
theorem dL_loudestOn_13 : decode cL_loudestOn 13 = .ok (.astore 4, 2) := by decide +kernel
theorem dL_loudestOn_15 : decode cL_loudestOn 15 = .ok (.iconst 1, 1) := by decide +kernel
theorem dL_loudestOn_16 : decode cL_loudestOn 16 = .ok (.ireturn, 1) := by decide +kernel
theorem dL_loudestOn_17 : decode cL_loudestOn 17 = .ok (.astore 4, 2) := by decide +kernel
theorem dL_loudestOn_19 : decode cL_loudestOn 19 = .ok (.iconst 2, 1) := by decide +kernel
theorem dL_loudestOn_20 : decode cL_loudestOn 20 = .ok (.ireturn, 1) := by decide +kernel
theorem dL_loudestOn_21 : decode cL_loudestOn 21 = .ok (.iconst 0, 1) := by decide +kernel
theorem dL_loudestOn_22 : decode cL_loudestOn 22 = .ok (.ireturn, 1) := by decide +kernel
theorem dL_loudnessWanted_0 : decode cL_loudnessWanted 0 = .ok (.aload 4, 2) := by decide +kernel
theorem dL_loudnessWanted_2 : decode cL_loudnessWanted 2 = .ok (.iconst 0, 1) := by decide +kernel
theorem dL_loudnessWanted_3 : decode cL_loudnessWanted 3 = .ok (.aload_n 0, 1) := by decide +kernel
theorem dL_loudnessWanted_4 : decode cL_loudnessWanted 4 = .ok (.iload_n 1, 1) := by decide +kernel
theorem dL_loudnessWanted_5 : decode cL_loudnessWanted 5 = .ok (.iload_n 2, 1) := by decide +kernel
theorem dL_loudnessWanted_6 : decode cL_loudnessWanted 6 = .ok (.iload_n 3, 1) := by decide +kernel
theorem dL_loudnessWanted_7 : decode cL_loudnessWanted 7 = .ok (.invokevirtual 87, 3) := by decide +kernel
theorem dL_loudnessWanted_10 : decode cL_loudnessWanted 10 = .ok (.i2l, 1) := by decide +kernel
theorem dL_loudnessWanted_11 : decode cL_loudnessWanted 11 = .ok (.lastore, 1) := by decide +kernel
theorem dL_loudnessWanted_12 : decode cL_loudnessWanted 12 = .ok (.goto 7, 3) := by decide +kernel
theorem dL_loudnessWanted_15 : decode cL_loudnessWanted 15 = .ok (.astore 5, 2) := by decide +kernel
theorem dL_loudnessWanted_17 : decode cL_loudnessWanted 17 = .ok (.iconst 1, 1) := by decide +kernel
theorem dL_loudnessWanted_18 : decode cL_loudnessWanted 18 = .ok (.ireturn, 1) := by decide +kernel
theorem dL_loudnessWanted_19 : decode cL_loudnessWanted 19 = .ok (.iconst 0, 1) := by decide +kernel
theorem dL_loudnessWanted_20 : decode cL_loudnessWanted 20 = .ok (.ireturn, 1) := by decide +kernel
theorem dL_bestStone_0 : decode cL_bestStone 0 = .ok (.aload_n 2, 1) := by decide +kernel
theorem dL_bestStone_1 : decode cL_bestStone 1 = .ok (.iconst 0, 1) := by decide +kernel
theorem dL_bestStone_2 : decode cL_bestStone 2 = .ok (.aload_n 0, 1) := by decide +kernel
theorem dL_bestStone_3 : decode cL_bestStone 3 = .ok (.iload_n 1, 1) := by decide +kernel
theorem dL_bestStone_4 : decode cL_bestStone 4 = .ok (.invokevirtual 90, 3) := by decide +kernel
theorem dL_bestStone_7 : decode cL_bestStone 7 = .ok (.i2l, 1) := by decide +kernel
theorem dL_bestStone_8 : decode cL_bestStone 8 = .ok (.lastore, 1) := by decide +kernel
theorem dL_bestStone_9 : decode cL_bestStone 9 = .ok (.goto 6, 3) := by decide +kernel
theorem dL_bestStone_12 : decode cL_bestStone 12 = .ok (.astore_n 3, 1) := by decide +kernel
theorem dL_bestStone_13 : decode cL_bestStone 13 = .ok (.iconst 1, 1) := by decide +kernel
theorem dL_bestStone_14 : decode cL_bestStone 14 = .ok (.ireturn, 1) := by decide +kernel
theorem dL_bestStone_15 : decode cL_bestStone 15 = .ok (.iconst 0, 1) := by decide +kernel
theorem dL_bestStone_16 : decode cL_bestStone 16 = .ok (.ireturn, 1) := by decide +kernel
theorem dL_law_0 : decode cL_law 0 = .ok (.new 8, 3) := by decide +kernel
theorem dL_law_3 : decode cL_law 3 = .ok (.dup, 1) := by decide +kernel
theorem dL_law_4 : decode cL_law 4 = .ok (.invokespecial 93, 3) := by decide +kernel
theorem dL_law_7 : decode cL_law 7 = .ok (.astore_n 1, 1) := by decide +kernel
theorem dL_law_8 : decode cL_law 8 = .ok (.new 94, 3) := by decide +kernel
theorem dL_law_11 : decode cL_law 11 = .ok (.dup, 1) := by decide +kernel
theorem dL_law_12 : decode cL_law 12 = .ok (.invokespecial 96, 3) := by decide +kernel
theorem dL_law_15 : decode cL_law 15 = .ok (.astore_n 2, 1) := by decide +kernel
theorem dL_law_16 : decode cL_law 16 = .ok (.iconst 1, 1) := by decide +kernel
theorem dL_law_17 : decode cL_law 17 = .ok (.newarray .long, 2) := by decide +kernel
theorem dL_law_19 : decode cL_law 19 = .ok (.astore_n 3, 1) := by decide +kernel
theorem dL_law_20 : decode cL_law 20 = .ok (.iconst 0, 1) := by decide +kernel
theorem dL_law_21 : decode cL_law 21 = .ok (.istore 4, 2) := by decide +kernel
theorem dL_law_23 : decode cL_law 23 = .ok (.iload 4, 2) := by decide +kernel
theorem dL_law_25 : decode cL_law 25 = .ok (.aload_n 0, 1) := by decide +kernel
theorem dL_law_26 : decode cL_law 26 = .ok (.arraylength, 1) := by decide +kernel
theorem dL_law_27 : decode cL_law 27 = .ok (.iconst 4, 1) := by decide +kernel
theorem dL_law_28 : decode cL_law 28 = .ok (.isub, 1) := by decide +kernel
theorem dL_law_29 : decode cL_law 29 = .ok (.if_icmp .gt 1826, 3) := by decide +kernel
theorem dL_law_32 : decode cL_law 32 = .ok (.aload_n 0, 1) := by decide +kernel
theorem dL_law_33 : decode cL_law 33 = .ok (.iload 4, 2) := by decide +kernel
theorem dL_law_35 : decode cL_law 35 = .ok (.iaload, 1) := by decide +kernel
theorem dL_law_36 : decode cL_law 36 = .ok (.bipush 63, 2) := by decide +kernel
theorem dL_law_38 : decode cL_law 38 = .ok (.iand, 1) := by decide +kernel
theorem dL_law_39 : decode cL_law 39 = .ok (.tableswitch 1810 0 32 #[145, 225, 281, 349, 445, 501, 514, 527, 540, 553, 566, 622, 678, 734, 790, 846, 902, 958, 1014, 1070, 1083, 1139, 1195, 1258, 1314, 1398, 1454, 1467, 1535, 1603, 1699, 1755, 1796], 145) := by decide +kernel
theorem dL_law_184 : decode cL_law 184 = .ok (.aload_n 1, 1) := by decide +kernel
theorem dL_law_185 : decode cL_law 185 = .ok (.aload_n 0, 1) := by decide +kernel
theorem dL_law_186 : decode cL_law 186 = .ok (.iload 4, 2) := by decide +kernel
theorem dL_law_188 : decode cL_law 188 = .ok (.iconst 1, 1) := by decide +kernel
theorem dL_law_189 : decode cL_law 189 = .ok (.iadd, 1) := by decide +kernel
theorem dL_law_190 : decode cL_law 190 = .ok (.iaload, 1) := by decide +kernel
theorem dL_law_191 : decode cL_law 191 = .ok (.aload_n 0, 1) := by decide +kernel
theorem dL_law_192 : decode cL_law 192 = .ok (.iload 4, 2) := by decide +kernel
theorem dL_law_194 : decode cL_law 194 = .ok (.iconst 2, 1) := by decide +kernel
theorem dL_law_195 : decode cL_law 195 = .ok (.iadd, 1) := by decide +kernel
theorem dL_law_196 : decode cL_law 196 = .ok (.iaload, 1) := by decide +kernel
theorem dL_law_197 : decode cL_law 197 = .ok (.aload_n 0, 1) := by decide +kernel
theorem dL_law_198 : decode cL_law 198 = .ok (.iload 4, 2) := by decide +kernel
theorem dL_law_200 : decode cL_law 200 = .ok (.iconst 3, 1) := by decide +kernel
theorem dL_law_201 : decode cL_law 201 = .ok (.iadd, 1) := by decide +kernel
theorem dL_law_202 : decode cL_law 202 = .ok (.iaload, 1) := by decide +kernel
theorem dL_law_203 : decode cL_law 203 = .ok (.aload_n 3, 1) := by decide +kernel
theorem dL_law_204 : decode cL_law 204 = .ok (.invokestatic 97, 3) := by decide +kernel
theorem dL_law_207 : decode cL_law 207 = .ok (.istore 5, 2) := by decide +kernel
theorem dL_law_209 : decode cL_law 209 = .ok (.aload_n 2, 1) := by decide +kernel
theorem dL_law_210 : decode cL_law 210 = .ok (.aload_n 0, 1) := by decide +kernel
theorem dL_law_211 : decode cL_law 211 = .ok (.iload 4, 2) := by decide +kernel
theorem dL_law_213 : decode cL_law 213 = .ok (.iconst 1, 1) := by decide +kernel
theorem dL_law_214 : decode cL_law 214 = .ok (.iadd, 1) := by decide +kernel
theorem dL_law_215 : decode cL_law 215 = .ok (.iaload, 1) := by decide +kernel
theorem dL_law_216 : decode cL_law 216 = .ok (.aload_n 0, 1) := by decide +kernel
theorem dL_law_217 : decode cL_law 217 = .ok (.iload 4, 2) := by decide +kernel
theorem dL_law_219 : decode cL_law 219 = .ok (.iconst 2, 1) := by decide +kernel
theorem dL_law_220 : decode cL_law 220 = .ok (.iadd, 1) := by decide +kernel
theorem dL_law_221 : decode cL_law 221 = .ok (.iaload, 1) := by decide +kernel
theorem dL_law_222 : decode cL_law 222 = .ok (.aload_n 0, 1) := by decide +kernel
theorem dL_law_223 : decode cL_law 223 = .ok (.iload 4, 2) := by decide +kernel
theorem dL_law_225 : decode cL_law 225 = .ok (.iconst 3, 1) := by decide +kernel
theorem dL_law_226 : decode cL_law 226 = .ok (.iadd, 1) := by decide +kernel
theorem dL_law_227 : decode cL_law 227 = .ok (.iaload, 1) := by decide +kernel
theorem dL_law_228 : decode cL_law 228 = .ok (.invokevirtual 102, 3) := by decide +kernel
theorem dL_law_231 : decode cL_law 231 = .ok (.istore 6, 2) := by decide +kernel
theorem dL_law_233 : decode cL_law 233 = .ok (.aload_n 2, 1) := by decide +kernel
theorem dL_law_234 : decode cL_law 234 = .ok (.invokevirtual 103, 3) := by decide +kernel
theorem dL_law_237 : decode cL_law 237 = .ok (.iload 5, 2) := by decide +kernel
theorem dL_law_239 : decode cL_law 239 = .ok (.if_icmp .eq 5, 3) := by decide +kernel
theorem dL_law_242 : decode cL_law 242 = .ok (.iconst 0, 1) := by decide +kernel
theorem dL_law_243 : decode cL_law 243 = .ok (.ireturn, 1) := by decide +kernel
theorem dL_law_244 : decode cL_law 244 = .ok (.iload 5, 2) := by decide +kernel
theorem dL_law_246 : decode cL_law 246 = .ok (.ifCond .ne 15, 3) := by decide +kernel
theorem dL_law_249 : decode cL_law 249 = .ok (.aload_n 3, 1) := by decide +kernel
theorem dL_law_250 : decode cL_law 250 = .ok (.iconst 0, 1) := by decide +kernel
theorem dL_law_251 : decode cL_law 251 = .ok (.laload, 1) := by decide +kernel
theorem dL_law_252 : decode cL_law 252 = .ok (.iload 6, 2) := by decide +kernel
theorem dL_law_254 : decode cL_law 254 = .ok (.i2l, 1) := by decide +kernel
theorem dL_law_255 : decode cL_law 255 = .ok (.lcmp, 1) := by decide +kernel
theorem dL_law_256 : decode cL_law 256 = .ok (.ifCond .eq 5, 3) := by decide +kernel
theorem dL_law_259 : decode cL_law 259 = .ok (.iconst 0, 1) := by decide +kernel
theorem dL_law_260 : decode cL_law 260 = .ok (.ireturn, 1) := by decide +kernel
theorem dL_law_261 : decode cL_law 261 = .ok (.goto 1588, 3) := by decide +kernel
theorem dL_law_264 : decode cL_law 264 = .ok (.aload_n 1, 1) := by decide +kernel
theorem dL_law_265 : decode cL_law 265 = .ok (.aload_n 0, 1) := by decide +kernel
theorem dL_law_266 : decode cL_law 266 = .ok (.iload 4, 2) := by decide +kernel
theorem dL_law_268 : decode cL_law 268 = .ok (.iconst 1, 1) := by decide +kernel
theorem dL_law_269 : decode cL_law 269 = .ok (.iadd, 1) := by decide +kernel
theorem dL_law_270 : decode cL_law 270 = .ok (.iaload, 1) := by decide +kernel
theorem dL_law_271 : decode cL_law 271 = .ok (.aload_n 3, 1) := by decide +kernel
theorem dL_law_272 : decode cL_law 272 = .ok (.invokestatic 107, 3) := by decide +kernel
theorem dL_law_275 : decode cL_law 275 = .ok (.istore 5, 2) := by decide +kernel
theorem dL_law_277 : decode cL_law 277 = .ok (.aload_n 2, 1) := by decide +kernel
theorem dL_law_278 : decode cL_law 278 = .ok (.aload_n 0, 1) := by decide +kernel
theorem dL_law_279 : decode cL_law 279 = .ok (.iload 4, 2) := by decide +kernel
theorem dL_law_281 : decode cL_law 281 = .ok (.iconst 1, 1) := by decide +kernel
theorem dL_law_282 : decode cL_law 282 = .ok (.iadd, 1) := by decide +kernel
theorem dL_law_283 : decode cL_law 283 = .ok (.iaload, 1) := by decide +kernel
theorem dL_law_284 : decode cL_law 284 = .ok (.invokevirtual 110, 3) := by decide +kernel
theorem dL_law_287 : decode cL_law 287 = .ok (.istore 6, 2) := by decide +kernel
theorem dL_law_289 : decode cL_law 289 = .ok (.aload_n 2, 1) := by decide +kernel
theorem dL_law_290 : decode cL_law 290 = .ok (.invokevirtual 103, 3) := by decide +kernel
theorem dL_law_293 : decode cL_law 293 = .ok (.iload 5, 2) := by decide +kernel
theorem dL_law_295 : decode cL_law 295 = .ok (.if_icmp .eq 5, 3) := by decide +kernel
theorem dL_law_298 : decode cL_law 298 = .ok (.iconst 0, 1) := by decide +kernel
theorem dL_law_299 : decode cL_law 299 = .ok (.ireturn, 1) := by decide +kernel
theorem dL_law_300 : decode cL_law 300 = .ok (.iload 5, 2) := by decide +kernel
theorem dL_law_302 : decode cL_law 302 = .ok (.ifCond .ne 15, 3) := by decide +kernel
theorem dL_law_305 : decode cL_law 305 = .ok (.aload_n 3, 1) := by decide +kernel
theorem dL_law_306 : decode cL_law 306 = .ok (.iconst 0, 1) := by decide +kernel
theorem dL_law_307 : decode cL_law 307 = .ok (.laload, 1) := by decide +kernel
theorem dL_law_308 : decode cL_law 308 = .ok (.iload 6, 2) := by decide +kernel
theorem dL_law_310 : decode cL_law 310 = .ok (.i2l, 1) := by decide +kernel
theorem dL_law_311 : decode cL_law 311 = .ok (.lcmp, 1) := by decide +kernel
theorem dL_law_312 : decode cL_law 312 = .ok (.ifCond .eq 5, 3) := by decide +kernel
theorem dL_law_315 : decode cL_law 315 = .ok (.iconst 0, 1) := by decide +kernel
theorem dL_law_316 : decode cL_law 316 = .ok (.ireturn, 1) := by decide +kernel
theorem dL_law_317 : decode cL_law 317 = .ok (.goto 1532, 3) := by decide +kernel
theorem dL_law_320 : decode cL_law 320 = .ok (.aload_n 1, 1) := by decide +kernel
theorem dL_law_321 : decode cL_law 321 = .ok (.aload_n 0, 1) := by decide +kernel
theorem dL_law_322 : decode cL_law 322 = .ok (.iload 4, 2) := by decide +kernel
theorem dL_law_324 : decode cL_law 324 = .ok (.iconst 1, 1) := by decide +kernel
theorem dL_law_325 : decode cL_law 325 = .ok (.iadd, 1) := by decide +kernel
theorem dL_law_326 : decode cL_law 326 = .ok (.iaload, 1) := by decide +kernel
theorem dL_law_327 : decode cL_law 327 = .ok (.aload_n 0, 1) := by decide +kernel
theorem dL_law_328 : decode cL_law 328 = .ok (.iload 4, 2) := by decide +kernel
theorem dL_law_330 : decode cL_law 330 = .ok (.iconst 2, 1) := by decide +kernel
theorem dL_law_331 : decode cL_law 331 = .ok (.iadd, 1) := by decide +kernel
theorem dL_law_332 : decode cL_law 332 = .ok (.iaload, 1) := by decide +kernel
theorem dL_law_333 : decode cL_law 333 = .ok (.aload_n 3, 1) := by decide +kernel
theorem dL_law_334 : decode cL_law 334 = .ok (.invokestatic 111, 3) := by decide +kernel
theorem dL_law_337 : decode cL_law 337 = .ok (.istore 5, 2) := by decide +kernel
theorem dL_law_339 : decode cL_law 339 = .ok (.aload_n 2, 1) := by decide +kernel
theorem dL_law_340 : decode cL_law 340 = .ok (.aload_n 0, 1) := by decide +kernel
theorem dL_law_341 : decode cL_law 341 = .ok (.iload 4, 2) := by decide +kernel
theorem dL_law_343 : decode cL_law 343 = .ok (.iconst 1, 1) := by decide +kernel
theorem dL_law_344 : decode cL_law 344 = .ok (.iadd, 1) := by decide +kernel
theorem dL_law_345 : decode cL_law 345 = .ok (.iaload, 1) := by decide +kernel
theorem dL_law_346 : decode cL_law 346 = .ok (.aload_n 0, 1) := by decide +kernel
theorem dL_law_347 : decode cL_law 347 = .ok (.iload 4, 2) := by decide +kernel
theorem dL_law_349 : decode cL_law 349 = .ok (.iconst 2, 1) := by decide +kernel
theorem dL_law_350 : decode cL_law 350 = .ok (.iadd, 1) := by decide +kernel
theorem dL_law_351 : decode cL_law 351 = .ok (.iaload, 1) := by decide +kernel
theorem dL_law_352 : decode cL_law 352 = .ok (.invokevirtual 114, 3) := by decide +kernel
theorem dL_law_355 : decode cL_law 355 = .ok (.istore 6, 2) := by decide +kernel
theorem dL_law_357 : decode cL_law 357 = .ok (.aload_n 2, 1) := by decide +kernel
theorem dL_law_358 : decode cL_law 358 = .ok (.invokevirtual 103, 3) := by decide +kernel
theorem dL_law_361 : decode cL_law 361 = .ok (.iload 5, 2) := by decide +kernel
theorem dL_law_363 : decode cL_law 363 = .ok (.if_icmp .eq 5, 3) := by decide +kernel
theorem dL_law_366 : decode cL_law 366 = .ok (.iconst 0, 1) := by decide +kernel
theorem dL_law_367 : decode cL_law 367 = .ok (.ireturn, 1) := by decide +kernel
theorem dL_law_368 : decode cL_law 368 = .ok (.iload 5, 2) := by decide +kernel
theorem dL_law_370 : decode cL_law 370 = .ok (.ifCond .ne 15, 3) := by decide +kernel
theorem dL_law_373 : decode cL_law 373 = .ok (.aload_n 3, 1) := by decide +kernel
theorem dL_law_374 : decode cL_law 374 = .ok (.iconst 0, 1) := by decide +kernel
theorem dL_law_375 : decode cL_law 375 = .ok (.laload, 1) := by decide +kernel
theorem dL_law_376 : decode cL_law 376 = .ok (.iload 6, 2) := by decide +kernel
theorem dL_law_378 : decode cL_law 378 = .ok (.i2l, 1) := by decide +kernel
theorem dL_law_379 : decode cL_law 379 = .ok (.lcmp, 1) := by decide +kernel
theorem dL_law_380 : decode cL_law 380 = .ok (.ifCond .eq 5, 3) := by decide +kernel
theorem dL_law_383 : decode cL_law 383 = .ok (.iconst 0, 1) := by decide +kernel
theorem dL_law_384 : decode cL_law 384 = .ok (.ireturn, 1) := by decide +kernel
theorem dL_law_385 : decode cL_law 385 = .ok (.goto 1464, 3) := by decide +kernel
theorem dL_law_388 : decode cL_law 388 = .ok (.aload_n 1, 1) := by decide +kernel
theorem dL_law_389 : decode cL_law 389 = .ok (.aload_n 0, 1) := by decide +kernel
theorem dL_law_390 : decode cL_law 390 = .ok (.iload 4, 2) := by decide +kernel
theorem dL_law_392 : decode cL_law 392 = .ok (.iconst 1, 1) := by decide +kernel
theorem dL_law_393 : decode cL_law 393 = .ok (.iadd, 1) := by decide +kernel
theorem dL_law_394 : decode cL_law 394 = .ok (.iaload, 1) := by decide +kernel
theorem dL_law_395 : decode cL_law 395 = .ok (.aload_n 0, 1) := by decide +kernel
theorem dL_law_396 : decode cL_law 396 = .ok (.iload 4, 2) := by decide +kernel
theorem dL_law_398 : decode cL_law 398 = .ok (.iconst 2, 1) := by decide +kernel
theorem dL_law_399 : decode cL_law 399 = .ok (.iadd, 1) := by decide +kernel
theorem dL_law_400 : decode cL_law 400 = .ok (.iaload, 1) := by decide +kernel
theorem dL_law_401 : decode cL_law 401 = .ok (.ifCond .eq 7, 3) := by decide +kernel
theorem dL_law_404 : decode cL_law 404 = .ok (.iconst 1, 1) := by decide +kernel
theorem dL_law_405 : decode cL_law 405 = .ok (.goto 4, 3) := by decide +kernel
theorem dL_law_408 : decode cL_law 408 = .ok (.iconst 0, 1) := by decide +kernel
theorem dL_law_409 : decode cL_law 409 = .ok (.aload_n 0, 1) := by decide +kernel
theorem dL_law_410 : decode cL_law 410 = .ok (.iload 4, 2) := by decide +kernel
theorem dL_law_412 : decode cL_law 412 = .ok (.iconst 3, 1) := by decide +kernel
theorem dL_law_413 : decode cL_law 413 = .ok (.iadd, 1) := by decide +kernel
theorem dL_law_414 : decode cL_law 414 = .ok (.iaload, 1) := by decide +kernel
theorem dL_law_415 : decode cL_law 415 = .ok (.aload_n 3, 1) := by decide +kernel
theorem dL_law_416 : decode cL_law 416 = .ok (.invokestatic 115, 3) := by decide +kernel
theorem dL_law_419 : decode cL_law 419 = .ok (.istore 5, 2) := by decide +kernel
theorem dL_law_421 : decode cL_law 421 = .ok (.aload_n 2, 1) := by decide +kernel
theorem dL_law_422 : decode cL_law 422 = .ok (.aload_n 0, 1) := by decide +kernel
theorem dL_law_423 : decode cL_law 423 = .ok (.iload 4, 2) := by decide +kernel
theorem dL_law_425 : decode cL_law 425 = .ok (.iconst 1, 1) := by decide +kernel
theorem dL_law_426 : decode cL_law 426 = .ok (.iadd, 1) := by decide +kernel
theorem dL_law_427 : decode cL_law 427 = .ok (.iaload, 1) := by decide +kernel
theorem dL_law_428 : decode cL_law 428 = .ok (.aload_n 0, 1) := by decide +kernel
theorem dL_law_429 : decode cL_law 429 = .ok (.iload 4, 2) := by decide +kernel
theorem dL_law_431 : decode cL_law 431 = .ok (.iconst 2, 1) := by decide +kernel
theorem dL_law_432 : decode cL_law 432 = .ok (.iadd, 1) := by decide +kernel
theorem dL_law_433 : decode cL_law 433 = .ok (.iaload, 1) := by decide +kernel
theorem dL_law_434 : decode cL_law 434 = .ok (.ifCond .eq 7, 3) := by decide +kernel
theorem dL_law_437 : decode cL_law 437 = .ok (.iconst 1, 1) := by decide +kernel
theorem dL_law_438 : decode cL_law 438 = .ok (.goto 4, 3) := by decide +kernel
theorem dL_law_441 : decode cL_law 441 = .ok (.iconst 0, 1) := by decide +kernel
theorem dL_law_442 : decode cL_law 442 = .ok (.aload_n 0, 1) := by decide +kernel
theorem dL_law_443 : decode cL_law 443 = .ok (.iload 4, 2) := by decide +kernel
theorem dL_law_445 : decode cL_law 445 = .ok (.iconst 3, 1) := by decide +kernel
theorem dL_law_446 : decode cL_law 446 = .ok (.iadd, 1) := by decide +kernel
theorem dL_law_447 : decode cL_law 447 = .ok (.iaload, 1) := by decide +kernel
theorem dL_law_448 : decode cL_law 448 = .ok (.invokevirtual 118, 3) := by decide +kernel
theorem dL_law_451 : decode cL_law 451 = .ok (.istore 6, 2) := by decide +kernel
theorem dL_law_453 : decode cL_law 453 = .ok (.aload_n 2, 1) := by decide +kernel
theorem dL_law_454 : decode cL_law 454 = .ok (.invokevirtual 103, 3) := by decide +kernel
theorem dL_law_457 : decode cL_law 457 = .ok (.iload 5, 2) := by decide +kernel
theorem dL_law_459 : decode cL_law 459 = .ok (.if_icmp .eq 5, 3) := by decide +kernel
theorem dL_law_462 : decode cL_law 462 = .ok (.iconst 0, 1) := by decide +kernel
theorem dL_law_463 : decode cL_law 463 = .ok (.ireturn, 1) := by decide +kernel
theorem dL_law_464 : decode cL_law 464 = .ok (.iload 5, 2) := by decide +kernel
theorem dL_law_466 : decode cL_law 466 = .ok (.ifCond .ne 15, 3) := by decide +kernel
theorem dL_law_469 : decode cL_law 469 = .ok (.aload_n 3, 1) := by decide +kernel
theorem dL_law_470 : decode cL_law 470 = .ok (.iconst 0, 1) := by decide +kernel
theorem dL_law_471 : decode cL_law 471 = .ok (.laload, 1) := by decide +kernel
theorem dL_law_472 : decode cL_law 472 = .ok (.iload 6, 2) := by decide +kernel
theorem dL_law_474 : decode cL_law 474 = .ok (.i2l, 1) := by decide +kernel
theorem dL_law_475 : decode cL_law 475 = .ok (.lcmp, 1) := by decide +kernel
theorem dL_law_476 : decode cL_law 476 = .ok (.ifCond .eq 5, 3) := by decide +kernel
theorem dL_law_479 : decode cL_law 479 = .ok (.iconst 0, 1) := by decide +kernel
theorem dL_law_480 : decode cL_law 480 = .ok (.ireturn, 1) := by decide +kernel
theorem dL_law_481 : decode cL_law 481 = .ok (.goto 1368, 3) := by decide +kernel
theorem dL_law_484 : decode cL_law 484 = .ok (.aload_n 1, 1) := by decide +kernel
theorem dL_law_485 : decode cL_law 485 = .ok (.aload_n 0, 1) := by decide +kernel
theorem dL_law_486 : decode cL_law 486 = .ok (.iload 4, 2) := by decide +kernel
theorem dL_law_488 : decode cL_law 488 = .ok (.iconst 1, 1) := by decide +kernel
theorem dL_law_489 : decode cL_law 489 = .ok (.iadd, 1) := by decide +kernel
theorem dL_law_490 : decode cL_law 490 = .ok (.iaload, 1) := by decide +kernel
theorem dL_law_491 : decode cL_law 491 = .ok (.aload_n 3, 1) := by decide +kernel
theorem dL_law_492 : decode cL_law 492 = .ok (.invokestatic 119, 3) := by decide +kernel
theorem dL_law_495 : decode cL_law 495 = .ok (.istore 5, 2) := by decide +kernel
theorem dL_law_497 : decode cL_law 497 = .ok (.aload_n 2, 1) := by decide +kernel
theorem dL_law_498 : decode cL_law 498 = .ok (.aload_n 0, 1) := by decide +kernel
theorem dL_law_499 : decode cL_law 499 = .ok (.iload 4, 2) := by decide +kernel
theorem dL_law_501 : decode cL_law 501 = .ok (.iconst 1, 1) := by decide +kernel
theorem dL_law_502 : decode cL_law 502 = .ok (.iadd, 1) := by decide +kernel
theorem dL_law_503 : decode cL_law 503 = .ok (.iaload, 1) := by decide +kernel
theorem dL_law_504 : decode cL_law 504 = .ok (.invokevirtual 121, 3) := by decide +kernel
theorem dL_law_507 : decode cL_law 507 = .ok (.istore 6, 2) := by decide +kernel
theorem dL_law_509 : decode cL_law 509 = .ok (.aload_n 2, 1) := by decide +kernel
theorem dL_law_510 : decode cL_law 510 = .ok (.invokevirtual 103, 3) := by decide +kernel
theorem dL_law_513 : decode cL_law 513 = .ok (.iload 5, 2) := by decide +kernel
theorem dL_law_515 : decode cL_law 515 = .ok (.if_icmp .eq 5, 3) := by decide +kernel
theorem dL_law_518 : decode cL_law 518 = .ok (.iconst 0, 1) := by decide +kernel
theorem dL_law_519 : decode cL_law 519 = .ok (.ireturn, 1) := by decide +kernel
theorem dL_law_520 : decode cL_law 520 = .ok (.iload 5, 2) := by decide +kernel
theorem dL_law_522 : decode cL_law 522 = .ok (.ifCond .ne 15, 3) := by decide +kernel
theorem dL_law_525 : decode cL_law 525 = .ok (.aload_n 3, 1) := by decide +kernel
theorem dL_law_526 : decode cL_law 526 = .ok (.iconst 0, 1) := by decide +kernel
theorem dL_law_527 : decode cL_law 527 = .ok (.laload, 1) := by decide +kernel
theorem dL_law_528 : decode cL_law 528 = .ok (.iload 6, 2) := by decide +kernel
theorem dL_law_530 : decode cL_law 530 = .ok (.i2l, 1) := by decide +kernel
theorem dL_law_531 : decode cL_law 531 = .ok (.lcmp, 1) := by decide +kernel
theorem dL_law_532 : decode cL_law 532 = .ok (.ifCond .eq 5, 3) := by decide +kernel
theorem dL_law_535 : decode cL_law 535 = .ok (.iconst 0, 1) := by decide +kernel
theorem dL_law_536 : decode cL_law 536 = .ok (.ireturn, 1) := by decide +kernel
theorem dL_law_537 : decode cL_law 537 = .ok (.goto 1312, 3) := by decide +kernel
theorem dL_law_540 : decode cL_law 540 = .ok (.aload_n 1, 1) := by decide +kernel
theorem dL_law_541 : decode cL_law 541 = .ok (.invokevirtual 122, 3) := by decide +kernel
theorem dL_law_544 : decode cL_law 544 = .ok (.aload_n 2, 1) := by decide +kernel
theorem dL_law_545 : decode cL_law 545 = .ok (.invokevirtual 125, 3) := by decide +kernel
theorem dL_law_548 : decode cL_law 548 = .ok (.if_icmp .eq 1301, 3) := by decide +kernel
theorem dL_law_551 : decode cL_law 551 = .ok (.iconst 0, 1) := by decide +kernel
theorem dL_law_552 : decode cL_law 552 = .ok (.ireturn, 1) := by decide +kernel
theorem dL_law_553 : decode cL_law 553 = .ok (.aload_n 1, 1) := by decide +kernel
theorem dL_law_554 : decode cL_law 554 = .ok (.invokevirtual 126, 3) := by decide +kernel
theorem dL_law_557 : decode cL_law 557 = .ok (.aload_n 2, 1) := by decide +kernel
theorem dL_law_558 : decode cL_law 558 = .ok (.invokevirtual 129, 3) := by decide +kernel
theorem dL_law_561 : decode cL_law 561 = .ok (.if_icmp .eq 1288, 3) := by decide +kernel
theorem dL_law_564 : decode cL_law 564 = .ok (.iconst 0, 1) := by decide +kernel
theorem dL_law_565 : decode cL_law 565 = .ok (.ireturn, 1) := by decide +kernel
theorem dL_law_566 : decode cL_law 566 = .ok (.aload_n 1, 1) := by decide +kernel
theorem dL_law_567 : decode cL_law 567 = .ok (.invokevirtual 130, 3) := by decide +kernel
theorem dL_law_570 : decode cL_law 570 = .ok (.aload_n 2, 1) := by decide +kernel
theorem dL_law_571 : decode cL_law 571 = .ok (.invokevirtual 133, 3) := by decide +kernel
theorem dL_law_574 : decode cL_law 574 = .ok (.if_icmp .eq 1275, 3) := by decide +kernel
theorem dL_law_577 : decode cL_law 577 = .ok (.iconst 0, 1) := by decide +kernel
theorem dL_law_578 : decode cL_law 578 = .ok (.ireturn, 1) := by decide +kernel
theorem dL_law_579 : decode cL_law 579 = .ok (.aload_n 1, 1) := by decide +kernel
theorem dL_law_580 : decode cL_law 580 = .ok (.invokevirtual 134, 3) := by decide +kernel
theorem dL_law_583 : decode cL_law 583 = .ok (.aload_n 2, 1) := by decide +kernel
theorem dL_law_584 : decode cL_law 584 = .ok (.invokevirtual 137, 3) := by decide +kernel
theorem dL_law_587 : decode cL_law 587 = .ok (.if_icmp .eq 1262, 3) := by decide +kernel
theorem dL_law_590 : decode cL_law 590 = .ok (.iconst 0, 1) := by decide +kernel
theorem dL_law_591 : decode cL_law 591 = .ok (.ireturn, 1) := by decide +kernel
theorem dL_law_592 : decode cL_law 592 = .ok (.aload_n 1, 1) := by decide +kernel
theorem dL_law_593 : decode cL_law 593 = .ok (.invokevirtual 138, 3) := by decide +kernel
theorem dL_law_596 : decode cL_law 596 = .ok (.aload_n 2, 1) := by decide +kernel
theorem dL_law_597 : decode cL_law 597 = .ok (.invokevirtual 141, 3) := by decide +kernel
theorem dL_law_600 : decode cL_law 600 = .ok (.if_icmp .eq 1249, 3) := by decide +kernel
theorem dL_law_603 : decode cL_law 603 = .ok (.iconst 0, 1) := by decide +kernel
theorem dL_law_604 : decode cL_law 604 = .ok (.ireturn, 1) := by decide +kernel
theorem dL_law_605 : decode cL_law 605 = .ok (.aload_n 1, 1) := by decide +kernel
theorem dL_law_606 : decode cL_law 606 = .ok (.aload_n 0, 1) := by decide +kernel
theorem dL_law_607 : decode cL_law 607 = .ok (.iload 4, 2) := by decide +kernel
theorem dL_law_609 : decode cL_law 609 = .ok (.iconst 1, 1) := by decide +kernel
theorem dL_law_610 : decode cL_law 610 = .ok (.iadd, 1) := by decide +kernel
theorem dL_law_611 : decode cL_law 611 = .ok (.iaload, 1) := by decide +kernel
theorem dL_law_612 : decode cL_law 612 = .ok (.aload_n 3, 1) := by decide +kernel
theorem dL_law_613 : decode cL_law 613 = .ok (.invokestatic 142, 3) := by decide +kernel
theorem dL_law_616 : decode cL_law 616 = .ok (.istore 5, 2) := by decide +kernel
theorem dL_law_618 : decode cL_law 618 = .ok (.aload_n 2, 1) := by decide +kernel
theorem dL_law_619 : decode cL_law 619 = .ok (.aload_n 0, 1) := by decide +kernel
theorem dL_law_620 : decode cL_law 620 = .ok (.iload 4, 2) := by decide +kernel
theorem dL_law_622 : decode cL_law 622 = .ok (.iconst 1, 1) := by decide +kernel
theorem dL_law_623 : decode cL_law 623 = .ok (.iadd, 1) := by decide +kernel
theorem dL_law_624 : decode cL_law 624 = .ok (.iaload, 1) := by decide +kernel
theorem dL_law_625 : decode cL_law 625 = .ok (.invokevirtual 144, 3) := by decide +kernel
theorem dL_law_628 : decode cL_law 628 = .ok (.istore 6, 2) := by decide +kernel
theorem dL_law_630 : decode cL_law 630 = .ok (.aload_n 2, 1) := by decide +kernel
theorem dL_law_631 : decode cL_law 631 = .ok (.invokevirtual 103, 3) := by decide +kernel
theorem dL_law_634 : decode cL_law 634 = .ok (.iload 5, 2) := by decide +kernel
theorem dL_law_636 : decode cL_law 636 = .ok (.if_icmp .eq 5, 3) := by decide +kernel
theorem dL_law_639 : decode cL_law 639 = .ok (.iconst 0, 1) := by decide +kernel
theorem dL_law_640 : decode cL_law 640 = .ok (.ireturn, 1) := by decide +kernel
theorem dL_law_641 : decode cL_law 641 = .ok (.iload 5, 2) := by decide +kernel
theorem dL_law_643 : decode cL_law 643 = .ok (.ifCond .ne 15, 3) := by decide +kernel
theorem dL_law_646 : decode cL_law 646 = .ok (.aload_n 3, 1) := by decide +kernel
theorem dL_law_647 : decode cL_law 647 = .ok (.iconst 0, 1) := by decide +kernel
theorem dL_law_648 : decode cL_law 648 = .ok (.laload, 1) := by decide +kernel
theorem dL_law_649 : decode cL_law 649 = .ok (.iload 6, 2) := by decide +kernel
theorem dL_law_651 : decode cL_law 651 = .ok (.i2l, 1) := by decide +kernel
theorem dL_law_652 : decode cL_law 652 = .ok (.lcmp, 1) := by decide +kernel
theorem dL_law_653 : decode cL_law 653 = .ok (.ifCond .eq 5, 3) := by decide +kernel
theorem dL_law_656 : decode cL_law 656 = .ok (.iconst 0, 1) := by decide +kernel
theorem dL_law_657 : decode cL_law 657 = .ok (.ireturn, 1) := by decide +kernel
theorem dL_law_658 : decode cL_law 658 = .ok (.goto 1191, 3) := by decide +kernel
theorem dL_law_661 : decode cL_law 661 = .ok (.aload_n 1, 1) := by decide +kernel
theorem dL_law_662 : decode cL_law 662 = .ok (.aload_n 0, 1) := by decide +kernel
theorem dL_law_663 : decode cL_law 663 = .ok (.iload 4, 2) := by decide +kernel
theorem dL_law_665 : decode cL_law 665 = .ok (.iconst 1, 1) := by decide +kernel
theorem dL_law_666 : decode cL_law 666 = .ok (.iadd, 1) := by decide +kernel
theorem dL_law_667 : decode cL_law 667 = .ok (.iaload, 1) := by decide +kernel
theorem dL_law_668 : decode cL_law 668 = .ok (.aload_n 3, 1) := by decide +kernel
theorem dL_law_669 : decode cL_law 669 = .ok (.invokestatic 145, 3) := by decide +kernel
theorem dL_law_672 : decode cL_law 672 = .ok (.istore 5, 2) := by decide +kernel
theorem dL_law_674 : decode cL_law 674 = .ok (.aload_n 2, 1) := by decide +kernel
theorem dL_law_675 : decode cL_law 675 = .ok (.aload_n 0, 1) := by decide +kernel
theorem dL_law_676 : decode cL_law 676 = .ok (.iload 4, 2) := by decide +kernel
theorem dL_law_678 : decode cL_law 678 = .ok (.iconst 1, 1) := by decide +kernel
theorem dL_law_679 : decode cL_law 679 = .ok (.iadd, 1) := by decide +kernel
theorem dL_law_680 : decode cL_law 680 = .ok (.iaload, 1) := by decide +kernel
theorem dL_law_681 : decode cL_law 681 = .ok (.invokevirtual 147, 3) := by decide +kernel
theorem dL_law_684 : decode cL_law 684 = .ok (.istore 6, 2) := by decide +kernel
theorem dL_law_686 : decode cL_law 686 = .ok (.aload_n 2, 1) := by decide +kernel
theorem dL_law_687 : decode cL_law 687 = .ok (.invokevirtual 103, 3) := by decide +kernel
theorem dL_law_690 : decode cL_law 690 = .ok (.iload 5, 2) := by decide +kernel
theorem dL_law_692 : decode cL_law 692 = .ok (.if_icmp .eq 5, 3) := by decide +kernel
theorem dL_law_695 : decode cL_law 695 = .ok (.iconst 0, 1) := by decide +kernel
theorem dL_law_696 : decode cL_law 696 = .ok (.ireturn, 1) := by decide +kernel
theorem dL_law_697 : decode cL_law 697 = .ok (.iload 5, 2) := by decide +kernel
theorem dL_law_699 : decode cL_law 699 = .ok (.ifCond .ne 15, 3) := by decide +kernel
theorem dL_law_702 : decode cL_law 702 = .ok (.aload_n 3, 1) := by decide +kernel
theorem dL_law_703 : decode cL_law 703 = .ok (.iconst 0, 1) := by decide +kernel
theorem dL_law_704 : decode cL_law 704 = .ok (.laload, 1) := by decide +kernel
theorem dL_law_705 : decode cL_law 705 = .ok (.iload 6, 2) := by decide +kernel
theorem dL_law_707 : decode cL_law 707 = .ok (.i2l, 1) := by decide +kernel
theorem dL_law_708 : decode cL_law 708 = .ok (.lcmp, 1) := by decide +kernel
theorem dL_law_709 : decode cL_law 709 = .ok (.ifCond .eq 5, 3) := by decide +kernel
theorem dL_law_712 : decode cL_law 712 = .ok (.iconst 0, 1) := by decide +kernel
theorem dL_law_713 : decode cL_law 713 = .ok (.ireturn, 1) := by decide +kernel
theorem dL_law_714 : decode cL_law 714 = .ok (.goto 1135, 3) := by decide +kernel
theorem dL_law_717 : decode cL_law 717 = .ok (.aload_n 1, 1) := by decide +kernel
theorem dL_law_718 : decode cL_law 718 = .ok (.aload_n 0, 1) := by decide +kernel
theorem dL_law_719 : decode cL_law 719 = .ok (.iload 4, 2) := by decide +kernel
theorem dL_law_721 : decode cL_law 721 = .ok (.iconst 1, 1) := by decide +kernel
theorem dL_law_722 : decode cL_law 722 = .ok (.iadd, 1) := by decide +kernel
theorem dL_law_723 : decode cL_law 723 = .ok (.iaload, 1) := by decide +kernel
theorem dL_law_724 : decode cL_law 724 = .ok (.aload_n 3, 1) := by decide +kernel
theorem dL_law_725 : decode cL_law 725 = .ok (.invokestatic 148, 3) := by decide +kernel
theorem dL_law_728 : decode cL_law 728 = .ok (.istore 5, 2) := by decide +kernel
theorem dL_law_730 : decode cL_law 730 = .ok (.aload_n 2, 1) := by decide +kernel
theorem dL_law_731 : decode cL_law 731 = .ok (.aload_n 0, 1) := by decide +kernel
theorem dL_law_732 : decode cL_law 732 = .ok (.iload 4, 2) := by decide +kernel
theorem dL_law_734 : decode cL_law 734 = .ok (.iconst 1, 1) := by decide +kernel
theorem dL_law_735 : decode cL_law 735 = .ok (.iadd, 1) := by decide +kernel
theorem dL_law_736 : decode cL_law 736 = .ok (.iaload, 1) := by decide +kernel
theorem dL_law_737 : decode cL_law 737 = .ok (.invokevirtual 150, 3) := by decide +kernel
theorem dL_law_740 : decode cL_law 740 = .ok (.istore 6, 2) := by decide +kernel
theorem dL_law_742 : decode cL_law 742 = .ok (.aload_n 2, 1) := by decide +kernel
theorem dL_law_743 : decode cL_law 743 = .ok (.invokevirtual 103, 3) := by decide +kernel
theorem dL_law_746 : decode cL_law 746 = .ok (.iload 5, 2) := by decide +kernel
theorem dL_law_748 : decode cL_law 748 = .ok (.if_icmp .eq 5, 3) := by decide +kernel
theorem dL_law_751 : decode cL_law 751 = .ok (.iconst 0, 1) := by decide +kernel
theorem dL_law_752 : decode cL_law 752 = .ok (.ireturn, 1) := by decide +kernel
theorem dL_law_753 : decode cL_law 753 = .ok (.iload 5, 2) := by decide +kernel
theorem dL_law_755 : decode cL_law 755 = .ok (.ifCond .ne 15, 3) := by decide +kernel
theorem dL_law_758 : decode cL_law 758 = .ok (.aload_n 3, 1) := by decide +kernel
theorem dL_law_759 : decode cL_law 759 = .ok (.iconst 0, 1) := by decide +kernel
theorem dL_law_760 : decode cL_law 760 = .ok (.laload, 1) := by decide +kernel
theorem dL_law_761 : decode cL_law 761 = .ok (.iload 6, 2) := by decide +kernel
theorem dL_law_763 : decode cL_law 763 = .ok (.i2l, 1) := by decide +kernel
theorem dL_law_764 : decode cL_law 764 = .ok (.lcmp, 1) := by decide +kernel
theorem dL_law_765 : decode cL_law 765 = .ok (.ifCond .eq 5, 3) := by decide +kernel
theorem dL_law_768 : decode cL_law 768 = .ok (.iconst 0, 1) := by decide +kernel
theorem dL_law_769 : decode cL_law 769 = .ok (.ireturn, 1) := by decide +kernel
theorem dL_law_770 : decode cL_law 770 = .ok (.goto 1079, 3) := by decide +kernel
theorem dL_law_773 : decode cL_law 773 = .ok (.aload_n 1, 1) := by decide +kernel
theorem dL_law_774 : decode cL_law 774 = .ok (.aload_n 0, 1) := by decide +kernel
theorem dL_law_775 : decode cL_law 775 = .ok (.iload 4, 2) := by decide +kernel
theorem dL_law_777 : decode cL_law 777 = .ok (.iconst 1, 1) := by decide +kernel
theorem dL_law_778 : decode cL_law 778 = .ok (.iadd, 1) := by decide +kernel
theorem dL_law_779 : decode cL_law 779 = .ok (.iaload, 1) := by decide +kernel
theorem dL_law_780 : decode cL_law 780 = .ok (.aload_n 3, 1) := by decide +kernel
theorem dL_law_781 : decode cL_law 781 = .ok (.invokestatic 151, 3) := by decide +kernel
theorem dL_law_784 : decode cL_law 784 = .ok (.istore 5, 2) := by decide +kernel
theorem dL_law_786 : decode cL_law 786 = .ok (.aload_n 2, 1) := by decide +kernel
theorem dL_law_787 : decode cL_law 787 = .ok (.aload_n 0, 1) := by decide +kernel
theorem dL_law_788 : decode cL_law 788 = .ok (.iload 4, 2) := by decide +kernel
theorem dL_law_790 : decode cL_law 790 = .ok (.iconst 1, 1) := by decide +kernel
theorem dL_law_791 : decode cL_law 791 = .ok (.iadd, 1) := by decide +kernel
theorem dL_law_792 : decode cL_law 792 = .ok (.iaload, 1) := by decide +kernel
theorem dL_law_793 : decode cL_law 793 = .ok (.invokevirtual 153, 3) := by decide +kernel
theorem dL_law_796 : decode cL_law 796 = .ok (.istore 6, 2) := by decide +kernel
theorem dL_law_798 : decode cL_law 798 = .ok (.aload_n 2, 1) := by decide +kernel
theorem dL_law_799 : decode cL_law 799 = .ok (.invokevirtual 103, 3) := by decide +kernel
theorem dL_law_802 : decode cL_law 802 = .ok (.iload 5, 2) := by decide +kernel
theorem dL_law_804 : decode cL_law 804 = .ok (.if_icmp .eq 5, 3) := by decide +kernel
theorem dL_law_807 : decode cL_law 807 = .ok (.iconst 0, 1) := by decide +kernel
theorem dL_law_808 : decode cL_law 808 = .ok (.ireturn, 1) := by decide +kernel
theorem dL_law_809 : decode cL_law 809 = .ok (.iload 5, 2) := by decide +kernel
theorem dL_law_811 : decode cL_law 811 = .ok (.ifCond .ne 15, 3) := by decide +kernel
theorem dL_law_814 : decode cL_law 814 = .ok (.aload_n 3, 1) := by decide +kernel
theorem dL_law_815 : decode cL_law 815 = .ok (.iconst 0, 1) := by decide +kernel
theorem dL_law_816 : decode cL_law 816 = .ok (.laload, 1) := by decide +kernel
theorem dL_law_817 : decode cL_law 817 = .ok (.iload 6, 2) := by decide +kernel
theorem dL_law_819 : decode cL_law 819 = .ok (.i2l, 1) := by decide +kernel
theorem dL_law_820 : decode cL_law 820 = .ok (.lcmp, 1) := by decide +kernel
theorem dL_law_821 : decode cL_law 821 = .ok (.ifCond .eq 5, 3) := by decide +kernel
theorem dL_law_824 : decode cL_law 824 = .ok (.iconst 0, 1) := by decide +kernel
theorem dL_law_825 : decode cL_law 825 = .ok (.ireturn, 1) := by decide +kernel
theorem dL_law_826 : decode cL_law 826 = .ok (.goto 1023, 3) := by decide +kernel
theorem dL_law_829 : decode cL_law 829 = .ok (.aload_n 1, 1) := by decide +kernel
theorem dL_law_830 : decode cL_law 830 = .ok (.aload_n 0, 1) := by decide +kernel
theorem dL_law_831 : decode cL_law 831 = .ok (.iload 4, 2) := by decide +kernel
theorem dL_law_833 : decode cL_law 833 = .ok (.iconst 1, 1) := by decide +kernel
theorem dL_law_834 : decode cL_law 834 = .ok (.iadd, 1) := by decide +kernel
theorem dL_law_835 : decode cL_law 835 = .ok (.iaload, 1) := by decide +kernel
theorem dL_law_836 : decode cL_law 836 = .ok (.aload_n 3, 1) := by decide +kernel
theorem dL_law_837 : decode cL_law 837 = .ok (.invokestatic 154, 3) := by decide +kernel
theorem dL_law_840 : decode cL_law 840 = .ok (.istore 5, 2) := by decide +kernel
theorem dL_law_842 : decode cL_law 842 = .ok (.aload_n 2, 1) := by decide +kernel
theorem dL_law_843 : decode cL_law 843 = .ok (.aload_n 0, 1) := by decide +kernel
theorem dL_law_844 : decode cL_law 844 = .ok (.iload 4, 2) := by decide +kernel
theorem dL_law_846 : decode cL_law 846 = .ok (.iconst 1, 1) := by decide +kernel
theorem dL_law_847 : decode cL_law 847 = .ok (.iadd, 1) := by decide +kernel
theorem dL_law_848 : decode cL_law 848 = .ok (.iaload, 1) := by decide +kernel
theorem dL_law_849 : decode cL_law 849 = .ok (.invokevirtual 156, 3) := by decide +kernel
theorem dL_law_852 : decode cL_law 852 = .ok (.istore 6, 2) := by decide +kernel
theorem dL_law_854 : decode cL_law 854 = .ok (.aload_n 2, 1) := by decide +kernel
theorem dL_law_855 : decode cL_law 855 = .ok (.invokevirtual 103, 3) := by decide +kernel
theorem dL_law_858 : decode cL_law 858 = .ok (.iload 5, 2) := by decide +kernel
theorem dL_law_860 : decode cL_law 860 = .ok (.if_icmp .eq 5, 3) := by decide +kernel
theorem dL_law_863 : decode cL_law 863 = .ok (.iconst 0, 1) := by decide +kernel
theorem dL_law_864 : decode cL_law 864 = .ok (.ireturn, 1) := by decide +kernel
theorem dL_law_865 : decode cL_law 865 = .ok (.iload 5, 2) := by decide +kernel
theorem dL_law_867 : decode cL_law 867 = .ok (.ifCond .ne 15, 3) := by decide +kernel
theorem dL_law_870 : decode cL_law 870 = .ok (.aload_n 3, 1) := by decide +kernel
theorem dL_law_871 : decode cL_law 871 = .ok (.iconst 0, 1) := by decide +kernel
theorem dL_law_872 : decode cL_law 872 = .ok (.laload, 1) := by decide +kernel
theorem dL_law_873 : decode cL_law 873 = .ok (.iload 6, 2) := by decide +kernel
theorem dL_law_875 : decode cL_law 875 = .ok (.i2l, 1) := by decide +kernel
theorem dL_law_876 : decode cL_law 876 = .ok (.lcmp, 1) := by decide +kernel
theorem dL_law_877 : decode cL_law 877 = .ok (.ifCond .eq 5, 3) := by decide +kernel
theorem dL_law_880 : decode cL_law 880 = .ok (.iconst 0, 1) := by decide +kernel
theorem dL_law_881 : decode cL_law 881 = .ok (.ireturn, 1) := by decide +kernel
theorem dL_law_882 : decode cL_law 882 = .ok (.goto 967, 3) := by decide +kernel
theorem dL_law_885 : decode cL_law 885 = .ok (.aload_n 1, 1) := by decide +kernel
theorem dL_law_886 : decode cL_law 886 = .ok (.aload_n 0, 1) := by decide +kernel
theorem dL_law_887 : decode cL_law 887 = .ok (.iload 4, 2) := by decide +kernel
theorem dL_law_889 : decode cL_law 889 = .ok (.iconst 1, 1) := by decide +kernel
theorem dL_law_890 : decode cL_law 890 = .ok (.iadd, 1) := by decide +kernel
theorem dL_law_891 : decode cL_law 891 = .ok (.iaload, 1) := by decide +kernel
theorem dL_law_892 : decode cL_law 892 = .ok (.aload_n 3, 1) := by decide +kernel
theorem dL_law_893 : decode cL_law 893 = .ok (.invokestatic 157, 3) := by decide +kernel
theorem dL_law_896 : decode cL_law 896 = .ok (.istore 5, 2) := by decide +kernel
theorem dL_law_898 : decode cL_law 898 = .ok (.aload_n 2, 1) := by decide +kernel
theorem dL_law_899 : decode cL_law 899 = .ok (.aload_n 0, 1) := by decide +kernel
theorem dL_law_900 : decode cL_law 900 = .ok (.iload 4, 2) := by decide +kernel
theorem dL_law_902 : decode cL_law 902 = .ok (.iconst 1, 1) := by decide +kernel
theorem dL_law_903 : decode cL_law 903 = .ok (.iadd, 1) := by decide +kernel
theorem dL_law_904 : decode cL_law 904 = .ok (.iaload, 1) := by decide +kernel
theorem dL_law_905 : decode cL_law 905 = .ok (.invokevirtual 159, 3) := by decide +kernel
theorem dL_law_908 : decode cL_law 908 = .ok (.istore 6, 2) := by decide +kernel
theorem dL_law_910 : decode cL_law 910 = .ok (.aload_n 2, 1) := by decide +kernel
theorem dL_law_911 : decode cL_law 911 = .ok (.invokevirtual 103, 3) := by decide +kernel
theorem dL_law_914 : decode cL_law 914 = .ok (.iload 5, 2) := by decide +kernel
theorem dL_law_916 : decode cL_law 916 = .ok (.if_icmp .eq 5, 3) := by decide +kernel
theorem dL_law_919 : decode cL_law 919 = .ok (.iconst 0, 1) := by decide +kernel
theorem dL_law_920 : decode cL_law 920 = .ok (.ireturn, 1) := by decide +kernel
theorem dL_law_921 : decode cL_law 921 = .ok (.iload 5, 2) := by decide +kernel
theorem dL_law_923 : decode cL_law 923 = .ok (.ifCond .ne 15, 3) := by decide +kernel
theorem dL_law_926 : decode cL_law 926 = .ok (.aload_n 3, 1) := by decide +kernel
theorem dL_law_927 : decode cL_law 927 = .ok (.iconst 0, 1) := by decide +kernel
theorem dL_law_928 : decode cL_law 928 = .ok (.laload, 1) := by decide +kernel
theorem dL_law_929 : decode cL_law 929 = .ok (.iload 6, 2) := by decide +kernel
theorem dL_law_931 : decode cL_law 931 = .ok (.i2l, 1) := by decide +kernel
theorem dL_law_932 : decode cL_law 932 = .ok (.lcmp, 1) := by decide +kernel
theorem dL_law_933 : decode cL_law 933 = .ok (.ifCond .eq 5, 3) := by decide +kernel
theorem dL_law_936 : decode cL_law 936 = .ok (.iconst 0, 1) := by decide +kernel
theorem dL_law_937 : decode cL_law 937 = .ok (.ireturn, 1) := by decide +kernel
theorem dL_law_938 : decode cL_law 938 = .ok (.goto 911, 3) := by decide +kernel
theorem dL_law_941 : decode cL_law 941 = .ok (.aload_n 1, 1) := by decide +kernel
theorem dL_law_942 : decode cL_law 942 = .ok (.aload_n 0, 1) := by decide +kernel
theorem dL_law_943 : decode cL_law 943 = .ok (.iload 4, 2) := by decide +kernel
theorem dL_law_945 : decode cL_law 945 = .ok (.iconst 1, 1) := by decide +kernel
theorem dL_law_946 : decode cL_law 946 = .ok (.iadd, 1) := by decide +kernel
theorem dL_law_947 : decode cL_law 947 = .ok (.iaload, 1) := by decide +kernel
theorem dL_law_948 : decode cL_law 948 = .ok (.aload_n 3, 1) := by decide +kernel
theorem dL_law_949 : decode cL_law 949 = .ok (.invokestatic 160, 3) := by decide +kernel
theorem dL_law_952 : decode cL_law 952 = .ok (.istore 5, 2) := by decide +kernel
theorem dL_law_954 : decode cL_law 954 = .ok (.aload_n 2, 1) := by decide +kernel
theorem dL_law_955 : decode cL_law 955 = .ok (.aload_n 0, 1) := by decide +kernel
theorem dL_law_956 : decode cL_law 956 = .ok (.iload 4, 2) := by decide +kernel
theorem dL_law_958 : decode cL_law 958 = .ok (.iconst 1, 1) := by decide +kernel
theorem dL_law_959 : decode cL_law 959 = .ok (.iadd, 1) := by decide +kernel
theorem dL_law_960 : decode cL_law 960 = .ok (.iaload, 1) := by decide +kernel
theorem dL_law_961 : decode cL_law 961 = .ok (.invokevirtual 162, 3) := by decide +kernel
theorem dL_law_964 : decode cL_law 964 = .ok (.istore 6, 2) := by decide +kernel
theorem dL_law_966 : decode cL_law 966 = .ok (.aload_n 2, 1) := by decide +kernel
theorem dL_law_967 : decode cL_law 967 = .ok (.invokevirtual 103, 3) := by decide +kernel
theorem dL_law_970 : decode cL_law 970 = .ok (.iload 5, 2) := by decide +kernel
theorem dL_law_972 : decode cL_law 972 = .ok (.if_icmp .eq 5, 3) := by decide +kernel
theorem dL_law_975 : decode cL_law 975 = .ok (.iconst 0, 1) := by decide +kernel
theorem dL_law_976 : decode cL_law 976 = .ok (.ireturn, 1) := by decide +kernel
theorem dL_law_977 : decode cL_law 977 = .ok (.iload 5, 2) := by decide +kernel
theorem dL_law_979 : decode cL_law 979 = .ok (.ifCond .ne 15, 3) := by decide +kernel
theorem dL_law_982 : decode cL_law 982 = .ok (.aload_n 3, 1) := by decide +kernel
theorem dL_law_983 : decode cL_law 983 = .ok (.iconst 0, 1) := by decide +kernel
theorem dL_law_984 : decode cL_law 984 = .ok (.laload, 1) := by decide +kernel
theorem dL_law_985 : decode cL_law 985 = .ok (.iload 6, 2) := by decide +kernel
theorem dL_law_987 : decode cL_law 987 = .ok (.i2l, 1) := by decide +kernel
theorem dL_law_988 : decode cL_law 988 = .ok (.lcmp, 1) := by decide +kernel
theorem dL_law_989 : decode cL_law 989 = .ok (.ifCond .eq 5, 3) := by decide +kernel
theorem dL_law_992 : decode cL_law 992 = .ok (.iconst 0, 1) := by decide +kernel
theorem dL_law_993 : decode cL_law 993 = .ok (.ireturn, 1) := by decide +kernel
theorem dL_law_994 : decode cL_law 994 = .ok (.goto 855, 3) := by decide +kernel
theorem dL_law_997 : decode cL_law 997 = .ok (.aload_n 1, 1) := by decide +kernel
theorem dL_law_998 : decode cL_law 998 = .ok (.aload_n 0, 1) := by decide +kernel
theorem dL_law_999 : decode cL_law 999 = .ok (.iload 4, 2) := by decide +kernel
theorem dL_law_1001 : decode cL_law 1001 = .ok (.iconst 1, 1) := by decide +kernel
theorem dL_law_1002 : decode cL_law 1002 = .ok (.iadd, 1) := by decide +kernel
theorem dL_law_1003 : decode cL_law 1003 = .ok (.iaload, 1) := by decide +kernel
theorem dL_law_1004 : decode cL_law 1004 = .ok (.aload_n 3, 1) := by decide +kernel
theorem dL_law_1005 : decode cL_law 1005 = .ok (.invokestatic 163, 3) := by decide +kernel
theorem dL_law_1008 : decode cL_law 1008 = .ok (.istore 5, 2) := by decide +kernel
theorem dL_law_1010 : decode cL_law 1010 = .ok (.aload_n 2, 1) := by decide +kernel
theorem dL_law_1011 : decode cL_law 1011 = .ok (.aload_n 0, 1) := by decide +kernel
theorem dL_law_1012 : decode cL_law 1012 = .ok (.iload 4, 2) := by decide +kernel
theorem dL_law_1014 : decode cL_law 1014 = .ok (.iconst 1, 1) := by decide +kernel
theorem dL_law_1015 : decode cL_law 1015 = .ok (.iadd, 1) := by decide +kernel
theorem dL_law_1016 : decode cL_law 1016 = .ok (.iaload, 1) := by decide +kernel
theorem dL_law_1017 : decode cL_law 1017 = .ok (.invokevirtual 165, 3) := by decide +kernel
theorem dL_law_1020 : decode cL_law 1020 = .ok (.istore 6, 2) := by decide +kernel
theorem dL_law_1022 : decode cL_law 1022 = .ok (.aload_n 2, 1) := by decide +kernel
theorem dL_law_1023 : decode cL_law 1023 = .ok (.invokevirtual 103, 3) := by decide +kernel
theorem dL_law_1026 : decode cL_law 1026 = .ok (.iload 5, 2) := by decide +kernel
theorem dL_law_1028 : decode cL_law 1028 = .ok (.if_icmp .eq 5, 3) := by decide +kernel
theorem dL_law_1031 : decode cL_law 1031 = .ok (.iconst 0, 1) := by decide +kernel
theorem dL_law_1032 : decode cL_law 1032 = .ok (.ireturn, 1) := by decide +kernel
theorem dL_law_1033 : decode cL_law 1033 = .ok (.iload 5, 2) := by decide +kernel
theorem dL_law_1035 : decode cL_law 1035 = .ok (.ifCond .ne 15, 3) := by decide +kernel
theorem dL_law_1038 : decode cL_law 1038 = .ok (.aload_n 3, 1) := by decide +kernel
theorem dL_law_1039 : decode cL_law 1039 = .ok (.iconst 0, 1) := by decide +kernel
theorem dL_law_1040 : decode cL_law 1040 = .ok (.laload, 1) := by decide +kernel
theorem dL_law_1041 : decode cL_law 1041 = .ok (.iload 6, 2) := by decide +kernel
theorem dL_law_1043 : decode cL_law 1043 = .ok (.i2l, 1) := by decide +kernel
theorem dL_law_1044 : decode cL_law 1044 = .ok (.lcmp, 1) := by decide +kernel
theorem dL_law_1045 : decode cL_law 1045 = .ok (.ifCond .eq 5, 3) := by decide +kernel
theorem dL_law_1048 : decode cL_law 1048 = .ok (.iconst 0, 1) := by decide +kernel
theorem dL_law_1049 : decode cL_law 1049 = .ok (.ireturn, 1) := by decide +kernel
theorem dL_law_1050 : decode cL_law 1050 = .ok (.goto 799, 3) := by decide +kernel
theorem dL_law_1053 : decode cL_law 1053 = .ok (.aload_n 1, 1) := by decide +kernel
theorem dL_law_1054 : decode cL_law 1054 = .ok (.aload_n 0, 1) := by decide +kernel
theorem dL_law_1055 : decode cL_law 1055 = .ok (.iload 4, 2) := by decide +kernel
theorem dL_law_1057 : decode cL_law 1057 = .ok (.iconst 1, 1) := by decide +kernel
theorem dL_law_1058 : decode cL_law 1058 = .ok (.iadd, 1) := by decide +kernel
theorem dL_law_1059 : decode cL_law 1059 = .ok (.iaload, 1) := by decide +kernel
theorem dL_law_1060 : decode cL_law 1060 = .ok (.aload_n 3, 1) := by decide +kernel
theorem dL_law_1061 : decode cL_law 1061 = .ok (.invokestatic 166, 3) := by decide +kernel
theorem dL_law_1064 : decode cL_law 1064 = .ok (.istore 5, 2) := by decide +kernel
theorem dL_law_1066 : decode cL_law 1066 = .ok (.aload_n 2, 1) := by decide +kernel
theorem dL_law_1067 : decode cL_law 1067 = .ok (.aload_n 0, 1) := by decide +kernel
theorem dL_law_1068 : decode cL_law 1068 = .ok (.iload 4, 2) := by decide +kernel
theorem dL_law_1070 : decode cL_law 1070 = .ok (.iconst 1, 1) := by decide +kernel
theorem dL_law_1071 : decode cL_law 1071 = .ok (.iadd, 1) := by decide +kernel
theorem dL_law_1072 : decode cL_law 1072 = .ok (.iaload, 1) := by decide +kernel
theorem dL_law_1073 : decode cL_law 1073 = .ok (.invokevirtual 168, 3) := by decide +kernel
theorem dL_law_1076 : decode cL_law 1076 = .ok (.istore 6, 2) := by decide +kernel
theorem dL_law_1078 : decode cL_law 1078 = .ok (.aload_n 2, 1) := by decide +kernel
theorem dL_law_1079 : decode cL_law 1079 = .ok (.invokevirtual 103, 3) := by decide +kernel
theorem dL_law_1082 : decode cL_law 1082 = .ok (.iload 5, 2) := by decide +kernel
theorem dL_law_1084 : decode cL_law 1084 = .ok (.if_icmp .eq 5, 3) := by decide +kernel
theorem dL_law_1087 : decode cL_law 1087 = .ok (.iconst 0, 1) := by decide +kernel
theorem dL_law_1088 : decode cL_law 1088 = .ok (.ireturn, 1) := by decide +kernel
theorem dL_law_1089 : decode cL_law 1089 = .ok (.iload 5, 2) := by decide +kernel
theorem dL_law_1091 : decode cL_law 1091 = .ok (.ifCond .ne 15, 3) := by decide +kernel
theorem dL_law_1094 : decode cL_law 1094 = .ok (.aload_n 3, 1) := by decide +kernel
theorem dL_law_1095 : decode cL_law 1095 = .ok (.iconst 0, 1) := by decide +kernel
theorem dL_law_1096 : decode cL_law 1096 = .ok (.laload, 1) := by decide +kernel
theorem dL_law_1097 : decode cL_law 1097 = .ok (.iload 6, 2) := by decide +kernel
theorem dL_law_1099 : decode cL_law 1099 = .ok (.i2l, 1) := by decide +kernel
theorem dL_law_1100 : decode cL_law 1100 = .ok (.lcmp, 1) := by decide +kernel
theorem dL_law_1101 : decode cL_law 1101 = .ok (.ifCond .eq 5, 3) := by decide +kernel
theorem dL_law_1104 : decode cL_law 1104 = .ok (.iconst 0, 1) := by decide +kernel
theorem dL_law_1105 : decode cL_law 1105 = .ok (.ireturn, 1) := by decide +kernel
theorem dL_law_1106 : decode cL_law 1106 = .ok (.goto 743, 3) := by decide +kernel
theorem dL_law_1109 : decode cL_law 1109 = .ok (.aload_n 1, 1) := by decide +kernel
theorem dL_law_1110 : decode cL_law 1110 = .ok (.invokevirtual 169, 3) := by decide +kernel
theorem dL_law_1113 : decode cL_law 1113 = .ok (.aload_n 2, 1) := by decide +kernel
theorem dL_law_1114 : decode cL_law 1114 = .ok (.invokevirtual 172, 3) := by decide +kernel
theorem dL_law_1117 : decode cL_law 1117 = .ok (.if_icmp .eq 732, 3) := by decide +kernel
theorem dL_law_1120 : decode cL_law 1120 = .ok (.iconst 0, 1) := by decide +kernel
theorem dL_law_1121 : decode cL_law 1121 = .ok (.ireturn, 1) := by decide +kernel
theorem dL_law_1122 : decode cL_law 1122 = .ok (.aload_n 1, 1) := by decide +kernel
theorem dL_law_1123 : decode cL_law 1123 = .ok (.aload_n 0, 1) := by decide +kernel
theorem dL_law_1124 : decode cL_law 1124 = .ok (.iload 4, 2) := by decide +kernel
theorem dL_law_1126 : decode cL_law 1126 = .ok (.iconst 1, 1) := by decide +kernel
theorem dL_law_1127 : decode cL_law 1127 = .ok (.iadd, 1) := by decide +kernel
theorem dL_law_1128 : decode cL_law 1128 = .ok (.iaload, 1) := by decide +kernel
theorem dL_law_1129 : decode cL_law 1129 = .ok (.aload_n 3, 1) := by decide +kernel
theorem dL_law_1130 : decode cL_law 1130 = .ok (.invokestatic 173, 3) := by decide +kernel
theorem dL_law_1133 : decode cL_law 1133 = .ok (.istore 5, 2) := by decide +kernel
theorem dL_law_1135 : decode cL_law 1135 = .ok (.aload_n 2, 1) := by decide +kernel
theorem dL_law_1136 : decode cL_law 1136 = .ok (.aload_n 0, 1) := by decide +kernel
theorem dL_law_1137 : decode cL_law 1137 = .ok (.iload 4, 2) := by decide +kernel
theorem dL_law_1139 : decode cL_law 1139 = .ok (.iconst 1, 1) := by decide +kernel
theorem dL_law_1140 : decode cL_law 1140 = .ok (.iadd, 1) := by decide +kernel
theorem dL_law_1141 : decode cL_law 1141 = .ok (.iaload, 1) := by decide +kernel
theorem dL_law_1142 : decode cL_law 1142 = .ok (.invokevirtual 175, 3) := by decide +kernel
theorem dL_law_1145 : decode cL_law 1145 = .ok (.istore 6, 2) := by decide +kernel
theorem dL_law_1147 : decode cL_law 1147 = .ok (.aload_n 2, 1) := by decide +kernel
theorem dL_law_1148 : decode cL_law 1148 = .ok (.invokevirtual 103, 3) := by decide +kernel
theorem dL_law_1151 : decode cL_law 1151 = .ok (.iload 5, 2) := by decide +kernel
theorem dL_law_1153 : decode cL_law 1153 = .ok (.if_icmp .eq 5, 3) := by decide +kernel
theorem dL_law_1156 : decode cL_law 1156 = .ok (.iconst 0, 1) := by decide +kernel
theorem dL_law_1157 : decode cL_law 1157 = .ok (.ireturn, 1) := by decide +kernel
theorem dL_law_1158 : decode cL_law 1158 = .ok (.iload 5, 2) := by decide +kernel
theorem dL_law_1160 : decode cL_law 1160 = .ok (.ifCond .ne 15, 3) := by decide +kernel
theorem dL_law_1163 : decode cL_law 1163 = .ok (.aload_n 3, 1) := by decide +kernel
theorem dL_law_1164 : decode cL_law 1164 = .ok (.iconst 0, 1) := by decide +kernel
theorem dL_law_1165 : decode cL_law 1165 = .ok (.laload, 1) := by decide +kernel
theorem dL_law_1166 : decode cL_law 1166 = .ok (.iload 6, 2) := by decide +kernel
theorem dL_law_1168 : decode cL_law 1168 = .ok (.i2l, 1) := by decide +kernel
theorem dL_law_1169 : decode cL_law 1169 = .ok (.lcmp, 1) := by decide +kernel
theorem dL_law_1170 : decode cL_law 1170 = .ok (.ifCond .eq 5, 3) := by decide +kernel
theorem dL_law_1173 : decode cL_law 1173 = .ok (.iconst 0, 1) := by decide +kernel
theorem dL_law_1174 : decode cL_law 1174 = .ok (.ireturn, 1) := by decide +kernel
theorem dL_law_1175 : decode cL_law 1175 = .ok (.goto 674, 3) := by decide +kernel
theorem dL_law_1178 : decode cL_law 1178 = .ok (.aload_n 1, 1) := by decide +kernel
theorem dL_law_1179 : decode cL_law 1179 = .ok (.aload_n 0, 1) := by decide +kernel
theorem dL_law_1180 : decode cL_law 1180 = .ok (.iload 4, 2) := by decide +kernel
theorem dL_law_1182 : decode cL_law 1182 = .ok (.iconst 1, 1) := by decide +kernel
theorem dL_law_1183 : decode cL_law 1183 = .ok (.iadd, 1) := by decide +kernel
theorem dL_law_1184 : decode cL_law 1184 = .ok (.iaload, 1) := by decide +kernel
theorem dL_law_1185 : decode cL_law 1185 = .ok (.aload_n 3, 1) := by decide +kernel
theorem dL_law_1186 : decode cL_law 1186 = .ok (.invokestatic 176, 3) := by decide +kernel
theorem dL_law_1189 : decode cL_law 1189 = .ok (.istore 5, 2) := by decide +kernel
theorem dL_law_1191 : decode cL_law 1191 = .ok (.aload_n 2, 1) := by decide +kernel
theorem dL_law_1192 : decode cL_law 1192 = .ok (.aload_n 0, 1) := by decide +kernel
theorem dL_law_1193 : decode cL_law 1193 = .ok (.iload 4, 2) := by decide +kernel
theorem dL_law_1195 : decode cL_law 1195 = .ok (.iconst 1, 1) := by decide +kernel
theorem dL_law_1196 : decode cL_law 1196 = .ok (.iadd, 1) := by decide +kernel
theorem dL_law_1197 : decode cL_law 1197 = .ok (.iaload, 1) := by decide +kernel
theorem dL_law_1198 : decode cL_law 1198 = .ok (.invokevirtual 178, 3) := by decide +kernel
theorem dL_law_1201 : decode cL_law 1201 = .ok (.istore 6, 2) := by decide +kernel
theorem dL_law_1203 : decode cL_law 1203 = .ok (.aload_n 2, 1) := by decide +kernel
theorem dL_law_1204 : decode cL_law 1204 = .ok (.invokevirtual 103, 3) := by decide +kernel
theorem dL_law_1207 : decode cL_law 1207 = .ok (.iload 5, 2) := by decide +kernel
theorem dL_law_1209 : decode cL_law 1209 = .ok (.if_icmp .eq 5, 3) := by decide +kernel
theorem dL_law_1212 : decode cL_law 1212 = .ok (.iconst 0, 1) := by decide +kernel
theorem dL_law_1213 : decode cL_law 1213 = .ok (.ireturn, 1) := by decide +kernel
theorem dL_law_1214 : decode cL_law 1214 = .ok (.iload 5, 2) := by decide +kernel
theorem dL_law_1216 : decode cL_law 1216 = .ok (.ifCond .ne 15, 3) := by decide +kernel
theorem dL_law_1219 : decode cL_law 1219 = .ok (.aload_n 3, 1) := by decide +kernel
theorem dL_law_1220 : decode cL_law 1220 = .ok (.iconst 0, 1) := by decide +kernel
theorem dL_law_1221 : decode cL_law 1221 = .ok (.laload, 1) := by decide +kernel
theorem dL_law_1222 : decode cL_law 1222 = .ok (.iload 6, 2) := by decide +kernel
theorem dL_law_1224 : decode cL_law 1224 = .ok (.i2l, 1) := by decide +kernel
theorem dL_law_1225 : decode cL_law 1225 = .ok (.lcmp, 1) := by decide +kernel
theorem dL_law_1226 : decode cL_law 1226 = .ok (.ifCond .eq 5, 3) := by decide +kernel
theorem dL_law_1229 : decode cL_law 1229 = .ok (.iconst 0, 1) := by decide +kernel
theorem dL_law_1230 : decode cL_law 1230 = .ok (.ireturn, 1) := by decide +kernel
theorem dL_law_1231 : decode cL_law 1231 = .ok (.goto 618, 3) := by decide +kernel
theorem dL_law_1234 : decode cL_law 1234 = .ok (.aload_n 1, 1) := by decide +kernel
theorem dL_law_1235 : decode cL_law 1235 = .ok (.aload_n 0, 1) := by decide +kernel
theorem dL_law_1236 : decode cL_law 1236 = .ok (.iload 4, 2) := by decide +kernel
theorem dL_law_1238 : decode cL_law 1238 = .ok (.iconst 1, 1) := by decide +kernel
theorem dL_law_1239 : decode cL_law 1239 = .ok (.iadd, 1) := by decide +kernel
theorem dL_law_1240 : decode cL_law 1240 = .ok (.iaload, 1) := by decide +kernel
theorem dL_law_1241 : decode cL_law 1241 = .ok (.aload_n 3, 1) := by decide +kernel
theorem dL_law_1242 : decode cL_law 1242 = .ok (.invokestatic 179, 3) := by decide +kernel
theorem dL_law_1245 : decode cL_law 1245 = .ok (.istore 5, 2) := by decide +kernel
theorem dL_law_1247 : decode cL_law 1247 = .ok (.aload_n 2, 1) := by decide +kernel
theorem dL_law_1248 : decode cL_law 1248 = .ok (.aload_n 0, 1) := by decide +kernel
theorem dL_law_1249 : decode cL_law 1249 = .ok (.iload 4, 2) := by decide +kernel
theorem dL_law_1251 : decode cL_law 1251 = .ok (.iconst 1, 1) := by decide +kernel
theorem dL_law_1252 : decode cL_law 1252 = .ok (.iadd, 1) := by decide +kernel
theorem dL_law_1253 : decode cL_law 1253 = .ok (.iaload, 1) := by decide +kernel
theorem dL_law_1254 : decode cL_law 1254 = .ok (.invokevirtual 181, 3) := by decide +kernel
theorem dL_law_1257 : decode cL_law 1257 = .ok (.istore 6, 2) := by decide +kernel
theorem dL_law_1259 : decode cL_law 1259 = .ok (.aload_n 2, 1) := by decide +kernel
theorem dL_law_1260 : decode cL_law 1260 = .ok (.invokevirtual 103, 3) := by decide +kernel
theorem dL_law_1263 : decode cL_law 1263 = .ok (.iload 5, 2) := by decide +kernel
theorem dL_law_1265 : decode cL_law 1265 = .ok (.if_icmp .eq 5, 3) := by decide +kernel
theorem dL_law_1268 : decode cL_law 1268 = .ok (.iconst 0, 1) := by decide +kernel
theorem dL_law_1269 : decode cL_law 1269 = .ok (.ireturn, 1) := by decide +kernel
theorem dL_law_1270 : decode cL_law 1270 = .ok (.iload 5, 2) := by decide +kernel
theorem dL_law_1272 : decode cL_law 1272 = .ok (.ifCond .ne 22, 3) := by decide +kernel
theorem dL_law_1275 : decode cL_law 1275 = .ok (.aload_n 3, 1) := by decide +kernel
theorem dL_law_1276 : decode cL_law 1276 = .ok (.iconst 0, 1) := by decide +kernel
theorem dL_law_1277 : decode cL_law 1277 = .ok (.laload, 1) := by decide +kernel
theorem dL_law_1278 : decode cL_law 1278 = .ok (.iload 6, 2) := by decide +kernel
theorem dL_law_1280 : decode cL_law 1280 = .ok (.ifCond .eq 7, 3) := by decide +kernel
theorem dL_law_1283 : decode cL_law 1283 = .ok (.lconst 1, 1) := by decide +kernel
theorem dL_law_1284 : decode cL_law 1284 = .ok (.goto 4, 3) := by decide +kernel
theorem dL_law_1287 : decode cL_law 1287 = .ok (.lconst 0, 1) := by decide +kernel
theorem dL_law_1288 : decode cL_law 1288 = .ok (.lcmp, 1) := by decide +kernel
theorem dL_law_1289 : decode cL_law 1289 = .ok (.ifCond .eq 5, 3) := by decide +kernel
theorem dL_law_1292 : decode cL_law 1292 = .ok (.iconst 0, 1) := by decide +kernel
theorem dL_law_1293 : decode cL_law 1293 = .ok (.ireturn, 1) := by decide +kernel
theorem dL_law_1294 : decode cL_law 1294 = .ok (.goto 555, 3) := by decide +kernel
theorem dL_law_1297 : decode cL_law 1297 = .ok (.aload_n 1, 1) := by decide +kernel
theorem dL_law_1298 : decode cL_law 1298 = .ok (.aload_n 0, 1) := by decide +kernel
theorem dL_law_1299 : decode cL_law 1299 = .ok (.iload 4, 2) := by decide +kernel
theorem dL_law_1301 : decode cL_law 1301 = .ok (.iconst 1, 1) := by decide +kernel
theorem dL_law_1302 : decode cL_law 1302 = .ok (.iadd, 1) := by decide +kernel
theorem dL_law_1303 : decode cL_law 1303 = .ok (.iaload, 1) := by decide +kernel
theorem dL_law_1304 : decode cL_law 1304 = .ok (.aload_n 3, 1) := by decide +kernel
theorem dL_law_1305 : decode cL_law 1305 = .ok (.invokestatic 182, 3) := by decide +kernel
theorem dL_law_1308 : decode cL_law 1308 = .ok (.istore 5, 2) := by decide +kernel
theorem dL_law_1310 : decode cL_law 1310 = .ok (.aload_n 2, 1) := by decide +kernel
theorem dL_law_1311 : decode cL_law 1311 = .ok (.aload_n 0, 1) := by decide +kernel
theorem dL_law_1312 : decode cL_law 1312 = .ok (.iload 4, 2) := by decide +kernel
theorem dL_law_1314 : decode cL_law 1314 = .ok (.iconst 1, 1) := by decide +kernel
theorem dL_law_1315 : decode cL_law 1315 = .ok (.iadd, 1) := by decide +kernel
theorem dL_law_1316 : decode cL_law 1316 = .ok (.iaload, 1) := by decide +kernel
theorem dL_law_1317 : decode cL_law 1317 = .ok (.invokevirtual 184, 3) := by decide +kernel
theorem dL_law_1320 : decode cL_law 1320 = .ok (.istore 6, 2) := by decide +kernel
theorem dL_law_1322 : decode cL_law 1322 = .ok (.aload_n 2, 1) := by decide +kernel
theorem dL_law_1323 : decode cL_law 1323 = .ok (.invokevirtual 103, 3) := by decide +kernel
theorem dL_law_1326 : decode cL_law 1326 = .ok (.iload 5, 2) := by decide +kernel
theorem dL_law_1328 : decode cL_law 1328 = .ok (.if_icmp .eq 5, 3) := by decide +kernel
theorem dL_law_1331 : decode cL_law 1331 = .ok (.iconst 0, 1) := by decide +kernel
theorem dL_law_1332 : decode cL_law 1332 = .ok (.ireturn, 1) := by decide +kernel
theorem dL_law_1333 : decode cL_law 1333 = .ok (.iload 5, 2) := by decide +kernel
theorem dL_law_1335 : decode cL_law 1335 = .ok (.ifCond .ne 15, 3) := by decide +kernel
theorem dL_law_1338 : decode cL_law 1338 = .ok (.aload_n 3, 1) := by decide +kernel
theorem dL_law_1339 : decode cL_law 1339 = .ok (.iconst 0, 1) := by decide +kernel
theorem dL_law_1340 : decode cL_law 1340 = .ok (.laload, 1) := by decide +kernel
theorem dL_law_1341 : decode cL_law 1341 = .ok (.iload 6, 2) := by decide +kernel
theorem dL_law_1343 : decode cL_law 1343 = .ok (.i2l, 1) := by decide +kernel
theorem dL_law_1344 : decode cL_law 1344 = .ok (.lcmp, 1) := by decide +kernel
theorem dL_law_1345 : decode cL_law 1345 = .ok (.ifCond .eq 5, 3) := by decide +kernel
theorem dL_law_1348 : decode cL_law 1348 = .ok (.iconst 0, 1) := by decide +kernel
theorem dL_law_1349 : decode cL_law 1349 = .ok (.ireturn, 1) := by decide +kernel
theorem dL_law_1350 : decode cL_law 1350 = .ok (.goto 499, 3) := by decide +kernel
theorem dL_law_1353 : decode cL_law 1353 = .ok (.aload_n 1, 1) := by decide +kernel
theorem dL_law_1354 : decode cL_law 1354 = .ok (.aload_n 0, 1) := by decide +kernel
theorem dL_law_1355 : decode cL_law 1355 = .ok (.iload 4, 2) := by decide +kernel
theorem dL_law_1357 : decode cL_law 1357 = .ok (.iconst 1, 1) := by decide +kernel
theorem dL_law_1358 : decode cL_law 1358 = .ok (.iadd, 1) := by decide +kernel
theorem dL_law_1359 : decode cL_law 1359 = .ok (.iaload, 1) := by decide +kernel
theorem dL_law_1360 : decode cL_law 1360 = .ok (.aload_n 0, 1) := by decide +kernel
theorem dL_law_1361 : decode cL_law 1361 = .ok (.iload 4, 2) := by decide +kernel
theorem dL_law_1363 : decode cL_law 1363 = .ok (.iconst 2, 1) := by decide +kernel
theorem dL_law_1364 : decode cL_law 1364 = .ok (.iadd, 1) := by decide +kernel
theorem dL_law_1365 : decode cL_law 1365 = .ok (.iaload, 1) := by decide +kernel
theorem dL_law_1366 : decode cL_law 1366 = .ok (.ifCond .eq 7, 3) := by decide +kernel
theorem dL_law_1369 : decode cL_law 1369 = .ok (.iconst 1, 1) := by decide +kernel
theorem dL_law_1370 : decode cL_law 1370 = .ok (.goto 4, 3) := by decide +kernel
theorem dL_law_1373 : decode cL_law 1373 = .ok (.iconst 0, 1) := by decide +kernel
theorem dL_law_1374 : decode cL_law 1374 = .ok (.aload_n 3, 1) := by decide +kernel
theorem dL_law_1375 : decode cL_law 1375 = .ok (.invokestatic 185, 3) := by decide +kernel
theorem dL_law_1378 : decode cL_law 1378 = .ok (.istore 5, 2) := by decide +kernel
theorem dL_law_1380 : decode cL_law 1380 = .ok (.aload_n 2, 1) := by decide +kernel
theorem dL_law_1381 : decode cL_law 1381 = .ok (.aload_n 0, 1) := by decide +kernel
theorem dL_law_1382 : decode cL_law 1382 = .ok (.iload 4, 2) := by decide +kernel
theorem dL_law_1384 : decode cL_law 1384 = .ok (.iconst 1, 1) := by decide +kernel
theorem dL_law_1385 : decode cL_law 1385 = .ok (.iadd, 1) := by decide +kernel
theorem dL_law_1386 : decode cL_law 1386 = .ok (.iaload, 1) := by decide +kernel
theorem dL_law_1387 : decode cL_law 1387 = .ok (.aload_n 0, 1) := by decide +kernel
theorem dL_law_1388 : decode cL_law 1388 = .ok (.iload 4, 2) := by decide +kernel
theorem dL_law_1390 : decode cL_law 1390 = .ok (.iconst 2, 1) := by decide +kernel
theorem dL_law_1391 : decode cL_law 1391 = .ok (.iadd, 1) := by decide +kernel
theorem dL_law_1392 : decode cL_law 1392 = .ok (.iaload, 1) := by decide +kernel
theorem dL_law_1393 : decode cL_law 1393 = .ok (.ifCond .eq 7, 3) := by decide +kernel
theorem dL_law_1396 : decode cL_law 1396 = .ok (.iconst 1, 1) := by decide +kernel
theorem dL_law_1397 : decode cL_law 1397 = .ok (.goto 4, 3) := by decide +kernel
theorem dL_law_1400 : decode cL_law 1400 = .ok (.iconst 0, 1) := by decide +kernel
theorem dL_law_1401 : decode cL_law 1401 = .ok (.invokevirtual 188, 3) := by decide +kernel
theorem dL_law_1404 : decode cL_law 1404 = .ok (.istore 6, 2) := by decide +kernel
theorem dL_law_1406 : decode cL_law 1406 = .ok (.aload_n 2, 1) := by decide +kernel
theorem dL_law_1407 : decode cL_law 1407 = .ok (.invokevirtual 103, 3) := by decide +kernel
theorem dL_law_1410 : decode cL_law 1410 = .ok (.iload 5, 2) := by decide +kernel
theorem dL_law_1412 : decode cL_law 1412 = .ok (.if_icmp .eq 5, 3) := by decide +kernel
theorem dL_law_1415 : decode cL_law 1415 = .ok (.iconst 0, 1) := by decide +kernel
theorem dL_law_1416 : decode cL_law 1416 = .ok (.ireturn, 1) := by decide +kernel
theorem dL_law_1417 : decode cL_law 1417 = .ok (.iload 5, 2) := by decide +kernel
theorem dL_law_1419 : decode cL_law 1419 = .ok (.ifCond .ne 15, 3) := by decide +kernel
theorem dL_law_1422 : decode cL_law 1422 = .ok (.aload_n 3, 1) := by decide +kernel
theorem dL_law_1423 : decode cL_law 1423 = .ok (.iconst 0, 1) := by decide +kernel
theorem dL_law_1424 : decode cL_law 1424 = .ok (.laload, 1) := by decide +kernel
theorem dL_law_1425 : decode cL_law 1425 = .ok (.iload 6, 2) := by decide +kernel
theorem dL_law_1427 : decode cL_law 1427 = .ok (.i2l, 1) := by decide +kernel
theorem dL_law_1428 : decode cL_law 1428 = .ok (.lcmp, 1) := by decide +kernel
theorem dL_law_1429 : decode cL_law 1429 = .ok (.ifCond .eq 5, 3) := by decide +kernel
theorem dL_law_1432 : decode cL_law 1432 = .ok (.iconst 0, 1) := by decide +kernel
theorem dL_law_1433 : decode cL_law 1433 = .ok (.ireturn, 1) := by decide +kernel
theorem dL_law_1434 : decode cL_law 1434 = .ok (.goto 415, 3) := by decide +kernel
theorem dL_law_1437 : decode cL_law 1437 = .ok (.aload_n 1, 1) := by decide +kernel
theorem dL_law_1438 : decode cL_law 1438 = .ok (.aload_n 0, 1) := by decide +kernel
theorem dL_law_1439 : decode cL_law 1439 = .ok (.iload 4, 2) := by decide +kernel
theorem dL_law_1441 : decode cL_law 1441 = .ok (.iconst 1, 1) := by decide +kernel
theorem dL_law_1442 : decode cL_law 1442 = .ok (.iadd, 1) := by decide +kernel
theorem dL_law_1443 : decode cL_law 1443 = .ok (.iaload, 1) := by decide +kernel
theorem dL_law_1444 : decode cL_law 1444 = .ok (.aload_n 3, 1) := by decide +kernel
theorem dL_law_1445 : decode cL_law 1445 = .ok (.invokestatic 189, 3) := by decide +kernel
theorem dL_law_1448 : decode cL_law 1448 = .ok (.istore 5, 2) := by decide +kernel
theorem dL_law_1450 : decode cL_law 1450 = .ok (.aload_n 2, 1) := by decide +kernel
theorem dL_law_1451 : decode cL_law 1451 = .ok (.aload_n 0, 1) := by decide +kernel
theorem dL_law_1452 : decode cL_law 1452 = .ok (.iload 4, 2) := by decide +kernel
theorem dL_law_1454 : decode cL_law 1454 = .ok (.iconst 1, 1) := by decide +kernel
theorem dL_law_1455 : decode cL_law 1455 = .ok (.iadd, 1) := by decide +kernel
theorem dL_law_1456 : decode cL_law 1456 = .ok (.iaload, 1) := by decide +kernel
theorem dL_law_1457 : decode cL_law 1457 = .ok (.invokevirtual 191, 3) := by decide +kernel
theorem dL_law_1460 : decode cL_law 1460 = .ok (.istore 6, 2) := by decide +kernel
theorem dL_law_1462 : decode cL_law 1462 = .ok (.aload_n 2, 1) := by decide +kernel
theorem dL_law_1463 : decode cL_law 1463 = .ok (.invokevirtual 103, 3) := by decide +kernel
theorem dL_law_1466 : decode cL_law 1466 = .ok (.iload 5, 2) := by decide +kernel
theorem dL_law_1468 : decode cL_law 1468 = .ok (.if_icmp .eq 5, 3) := by decide +kernel
theorem dL_law_1471 : decode cL_law 1471 = .ok (.iconst 0, 1) := by decide +kernel
theorem dL_law_1472 : decode cL_law 1472 = .ok (.ireturn, 1) := by decide +kernel
theorem dL_law_1473 : decode cL_law 1473 = .ok (.iload 5, 2) := by decide +kernel
theorem dL_law_1475 : decode cL_law 1475 = .ok (.ifCond .ne 15, 3) := by decide +kernel
theorem dL_law_1478 : decode cL_law 1478 = .ok (.aload_n 3, 1) := by decide +kernel
theorem dL_law_1479 : decode cL_law 1479 = .ok (.iconst 0, 1) := by decide +kernel
theorem dL_law_1480 : decode cL_law 1480 = .ok (.laload, 1) := by decide +kernel
theorem dL_law_1481 : decode cL_law 1481 = .ok (.iload 6, 2) := by decide +kernel
theorem dL_law_1483 : decode cL_law 1483 = .ok (.i2l, 1) := by decide +kernel
theorem dL_law_1484 : decode cL_law 1484 = .ok (.lcmp, 1) := by decide +kernel
theorem dL_law_1485 : decode cL_law 1485 = .ok (.ifCond .eq 5, 3) := by decide +kernel
theorem dL_law_1488 : decode cL_law 1488 = .ok (.iconst 0, 1) := by decide +kernel
theorem dL_law_1489 : decode cL_law 1489 = .ok (.ireturn, 1) := by decide +kernel
theorem dL_law_1490 : decode cL_law 1490 = .ok (.goto 359, 3) := by decide +kernel
theorem dL_law_1493 : decode cL_law 1493 = .ok (.aload_n 1, 1) := by decide +kernel
theorem dL_law_1494 : decode cL_law 1494 = .ok (.invokevirtual 192, 3) := by decide +kernel
theorem dL_law_1497 : decode cL_law 1497 = .ok (.aload_n 2, 1) := by decide +kernel
theorem dL_law_1498 : decode cL_law 1498 = .ok (.invokevirtual 195, 3) := by decide +kernel
theorem dL_law_1501 : decode cL_law 1501 = .ok (.if_icmp .eq 348, 3) := by decide +kernel
theorem dL_law_1504 : decode cL_law 1504 = .ok (.iconst 0, 1) := by decide +kernel
theorem dL_law_1505 : decode cL_law 1505 = .ok (.ireturn, 1) := by decide +kernel
theorem dL_law_1506 : decode cL_law 1506 = .ok (.aload_n 1, 1) := by decide +kernel
theorem dL_law_1507 : decode cL_law 1507 = .ok (.aload_n 0, 1) := by decide +kernel
theorem dL_law_1508 : decode cL_law 1508 = .ok (.iload 4, 2) := by decide +kernel
theorem dL_law_1510 : decode cL_law 1510 = .ok (.iconst 1, 1) := by decide +kernel
theorem dL_law_1511 : decode cL_law 1511 = .ok (.iadd, 1) := by decide +kernel
theorem dL_law_1512 : decode cL_law 1512 = .ok (.iaload, 1) := by decide +kernel
theorem dL_law_1513 : decode cL_law 1513 = .ok (.aload_n 0, 1) := by decide +kernel
theorem dL_law_1514 : decode cL_law 1514 = .ok (.iload 4, 2) := by decide +kernel
theorem dL_law_1516 : decode cL_law 1516 = .ok (.iconst 2, 1) := by decide +kernel
theorem dL_law_1517 : decode cL_law 1517 = .ok (.iadd, 1) := by decide +kernel
theorem dL_law_1518 : decode cL_law 1518 = .ok (.iaload, 1) := by decide +kernel
theorem dL_law_1519 : decode cL_law 1519 = .ok (.aload_n 3, 1) := by decide +kernel
theorem dL_law_1520 : decode cL_law 1520 = .ok (.invokestatic 196, 3) := by decide +kernel
theorem dL_law_1523 : decode cL_law 1523 = .ok (.istore 5, 2) := by decide +kernel
theorem dL_law_1525 : decode cL_law 1525 = .ok (.aload_n 2, 1) := by decide +kernel
theorem dL_law_1526 : decode cL_law 1526 = .ok (.aload_n 0, 1) := by decide +kernel
theorem dL_law_1527 : decode cL_law 1527 = .ok (.iload 4, 2) := by decide +kernel
theorem dL_law_1529 : decode cL_law 1529 = .ok (.iconst 1, 1) := by decide +kernel
theorem dL_law_1530 : decode cL_law 1530 = .ok (.iadd, 1) := by decide +kernel
theorem dL_law_1531 : decode cL_law 1531 = .ok (.iaload, 1) := by decide +kernel
theorem dL_law_1532 : decode cL_law 1532 = .ok (.aload_n 0, 1) := by decide +kernel
theorem dL_law_1533 : decode cL_law 1533 = .ok (.iload 4, 2) := by decide +kernel
theorem dL_law_1535 : decode cL_law 1535 = .ok (.iconst 2, 1) := by decide +kernel
theorem dL_law_1536 : decode cL_law 1536 = .ok (.iadd, 1) := by decide +kernel
theorem dL_law_1537 : decode cL_law 1537 = .ok (.iaload, 1) := by decide +kernel
theorem dL_law_1538 : decode cL_law 1538 = .ok (.invokevirtual 198, 3) := by decide +kernel
theorem dL_law_1541 : decode cL_law 1541 = .ok (.istore 6, 2) := by decide +kernel
theorem dL_law_1543 : decode cL_law 1543 = .ok (.aload_n 2, 1) := by decide +kernel
theorem dL_law_1544 : decode cL_law 1544 = .ok (.invokevirtual 103, 3) := by decide +kernel
theorem dL_law_1547 : decode cL_law 1547 = .ok (.iload 5, 2) := by decide +kernel
theorem dL_law_1549 : decode cL_law 1549 = .ok (.if_icmp .eq 5, 3) := by decide +kernel
theorem dL_law_1552 : decode cL_law 1552 = .ok (.iconst 0, 1) := by decide +kernel
theorem dL_law_1553 : decode cL_law 1553 = .ok (.ireturn, 1) := by decide +kernel
theorem dL_law_1554 : decode cL_law 1554 = .ok (.iload 5, 2) := by decide +kernel
theorem dL_law_1556 : decode cL_law 1556 = .ok (.ifCond .ne 15, 3) := by decide +kernel
theorem dL_law_1559 : decode cL_law 1559 = .ok (.aload_n 3, 1) := by decide +kernel
theorem dL_law_1560 : decode cL_law 1560 = .ok (.iconst 0, 1) := by decide +kernel
theorem dL_law_1561 : decode cL_law 1561 = .ok (.laload, 1) := by decide +kernel
theorem dL_law_1562 : decode cL_law 1562 = .ok (.iload 6, 2) := by decide +kernel
theorem dL_law_1564 : decode cL_law 1564 = .ok (.i2l, 1) := by decide +kernel
theorem dL_law_1565 : decode cL_law 1565 = .ok (.lcmp, 1) := by decide +kernel
theorem dL_law_1566 : decode cL_law 1566 = .ok (.ifCond .eq 5, 3) := by decide +kernel
theorem dL_law_1569 : decode cL_law 1569 = .ok (.iconst 0, 1) := by decide +kernel
theorem dL_law_1570 : decode cL_law 1570 = .ok (.ireturn, 1) := by decide +kernel
theorem dL_law_1571 : decode cL_law 1571 = .ok (.goto 278, 3) := by decide +kernel
theorem dL_law_1574 : decode cL_law 1574 = .ok (.aload_n 1, 1) := by decide +kernel
theorem dL_law_1575 : decode cL_law 1575 = .ok (.aload_n 0, 1) := by decide +kernel
theorem dL_law_1576 : decode cL_law 1576 = .ok (.iload 4, 2) := by decide +kernel
theorem dL_law_1578 : decode cL_law 1578 = .ok (.iconst 1, 1) := by decide +kernel
theorem dL_law_1579 : decode cL_law 1579 = .ok (.iadd, 1) := by decide +kernel
theorem dL_law_1580 : decode cL_law 1580 = .ok (.iaload, 1) := by decide +kernel
theorem dL_law_1581 : decode cL_law 1581 = .ok (.aload_n 0, 1) := by decide +kernel
theorem dL_law_1582 : decode cL_law 1582 = .ok (.iload 4, 2) := by decide +kernel
theorem dL_law_1584 : decode cL_law 1584 = .ok (.iconst 2, 1) := by decide +kernel
theorem dL_law_1585 : decode cL_law 1585 = .ok (.iadd, 1) := by decide +kernel
theorem dL_law_1586 : decode cL_law 1586 = .ok (.iaload, 1) := by decide +kernel
theorem dL_law_1587 : decode cL_law 1587 = .ok (.aload_n 3, 1) := by decide +kernel
theorem dL_law_1588 : decode cL_law 1588 = .ok (.invokestatic 199, 3) := by decide +kernel
theorem dL_law_1591 : decode cL_law 1591 = .ok (.istore 5, 2) := by decide +kernel
theorem dL_law_1593 : decode cL_law 1593 = .ok (.aload_n 2, 1) := by decide +kernel
theorem dL_law_1594 : decode cL_law 1594 = .ok (.aload_n 0, 1) := by decide +kernel
theorem dL_law_1595 : decode cL_law 1595 = .ok (.iload 4, 2) := by decide +kernel
theorem dL_law_1597 : decode cL_law 1597 = .ok (.iconst 1, 1) := by decide +kernel
theorem dL_law_1598 : decode cL_law 1598 = .ok (.iadd, 1) := by decide +kernel
theorem dL_law_1599 : decode cL_law 1599 = .ok (.iaload, 1) := by decide +kernel
theorem dL_law_1600 : decode cL_law 1600 = .ok (.aload_n 0, 1) := by decide +kernel
theorem dL_law_1601 : decode cL_law 1601 = .ok (.iload 4, 2) := by decide +kernel
theorem dL_law_1603 : decode cL_law 1603 = .ok (.iconst 2, 1) := by decide +kernel
theorem dL_law_1604 : decode cL_law 1604 = .ok (.iadd, 1) := by decide +kernel
theorem dL_law_1605 : decode cL_law 1605 = .ok (.iaload, 1) := by decide +kernel
theorem dL_law_1606 : decode cL_law 1606 = .ok (.invokevirtual 201, 3) := by decide +kernel
theorem dL_law_1609 : decode cL_law 1609 = .ok (.istore 6, 2) := by decide +kernel
theorem dL_law_1611 : decode cL_law 1611 = .ok (.aload_n 2, 1) := by decide +kernel
theorem dL_law_1612 : decode cL_law 1612 = .ok (.invokevirtual 103, 3) := by decide +kernel
theorem dL_law_1615 : decode cL_law 1615 = .ok (.iload 5, 2) := by decide +kernel
theorem dL_law_1617 : decode cL_law 1617 = .ok (.if_icmp .eq 5, 3) := by decide +kernel
theorem dL_law_1620 : decode cL_law 1620 = .ok (.iconst 0, 1) := by decide +kernel
theorem dL_law_1621 : decode cL_law 1621 = .ok (.ireturn, 1) := by decide +kernel
theorem dL_law_1622 : decode cL_law 1622 = .ok (.iload 5, 2) := by decide +kernel
theorem dL_law_1624 : decode cL_law 1624 = .ok (.ifCond .ne 15, 3) := by decide +kernel
theorem dL_law_1627 : decode cL_law 1627 = .ok (.aload_n 3, 1) := by decide +kernel
theorem dL_law_1628 : decode cL_law 1628 = .ok (.iconst 0, 1) := by decide +kernel
theorem dL_law_1629 : decode cL_law 1629 = .ok (.laload, 1) := by decide +kernel
theorem dL_law_1630 : decode cL_law 1630 = .ok (.iload 6, 2) := by decide +kernel
theorem dL_law_1632 : decode cL_law 1632 = .ok (.i2l, 1) := by decide +kernel
theorem dL_law_1633 : decode cL_law 1633 = .ok (.lcmp, 1) := by decide +kernel
theorem dL_law_1634 : decode cL_law 1634 = .ok (.ifCond .eq 5, 3) := by decide +kernel
theorem dL_law_1637 : decode cL_law 1637 = .ok (.iconst 0, 1) := by decide +kernel
theorem dL_law_1638 : decode cL_law 1638 = .ok (.ireturn, 1) := by decide +kernel
theorem dL_law_1639 : decode cL_law 1639 = .ok (.goto 210, 3) := by decide +kernel
theorem dL_law_1642 : decode cL_law 1642 = .ok (.aload_n 1, 1) := by decide +kernel
theorem dL_law_1643 : decode cL_law 1643 = .ok (.aload_n 0, 1) := by decide +kernel
theorem dL_law_1644 : decode cL_law 1644 = .ok (.iload 4, 2) := by decide +kernel
theorem dL_law_1646 : decode cL_law 1646 = .ok (.iconst 1, 1) := by decide +kernel
theorem dL_law_1647 : decode cL_law 1647 = .ok (.iadd, 1) := by decide +kernel
theorem dL_law_1648 : decode cL_law 1648 = .ok (.iaload, 1) := by decide +kernel
theorem dL_law_1649 : decode cL_law 1649 = .ok (.aload_n 0, 1) := by decide +kernel
theorem dL_law_1650 : decode cL_law 1650 = .ok (.iload 4, 2) := by decide +kernel
theorem dL_law_1652 : decode cL_law 1652 = .ok (.iconst 2, 1) := by decide +kernel
theorem dL_law_1653 : decode cL_law 1653 = .ok (.iadd, 1) := by decide +kernel
theorem dL_law_1654 : decode cL_law 1654 = .ok (.iaload, 1) := by decide +kernel
theorem dL_law_1655 : decode cL_law 1655 = .ok (.ifCond .eq 7, 3) := by decide +kernel
theorem dL_law_1658 : decode cL_law 1658 = .ok (.iconst 1, 1) := by decide +kernel
theorem dL_law_1659 : decode cL_law 1659 = .ok (.goto 4, 3) := by decide +kernel
theorem dL_law_1662 : decode cL_law 1662 = .ok (.iconst 0, 1) := by decide +kernel
theorem dL_law_1663 : decode cL_law 1663 = .ok (.aload_n 0, 1) := by decide +kernel
theorem dL_law_1664 : decode cL_law 1664 = .ok (.iload 4, 2) := by decide +kernel
theorem dL_law_1666 : decode cL_law 1666 = .ok (.iconst 3, 1) := by decide +kernel
theorem dL_law_1667 : decode cL_law 1667 = .ok (.iadd, 1) := by decide +kernel
theorem dL_law_1668 : decode cL_law 1668 = .ok (.iaload, 1) := by decide +kernel
theorem dL_law_1669 : decode cL_law 1669 = .ok (.aload_n 3, 1) := by decide +kernel
theorem dL_law_1670 : decode cL_law 1670 = .ok (.invokestatic 202, 3) := by decide +kernel
theorem dL_law_1673 : decode cL_law 1673 = .ok (.istore 5, 2) := by decide +kernel
theorem dL_law_1675 : decode cL_law 1675 = .ok (.aload_n 2, 1) := by decide +kernel
theorem dL_law_1676 : decode cL_law 1676 = .ok (.aload_n 0, 1) := by decide +kernel
theorem dL_law_1677 : decode cL_law 1677 = .ok (.iload 4, 2) := by decide +kernel
theorem dL_law_1679 : decode cL_law 1679 = .ok (.iconst 1, 1) := by decide +kernel
theorem dL_law_1680 : decode cL_law 1680 = .ok (.iadd, 1) := by decide +kernel
theorem dL_law_1681 : decode cL_law 1681 = .ok (.iaload, 1) := by decide +kernel
theorem dL_law_1682 : decode cL_law 1682 = .ok (.aload_n 0, 1) := by decide +kernel
theorem dL_law_1683 : decode cL_law 1683 = .ok (.iload 4, 2) := by decide +kernel
theorem dL_law_1685 : decode cL_law 1685 = .ok (.iconst 2, 1) := by decide +kernel
theorem dL_law_1686 : decode cL_law 1686 = .ok (.iadd, 1) := by decide +kernel
theorem dL_law_1687 : decode cL_law 1687 = .ok (.iaload, 1) := by decide +kernel
theorem dL_law_1688 : decode cL_law 1688 = .ok (.ifCond .eq 7, 3) := by decide +kernel
theorem dL_law_1691 : decode cL_law 1691 = .ok (.iconst 1, 1) := by decide +kernel
theorem dL_law_1692 : decode cL_law 1692 = .ok (.goto 4, 3) := by decide +kernel
theorem dL_law_1695 : decode cL_law 1695 = .ok (.iconst 0, 1) := by decide +kernel
theorem dL_law_1696 : decode cL_law 1696 = .ok (.aload_n 0, 1) := by decide +kernel
theorem dL_law_1697 : decode cL_law 1697 = .ok (.iload 4, 2) := by decide +kernel
theorem dL_law_1699 : decode cL_law 1699 = .ok (.iconst 3, 1) := by decide +kernel
theorem dL_law_1700 : decode cL_law 1700 = .ok (.iadd, 1) := by decide +kernel
theorem dL_law_1701 : decode cL_law 1701 = .ok (.iaload, 1) := by decide +kernel
theorem dL_law_1702 : decode cL_law 1702 = .ok (.invokevirtual 204, 3) := by decide +kernel
theorem dL_law_1705 : decode cL_law 1705 = .ok (.istore 6, 2) := by decide +kernel
theorem dL_law_1707 : decode cL_law 1707 = .ok (.aload_n 2, 1) := by decide +kernel
theorem dL_law_1708 : decode cL_law 1708 = .ok (.invokevirtual 103, 3) := by decide +kernel
theorem dL_law_1711 : decode cL_law 1711 = .ok (.iload 5, 2) := by decide +kernel
theorem dL_law_1713 : decode cL_law 1713 = .ok (.if_icmp .eq 5, 3) := by decide +kernel
theorem dL_law_1716 : decode cL_law 1716 = .ok (.iconst 0, 1) := by decide +kernel
theorem dL_law_1717 : decode cL_law 1717 = .ok (.ireturn, 1) := by decide +kernel
theorem dL_law_1718 : decode cL_law 1718 = .ok (.iload 5, 2) := by decide +kernel
theorem dL_law_1720 : decode cL_law 1720 = .ok (.ifCond .ne 15, 3) := by decide +kernel
theorem dL_law_1723 : decode cL_law 1723 = .ok (.aload_n 3, 1) := by decide +kernel
theorem dL_law_1724 : decode cL_law 1724 = .ok (.iconst 0, 1) := by decide +kernel
theorem dL_law_1725 : decode cL_law 1725 = .ok (.laload, 1) := by decide +kernel
theorem dL_law_1726 : decode cL_law 1726 = .ok (.iload 6, 2) := by decide +kernel
theorem dL_law_1728 : decode cL_law 1728 = .ok (.i2l, 1) := by decide +kernel
theorem dL_law_1729 : decode cL_law 1729 = .ok (.lcmp, 1) := by decide +kernel
theorem dL_law_1730 : decode cL_law 1730 = .ok (.ifCond .eq 5, 3) := by decide +kernel
theorem dL_law_1733 : decode cL_law 1733 = .ok (.iconst 0, 1) := by decide +kernel
theorem dL_law_1734 : decode cL_law 1734 = .ok (.ireturn, 1) := by decide +kernel
theorem dL_law_1735 : decode cL_law 1735 = .ok (.goto 114, 3) := by decide +kernel
theorem dL_law_1738 : decode cL_law 1738 = .ok (.aload_n 1, 1) := by decide +kernel
theorem dL_law_1739 : decode cL_law 1739 = .ok (.aload_n 0, 1) := by decide +kernel
theorem dL_law_1740 : decode cL_law 1740 = .ok (.iload 4, 2) := by decide +kernel
theorem dL_law_1742 : decode cL_law 1742 = .ok (.iconst 1, 1) := by decide +kernel
theorem dL_law_1743 : decode cL_law 1743 = .ok (.iadd, 1) := by decide +kernel
theorem dL_law_1744 : decode cL_law 1744 = .ok (.iaload, 1) := by decide +kernel
theorem dL_law_1745 : decode cL_law 1745 = .ok (.aload_n 3, 1) := by decide +kernel
theorem dL_law_1746 : decode cL_law 1746 = .ok (.invokestatic 205, 3) := by decide +kernel
theorem dL_law_1749 : decode cL_law 1749 = .ok (.istore 5, 2) := by decide +kernel
theorem dL_law_1751 : decode cL_law 1751 = .ok (.aload_n 2, 1) := by decide +kernel
theorem dL_law_1752 : decode cL_law 1752 = .ok (.aload_n 0, 1) := by decide +kernel
theorem dL_law_1753 : decode cL_law 1753 = .ok (.iload 4, 2) := by decide +kernel
theorem dL_law_1755 : decode cL_law 1755 = .ok (.iconst 1, 1) := by decide +kernel
theorem dL_law_1756 : decode cL_law 1756 = .ok (.iadd, 1) := by decide +kernel
theorem dL_law_1757 : decode cL_law 1757 = .ok (.iaload, 1) := by decide +kernel
theorem dL_law_1758 : decode cL_law 1758 = .ok (.invokevirtual 207, 3) := by decide +kernel
theorem dL_law_1761 : decode cL_law 1761 = .ok (.istore 6, 2) := by decide +kernel
theorem dL_law_1763 : decode cL_law 1763 = .ok (.aload_n 2, 1) := by decide +kernel
theorem dL_law_1764 : decode cL_law 1764 = .ok (.invokevirtual 103, 3) := by decide +kernel
theorem dL_law_1767 : decode cL_law 1767 = .ok (.iload 5, 2) := by decide +kernel
theorem dL_law_1769 : decode cL_law 1769 = .ok (.if_icmp .eq 5, 3) := by decide +kernel
theorem dL_law_1772 : decode cL_law 1772 = .ok (.iconst 0, 1) := by decide +kernel
theorem dL_law_1773 : decode cL_law 1773 = .ok (.ireturn, 1) := by decide +kernel
theorem dL_law_1774 : decode cL_law 1774 = .ok (.iload 5, 2) := by decide +kernel
theorem dL_law_1776 : decode cL_law 1776 = .ok (.ifCond .ne 15, 3) := by decide +kernel
theorem dL_law_1779 : decode cL_law 1779 = .ok (.aload_n 3, 1) := by decide +kernel
theorem dL_law_1780 : decode cL_law 1780 = .ok (.iconst 0, 1) := by decide +kernel
theorem dL_law_1781 : decode cL_law 1781 = .ok (.laload, 1) := by decide +kernel
theorem dL_law_1782 : decode cL_law 1782 = .ok (.iload 6, 2) := by decide +kernel
theorem dL_law_1784 : decode cL_law 1784 = .ok (.i2l, 1) := by decide +kernel
theorem dL_law_1785 : decode cL_law 1785 = .ok (.lcmp, 1) := by decide +kernel
theorem dL_law_1786 : decode cL_law 1786 = .ok (.ifCond .eq 5, 3) := by decide +kernel
theorem dL_law_1789 : decode cL_law 1789 = .ok (.iconst 0, 1) := by decide +kernel
theorem dL_law_1790 : decode cL_law 1790 = .ok (.ireturn, 1) := by decide +kernel
theorem dL_law_1791 : decode cL_law 1791 = .ok (.goto 58, 3) := by decide +kernel
theorem dL_law_1794 : decode cL_law 1794 = .ok (.aload_n 1, 1) := by decide +kernel
theorem dL_law_1795 : decode cL_law 1795 = .ok (.invokevirtual 208, 3) := by decide +kernel
theorem dL_law_1798 : decode cL_law 1798 = .ok (.dstore 5, 2) := by decide +kernel
theorem dL_law_1800 : decode cL_law 1800 = .ok (.aload_n 2, 1) := by decide +kernel
theorem dL_law_1801 : decode cL_law 1801 = .ok (.invokevirtual 212, 3) := by decide +kernel
theorem dL_law_1804 : decode cL_law 1804 = .ok (.dstore 7, 2) := by decide +kernel
theorem dL_law_1806 : decode cL_law 1806 = .ok (.dload 5, 2) := by decide +kernel
theorem dL_law_1808 : decode cL_law 1808 = .ok (.dload 7, 2) := by decide +kernel
theorem dL_law_1810 : decode cL_law 1810 = .ok (.dcmp .l, 1) := by decide +kernel
theorem dL_law_1811 : decode cL_law 1811 = .ok (.ifCond .eq 21, 3) := by decide +kernel
theorem dL_law_1814 : decode cL_law 1814 = .ok (.dload 5, 2) := by decide +kernel
theorem dL_law_1816 : decode cL_law 1816 = .ok (.dload 5, 2) := by decide +kernel
theorem dL_law_1818 : decode cL_law 1818 = .ok (.dcmp .l, 1) := by decide +kernel
theorem dL_law_1819 : decode cL_law 1819 = .ok (.ifCond .eq 11, 3) := by decide +kernel
theorem dL_law_1822 : decode cL_law 1822 = .ok (.dload 7, 2) := by decide +kernel
theorem dL_law_1824 : decode cL_law 1824 = .ok (.dload 7, 2) := by decide +kernel
theorem dL_law_1826 : decode cL_law 1826 = .ok (.dcmp .l, 1) := by decide +kernel
theorem dL_law_1827 : decode cL_law 1827 = .ok (.ifCond .ne 5, 3) := by decide +kernel
theorem dL_law_1830 : decode cL_law 1830 = .ok (.iconst 0, 1) := by decide +kernel
theorem dL_law_1831 : decode cL_law 1831 = .ok (.ireturn, 1) := by decide +kernel
theorem dL_law_1832 : decode cL_law 1832 = .ok (.goto 17, 3) := by decide +kernel
theorem dL_law_1835 : decode cL_law 1835 = .ok (.aload_n 1, 1) := by decide +kernel
theorem dL_law_1836 : decode cL_law 1836 = .ok (.invokevirtual 213, 3) := by decide +kernel
theorem dL_law_1839 : decode cL_law 1839 = .ok (.aload_n 2, 1) := by decide +kernel
theorem dL_law_1840 : decode cL_law 1840 = .ok (.invokevirtual 217, 3) := by decide +kernel
theorem dL_law_1843 : decode cL_law 1843 = .ok (.lcmp, 1) := by decide +kernel
theorem dL_law_1844 : decode cL_law 1844 = .ok (.ifCond .eq 5, 3) := by decide +kernel
theorem dL_law_1847 : decode cL_law 1847 = .ok (.iconst 0, 1) := by decide +kernel
theorem dL_law_1848 : decode cL_law 1848 = .ok (.ireturn, 1) := by decide +kernel
theorem dL_law_1849 : decode cL_law 1849 = .ok (.iinc 4 4, 3) := by decide +kernel
theorem dL_law_1852 : decode cL_law 1852 = .ok (.goto (-1829), 3) := by decide +kernel
theorem dL_law_1855 : decode cL_law 1855 = .ok (.iconst 1, 1) := by decide +kernel
theorem dL_law_1856 : decode cL_law 1856 = .ok (.ireturn, 1) := by decide +kernel
end
section
/-! The walk's own layer: memory as numbers (cell, slot), one predicate for all that stays, contracts with an answer and a new memory. -/
abbrev Mem : Type := Nat → Nat → Int32
abbrev GT : Type := Nat × va_G × (ClassId × ClassId × ClassId) × (Nat → Nat) × Nat
def gB (g : GT) : Nat := g.1
def gD (g : GT) : va_G := g.2.1
def gI (g : GT) : ClassId := g.2.2.1.1
def gZ (g : GT) : ClassId := g.2.2.1.2.1
def gJ (g : GT) : ClassId := g.2.2.1.2.2
def ga (g : GT) : Nat → Nat := g.2.2.2.1
def gn (g : GT) : Nat := g.2.2.2.2
def gA (g : GT) : Nat → Prop := fun q => gB g ≤ q
def gty (g : GT) : List (ClassId × FieldType) := [(gI g, .int), (gZ g, .boolean), (gJ g, .long)]
/-- one slot of one cell anew -/
def wr (M : Mem) (k j : Nat) (v : Int32) : Mem := fun k' => if k' = k then upd (M k) j v else M k'
def wrc (M : Mem) (k : Nat) (c : Nat → Int32) : Mem := fun k' => if k' = k then c else M k'
/-- the cells' lengths; their kinds: 0 Canyon, 1 CanyonEchoes, 2 the model, 3 int[], 4 boolean[], 5 long[] -/
def xlen (k : Nat) : Nat := [0, 0, 32, 32, 32, 10, 10, 10, 10, 2, 2, 40, 40, 40, 40, 0, 32, 32, 32, 10, 10, 10, 10, 2, 2, 40, 40, 40, 40, 0, 32, 32, 10, 10, 187, 187, 2, 1, 8].getD k 0
def xk (k : Nat) : Nat := [1, 0, 3, 3, 3, 3, 3, 3, 3, 3, 3, 3, 3, 3, 3, 0, 3, 3, 3, 3, 3, 3, 3, 3, 3, 3, 3, 3, 3, 2, 3, 3, 3, 3, 3, 3, 4, 5, 3].getD k 9
def xrow (k : Nat) : List (Option Nat) := match k with
  | 0 => [some 1, some 15]
  | 1 => [none, none, none, none, none, none, some 2, some 3, some 4, some 5, some 6, some 7, some 8, some 9, some 10, some 11, some 12, some 13, some 14]
  | 15 => [none, none, none, none, none, none, some 16, some 17, some 18, some 19, some 20, some 21, some 22, some 23, some 24, some 25, some 26, some 27, some 28]
  | 29 => [none, none, none, some 30, some 31, some 32, some 33, some 34, some 35, some 36]
  | _ => []
def xfl (a : Nat → Nat) (c : Nat → Int32) : List (Option Nat) → Nat → List Value
  | [], _ => []
  | some t :: r, j => .ref (a t) :: xfl a c r (j + 1)
  | none :: r, j => .int (c j) :: xfl a c r (j + 1)
theorem xfl_len (a : Nat → Nat) (c : Nat → Int32) : ∀ (r : List (Option Nat)) (j : Nat), (xfl a c r j).length = r.length
  | [], _ => rfl
  | some _ :: r, j => congrArg (· + 1) (xfl_len a c r (j + 1))
  | none :: r, j => congrArg (· + 1) (xfl_len a c r (j + 1))
theorem xfl_ref (a : Nat → Nat) (c : Nat → Int32) : ∀ (r : List (Option Nat)) (j0 j t : Nat), r[j]? = some (some t) → (xfl a c r j0)[j]? = some (.ref (a t))
  | [], _, _, _, h => by simp at h
  | some t :: r, j0, 0, t', h => by simp at h; subst h; rfl
  | none :: r, j0, 0, t', h => by simp at h
  | some t :: r, j0, j + 1, t', h => by
    rw [List.getElem?_cons_succ] at h
    exact xfl_ref a c r (j0 + 1) j t' h
  | none :: r, j0, j + 1, t', h => by
    rw [List.getElem?_cons_succ] at h
    exact xfl_ref a c r (j0 + 1) j t' h
theorem xfl_int (a : Nat → Nat) (c : Nat → Int32) : ∀ (r : List (Option Nat)) (j0 j : Nat), r[j]? = some none → (xfl a c r j0)[j]? = some (.int (c (j0 + j)))
  | [], _, _, h => by simp at h
  | some t :: r, j0, 0, h => by simp at h
  | none :: r, j0, 0, h => rfl
  | some t :: r, j0, j + 1, h => by
    rw [List.getElem?_cons_succ] at h
    have := xfl_int a c r (j0 + 1) j h
    rw [show j0 + (j + 1) = j0 + 1 + j by omega]
    exact this
  | none :: r, j0, j + 1, h => by
    rw [List.getElem?_cons_succ] at h
    have := xfl_int a c r (j0 + 1) j h
    rw [show j0 + (j + 1) = j0 + 1 + j by omega]
    exact this
theorem xfl_new (a : Nat → Nat) (c c' : Nat → Int32) : ∀ (r : List (Option Nat)) (j0 : Nat), (∀ j, j0 ≤ j → c j = c' j) → xfl a c r j0 = xfl a c' r j0
  | [], _, _ => rfl
  | some t :: r, j0, h => congrArg (Value.ref (a t) :: ·) (xfl_new a c c' r (j0 + 1) (fun j hj => h j (by omega)))
  | none :: r, j0, h => by
    show Value.int (c j0) :: _ = Value.int (c' j0) :: _
    rw [h j0 (Nat.le_refl _), xfl_new a c c' r (j0 + 1) (fun j hj => h j (by omega))]
theorem xfl_set (a : Nat → Nat) (c : Nat → Int32) (v : Int32) : ∀ (r : List (Option Nat)) (j0 j : Nat), r[j]? = some none → (xfl a c r j0).set j (.int v) = xfl a (upd c (j0 + j) v) r j0
  | [], _, _, h => by simp at h
  | some t :: r, j0, 0, h => by simp at h
  | none :: r, j0, 0, h => by
    show Value.int v :: xfl a c r (j0 + 1) = Value.int (upd c (j0 + 0) v j0) :: xfl a (upd c (j0 + 0) v) r (j0 + 1)
    rw [xfl_new a c (upd c (j0 + 0) v) r (j0 + 1) (fun j hj => by rw [Nat.add_zero]; exact (by unfold upd; rw [if_neg (by omega)]))]
    simp [upd]
  | some t :: r, j0, j + 1, h => by
    rw [List.getElem?_cons_succ] at h
    have := xfl_set a c v r (j0 + 1) j h
    rw [show j0 + (j + 1) = j0 + 1 + j by omega]
    show Value.ref (a t) :: (xfl a c r (j0 + 1)).set j (.int v) = _
    rw [this]
    rfl
  | none :: r, j0, j + 1, h => by
    rw [List.getElem?_cons_succ] at h
    have := xfl_set a c v r (j0 + 1) j h
    rw [show j0 + (j + 1) = j0 + 1 + j by omega]
    show Value.int (c j0) :: (xfl a c r (j0 + 1)).set j (.int v) = Value.int (upd c (j0 + 1 + j) v j0) :: xfl a (upd c (j0 + 1 + j) v) r (j0 + 1)
    rw [this]
    simp [upd, show ¬ j0 = j0 + 1 + j by omega]
def xe (g : GT) (c : Nat → Int32) (k : Nat) : va_E :=
  if xk k = 3 then .inl (gI g, xlen k, .inl c)
  else if xk k = 4 then .inl (gZ g, xlen k, .inl c)
  else if xk k = 5 then .inl (gJ g, xlen k, .inr (.inl (fun j => (c j).toInt64)))
  else .inr (xk k, xfl (ga g) c (xrow k) 0)
theorem xe_I (g : GT) (c : Nat → Int32) {k : Nat} (h : xk k = 3) : xe g c k = .inl (gI g, xlen k, .inl c) := by rw [xe, if_pos h]
theorem xe_Z (g : GT) (c : Nat → Int32) {k : Nat} (h : xk k = 4) : xe g c k = .inl (gZ g, xlen k, .inl c) := by rw [xe, if_neg (by omega), if_pos h]
theorem xe_J (g : GT) (c : Nat → Int32) {k : Nat} (h : xk k = 5) : xe g c k = .inl (gJ g, xlen k, .inr (.inl (fun j => (c j).toInt64))) := by rw [xe, if_neg (by omega), if_neg (by omega), if_pos h]
theorem xe_O (g : GT) (c : Nat → Int32) {k ci : Nat} (h : xk k = ci) (hc : ci < 3) : xe g c k = .inr (ci, xfl (ga g) c (xrow k) 0) := by rw [xe, if_neg (by omega), if_neg (by omega), if_neg (by omega), h]
/-- the world: all cells below n -/
def wl (g : GT) (M : Mem) : va_W := (List.range (gn g)).map (fun k => (ga g k, xe g (M k) k))
theorem wl_at (g : GT) (M : Mem) {k : Nat} (h : k < gn g) : (wl g M)[k]? = some (ga g k, xe g (M k) k) := by
  simp [wl, h]
theorem wl_len (g : GT) (M : Mem) : (wl g M).length = gn g := by simp [wl]
theorem wl_set (g : GT) (M : Mem) {k : Nat} (c : Nat → Int32) {e : va_E} (he : e = xe g c k) : (wl g M).set k (ga g k, e) = wl g (wrc M k c) := by
  subst he
  apply List.ext_getElem?
  intro j
  by_cases hj : j < gn g
  · rw [wl_at g _ hj]
    by_cases hk : j = k
    · subst hk
      rw [List.getElem?_set_self (by rw [wl_len]; exact hj)]
      simp [wrc]
    · rw [List.getElem?_set_ne (Ne.symm hk), wl_at g _ hj]
      simp [wrc, hk]
  · rw [List.getElem?_eq_none (by rw [List.length_set, wl_len]; omega), List.getElem?_eq_none (by rw [wl_len]; omega)]
theorem wrc_upd (M : Mem) (k j : Nat) (v : Int32) : wrc M k (upd (M k) j v) = wr M k j v := rfl
def Hd (g : GT) (M : Mem) (H : Heap) : Prop := va_P (gD g) vwCl (wl g M) H
/-- words that stay true while the tables are warmed -/
def xw (w : Cond) : Bool := goodWord w || match w with
  | .fieldLinkNest .. => true
  | .methodLinkNest .. => true
  | .castable .. => true
  | .declares .. => true
  | _ => false
theorem xw_at {args a' : Array Value} {s U : State} {w : Cond} (hW : s.WarmedH U.vm) (hg : xw w = true) (h : w.before args s = true) : w.before a' U = true := by
  by_cases hgw : goodWord w = true
  · exact word_at hW (good_of_word hgw) h
  · have hv : (s.setVm U.vm).vm = U.vm := rfl
    cases w <;> first
      | exact va_tabs rfl hv (Cond.fieldLinkNest_warmed (args := args) hW h)
      | exact va_tabs rfl hv (Cond.methodLinkNest_warmed (args := args) hW h)
      | exact va_tabs (A := args) rfl hv (by rw [Cond.castable_setVm hW.alike]; exact h)
      | exact va_tabs (A := args) rfl hv (by rw [Cond.declares_setVm hW.alike]; exact h)
      | (exfalso; simp [xw] at hg; exact hgw hg)
/-- the strings that the class throws; the pairs that a handler passes by -/
def strL : List (String × Nat × String) := [(RX1, 257, "loud is not 1 to 99"), (RX1, 251, "no such echo"), (RX1, 259, "beats is not 1 to 100"), (RX1, 253, "no such wall"), (RX1, 255, "no such shout"), (RX1, 248, "no such stone"), (RX1, 28, "soaks is not 0 to 5"), (RX1, 43, "there are 10 walls, or one stands there"), (RX1, 60, "snow is not 0 to 5"), (RX1, 74, "there were 40 shouts, or 8 are not gone"), (RX1, 79, "a shout is on this stone")]
def eB : String := "java/lang/IndexOutOfBoundsException"
def eA : String := "java/lang/IllegalArgumentException"
def eS : String := "java/lang/IllegalStateException"
def ncL : List (String × String) := [(eA, eB), (eS, eB), (eS, eA)]
/-- what stays of the tables, and of the addresses -/
def GK (g : GT) (U : State) : Prop :=
  (∀ w ∈ lw_tbl, xw w = true → w.before #[] U = true) ∧ va_K (gD g) vwCl (gty g) U ∧ (∀ q ∈ strL, ∃ sa, vk_R q.1 q.2.1 q.2.2 sa U) ∧ (∀ q ∈ ncL, va_Nc q.1 q.2 U) ∧
  (∀ j k, j < gn g → k < gn g → ga g j = ga g k → j = k) ∧ (∀ k, k < gn g → gB g ≤ ga g k) ∧ 38 ≤ gn g ∧ gn g ≤ 39
def GH (g : GT) (U : State) (H : Heap) : Prop := gB g ≤ H.size ∧ vx_Zq Bundle.tN "UNASSIGNED_STACK" Bundle.steD (gA g) U H ∧ vx_Zq Bundle.tN "SUPPRESSED_SENTINEL" Bundle.listD (gA g) U H
theorem GK.warm {g : GT} {s U : State} (hW : s.WarmedH U.vm) (h : GK g s) : GK g U := by
  obtain ⟨h1, h2, h3, h4, h5⟩ := h
  refine ⟨fun w hw hx => xw_at hW hx (h1 w hw hx), va_K.moved hW.alike h2, fun q hq => ?_, fun q hq => va_Nc.moved hW.alike (h4 q hq), h5⟩
  obtain ⟨sa, hsa⟩ := h3 q hq
  exact ⟨sa, vk_R.warm hW hsa⟩
theorem GK.blind {g : GT} {U : State} (f : JFrame) (mk : MethodId) (a : Array Value) (h : GK g U) : GK g (U.calling f mk a) := GK.warm (State.WarmedH.refl U) h
theorem GH.moved {g : GT} {u U : State} {H : Heap} (hvm : u.vm.Alike U.vm) (h : GH g u H) : GH g U H := ⟨h.1, vx_Zq.moved hvm h.2.1, vx_Zq.moved hvm h.2.2⟩
theorem GH.kept {g : GT} {U : State} {H H1 : Heap} (h : GH g U H) (hz : H.size ≤ H1.size) (hq : ∀ a : Nat, a < H.size → ¬ gA g a → H1[a]? = H[a]?) : GH g U H1 := ⟨Nat.le_trans h.1 hz, vx_Zq.kept h.2.1 hq, vx_Zq.kept h.2.2 hq⟩
theorem GK.wdD {g : GT} {U : State} (h : GK g U) (M : Mem) : va_D (gA g) (wl g M) := by
  obtain ⟨-, -, -, -, h5, h6, -⟩ := h
  have at' : ∀ (i : Nat) (p : Nat × va_E), (wl g M)[i]? = some p → i < gn g ∧ p.1 = ga g i := by
    intro i p hp
    have hi : i < gn g := by rw [← wl_len g M]; exact (List.getElem?_eq_some_iff.mp hp).1
    rw [wl_at g M hi] at hp
    cases hp
    exact ⟨hi, rfl⟩
  refine ⟨fun i j p q hi hj hpq => ?_, fun k q hk => ?_⟩
  · obtain ⟨a1, a2⟩ := at' i p hi
    obtain ⟨b1, b2⟩ := at' j q hj
    exact h5 i j a1 b1 (by rw [← a2, ← b2]; exact hpq)
  · obtain ⟨a1, a2⟩ := at' k q hk
    rw [a2]
    exact h6 k a1
end
section
/-! Rules: one for each kind of instruction, over V: at a pc, with locals, stack and memory told. -/
abbrev XT : Type := Program × Launch × Env × Room × State × MethodId × Array Value × List Frame × Method × Code × (State → Prop)
abbrev xP (X : XT) : Program := X.1
abbrev xL (X : XT) : Launch := X.2.1
abbrev xE (X : XT) : Env := X.2.2.1
abbrev xR (X : XT) : Room := X.2.2.2.1
abbrev xS (X : XT) : State := X.2.2.2.2.1
abbrev xM (X : XT) : MethodId := X.2.2.2.2.2.1
abbrev xA (X : XT) : Array Value := X.2.2.2.2.2.2.1
abbrev xB (X : XT) : List Frame := X.2.2.2.2.2.2.2.1
abbrev xMe (X : XT) : Method := X.2.2.2.2.2.2.2.2.1
abbrev xC (X : XT) : Code := X.2.2.2.2.2.2.2.2.2.1
abbrev xQ (X : XT) : State → Prop := X.2.2.2.2.2.2.2.2.2.2
abbrev xW (X : XT) (H : Heap) (locs : List Loc) (kc ks : Nat) (f : JFrame) : Prop := W (xP X) (xL X) (xE X) (xR X) (xS X) (xM X) (xA X) (xB X) (xMe X) (xC X) H locs kc ks (xQ X) f
def Cx (X : XT) (g : GT) (l : Launch) (cc : ByteArray) (mL : Nat) (own : String) (ret : Option FieldType) (rm : Room) : Prop :=
  (xP X).tables.exec = Jvm.exec ∧ (xC X).code = cc ∧ (xC X).maxLocals = mL ∧ (xS X).vm.findClass own = some (xM X).cls ∧ GK g (xS X) ∧ GH g (xS X) (xS X).heap ∧ (xMe X).locks = false ∧ (xMe X).sig.returnType = ret ∧ xR X = rm ∧ xL X = l
def V (X : XT) (g : GT) (kc ks pc : Nat) (lo : List (Nat × Value)) (st : List Value) (M : Mem) : Prop :=
  ∀ (H : Heap) (locs : List Loc) (ls : Array Slot), Hd g M H → va_S (gA g) (xS X).heap H locs → lv_has ls (xC X).maxLocals lo → xW X H locs kc ks (F0 (xM X) pc ls st)
/-- the local by its number -/
def lk : List (Nat × Value) → Nat → Option Value
  | [], _ => none
  | (j, v) :: r, i => bif Nat.beq j i then some v else lk r i
theorem lk_mem : ∀ {l : List (Nat × Value)} {i : Nat} {v : Value}, lk l i = some v → (i, v) ∈ l
  | [], _, _, h => by cases h
  | (j, w) :: r, i, v, h => by
    unfold lk at h
    cases hb : Nat.beq j i with
    | true =>
      rw [hb] at h
      have e := Nat.eq_of_beq_eq_true hb
      subst e
      cases h
      exact List.mem_cons_self
    | false =>
      rw [hb] at h
      exact List.mem_cons_of_mem _ (lk_mem h)
theorem lk_at {ls : Array Slot} {n : Nat} {l : List (Nat × Value)} (h : lv_has ls n l) {i : Nat} {v : Value} (hk : lk l i = some v) : ls[i]? = some (.val v) := h.2.2 (i, v) (lk_mem hk)
theorem lk_idx : ∀ {l : List (Nat × Value)} {i : Nat} {v : Value}, lk l i = some v → ∃ k : Nat, l[k]? = some (i, v)
  | l, i, v, h => List.getElem?_of_mem (lk_mem h)
section RULES
variable {X : XT} {g : GT} {l : Launch} {cc : ByteArray} {mL : Nat} {own : String} {ret : Option FieldType} {rm : Room} {kc ks pc : Nat} {lo lo' : List (Nat × Value)} {st : List Value} {M : Mem}
theorem x_iload_n (C : Cx X g l cc mL own ret rm) {n : Fin 4} {v : Int32} (d : decode cc pc = .ok (.iload_n n, 1)) (h : lk lo (n : Nat) = some (.int v)) (k : V X g kc ks (pc + 1) lo (.int v :: st) M) : V X g kc ks pc lo st M := fun H locs ls h1 h2 h3 => lv_iload_n C.1 C.2.1 d rfl (lk_at h3 h) (k H locs ls h1 h2 h3)
theorem x_iload (C : Cx X g l cc mL own ret rm) {n : Nat} {v : Int32} (d : decode cc pc = .ok (.iload n, 2)) (h : lk lo n = some (.int v)) (k : V X g kc ks (pc + 2) lo (.int v :: st) M) : V X g kc ks pc lo st M := fun H locs ls h1 h2 h3 => lv_iload C.1 C.2.1 d (lk_at h3 h) (k H locs ls h1 h2 h3)
theorem x_aload_n (C : Cx X g l cc mL own ret rm) {n : Fin 4} {v : Nat} (d : decode cc pc = .ok (.aload_n n, 1)) (h : lk lo (n : Nat) = some (.ref v)) (k : V X g kc ks (pc + 1) lo (.ref v :: st) M) : V X g kc ks pc lo st M := fun H locs ls h1 h2 h3 => lv_aload_n C.1 C.2.1 d rfl (lk_at h3 h) (k H locs ls h1 h2 h3)
theorem x_aload (C : Cx X g l cc mL own ret rm) {n : Nat} {v : Nat} (d : decode cc pc = .ok (.aload n, 2)) (h : lk lo n = some (.ref v)) (k : V X g kc ks (pc + 2) lo (.ref v :: st) M) : V X g kc ks pc lo st M := fun H locs ls h1 h2 h3 => lv_aload C.1 C.2.1 d (lk_at h3 h) (k H locs ls h1 h2 h3)
theorem x_lload_n (C : Cx X g l cc mL own ret rm) {n : Fin 4} {v : Int64} (d : decode cc pc = .ok (.lload_n n, 1)) (h : lk lo (n : Nat) = some (.long v)) (k : V X g kc ks (pc + 1) lo (.long v :: st) M) : V X g kc ks pc lo st M := fun H locs ls h1 h2 h3 => lv_lload_n C.1 C.2.1 d rfl (lk_at h3 h) (k H locs ls h1 h2 h3)
theorem x_dload (C : Cx X g l cc mL own ret rm) {n : Nat} {v : UInt64} (d : decode cc pc = .ok (.dload n, 2)) (h : lk lo n = some (.double v)) (k : V X g kc ks (pc + 2) lo (.double v :: st) M) : V X g kc ks pc lo st M := fun H locs ls h1 h2 h3 => lv_dload C.1 C.2.1 d (lk_at h3 h) (k H locs ls h1 h2 h3)
theorem x_istore_n (C : Cx X g l cc mL own ret rm) {n : Fin 4} {v : Int32} (d : decode cc pc = .ok (.istore_n n, 1)) (hn : (n : Nat) < mL) (h : ((n : Nat), Value.int v) :: lo.filter (fun q => !(q.1 == (n : Nat)) && !(q.1 + 1 == (n : Nat) && q.2.category == 2)) = lo') (k : V X g kc ks (pc + 1) lo' st M) : V X g kc ks pc lo (.int v :: st) M := fun H locs ls h1 h2 h3 => lv_istore_n C.1 C.2.1 d rfl h3 (by rw [C.2.2.1]; exact hn) h (fun ls' h4 => k H locs ls' h1 h2 h4)
theorem x_istore (C : Cx X g l cc mL own ret rm) {n : Nat} {v : Int32} (d : decode cc pc = .ok (.istore n, 2)) (hn : n < mL) (h : (n, Value.int v) :: lo.filter (fun q => !(q.1 == n) && !(q.1 + 1 == n && q.2.category == 2)) = lo') (k : V X g kc ks (pc + 2) lo' st M) : V X g kc ks pc lo (.int v :: st) M := fun H locs ls h1 h2 h3 => lv_istore C.1 C.2.1 d h3 (by rw [C.2.2.1]; exact hn) h (fun ls' h4 => k H locs ls' h1 h2 h4)
theorem x_astore_n (C : Cx X g l cc mL own ret rm) {n : Fin 4} {v : Nat} (d : decode cc pc = .ok (.astore_n n, 1)) (hn : (n : Nat) < mL) (h : ((n : Nat), Value.ref v) :: lo.filter (fun q => !(q.1 == (n : Nat)) && !(q.1 + 1 == (n : Nat) && q.2.category == 2)) = lo') (k : V X g kc ks (pc + 1) lo' st M) : V X g kc ks pc lo (.ref v :: st) M := fun H locs ls h1 h2 h3 => lv_astore_n C.1 C.2.1 d rfl h3 (by rw [C.2.2.1]; exact hn) h (fun ls' h4 => k H locs ls' h1 h2 h4)
theorem x_astore (C : Cx X g l cc mL own ret rm) {n : Nat} {v : Nat} (d : decode cc pc = .ok (.astore n, 2)) (hn : n < mL) (h : (n, Value.ref v) :: lo.filter (fun q => !(q.1 == n) && !(q.1 + 1 == n && q.2.category == 2)) = lo') (k : V X g kc ks (pc + 2) lo' st M) : V X g kc ks pc lo (.ref v :: st) M := fun H locs ls h1 h2 h3 => lv_astore C.1 C.2.1 d h3 (by rw [C.2.2.1]; exact hn) h (fun ls' h4 => k H locs ls' h1 h2 h4)
theorem x_lstore_n (C : Cx X g l cc mL own ret rm) {n : Fin 4} {v : Int64} (d : decode cc pc = .ok (.lstore_n n, 1)) (hn : (n : Nat) + 1 < mL) (h : ((n : Nat), Value.long v) :: lo.filter (fun q => !(q.1 == (n : Nat)) && (!(q.1 == (n : Nat) + 1) && !(q.1 + 1 == (n : Nat) && q.2.category == 2))) = lo') (k : V X g kc ks (pc + 1) lo' st M) : V X g kc ks pc lo (.long v :: st) M := fun H locs ls h1 h2 h3 => lv_lstore_n C.1 C.2.1 d rfl h3 (by rw [C.2.2.1]; exact hn) h (fun ls' h4 => k H locs ls' h1 h2 h4)
theorem x_dstore (C : Cx X g l cc mL own ret rm) {n : Nat} {v : UInt64} (d : decode cc pc = .ok (.dstore n, 2)) (hn : n + 1 < mL) (h : (n, Value.double v) :: lo.filter (fun q => !(q.1 == n) && (!(q.1 == n + 1) && !(q.1 + 1 == n && q.2.category == 2))) = lo') (k : V X g kc ks (pc + 2) lo' st M) : V X g kc ks pc lo (.double v :: st) M := fun H locs ls h1 h2 h3 => lv_dstore C.1 C.2.1 d h3 (by rw [C.2.2.1]; exact hn) h (fun ls' h4 => k H locs ls' h1 h2 h4)
theorem x_iinc (C : Cx X g l cc mL own ret rm) {n : Nat} {z : Int} {x v : Int32} (d : decode cc pc = .ok (.iinc n z, 3)) (hk : lk lo n = some (.int x)) (hv : x + Int32.ofInt z = v) (hn : n < mL) (h : (n, Value.int v) :: lo.filter (fun q => !(q.1 == n) && !(q.1 + 1 == n && q.2.category == 2)) = lo') (k : V X g kc ks (pc + 3) lo' st M) : V X g kc ks pc lo st M := fun H locs ls h1 h2 h3 => by
  obtain ⟨q, hq⟩ := lk_idx hk
  exact lv_iinc C.1 C.2.1 d h3 hq hv (by rw [C.2.2.1]; exact hn) h (fun ls' h4 => k H locs ls' h1 h2 h4)
theorem x_iconst (C : Cx X g l cc mL own ret rm) {z : Int} {v : Int32} (d : decode cc pc = .ok (.iconst z, 1)) (hv : Int32.ofInt z = v) (k : V X g kc ks (pc + 1) lo (.int v :: st) M) : V X g kc ks pc lo st M := fun H locs ls h1 h2 h3 => lv_iconst C.1 C.2.1 d hv (k H locs ls h1 h2 h3)
theorem x_bipush (C : Cx X g l cc mL own ret rm) {z : Int} {v : Int32} (d : decode cc pc = .ok (.bipush z, 2)) (hv : (Int8.ofInt z).toInt32 = v) (k : V X g kc ks (pc + 2) lo (.int v :: st) M) : V X g kc ks pc lo st M := fun H locs ls h1 h2 h3 => lv_bipush C.1 C.2.1 d hv (k H locs ls h1 h2 h3)
theorem x_sipush (C : Cx X g l cc mL own ret rm) {z : Int} {v : Int32} (d : decode cc pc = .ok (.sipush z, 3)) (hv : (Int16.ofInt z).toInt32 = v) (k : V X g kc ks (pc + 3) lo (.int v :: st) M) : V X g kc ks pc lo st M := fun H locs ls h1 h2 h3 => lv_sipush C.1 C.2.1 d hv (k H locs ls h1 h2 h3)
theorem x_lconst (C : Cx X g l cc mL own ret rm) {z : Fin 2} {v : Int64} (d : decode cc pc = .ok (.lconst z, 1)) (hv : Int64.ofNat (z : Nat) = v) (k : V X g kc ks (pc + 1) lo (.long v :: st) M) : V X g kc ks pc lo st M := fun H locs ls h1 h2 h3 => lv_lconst C.1 C.2.1 d hv (k H locs ls h1 h2 h3)
theorem x_dconst0 (C : Cx X g l cc mL own ret rm) (d : decode cc pc = .ok (.dconst 0, 1)) (k : V X g kc ks (pc + 1) lo (.double 0 :: st) M) : V X g kc ks pc lo st M := fun H locs ls h1 h2 h3 => lv_dconst0 C.1 C.2.1 d (k H locs ls h1 h2 h3)
theorem x_dup (C : Cx X g l cc mL own ret rm) {v : Value} (d : decode cc pc = .ok (.dup, 1)) (hv : v.category = 1) (k : V X g kc ks (pc + 1) lo (v :: v :: st) M) : V X g kc ks pc lo (v :: st) M := fun H locs ls h1 h2 h3 => lv_dup C.1 C.2.1 d hv (k H locs ls h1 h2 h3)
theorem x_pop (C : Cx X g l cc mL own ret rm) {v : Value} (d : decode cc pc = .ok (.pop, 1)) (hv : v.category = 1) (k : V X g kc ks (pc + 1) lo st M) : V X g kc ks pc lo (v :: st) M := fun H locs ls h1 h2 h3 => lv_pop C.1 C.2.1 d hv (k H locs ls h1 h2 h3)
theorem x_dup2 (C : Cx X g l cc mL own ret rm) {v w : Value} (d : decode cc pc = .ok (.dup2, 1)) (hv : v.category = 1) (hw : w.category = 1) (k : V X g kc ks (pc + 1) lo (v :: w :: v :: w :: st) M) : V X g kc ks pc lo (v :: w :: st) M := fun H locs ls h1 h2 h3 => lv_dup2_11 C.1 C.2.1 d hv hw (k H locs ls h1 h2 h3)
theorem x_iadd (C : Cx X g l cc mL own ret rm) {x y : Int32} (d : decode cc pc = .ok (.iadd, 1)) (k : V X g kc ks (pc + 1) lo (.int (x + y) :: st) M) : V X g kc ks pc lo (.int y :: .int x :: st) M := fun H locs ls h1 h2 h3 => lv_iadd C.1 C.2.1 d (k H locs ls h1 h2 h3)
theorem x_isub (C : Cx X g l cc mL own ret rm) {x y : Int32} (d : decode cc pc = .ok (.isub, 1)) (k : V X g kc ks (pc + 1) lo (.int (x - y) :: st) M) : V X g kc ks pc lo (.int y :: .int x :: st) M := fun H locs ls h1 h2 h3 => lv_isub C.1 C.2.1 d (k H locs ls h1 h2 h3)
theorem x_iand (C : Cx X g l cc mL own ret rm) {x y : Int32} (d : decode cc pc = .ok (.iand, 1)) (k : V X g kc ks (pc + 1) lo (.int (x &&& y) :: st) M) : V X g kc ks pc lo (.int y :: .int x :: st) M := fun H locs ls h1 h2 h3 => lv_iand C.1 C.2.1 d (k H locs ls h1 h2 h3)
theorem x_ladd (C : Cx X g l cc mL own ret rm) {x y : Int64} (d : decode cc pc = .ok (.ladd, 1)) (k : V X g kc ks (pc + 1) lo (.long (x + y) :: st) M) : V X g kc ks pc lo (.long y :: .long x :: st) M := fun H locs ls h1 h2 h3 => lv_ladd C.1 C.2.1 d (k H locs ls h1 h2 h3)
theorem x_lmul (C : Cx X g l cc mL own ret rm) {x y : Int64} (d : decode cc pc = .ok (.lmul, 1)) (k : V X g kc ks (pc + 1) lo (.long (x * y) :: st) M) : V X g kc ks pc lo (.long y :: .long x :: st) M := fun H locs ls h1 h2 h3 => lv_lmul C.1 C.2.1 d (k H locs ls h1 h2 h3)
theorem x_ineg (C : Cx X g l cc mL own ret rm) {x : Int32} (d : decode cc pc = .ok (.ineg, 1)) (k : V X g kc ks (pc + 1) lo (.int (-x) :: st) M) : V X g kc ks pc lo (.int x :: st) M := fun H locs ls h1 h2 h3 => lv_ineg C.1 C.2.1 d (k H locs ls h1 h2 h3)
theorem x_i2l (C : Cx X g l cc mL own ret rm) {x : Int32} (d : decode cc pc = .ok (.i2l, 1)) (k : V X g kc ks (pc + 1) lo (.long x.toInt64 :: st) M) : V X g kc ks pc lo (.int x :: st) M := fun H locs ls h1 h2 h3 => lv_i2l C.1 C.2.1 d rfl (k H locs ls h1 h2 h3)
theorem x_i2d (C : Cx X g l cc mL own ret rm) {x : Int32} (d : decode cc pc = .ok (.i2d, 1)) (k : V X g kc ks (pc + 1) lo (.double (FP.i2d x) :: st) M) : V X g kc ks pc lo (.int x :: st) M := fun H locs ls h1 h2 h3 => lv_i2d C.1 C.2.1 d (k H locs ls h1 h2 h3)
theorem x_ddiv (C : Cx X g l cc mL own ret rm) {x y : UInt64} (d : decode cc pc = .ok (.ddiv, 1)) (hne : vf_n64 (FP.ddiv x y)) (k : V X g kc ks (pc + 1) lo (.double (FP.ddiv x y) :: st) M) : V X g kc ks pc lo (.double y :: .double x :: st) M := fun H locs ls h1 h2 h3 => lv_ddiv C.1 C.2.1 d hne (k H locs ls h1 h2 h3)
theorem x_dcmp (C : Cx X g l cc mL own ret rm) {x y : UInt64} {op : CmpOp} (d : decode cc pc = .ok (.dcmp op, 1)) (k : V X g kc ks (pc + 1) lo (.int (Op.cmpValue (FP.dcmp x y) op) :: st) M) : V X g kc ks pc lo (.double y :: .double x :: st) M := fun H locs ls h1 h2 h3 => lv_dcmp C.1 C.2.1 d (k H locs ls h1 h2 h3)
theorem x_icmp_eq (C : Cx X g l cc mL own ret rm) {x y : Int32} {off : Int} {tgt : Nat} (d : decode cc pc = .ok (.if_icmp .eq off, 3)) (ht : (pc : Int) + off = (tgt : Int)) (kt : x = y → V X g kc ks tgt lo st M) (kf : ¬ (x = y) → V X g kc ks (pc + 3) lo st M) : V X g kc ks pc lo (.int y :: .int x :: st) M := fun H locs ls h1 h2 h3 => lv_icmp_eq C.1 C.2.1 d ht (fun c => kt c H locs ls h1 h2 h3) (fun c => kf c H locs ls h1 h2 h3)
theorem x_icmp_ne (C : Cx X g l cc mL own ret rm) {x y : Int32} {off : Int} {tgt : Nat} (d : decode cc pc = .ok (.if_icmp .ne off, 3)) (ht : (pc : Int) + off = (tgt : Int)) (kt : x ≠ y → V X g kc ks tgt lo st M) (kf : x = y → V X g kc ks (pc + 3) lo st M) : V X g kc ks pc lo (.int y :: .int x :: st) M := fun H locs ls h1 h2 h3 => lv_icmp_ne C.1 C.2.1 d ht (fun c => kt c H locs ls h1 h2 h3) (fun c => kf c H locs ls h1 h2 h3)
theorem x_icmp_lt (C : Cx X g l cc mL own ret rm) {x y : Int32} {off : Int} {tgt : Nat} (d : decode cc pc = .ok (.if_icmp .lt off, 3)) (ht : (pc : Int) + off = (tgt : Int)) (kt : x < y → V X g kc ks tgt lo st M) (kf : ¬ (x < y) → V X g kc ks (pc + 3) lo st M) : V X g kc ks pc lo (.int y :: .int x :: st) M := fun H locs ls h1 h2 h3 => lv_icmp_lt C.1 C.2.1 d ht (fun c => kt c H locs ls h1 h2 h3) (fun c => kf c H locs ls h1 h2 h3)
theorem x_icmp_ge (C : Cx X g l cc mL own ret rm) {x y : Int32} {off : Int} {tgt : Nat} (d : decode cc pc = .ok (.if_icmp .ge off, 3)) (ht : (pc : Int) + off = (tgt : Int)) (kt : x ≥ y → V X g kc ks tgt lo st M) (kf : ¬ (x ≥ y) → V X g kc ks (pc + 3) lo st M) : V X g kc ks pc lo (.int y :: .int x :: st) M := fun H locs ls h1 h2 h3 => lv_icmp_ge C.1 C.2.1 d ht (fun c => kt c H locs ls h1 h2 h3) (fun c => kf c H locs ls h1 h2 h3)
theorem x_icmp_gt (C : Cx X g l cc mL own ret rm) {x y : Int32} {off : Int} {tgt : Nat} (d : decode cc pc = .ok (.if_icmp .gt off, 3)) (ht : (pc : Int) + off = (tgt : Int)) (kt : x > y → V X g kc ks tgt lo st M) (kf : ¬ (x > y) → V X g kc ks (pc + 3) lo st M) : V X g kc ks pc lo (.int y :: .int x :: st) M := fun H locs ls h1 h2 h3 => lv_icmp_gt C.1 C.2.1 d ht (fun c => kt c H locs ls h1 h2 h3) (fun c => kf c H locs ls h1 h2 h3)
theorem x_icmp_le (C : Cx X g l cc mL own ret rm) {x y : Int32} {off : Int} {tgt : Nat} (d : decode cc pc = .ok (.if_icmp .le off, 3)) (ht : (pc : Int) + off = (tgt : Int)) (kt : x ≤ y → V X g kc ks tgt lo st M) (kf : ¬ (x ≤ y) → V X g kc ks (pc + 3) lo st M) : V X g kc ks pc lo (.int y :: .int x :: st) M := fun H locs ls h1 h2 h3 => lv_icmp_le C.1 C.2.1 d ht (fun c => kt c H locs ls h1 h2 h3) (fun c => kf c H locs ls h1 h2 h3)
theorem x_if_eq (C : Cx X g l cc mL own ret rm) {x : Int32} {off : Int} {tgt : Nat} (d : decode cc pc = .ok (.ifCond .eq off, 3)) (ht : (pc : Int) + off = (tgt : Int)) (kt : x = 0 → V X g kc ks tgt lo st M) (kf : ¬ (x = 0) → V X g kc ks (pc + 3) lo st M) : V X g kc ks pc lo (.int x :: st) M := fun H locs ls h1 h2 h3 => lv_if_eq C.1 C.2.1 d ht (fun c => kt c H locs ls h1 h2 h3) (fun c => kf c H locs ls h1 h2 h3)
theorem x_if_ne (C : Cx X g l cc mL own ret rm) {x : Int32} {off : Int} {tgt : Nat} (d : decode cc pc = .ok (.ifCond .ne off, 3)) (ht : (pc : Int) + off = (tgt : Int)) (kt : x ≠ 0 → V X g kc ks tgt lo st M) (kf : x = 0 → V X g kc ks (pc + 3) lo st M) : V X g kc ks pc lo (.int x :: st) M := fun H locs ls h1 h2 h3 => lv_if_ne C.1 C.2.1 d ht (fun c => kt c H locs ls h1 h2 h3) (fun c => kf c H locs ls h1 h2 h3)
theorem x_if_lt (C : Cx X g l cc mL own ret rm) {x : Int32} {off : Int} {tgt : Nat} (d : decode cc pc = .ok (.ifCond .lt off, 3)) (ht : (pc : Int) + off = (tgt : Int)) (kt : x < 0 → V X g kc ks tgt lo st M) (kf : ¬ (x < 0) → V X g kc ks (pc + 3) lo st M) : V X g kc ks pc lo (.int x :: st) M := fun H locs ls h1 h2 h3 => lv_if_lt C.1 C.2.1 d ht (fun c => kt c H locs ls h1 h2 h3) (fun c => kf c H locs ls h1 h2 h3)
theorem x_if_ge (C : Cx X g l cc mL own ret rm) {x : Int32} {off : Int} {tgt : Nat} (d : decode cc pc = .ok (.ifCond .ge off, 3)) (ht : (pc : Int) + off = (tgt : Int)) (kt : x ≥ 0 → V X g kc ks tgt lo st M) (kf : ¬ (x ≥ 0) → V X g kc ks (pc + 3) lo st M) : V X g kc ks pc lo (.int x :: st) M := fun H locs ls h1 h2 h3 => lv_if_ge C.1 C.2.1 d ht (fun c => kt c H locs ls h1 h2 h3) (fun c => kf c H locs ls h1 h2 h3)
theorem x_if_gt (C : Cx X g l cc mL own ret rm) {x : Int32} {off : Int} {tgt : Nat} (d : decode cc pc = .ok (.ifCond .gt off, 3)) (ht : (pc : Int) + off = (tgt : Int)) (kt : x > 0 → V X g kc ks tgt lo st M) (kf : ¬ (x > 0) → V X g kc ks (pc + 3) lo st M) : V X g kc ks pc lo (.int x :: st) M := fun H locs ls h1 h2 h3 => lv_if_gt C.1 C.2.1 d ht (fun c => kt c H locs ls h1 h2 h3) (fun c => kf c H locs ls h1 h2 h3)
theorem x_if_le (C : Cx X g l cc mL own ret rm) {x : Int32} {off : Int} {tgt : Nat} (d : decode cc pc = .ok (.ifCond .le off, 3)) (ht : (pc : Int) + off = (tgt : Int)) (kt : x ≤ 0 → V X g kc ks tgt lo st M) (kf : ¬ (x ≤ 0) → V X g kc ks (pc + 3) lo st M) : V X g kc ks pc lo (.int x :: st) M := fun H locs ls h1 h2 h3 => lv_if_le C.1 C.2.1 d ht (fun c => kt c H locs ls h1 h2 h3) (fun c => kf c H locs ls h1 h2 h3)
theorem x_goto (C : Cx X g l cc mL own ret rm) {off : Int} {tgt : Nat} (d : decode cc pc = .ok (.goto off, 3)) (ht : (pc : Int) + off = (tgt : Int)) (k : V X g kc ks tgt lo st M) : V X g kc ks pc lo st M := fun H locs ls h1 h2 h3 => lv_goto C.1 C.2.1 d ht (k H locs ls h1 h2 h3)
/-- a truth value as an int -/
def b2i (c : Prop) [Decidable c] : Int32 := if c then 1 else 0
theorem b2i_t {c : Prop} [Decidable c] (h : c) : b2i c = 1 := if_pos h
theorem b2i_f {c : Prop} [Decidable c] (h : ¬ c) : b2i c = 0 := if_neg h
theorem b2i_nar (c : Prop) [Decidable c] : narrow .boolean (.int (b2i c)) = .int (b2i c) := by
  by_cases h : c
  · rw [b2i_t h]; rfl
  · rw [b2i_f h]; rfl
theorem x_bif_eq (C : Cx X g l cc mL own ret rm) {c : Prop} [Decidable c] {off : Int} {tgt : Nat} (d : decode cc pc = .ok (.ifCond .eq off, 3)) (ht : (pc : Int) + off = (tgt : Int)) (kt : ¬ c → V X g kc ks tgt lo st M) (kf : c → V X g kc ks (pc + 3) lo st M) : V X g kc ks pc lo (.int (b2i c) :: st) M := by
  refine x_if_eq C d ht (fun h => kt (fun hc => ?_)) (fun h => kf ?_)
  · rw [b2i_t hc] at h; exact absurd h (by decide)
  · by_cases hc : c
    · exact hc
    · exact absurd (b2i_f hc) h
theorem x_bif_ne (C : Cx X g l cc mL own ret rm) {c : Prop} [Decidable c] {off : Int} {tgt : Nat} (d : decode cc pc = .ok (.ifCond .ne off, 3)) (ht : (pc : Int) + off = (tgt : Int)) (kt : c → V X g kc ks tgt lo st M) (kf : ¬ c → V X g kc ks (pc + 3) lo st M) : V X g kc ks pc lo (.int (b2i c) :: st) M := by
  refine x_if_ne C d ht (fun h => kt ?_) (fun h => kf (fun hc => ?_))
  · by_cases hc : c
    · exact hc
    · exact absurd (b2i_f hc) h
  · rw [b2i_t hc] at h; exact absurd h (by decide)
/-- fewer locals, in any order -/
theorem x_lsub (ks' : List Nat) (hl : lv_pick lo ks' = lo') (k : V X g kc ks pc lo' st M) : V X g kc ks pc lo st M := fun H locs ls h1 h2 h3 => k H locs ls h1 h2 (lv_sub h3 ks' hl)
theorem x_mem {M' : Mem} (h : M = M') (k : V X g kc ks pc lo st M') : V X g kc ks pc lo st M := h ▸ k
theorem x_widen {kc' ks' : Nat} (h1 : kc ≤ kc') (h2 : ks ≤ ks') (k : V X g kc' ks' pc lo st M) : V X g kc ks pc lo st M := fun H locs ls a b c => W.widen h1 h2 (k H locs ls a b c)
end RULES
end
section
/-! Rules: fields, arrays, calls, ends. -/
theorem xlen_le (k : Nat) : xlen k ≤ 187 := by
  by_cases h : k < 39
  · have : ∀ k, k < 39 → xlen k ≤ 187 := by decide +kernel
    exact this k h
  · have : xlen k = 0 := by
      unfold xlen
      rw [List.getD_eq_getElem?_getD, List.getElem?_eq_none (by simp; omega)]
      rfl
    omega
def CI (ci : Nat) (Cn : String) (T : u_T) (N : Nat) : Prop := vwCl[ci]? = some (Cn, T, N) ∧ ci < 3 ∧ (∃ ty0 : Nat → FieldType, ∀ k, k < N → parseFieldDescriptor (T k).2.2.1 = some (ty0 k)) ∧ (∀ a, a < N → ∀ b, b < N → a ≠ b → (T a).2.1 ≠ (T b).2.1) ∧ ∀ w ∈ u_ws Cn T N, w ∈ lw_tbl ∧ xw w = true
theorem ci0 : CI 0 RX0 TX0 19 := ⟨rfl, by decide, ⟨tyX0, tyX0_ok⟩, nmX0, fun w h => ⟨inX0 w h, (by decide +kernel : ∀ w ∈ wsX00, xw w = true) w h⟩⟩
theorem ci1 : CI 1 RX1 TX1 2 := ⟨rfl, by decide, ⟨tyX1, tyX1_ok⟩, nmX1, fun w h => ⟨inX1 w h, (by decide +kernel : ∀ w ∈ wsX10, xw w = true) w h⟩⟩
theorem ci2 : CI 2 RX2 TX2 10 := ⟨rfl, by decide, ⟨tyX2, tyX2_ok⟩, nmX2, fun w h => ⟨inX2 w h, (by decide +kernel : ∀ w ∈ wsX20, xw w = true) w h⟩⟩
/-- a field's entry in the pool of the class own: which class, which slot -/
def FL (own : String) (idx ci j : Nat) : Prop := ∃ (Cn : String) (T : u_T) (N : Nat), CI ci Cn T N ∧ j < N ∧ (T j).1 = Cn ∧ ((∃ i : Nat, lw_tbl[i]? = some (.fieldLink own idx Cn (T j).2.1 (T j).2.2.1)) ∨ ∃ (i : Nat) (h : String), lw_tbl[i]? = some (.fieldLinkNest own idx Cn (T j).2.1 (T j).2.2.1 h))
/-- .. of an int that isn't final -/
def FLI (own : String) (idx ci j : Nat) : Prop := ∃ (Cn : String) (T : u_T) (N : Nat), CI ci Cn T N ∧ j < N ∧ (T j).1 = Cn ∧ ((∃ i : Nat, lw_tbl[i]? = some (.fieldLink own idx Cn (T j).2.1 (T j).2.2.1)) ∨ ∃ (i : Nat) (h : String), lw_tbl[i]? = some (.fieldLinkNest own idx Cn (T j).2.1 (T j).2.2.1 h)) ∧ (T j).2.2.2 = false ∧ parseFieldDescriptor (T j).2.2.1 = some .int
theorem FLI.fl {own : String} {idx ci j : Nat} (h : FLI own idx ci j) : FL own idx ci j := by
  obtain ⟨Cn, T, N, h1, h2, h3, h4, -⟩ := h
  exact ⟨Cn, T, N, h1, h2, h3, h4⟩
section RULES2
variable {X : XT} {g : GT} {l : Launch} {cc : ByteArray} {mL : Nat} {own : String} {ret : Option FieldType} {rm : Room} {kc ks pc : Nat} {lo lo' : List (Nat × Value)} {st : List Value} {M : Mem}
theorem Cx.w (C : Cx X g l cc mL own ret rm) {w : Cond} {i : Nat} (h : lw_tbl[i]? = some w) (hx : xw w = true) : w.before (xA X) (xS X) = true := xw_at (State.WarmedH.refl _) hx (C.2.2.2.2.1.1 w (List.mem_of_getElem? h) hx)
theorem Cx.wm (C : Cx X g l cc mL own ret rm) {w : Cond} (h : w ∈ lw_tbl) (hx : xw w = true) : w.before (xA X) (xS X) = true := xw_at (State.WarmedH.refl _) hx (C.2.2.2.2.1.1 w h hx)
theorem Cx.lt (C : Cx X g l cc mL own ret rm) {k : Nat} (h : k < 38) : k < gn g := Nat.lt_of_lt_of_le h C.2.2.2.2.1.2.2.2.2.2.2.1
theorem Cx.D (C : Cx X g l cc mL own ret rm) (M : Mem) : va_D (gA g) (wl g M) := C.2.2.2.2.1.wdD M
theorem x_getF (C : Cx X g l cc mL own ret rm) {idx ci j k : Nat} {v : Value} (hf : FL own idx ci j) (hk : xk k = ci) (hn : k < 38) (hv : (xfl (ga g) (M k) (xrow k) 0)[j]? = some v) (d : decode cc pc = .ok (.getfield idx, 3)) (kk : V X g kc ks (pc + 3) lo (v :: st) M) : V X g kc ks pc lo (.ref (ga g k) :: st) M := by
  intro H locs ls h1 h2 h3
  obtain ⟨Cn, T, N, hc, hj, hT, hl⟩ := hf
  have hK := C.2.2.2.2.1
  have hts : ∀ w ∈ u_ws Cn T N, w.before (xA X) (xS X) = true := fun w hw => C.wm (hc.2.2.2.2 w hw).1 (hc.2.2.2.2 w hw).2
  have hat := wl_at g M (C.lt hn)
  rw [xe_O g (M k) hk hc.2.1] at hat
  have hs : ∀ x, (xS X).fieldFound? (T j).1 (T j).2.1 (T j).2.2.1 = some x → (xS X).fieldFound? Cn (T j).2.1 (T j).2.2.1 = some x := fun x hx => by rw [hT] at hx; exact hx
  rcases hl with ⟨i, hl⟩ | ⟨i, h, hl⟩
  · exact va_get C.1 C.2.1 hts (fun _ h => h) C.2.2.2.1 hK.2.1 h1 k hat hc.1 j hj (C.w hl rfl) hs hv d (kk H locs ls h1 h2 h3)
  · exact va_getN C.1 C.2.1 hts (fun _ h => h) C.2.2.2.1 hK.2.1 h1 k hat hc.1 j hj (C.w hl rfl) hs hv d (kk H locs ls h1 h2 h3)
theorem x_getR (C : Cx X g l cc mL own ret rm) {idx ci j k t : Nat} (hf : FL own idx ci j) (hk : xk k = ci) (hn : k < 38) (hr : (xrow k)[j]? = some (some t)) (d : decode cc pc = .ok (.getfield idx, 3)) (kk : V X g kc ks (pc + 3) lo (.ref (ga g t) :: st) M) : V X g kc ks pc lo (.ref (ga g k) :: st) M :=
  x_getF C hf hk hn (xfl_ref _ _ _ 0 j t hr) d kk
theorem x_getI (C : Cx X g l cc mL own ret rm) {idx ci j k : Nat} (hf : FLI own idx ci j) (hk : xk k = ci) (hn : k < 38) (hr : (xrow k)[j]? = some none) (d : decode cc pc = .ok (.getfield idx, 3)) (kk : V X g kc ks (pc + 3) lo (.int (M k j) :: st) M) : V X g kc ks pc lo (.ref (ga g k) :: st) M :=
  x_getF C hf.fl hk hn (by rw [xfl_int _ _ _ 0 j hr, Nat.zero_add]) d kk
theorem x_putI (C : Cx X g l cc mL own ret rm) {idx ci j k : Nat} {v : Int32} (hf : FLI own idx ci j) (hk : xk k = ci) (hn : k < 38) (hr : (xrow k)[j]? = some none) (d : decode cc pc = .ok (.putfield idx, 3)) (kk : V X g kc ks (pc + 3) lo st (wr M k j v)) : V X g kc ks pc lo (.int v :: .ref (ga g k) :: st) M := by
  intro H locs ls h1 h2 h3
  obtain ⟨Cn, T, N, hc, hj, hT, hl, hfin, hd⟩ := hf
  have hK := C.2.2.2.2.1
  have hts : ∀ w ∈ u_ws Cn T N, w.before (xA X) (xS X) = true := fun w hw => C.wm (hc.2.2.2.2 w hw).1 (hc.2.2.2.2 w hw).2
  have hat := wl_at g M (C.lt hn)
  rw [xe_O g (M k) hk hc.2.1] at hat
  have hs : ∀ x, (xS X).fieldFound? (T j).1 (T j).2.1 (T j).2.2.1 = some x → (xS X).fieldFound? Cn (T j).2.1 (T j).2.2.1 = some x := fun x hx => by rw [hT] at hx; exact hx
  have hset : (wl g M).set k (ga g k, .inr (ci, (xfl (ga g) (M k) (xrow k) 0).set j (.int v))) = wl g (wr M k j v) := by
    rw [xfl_set _ _ v _ 0 j hr, Nat.zero_add, wl_set g M (upd (M k) j v) (xe_O g _ hk hc.2.1).symm]
    rfl
  have hlen : j < (xfl (ga g) (M k) (xrow k) 0).length := by rw [xfl_len]; exact (List.getElem?_eq_some_iff.mp hr).1
  obtain ⟨ty0, hty⟩ := hc.2.2.1
  rcases hl with ⟨i, hl⟩ | ⟨i, h, hl⟩
  · exact va_put C.1 C.2.1 hts (fun _ h => h) ty0 hty hc.2.2.2.1 C.2.2.2.1 hK.2.1 h1 (C.D M) h2 k hat hc.1 j hj (C.w hl rfl) hs hfin hd rfl rfl hlen d (fun H1 locs1 p1 _ p3 => kk H1 locs1 ls (by rw [hset] at p1; exact p1) p3 h3)
  · exact va_putN C.1 C.2.1 hts (fun _ h => h) ty0 hty hc.2.2.2.1 C.2.2.2.1 hK.2.1 h1 (C.D M) h2 k hat hc.1 j hj (C.w hl rfl) hs hfin hd rfl rfl hlen d (fun H1 locs1 p1 _ p3 => kk H1 locs1 ls (by rw [hset] at p1; exact p1) p3 h3)
theorem x_ialdG (C : Cx X g l cc mL own ret rm) {k n j : Nat} {i : Int32} (hk : xk k = 3) (hn : k < gn g) (hl : xlen k = n) (hi : i = nI j) (hj : j < n) (d : decode cc pc = .ok (.iaload, 1)) (kk : V X g kc ks (pc + 1) lo (.int (M k j) :: st) M) : V X g kc ks pc lo (.int i :: .ref (ga g k) :: st) M := by
  intro H locs ls h1 h2 h3
  subst hi; subst hl
  have hK := C.2.2.2.2.1
  have hle := xlen_le k
  have hat := wl_at g M hn
  rw [xe_I g (M k) hk] at hat
  refine va_iald C.1 C.2.1 hK.2.1 h1 k 0 hat rfl (vp_in_nI hj (by omega)) d ?_
  rw [nI_clamp (by omega)]
  exact kk H locs ls h1 h2 h3
theorem x_iald (C : Cx X g l cc mL own ret rm) {k n j : Nat} {i : Int32} (hk : xk k = 3) (hn : k < 38) (hl : xlen k = n) (hi : i = nI j) (hj : j < n) (d : decode cc pc = .ok (.iaload, 1)) (kk : V X g kc ks (pc + 1) lo (.int (M k j) :: st) M) : V X g kc ks pc lo (.int i :: .ref (ga g k) :: st) M := x_ialdG C hk (C.lt hn) hl hi hj d kk
theorem x_iastG (C : Cx X g l cc mL own ret rm) {k n j : Nat} {i v : Int32} (hk : xk k = 3) (hn : k < gn g) (hl : xlen k = n) (hi : i = nI j) (hj : j < n) (d : decode cc pc = .ok (.iastore, 1)) (kk : V X g kc ks (pc + 1) lo st (wr M k j v)) : V X g kc ks pc lo (.int v :: .int i :: .ref (ga g k) :: st) M := by
  intro H locs ls h1 h2 h3
  subst hi; subst hl
  have hK := C.2.2.2.2.1
  have hle := xlen_le k
  have hat := wl_at g M hn
  rw [xe_I g (M k) hk] at hat
  refine va_iast C.1 C.2.1 hK.2.1 h1 (C.D M) h2 k 0 hat rfl (vp_in_nI hj (by omega)) d (fun H1 locs1 p1 _ p3 => ?_)
  rw [nI_clamp (by omega), wl_set g M (upd (M k) j v) (xe_I g _ hk).symm] at p1
  exact kk H1 locs1 ls p1 p3 h3
theorem x_iast (C : Cx X g l cc mL own ret rm) {k n j : Nat} {i v : Int32} (hk : xk k = 3) (hn : k < 38) (hl : xlen k = n) (hi : i = nI j) (hj : j < n) (d : decode cc pc = .ok (.iastore, 1)) (kk : V X g kc ks (pc + 1) lo st (wr M k j v)) : V X g kc ks pc lo (.int v :: .int i :: .ref (ga g k) :: st) M := x_iastG C hk (C.lt hn) hl hi hj d kk
theorem x_bald (C : Cx X g l cc mL own ret rm) {k n j : Nat} {i : Int32} (hk : xk k = 4) (hn : k < 38) (hl : xlen k = n) (hi : i = nI j) (hj : j < n) (d : decode cc pc = .ok (.baload, 1)) (kk : V X g kc ks (pc + 1) lo (.int (M k j) :: st) M) : V X g kc ks pc lo (.int i :: .ref (ga g k) :: st) M := by
  intro H locs ls h1 h2 h3
  subst hi; subst hl
  have hK := C.2.2.2.2.1
  have hle := xlen_le k
  have hat := wl_at g M (C.lt hn)
  rw [xe_Z g (M k) hk] at hat
  refine va_zald C.1 C.2.1 hK.2.1 h1 k 1 hat rfl (vp_in_nI hj (by omega)) d ?_
  rw [nI_clamp (by omega)]
  exact kk H locs ls h1 h2 h3
theorem x_bast (C : Cx X g l cc mL own ret rm) {k n j : Nat} {i v v' : Int32} (hk : xk k = 4) (hn : k < 38) (hl : xlen k = n) (hi : i = nI j) (hj : j < n) (hv : vp_nar .boolean v = v') (d : decode cc pc = .ok (.bastore, 1)) (kk : V X g kc ks (pc + 1) lo st (wr M k j v')) : V X g kc ks pc lo (.int v :: .int i :: .ref (ga g k) :: st) M := by
  intro H locs ls h1 h2 h3
  subst hi; subst hl; subst hv
  have hK := C.2.2.2.2.1
  have hle := xlen_le k
  have hat := wl_at g M (C.lt hn)
  rw [xe_Z g (M k) hk] at hat
  refine va_zast C.1 C.2.1 hK.2.1 h1 (C.D M) h2 k 1 hat rfl (vp_in_nI hj (by omega)) d (fun H1 locs1 p1 _ p3 => ?_)
  rw [nI_clamp (by omega), wl_set g M (upd (M k) j (vp_nar .boolean v)) (xe_Z g _ hk).symm] at p1
  exact kk H1 locs1 ls p1 p3 h3
theorem x_lald (C : Cx X g l cc mL own ret rm) {k n j : Nat} {i : Int32} (hk : xk k = 5) (hn : k < 38) (hl : xlen k = n) (hi : i = nI j) (hj : j < n) (d : decode cc pc = .ok (.laload, 1)) (kk : V X g kc ks (pc + 1) lo (.long (M k j).toInt64 :: st) M) : V X g kc ks pc lo (.int i :: .ref (ga g k) :: st) M := by
  intro H locs ls h1 h2 h3
  subst hi; subst hl
  have hK := C.2.2.2.2.1
  have hle := xlen_le k
  have hat := wl_at g M (C.lt hn)
  rw [xe_J g (M k) hk] at hat
  refine va_lald C.1 C.2.1 hK.2.1 h1 k 2 hat rfl (vp_in_nI hj (by omega)) d ?_
  rw [nI_clamp (by omega)]
  exact kk H locs ls h1 h2 h3
theorem x_last (C : Cx X g l cc mL own ret rm) {k n j : Nat} {i v : Int32} (hk : xk k = 5) (hn : k < 38) (hl : xlen k = n) (hi : i = nI j) (hj : j < n) (d : decode cc pc = .ok (.lastore, 1)) (kk : V X g kc ks (pc + 1) lo st (wr M k j v)) : V X g kc ks pc lo (.long v.toInt64 :: .int i :: .ref (ga g k) :: st) M := by
  intro H locs ls h1 h2 h3
  subst hi; subst hl
  have hK := C.2.2.2.2.1
  have hle := xlen_le k
  have hat := wl_at g M (C.lt hn)
  rw [xe_J g (M k) hk] at hat
  refine va_last C.1 C.2.1 hK.2.1 h1 (C.D M) h2 k 2 hat rfl (vp_in_nI hj (by omega)) d (fun H1 locs1 p1 _ p3 => ?_)
  have e : (Sum.inl (gJ g, xlen k, Sum.inr (Sum.inl (vp_updL (fun j => (M k j).toInt64) (nI j).toNatClampNeg v.toInt64))) : va_E) = xe g (upd (M k) j v) k := by
    rw [xe_J g _ hk, nI_clamp (by omega)]
    congr 5
    funext q
    unfold vp_updL upd
    by_cases hq : q = j
    · rw [if_pos hq, if_pos hq]
    · rw [if_neg hq, if_neg hq]
  rw [wl_set g M (upd (M k) j v) e] at p1
  exact kk H1 locs1 ls p1 p3 h3
theorem x_alen (C : Cx X g l cc mL own ret rm) {k n : Nat} (hk : xk k = 3) (hn : k < gn g) (hl : xlen k = n) (d : decode cc pc = .ok (.arraylength, 1)) (kk : V X g kc ks (pc + 1) lo (.int (nI n) :: st) M) : V X g kc ks pc lo (.ref (ga g k) :: st) M := by
  intro H locs ls h1 h2 h3
  subst hl
  have hK := C.2.2.2.2.1
  have hat := wl_at g M hn
  rw [xe_I g (M k) hk] at hat
  exact va_alen C.1 C.2.1 hK.2.1 h1 k 0 hat rfl rfl d (kk H locs ls h1 h2 h3)
/-- a row's first n places out of another -/
def cpn (f h : Nat → Int32) (n : Nat) : Nat → Int32 := fun j => if j < n then f j else h j
theorem x_acopy (C : Cx X g l cc mL own ret rm) {idx a b i : Nat} {n : Int32} {N : Nat} (hl : lw_tbl[i]? = some (.methodLink own idx arraycopyName)) (hk1 : xk a = 3) (hk2 : xk b = 3) (hn1 : a < 38) (hn2 : b < 38) (hN : xlen a = N) (hN2 : xlen b = N) (hi : n = nI N) (hR : 1 ≤ rm.frames ∧ (st.map fun v => v.category).sum + (nativeFrameWords "java/lang/System" "arraycopy" 5 + 11) ≤ rm.locals) (d : decode cc pc = .ok (.invokestatic idx, 3)) (kk : V X g kc ks (pc + 3) lo st (wrc M b (cpn (M a) (M b) N))) : V X g kc ks pc lo (.int n :: .int 0 :: .ref (ga g b) :: .int 0 :: .ref (ga g a) :: st) M := by
  intro H locs ls h1 h2 h3
  subst hi
  have hK := C.2.2.2.2.1
  have hle := xlen_le a
  have hat := wl_at g M (C.lt hn1)
  rw [xe_I g (M a) hk1, hN] at hat
  have hbt := wl_at g M (C.lt hn2)
  rw [xe_I g (M b) hk2, hN2] at hbt
  have hc : (nI N).toNatClampNeg = N := nI_clamp (by omega)
  have hn0 : ¬ nI N < 0 := nI_pos (by omega)
  have w1 : (Cond.native arraycopyName) ∈ lw_tbl := by decide +kernel
  have w2 : (Cond.static arraycopyName) ∈ lw_tbl := by decide +kernel
  have w3 : (Cond.initialized "java/lang/System") ∈ lw_tbl := by decide +kernel
  have hR' := C.2.2.2.2.2.2.2.2.1
  refine va_copyi C.1 C.2.1 h3.1.symm C.2.2.2.1 (C.w hl rfl) (C.wm w1 rfl) (C.wm w2 rfl) (C.wm w3 rfl) hK.2.1 h1 (C.D M) h2 a b 0 0 (ty := .int) hat hbt rfl rfl rfl (sp := 0) (dp := 0) (n := nI N) (by decide) (by decide) hn0 ?_ ?_ (fun i _ => rfl) (by rw [hR']; exact hR.1) (by rw [hR']; exact hR.2) d (fun H1 locs1 p1 _ p3 => ?_)
  · rw [hc]; exact Nat.le_of_eq (Nat.zero_add N)
  · rw [hc]; exact Nat.le_of_eq (Nat.zero_add N)
  have e : (Sum.inl (gI g, N, Sum.inl (va_cpy (M a) (M b) (0 : Int32).toNatClampNeg (0 : Int32).toNatClampNeg (nI N).toNatClampNeg)) : va_E) = xe g (cpn (M a) (M b) N) b := by
    rw [xe_I g _ hk2, hc, hN2]
    congr 4
    funext q
    unfold va_cpy cpn
    show (if 0 ≤ q ∧ q < 0 + N then M a (0 + (q - 0)) else M b q) = _
    by_cases hq : q < N
    · rw [if_pos ⟨Nat.zero_le q, by omega⟩, if_pos hq, Nat.zero_add, Nat.sub_zero]
    · rw [if_neg (fun z => hq (by omega)), if_neg hq]
  rw [wl_set g M _ e] at p1
  exact kk H1 locs1 ls p1 p3 h3
theorem x_max (C : Cx X g l cc mL own ret rm) {idx i : Nat} {x y : Int32} (hl : lw_tbl[i]? = some (.methodLink own idx Lib.Math.max.name)) (hR : 1 ≤ rm.frames ∧ (st.map fun v => v.category).sum + 13 ≤ rm.locals ∧ kc ≤ rm.cells ∧ ks ≤ rm.slots) (d : decode cc pc = .ok (.invokestatic idx, 3)) (kk : V X g kc ks (pc + 3) lo (.int (if x < y then y else x) :: st) M) : V X g kc ks pc lo (.int y :: .int x :: st) M := by
  intro H locs ls h1 h2 h3
  have w1 : (Cond.static Lib.Math.max.name) ∈ lw_tbl := by decide +kernel
  have w2 : (Cond.initialized "java/lang/Math") ∈ lw_tbl := by decide +kernel
  have w3 : (Cond.code Lib.Math.max.name Lib.Math.max.code 2 (some .int)) ∈ lw_tbl := by decide +kernel
  have hR' := C.2.2.2.2.2.2.2.2.1
  exact va_mmax C.1 C.2.1 h3.1.symm C.2.2.2.1 (C.w hl rfl) (C.wm w1 rfl) (C.wm w2 rfl) (C.wm w3 rfl) (by rw [hR']; exact hR.1) (by rw [hR']; exact hR.2.1) (by rw [hR']; exact hR.2.2.1) (by rw [hR']; exact hR.2.2.2) d (kk H locs ls h1 h2 h3)
end RULES2
end
section
/-! Contracts, calls, ends. -/
def QC (g : GT) (res : Option Value) (M' : Mem) : Array Value → State → Outcome → State → Prop := fun _ st oc t => (oc = .returned res ∧ Hd g M' t.heap) ∧ va_F (gA g) st t
def PC (g : GT) (M : Mem) (as : List Value) : Array Value → State → Prop := va_Pc as (fun U => GK g U ∧ GH g U U.heap ∧ Hd g M U.heap)
/-- from the memory M, with these arguments, the method returns res, the memory is M' -/
def CM (l : Launch) (y : MethodName) (bs : ByteArray) (mL : Nat) (ret : Option FieldType) (rm : Room) (g : GT) (M : Mem) (as : List Value) (res : Option Value) (M' : Mem) : Prop :=
  Met l y [.code y bs mL ret] rm (PC g M as) (QC g res M') rm.cells rm.slots (gA g)
/-- .. it throws an E, the memory stays -/
def QX (g : GT) (M : Mem) (E : String) : String → State → State → Prop := fun E' st t => E' = E ∧ Hd g M t.heap ∧ va_F (gA g) st t
def QN : Array Value → State → Outcome → State → Prop := fun _ _ _ _ => False
def CE (l : Launch) (y : MethodName) (bs : ByteArray) (mL : Nat) (ret : Option FieldType) (rm : Room) (g : GT) (M : Mem) (as : List Value) (E : String) : Prop :=
  vx_Met l y [.code y bs mL ret] rm (PC g M as) QN (QX g M E) rm.cells rm.slots (gA g)
def Rt (X : XT) (g : GT) (rm : Room) (res : Option Value) (M' : Mem) : Prop := xQ X = MQ (xB X) (QC g res M') (xA X) (xS X) rm.cells rm.slots (gA g)
def Re (X : XT) (g : GT) (rm : Room) (M : Mem) (E : String) : Prop := xQ X = vx_MQ (xB X) QN (QX g M E) (xA X) (xS X) rm.cells rm.slots (gA g) ∧ ∀ x ∈ (xC X).exceptionTable.toList, False
theorem CM.of {l : Launch} {y : MethodName} {bs : ByteArray} {mL : Nat} {ret : Option FieldType} {rm : Room} {g : GT} {M : Mem} {as : List Value} {res : Option Value} {M' : Mem} (hy : plainName y.cls = true) (hf : (lg_sl as).length ≤ mL)
    (h : ∀ X : XT, Cx X g l bs mL y.cls ret rm → Rt X g rm res M' → V X g 0 0 0 (lv_args 0 as) [] M) : CM l y bs mL ret rm g M as res M' := by
  refine Met.ofW (cc := bs) (maxL := mL) (ret := ret) hy rfl ?_
  intro p e s m args below meth c s₁ B hml hv
  obtain ⟨rfl, hK, hH, hP⟩ := hv
  have k := h (p, l, e, rm, s, m, as.toArray, below, meth, c, MQ below (QC g res M') as.toArray s rm.cells rm.slots (gA g)) ⟨B.exec, B.bytes, hml, findClass_of_methodNamed B.named, hK, hH, B.notSynchronized, B.returns, rfl, rfl⟩ rfl
  have hl := lv_entry as (n := mL) hf
  rw [lg_entry_eq]
  exact k s.heap [] _ hP va_S.rf (by rw [show (xC (p, l, e, rm, s, m, as.toArray, below, meth, c, MQ below (QC g res M') as.toArray s rm.cells rm.slots (gA g))).maxLocals = mL from hml]; exact hl)
theorem CE.of {l : Launch} {y : MethodName} {bs : ByteArray} {mL : Nat} {ret : Option FieldType} {rm : Room} {g : GT} {M : Mem} {as : List Value} {E : String} (hy : plainName y.cls = true) (hf : (lg_sl as).length ≤ mL)
    (h : ∀ X : XT, Cx X g l bs mL y.cls ret rm → Re X g rm M E → V X g 0 0 0 (lv_args 0 as) [] M) : CE l y bs mL ret rm g M as E := by
  refine vx_ofW (cc := bs) (maxL := mL) (ret := ret) hy rfl ?_
  intro p e s m args below meth c s₁ B hml ht hv
  obtain ⟨rfl, hK, hH, hP⟩ := hv
  have k := h (p, l, e, rm, s, m, as.toArray, below, meth, c, vx_MQ below QN (QX g M E) as.toArray s rm.cells rm.slots (gA g)) ⟨B.exec, B.bytes, hml, findClass_of_methodNamed B.named, hK, hH, B.notSynchronized, B.returns, rfl, rfl⟩ ⟨rfl, ht⟩
  have hl := lv_entry as (n := mL) hf
  rw [lg_entry_eq]
  exact k s.heap [] _ hP va_S.rf (by rw [show (xC (p, l, e, rm, s, m, as.toArray, below, meth, c, vx_MQ below QN (QX g M E) as.toArray s rm.cells rm.slots (gA g))).maxLocals = mL from hml]; exact hl)
/-- entries of the pool that name a method; kind: 0 static, 1 virtual, 2 static of a nest mate, 3 private of a nest mate -/
def hdN (y : MethodName) (n : Nat) : Prop := y.cls ≠ "java/lang/invoke/MethodHandle" ∧ y.cls ≠ "java/lang/invoke/VarHandle" ∧ (parseMethodDescriptor y.desc).map (fun d => d.parameters.length) = some n
def CD (y : MethodName) (bs : ByteArray) (mL : Nat) (ret : Option FieldType) (n : Nat) : Prop := (∃ i : Nat, lw_tbl[i]? = some (.code y bs mL ret)) ∧ (Cond.initialized y.cls) ∈ lw_tbl ∧ hdN y n
def KS (own : String) (idx : Nat) (y : MethodName) : Prop := (∃ i : Nat, lw_tbl[i]? = some (.methodLink own idx y)) ∧ ∃ i : Nat, lw_tbl[i]? = some (.static y)
def KSN (own : String) (idx : Nat) (y : MethodName) : Prop := (∃ (i : Nat) (h : String), lw_tbl[i]? = some (.methodLinkNest own idx y h)) ∧ ∃ i : Nat, lw_tbl[i]? = some (.static y)
def KV (own : String) (idx : Nat) (y : MethodName) : Prop := (∃ i : Nat, lw_tbl[i]? = some (.methodLink own idx y)) ∧ (∃ i : Nat, lw_tbl[i]? = some (.instanceMethod y)) ∧ ∃ i : Nat, lw_tbl[i]? = some (.selects y.cls y y)
def KVN (own : String) (idx : Nat) (y : MethodName) : Prop := (∃ (i : Nat) (h : String), lw_tbl[i]? = some (.methodLinkNest own idx y h)) ∧ (∃ i : Nat, lw_tbl[i]? = some (.instanceMethod y)) ∧ ∃ i : Nat, lw_tbl[i]? = some (.selects y.cls y y)
section RULES3
variable {X : XT} {g : GT} {l : Launch} {cc : ByteArray} {mL : Nat} {own : String} {ret : Option FieldType} {rm : Room} {kc ks pc : Nat} {lo lo' : List (Nat × Value)} {st st0 : List Value} {M M' : Mem}
variable {y : MethodName} {bs' : ByteArray} {mL' n idx k : Nat} {ret' : Option FieldType} {rm' : Room} {as : List Value} {res : Option Value}
theorem code_good (y : MethodName) (bs : ByteArray) (mL : Nat) (ret : Option FieldType) : GoodIn [Cond.code y bs mL ret] [Cond.code y bs mL ret] := fun w h => ⟨h, by rw [List.mem_singleton.mp h]; exact Or.inl rfl⟩
theorem PC.blind : FrameBlind (PC g M as) := fun a U f mk q => ⟨q.1, GK.blind f mk a q.2.1, GH.moved (Vm.Alike.refl U.vm) q.2.2.1, q.2.2.2⟩
theorem pcAt (C : Cx X g l cc mL own ret rm) {H : Heap} {locs : List Loc} (h1 : Hd g M H) (h2 : va_S (gA g) (xS X).heap H locs) : ∀ U : State, U.heap = H → (xS X).WarmedH U.vm → PC g M as as.toArray U := by
  intro U hU hW
  refine ⟨rfl, GK.warm hW C.2.2.2.2.1, ?_, by rw [hU]; exact h1⟩
  rw [hU]
  exact (GH.moved hW.alike C.2.2.2.2.2.1).kept h2.1 h2.2.1
def Rm (rm' rm : Room) (mL' kc ks : Nat) : Prop := (rm'.frames + 1 ≤ rm.frames ∧ 8 + (mL' + 11) + rm'.locals ≤ rm.locals) ∧ kc + rm'.cells ≤ rm.cells ∧ ks + rm'.slots ≤ rm.slots
/-- what follows a run of a callee that returns -/
theorem x_ran {H : Heap} {locs : List Loc} {ls : Array Slot} {a : Array Value} (hr : va_Run (xP X) (xL X) (xE X) (xR X) (xS X) (xM X) (xA X) (xB X) (xMe X) (xC X) H locs kc ks rm'.cells rm'.slots (F0 (xM X) pc ls st0) st (QC g res M' a) (gA g)) (h2 : va_S (gA g) (xS X).heap H locs) (h3 : lv_has ls (xC X).maxLocals lo)
    (kk : V X g (kc + rm'.cells) (ks + rm'.slots) (pc + 3) lo (res.toList ++ st) M') : xW X H locs kc ks (F0 (xM X) pc ls st0) := by
  intro T hT Xs
  obtain ⟨v, st₀, t, T', L, h0, X', hL, e1, e2, ⟨⟨hv, hP⟩, hz, hk⟩, hgo⟩ := hr T hT Xs
  cases hv
  rw [h0] at hz hk
  have h2' : va_S (gA g) (xS X).heap T'.heap (locs ++ L) := ⟨Nat.le_trans h2.1 (by rw [e1]; exact hz), fun q a1 a2 => by rw [e1, hk q (Nat.lt_of_lt_of_le a1 h2.1) a2]; exact h2.2.1 q a1 a2, fun q hq => by
      rcases List.mem_append.mp hq with h | h
      · exact h2.2.2 q h
      · exact hL q h⟩
  obtain ⟨t2, a1, b1⟩ := kk T'.heap (locs ++ L) ls (by rw [e1]; exact hP) h2' h3 T' rfl X'
  exact ⟨t2, hgo t2 a1, b1⟩
theorem x_callS (C : Cx X g l cc mL own ret rm) (hM : CM l y bs' mL' ret' rm' g M as res M') (hc : CD y bs' mL' ret' n) (hl : KS own idx y) (hn : as.length = n) (hst : st0 = as.reverse ++ st) (hR : Rm rm' rm mL' kc ks) (hW : (st.map fun v => v.category).sum ≤ 8) (d : decode cc pc = .ok (.invokestatic idx, 3))
    (kk : V X g (kc + rm'.cells) (ks + rm'.slots) (pc + 3) lo (res.toList ++ st) M') : V X g kc ks pc lo st0 M := by
  intro H locs ls h1 h2 h3
  obtain ⟨⟨i, hcd⟩, hini, hd⟩ := hc
  obtain ⟨⟨i1, hl1⟩, i2, hl2⟩ := hl
  have hR' : xR X = rm := C.2.2.2.2.2.2.2.2.1
  have hl' : xL X = l := C.2.2.2.2.2.2.2.2.2
  subst hl'
  refine x_ran (va_runS (As := as) (rest := st) (Ts := [Cond.code y bs' mL' ret']) ⟨C.1, C.2.1, rfl, C.2.2.2.1, fun w hw => ?_⟩ hM ⟨callB_of (Ts := [Cond.code y bs' mL' ret']) n (fun w hw => ?_) (code_good y bs' mL' ret') rfl rfl rfl (C.wm hini rfl) (C.w hl1 rfl) hd (by rw [hR']; exact hR.1), C.w hl2 rfl⟩ ⟨PC.blind, pcAt C h1 h2⟩ rfl hn h3.1 hst (lv_room hW) d (by rw [hR']; exact hR.2)) h2 h3 kk
  · rw [List.mem_singleton.mp hw]; exact C.w hcd rfl
  · rw [List.mem_singleton.mp hw]; exact C.w hcd rfl
theorem x_callSN (C : Cx X g l cc mL own ret rm) (hM : CM l y bs' mL' ret' rm' g M as res M') (hc : CD y bs' mL' ret' n) (hl : KSN own idx y) (hn : as.length = n) (hst : st0 = as.reverse ++ st) (hR : Rm rm' rm mL' kc ks) (hW : (st.map fun v => v.category).sum ≤ 8) (d : decode cc pc = .ok (.invokestatic idx, 3))
    (kk : V X g (kc + rm'.cells) (ks + rm'.slots) (pc + 3) lo (res.toList ++ st) M') : V X g kc ks pc lo st0 M := by
  intro H locs ls h1 h2 h3
  obtain ⟨⟨i, hcd⟩, hini, hd⟩ := hc
  obtain ⟨⟨i1, hh, hl1⟩, i2, hl2⟩ := hl
  have hR' : xR X = rm := C.2.2.2.2.2.2.2.2.1
  have hl' : xL X = l := C.2.2.2.2.2.2.2.2.2
  subst hl'
  refine x_ran (va_runSN (As := as) (rest := st) (Ts := [Cond.code y bs' mL' ret']) ⟨C.1, C.2.1, rfl, C.2.2.2.1, fun w hw => ?_⟩ hM ⟨va_cnB (Ts := [Cond.code y bs' mL' ret']) n (fun w hw => ?_) (code_good y bs' mL' ret') rfl rfl rfl (va_Nw.of rfl (C.w hl1 rfl)) (C.wm hini rfl) hd (by rw [hR']; exact hR.1), C.w hl2 rfl, trivial⟩ ⟨PC.blind, pcAt C h1 h2⟩ rfl hn h3.1 hst (lv_room hW) d (by rw [hR']; exact hR.2)) h2 h3 kk
  · rw [List.mem_singleton.mp hw]; exact C.w hcd rfl
  · rw [List.mem_singleton.mp hw]; exact C.w hcd rfl
/-- the receiver is an object of its class -/
theorem x_recv (C : Cx X g l cc mL own ret rm) {H : Heap} (h1 : Hd g M H) {ci : Nat} {Cn : String} {T : u_T} {N : Nat} (hci : CI ci Cn T N) (hk : xk k = ci) (hn : k < 38) : ∃ cell : Cell, H[ga g k]? = some cell ∧ cell.vm.isStatics = false ∧ (xS X).vm.findClass Cn = some cell.cls := by
  have hat := wl_at g M (C.lt hn)
  rw [xe_O g (M k) hk hci.2.1] at hat
  exact va_recv C.2.2.2.2.1.2.1 h1 (ci := ci) (q0 := k) hci.1 hat
theorem x_callV (C : Cx X g l cc mL own ret rm) {ci N : Nat} {T : u_T} (hM : CM l y bs' mL' ret' rm' g M (.ref (ga g k) :: as) res M') (hc : CD y bs' mL' ret' n) (hl : KV own idx y) (hci : CI ci y.cls T N) (hk : xk k = ci) (hk2 : k < 38) (hn : as.length = n) (hst : st0 = as.reverse ++ .ref (ga g k) :: st) (hR : Rm rm' rm mL' kc ks) (hW : (st.map fun v => v.category).sum ≤ 8) (d : decode cc pc = .ok (.invokevirtual idx, 3))
    (kk : V X g (kc + rm'.cells) (ks + rm'.slots) (pc + 3) lo (res.toList ++ st) M') : V X g kc ks pc lo st0 M := by
  intro H locs ls h1 h2 h3
  obtain ⟨⟨i, hcd⟩, hini, hd⟩ := hc
  obtain ⟨⟨i1, hl1⟩, ⟨i2, hl2⟩, i3, hl3⟩ := hl
  have hR' : xR X = rm := C.2.2.2.2.2.2.2.2.1
  have hl' : xL X = l := C.2.2.2.2.2.2.2.2.2
  subst hl'
  refine x_ran (va_runV (As := as) (rest := st) (Ts := [Cond.code y bs' mL' ret']) ⟨C.1, C.2.1, rfl, C.2.2.2.1, fun w hw => ?_⟩ hM ⟨callB_of (Ts := [Cond.code y bs' mL' ret']) n (fun w hw => ?_) (code_good y bs' mL' ret') rfl rfl rfl (C.wm hini rfl) (C.w hl1 rfl) hd (by rw [hR']; exact hR.1), C.w hl2 rfl, C.w hl3 rfl⟩ ⟨PC.blind, x_recv C h1 hci hk hk2, pcAt C h1 h2⟩ rfl hn h3.1 hst (lv_room hW) d (by rw [hR']; exact hR.2)) h2 h3 kk
  · rw [List.mem_singleton.mp hw]; exact C.w hcd rfl
  · rw [List.mem_singleton.mp hw]; exact C.w hcd rfl
theorem x_callVN (C : Cx X g l cc mL own ret rm) {ci N : Nat} {T : u_T} (hM : CM l y bs' mL' ret' rm' g M (.ref (ga g k) :: as) res M') (hc : CD y bs' mL' ret' n) (hl : KVN own idx y) (hci : CI ci y.cls T N) (hk : xk k = ci) (hk2 : k < 38) (hn : as.length = n) (hst : st0 = as.reverse ++ .ref (ga g k) :: st) (hR : Rm rm' rm mL' kc ks) (hW : (st.map fun v => v.category).sum ≤ 8) (d : decode cc pc = .ok (.invokevirtual idx, 3))
    (kk : V X g (kc + rm'.cells) (ks + rm'.slots) (pc + 3) lo (res.toList ++ st) M') : V X g kc ks pc lo st0 M := by
  intro H locs ls h1 h2 h3
  obtain ⟨⟨i, hcd⟩, hini, hd⟩ := hc
  obtain ⟨⟨i1, hh, hl1⟩, ⟨i2, hl2⟩, i3, hl3⟩ := hl
  have hR' : xR X = rm := C.2.2.2.2.2.2.2.2.1
  have hl' : xL X = l := C.2.2.2.2.2.2.2.2.2
  subst hl'
  refine x_ran (va_runVN (As := as) (rest := st) (Ts := [Cond.code y bs' mL' ret']) ⟨C.1, C.2.1, rfl, C.2.2.2.1, fun w hw => ?_⟩ hM ⟨va_cnB (Ts := [Cond.code y bs' mL' ret']) n (fun w hw => ?_) (code_good y bs' mL' ret') rfl rfl rfl (va_Nw.of rfl (C.w hl1 rfl)) (C.wm hini rfl) hd (by rw [hR']; exact hR.1), C.w hl2 rfl, C.w hl3 rfl⟩ ⟨PC.blind, x_recv C h1 hci hk hk2, pcAt C h1 h2⟩ rfl hn h3.1 hst (lv_room hW) d (by rw [hR']; exact hR.2)) h2 h3 kk
  · rw [List.mem_singleton.mp hw]; exact C.w hcd rfl
  · rw [List.mem_singleton.mp hw]; exact C.w hcd rfl
/-! ends -/
theorem x_endG {H : Heap} {locs : List Loc} {v : Option Value} (h1 : Hd g M H) (h2 : va_S (gA g) (xS X).heap H locs) (hres : res = v) (hm : M' = M) : ∀ t : State, t.heap = H → (xS X).WarmedH t.vm → QC g res M' (xA X) (xS X) (.returned v) t := fun t ht _ => ⟨⟨by rw [hres], by rw [hm, ht]; exact h1⟩, h2.F ht⟩
theorem x_iret (C : Cx X g l cc mL own (some .int) rm) (hq : Rt X g rm res M') {v : Int32} (hk : kc ≤ rm.cells ∧ ks ≤ rm.slots) (d : decode cc pc = .ok (.ireturn, 1)) (hres : res = some (.int v)) (hm : M' = M) : V X g kc ks pc lo [.int v] M := by
  intro H locs ls h1 h2 h3
  show W _ _ _ _ _ _ _ _ _ _ _ _ _ _ (xQ X) _
  rw [show xQ X = _ from hq]
  exact W.widen hk.1 hk.2 (W.iret C.1 C.2.1 C.2.2.2.2.2.2.2.1 (x_endG h1 h2 hres hm) (fun q hq => h2.2.2 q hq) d C.2.2.2.2.2.2.1)
theorem x_zret (C : Cx X g l cc mL own (some .boolean) rm) (hq : Rt X g rm res M') {v : Int32} (hv : narrow .boolean (.int v) = .int v) (hk : kc ≤ rm.cells ∧ ks ≤ rm.slots) (d : decode cc pc = .ok (.ireturn, 1)) (hres : res = some (.int v)) (hm : M' = M) : V X g kc ks pc lo [.int v] M := by
  intro H locs ls h1 h2 h3
  show W _ _ _ _ _ _ _ _ _ _ _ _ _ _ (xQ X) _
  rw [show xQ X = _ from hq]
  exact W.widen hk.1 hk.2 (W.zret C.1 C.2.1 C.2.2.2.2.2.2.2.1 hv (x_endG h1 h2 hres hm) (fun q hq => h2.2.2 q hq) d C.2.2.2.2.2.2.1)
theorem x_lret (C : Cx X g l cc mL own (some .long) rm) (hq : Rt X g rm res M') {v : Int64} (hk : kc ≤ rm.cells ∧ ks ≤ rm.slots) (d : decode cc pc = .ok (.lreturn, 1)) (hres : res = some (.long v)) (hm : M' = M) : V X g kc ks pc lo [.long v] M := by
  intro H locs ls h1 h2 h3
  show W _ _ _ _ _ _ _ _ _ _ _ _ _ _ (xQ X) _
  rw [show xQ X = _ from hq]
  exact W.widen hk.1 hk.2 (W.lret C.1 C.2.1 C.2.2.2.2.2.2.2.1 (x_endG h1 h2 hres hm) (fun q hq => h2.2.2 q hq) d C.2.2.2.2.2.2.1)
theorem x_dret (C : Cx X g l cc mL own (some .double) rm) (hq : Rt X g rm res M') {v : UInt64} (hk : kc ≤ rm.cells ∧ ks ≤ rm.slots) (d : decode cc pc = .ok (.dreturn, 1)) (hres : res = some (.double v)) (hm : M' = M) : V X g kc ks pc lo [.double v] M := by
  intro H locs ls h1 h2 h3
  show W _ _ _ _ _ _ _ _ _ _ _ _ _ _ (xQ X) _
  rw [show xQ X = _ from hq]
  exact W.widen hk.1 hk.2 (W.dret C.1 C.2.1 C.2.2.2.2.2.2.2.1 (x_endG h1 h2 hres hm) (fun q hq => h2.2.2 q hq) d C.2.2.2.2.2.2.1)
theorem x_vret (C : Cx X g l cc mL own none rm) (hq : Rt X g rm res M') (hk : kc ≤ rm.cells ∧ ks ≤ rm.slots) (d : decode cc pc = .ok (.return_, 1)) (hres : res = none) (hm : M' = M) : V X g kc ks pc lo [] M := by
  intro H locs ls h1 h2 h3
  show W _ _ _ _ _ _ _ _ _ _ _ _ _ _ (xQ X) _
  rw [show xQ X = _ from hq]
  exact W.widen hk.1 hk.2 (W.vret C.1 C.2.1 C.2.2.2.2.2.2.2.1 (x_endG h1 h2 hres hm) (fun q hq => h2.2.2 q hq) d C.2.2.2.2.2.2.1)
end RULES3
end
section
/-! The pool's entries: fields, methods, code words, constants. -/
theorem fl_X0_9 : FL RX0 9 0 6 := ⟨RX0, TX0, 19, ci0, by decide, rfl, Or.inl ⟨93, by decide +kernel⟩⟩
theorem fl_X0_15 : FL RX0 15 0 7 := ⟨RX0, TX0, 19, ci0, by decide, rfl, Or.inl ⟨95, by decide +kernel⟩⟩
theorem fl_X0_18 : FL RX0 18 0 8 := ⟨RX0, TX0, 19, ci0, by decide, rfl, Or.inl ⟨97, by decide +kernel⟩⟩
theorem fl_X0_21 : FL RX0 21 0 9 := ⟨RX0, TX0, 19, ci0, by decide, rfl, Or.inl ⟨99, by decide +kernel⟩⟩
theorem fl_X0_24 : FL RX0 24 0 10 := ⟨RX0, TX0, 19, ci0, by decide, rfl, Or.inl ⟨101, by decide +kernel⟩⟩
theorem fl_X0_27 : FL RX0 27 0 11 := ⟨RX0, TX0, 19, ci0, by decide, rfl, Or.inl ⟨103, by decide +kernel⟩⟩
theorem fl_X0_30 : FL RX0 30 0 12 := ⟨RX0, TX0, 19, ci0, by decide, rfl, Or.inl ⟨104, by decide +kernel⟩⟩
theorem fl_X0_33 : FL RX0 33 0 13 := ⟨RX0, TX0, 19, ci0, by decide, rfl, Or.inl ⟨106, by decide +kernel⟩⟩
theorem fl_X0_36 : FL RX0 36 0 14 := ⟨RX0, TX0, 19, ci0, by decide, rfl, Or.inl ⟨108, by decide +kernel⟩⟩
theorem fl_X0_39 : FL RX0 39 0 15 := ⟨RX0, TX0, 19, ci0, by decide, rfl, Or.inl ⟨110, by decide +kernel⟩⟩
theorem fl_X0_42 : FL RX0 42 0 16 := ⟨RX0, TX0, 19, ci0, by decide, rfl, Or.inl ⟨112, by decide +kernel⟩⟩
theorem fl_X0_45 : FL RX0 45 0 17 := ⟨RX0, TX0, 19, ci0, by decide, rfl, Or.inl ⟨114, by decide +kernel⟩⟩
theorem fl_X0_48 : FL RX0 48 0 18 := ⟨RX0, TX0, 19, ci0, by decide, rfl, Or.inl ⟨116, by decide +kernel⟩⟩
theorem fl_X0_57 : FLI RX0 57 0 0 := ⟨RX0, TX0, 19, ci0, by decide, rfl, Or.inl ⟨81, by decide +kernel⟩, rfl, by decide +kernel⟩
theorem fl_X0_61 : FLI RX0 61 0 1 := ⟨RX0, TX0, 19, ci0, by decide, rfl, Or.inl ⟨83, by decide +kernel⟩, rfl, by decide +kernel⟩
theorem fl_X0_64 : FLI RX0 64 0 2 := ⟨RX0, TX0, 19, ci0, by decide, rfl, Or.inl ⟨85, by decide +kernel⟩, rfl, by decide +kernel⟩
theorem fl_X0_67 : FLI RX0 67 0 3 := ⟨RX0, TX0, 19, ci0, by decide, rfl, Or.inl ⟨87, by decide +kernel⟩, rfl, by decide +kernel⟩
theorem fl_X0_70 : FLI RX0 70 0 4 := ⟨RX0, TX0, 19, ci0, by decide, rfl, Or.inl ⟨89, by decide +kernel⟩, rfl, by decide +kernel⟩
theorem fl_X0_73 : FLI RX0 73 0 5 := ⟨RX0, TX0, 19, ci0, by decide, rfl, Or.inl ⟨91, by decide +kernel⟩, rfl, by decide +kernel⟩
theorem fl_X1_10 : FL RX1 10 1 0 := ⟨RX1, TX1, 2, ci1, by decide, rfl, Or.inl ⟨158, by decide +kernel⟩⟩
theorem fl_X1_16 : FL RX1 16 1 1 := ⟨RX1, TX1, 2, ci1, by decide, rfl, Or.inl ⟨159, by decide +kernel⟩⟩
theorem fl_X1_33 : FLI RX1 33 0 1 := ⟨RX0, TX0, 19, ci0, by decide, rfl, Or.inr ⟨84, _, (by decide +kernel : lw_tbl[84]? = some (.fieldLinkNest RX1 33 RX0 (TX0 1).2.1 (TX0 1).2.2.1 RX1))⟩, rfl, by decide +kernel⟩
theorem fl_X1_37 : FL RX1 37 0 7 := ⟨RX0, TX0, 19, ci0, by decide, rfl, Or.inr ⟨96, _, (by decide +kernel : lw_tbl[96]? = some (.fieldLinkNest RX1 37 RX0 (TX0 7).2.1 (TX0 7).2.2.1 RX1))⟩⟩
theorem fl_X1_53 : FL RX1 53 0 10 := ⟨RX0, TX0, 19, ci0, by decide, rfl, Or.inr ⟨102, _, (by decide +kernel : lw_tbl[102]? = some (.fieldLinkNest RX1 53 RX0 (TX0 10).2.1 (TX0 10).2.2.1 RX1))⟩⟩
theorem fl_X1_62 : FL RX1 62 0 6 := ⟨RX0, TX0, 19, ci0, by decide, rfl, Or.inr ⟨94, _, (by decide +kernel : lw_tbl[94]? = some (.fieldLinkNest RX1 62 RX0 (TX0 6).2.1 (TX0 6).2.2.1 RX1))⟩⟩
theorem fl_X1_68 : FLI RX1 68 0 2 := ⟨RX0, TX0, 19, ci0, by decide, rfl, Or.inr ⟨86, _, (by decide +kernel : lw_tbl[86]? = some (.fieldLinkNest RX1 68 RX0 (TX0 2).2.1 (TX0 2).2.2.1 RX1))⟩, rfl, by decide +kernel⟩
theorem fl_X1_71 : FLI RX1 71 0 3 := ⟨RX0, TX0, 19, ci0, by decide, rfl, Or.inr ⟨88, _, (by decide +kernel : lw_tbl[88]? = some (.fieldLinkNest RX1 71 RX0 (TX0 3).2.1 (TX0 3).2.2.1 RX1))⟩, rfl, by decide +kernel⟩
theorem fl_X1_76 : FL RX1 76 0 8 := ⟨RX0, TX0, 19, ci0, by decide, rfl, Or.inr ⟨98, _, (by decide +kernel : lw_tbl[98]? = some (.fieldLinkNest RX1 76 RX0 (TX0 8).2.1 (TX0 8).2.2.1 RX1))⟩⟩
theorem fl_X1_88 : FL RX1 88 0 13 := ⟨RX0, TX0, 19, ci0, by decide, rfl, Or.inr ⟨107, _, (by decide +kernel : lw_tbl[107]? = some (.fieldLinkNest RX1 88 RX0 (TX0 13).2.1 (TX0 13).2.2.1 RX1))⟩⟩
theorem fl_X1_94 : FLI RX1 94 0 0 := ⟨RX0, TX0, 19, ci0, by decide, rfl, Or.inr ⟨82, _, (by decide +kernel : lw_tbl[82]? = some (.fieldLinkNest RX1 94 RX0 (TX0 0).2.1 (TX0 0).2.2.1 RX1))⟩, rfl, by decide +kernel⟩
theorem fl_X1_97 : FLI RX1 97 0 4 := ⟨RX0, TX0, 19, ci0, by decide, rfl, Or.inr ⟨90, _, (by decide +kernel : lw_tbl[90]? = some (.fieldLinkNest RX1 97 RX0 (TX0 4).2.1 (TX0 4).2.2.1 RX1))⟩, rfl, by decide +kernel⟩
theorem fl_X1_103 : FL RX1 103 0 9 := ⟨RX0, TX0, 19, ci0, by decide, rfl, Or.inr ⟨100, _, (by decide +kernel : lw_tbl[100]? = some (.fieldLinkNest RX1 103 RX0 (TX0 9).2.1 (TX0 9).2.2.1 RX1))⟩⟩
theorem fl_X1_106 : FL RX1 106 0 12 := ⟨RX0, TX0, 19, ci0, by decide, rfl, Or.inr ⟨105, _, (by decide +kernel : lw_tbl[105]? = some (.fieldLinkNest RX1 106 RX0 (TX0 12).2.1 (TX0 12).2.2.1 RX1))⟩⟩
theorem fl_X1_109 : FL RX1 109 0 14 := ⟨RX0, TX0, 19, ci0, by decide, rfl, Or.inr ⟨109, _, (by decide +kernel : lw_tbl[109]? = some (.fieldLinkNest RX1 109 RX0 (TX0 14).2.1 (TX0 14).2.2.1 RX1))⟩⟩
theorem fl_X1_112 : FLI RX1 112 0 5 := ⟨RX0, TX0, 19, ci0, by decide, rfl, Or.inr ⟨92, _, (by decide +kernel : lw_tbl[92]? = some (.fieldLinkNest RX1 112 RX0 (TX0 5).2.1 (TX0 5).2.2.1 RX1))⟩, rfl, by decide +kernel⟩
theorem fl_X1_118 : FL RX1 118 0 15 := ⟨RX0, TX0, 19, ci0, by decide, rfl, Or.inr ⟨111, _, (by decide +kernel : lw_tbl[111]? = some (.fieldLinkNest RX1 118 RX0 (TX0 15).2.1 (TX0 15).2.2.1 RX1))⟩⟩
theorem fl_X1_121 : FL RX1 121 0 16 := ⟨RX0, TX0, 19, ci0, by decide, rfl, Or.inr ⟨113, _, (by decide +kernel : lw_tbl[113]? = some (.fieldLinkNest RX1 121 RX0 (TX0 16).2.1 (TX0 16).2.2.1 RX1))⟩⟩
theorem fl_X1_124 : FL RX1 124 0 17 := ⟨RX0, TX0, 19, ci0, by decide, rfl, Or.inr ⟨115, _, (by decide +kernel : lw_tbl[115]? = some (.fieldLinkNest RX1 124 RX0 (TX0 17).2.1 (TX0 17).2.2.1 RX1))⟩⟩
theorem fl_X1_127 : FL RX1 127 0 18 := ⟨RX0, TX0, 19, ci0, by decide, rfl, Or.inr ⟨117, _, (by decide +kernel : lw_tbl[117]? = some (.fieldLinkNest RX1 127 RX0 (TX0 18).2.1 (TX0 18).2.2.1 RX1))⟩⟩
theorem fl_X2_9 : FL RX2 9 2 3 := ⟨RX2, TX2, 10, ci2, by decide, rfl, Or.inl ⟨628, by decide +kernel⟩⟩
theorem fl_X2_13 : FL RX2 13 2 4 := ⟨RX2, TX2, 10, ci2, by decide, rfl, Or.inl ⟨629, by decide +kernel⟩⟩
theorem fl_X2_16 : FL RX2 16 2 5 := ⟨RX2, TX2, 10, ci2, by decide, rfl, Or.inl ⟨630, by decide +kernel⟩⟩
theorem fl_X2_19 : FL RX2 19 2 6 := ⟨RX2, TX2, 10, ci2, by decide, rfl, Or.inl ⟨631, by decide +kernel⟩⟩
theorem fl_X2_22 : FL RX2 22 2 7 := ⟨RX2, TX2, 10, ci2, by decide, rfl, Or.inl ⟨632, by decide +kernel⟩⟩
theorem fl_X2_25 : FL RX2 25 2 8 := ⟨RX2, TX2, 10, ci2, by decide, rfl, Or.inl ⟨633, by decide +kernel⟩⟩
theorem fl_X2_28 : FL RX2 28 2 9 := ⟨RX2, TX2, 10, ci2, by decide, rfl, Or.inl ⟨634, by decide +kernel⟩⟩
theorem fl_X2_32 : FLI RX2 32 2 0 := ⟨RX2, TX2, 10, ci2, by decide, rfl, Or.inl ⟨625, by decide +kernel⟩, rfl, by decide +kernel⟩
theorem fl_X2_40 : FLI RX2 40 2 1 := ⟨RX2, TX2, 10, ci2, by decide, rfl, Or.inl ⟨626, by decide +kernel⟩, rfl, by decide +kernel⟩
theorem fl_X2_43 : FLI RX2 43 2 2 := ⟨RX2, TX2, 10, ci2, by decide, rfl, Or.inl ⟨627, by decide +kernel⟩, rfl, by decide +kernel⟩
theorem kl_L_7 : KV RL 7 yX1_addWall := ⟨⟨470, by decide +kernel⟩, ⟨471, by decide +kernel⟩, ⟨472, by decide +kernel⟩⟩
theorem kl_L_19 : KV RL 19 yX1_hand := ⟨⟨498, by decide +kernel⟩, ⟨499, by decide +kernel⟩, ⟨500, by decide +kernel⟩⟩
theorem kl_L_23 : KV RL 23 yX1_setSnow := ⟨⟨506, by decide +kernel⟩, ⟨507, by decide +kernel⟩, ⟨508, by decide +kernel⟩⟩
theorem kl_L_27 : KV RL 27 yX1_shout := ⟨⟨514, by decide +kernel⟩, ⟨515, by decide +kernel⟩, ⟨516, by decide +kernel⟩⟩
theorem kl_L_31 : KV RL 31 yX1_pass := ⟨⟨524, by decide +kernel⟩, ⟨525, by decide +kernel⟩, ⟨526, by decide +kernel⟩⟩
theorem kl_L_34 : KV RL 34 yX1_snowOn := ⟨⟨531, by decide +kernel⟩, ⟨444, by decide +kernel⟩, ⟨445, by decide +kernel⟩⟩
theorem kl_L_37 : KV RL 37 yX1_wallOn := ⟨⟨535, by decide +kernel⟩, ⟨536, by decide +kernel⟩, ⟨537, by decide +kernel⟩⟩
theorem kl_L_40 : KV RL 40 yX1_loudOn := ⟨⟨542, by decide +kernel⟩, ⟨453, by decide +kernel⟩, ⟨454, by decide +kernel⟩⟩
theorem kl_L_43 : KV RL 43 yX1_stoneOf := ⟨⟨546, by decide +kernel⟩, ⟨398, by decide +kernel⟩, ⟨399, by decide +kernel⟩⟩
theorem kl_L_46 : KV RL 46 yX1_ownerOf := ⟨⟨550, by decide +kernel⟩, ⟨407, by decide +kernel⟩, ⟨408, by decide +kernel⟩⟩
theorem kl_L_49 : KV RL 49 yX1_thrownBack := ⟨⟨554, by decide +kernel⟩, ⟨411, by decide +kernel⟩, ⟨412, by decide +kernel⟩⟩
theorem kl_L_52 : KV RL 52 yX1_coinsOf := ⟨⟨558, by decide +kernel⟩, ⟨355, by decide +kernel⟩, ⟨356, by decide +kernel⟩⟩
theorem kl_L_55 : KV RL 55 yX1_wallsOf := ⟨⟨562, by decide +kernel⟩, ⟨378, by decide +kernel⟩, ⟨379, by decide +kernel⟩⟩
theorem kl_L_58 : KV RL 58 yX1_silentFor := ⟨⟨566, by decide +kernel⟩, ⟨382, by decide +kernel⟩, ⟨383, by decide +kernel⟩⟩
theorem kl_L_61 : KV RL 61 yX1_loudnessOf := ⟨⟨570, by decide +kernel⟩, ⟨419, by decide +kernel⟩, ⟨420, by decide +kernel⟩⟩
theorem kl_L_64 : KV RL 64 yX1_placeOf := ⟨⟨574, by decide +kernel⟩, ⟨428, by decide +kernel⟩, ⟨429, by decide +kernel⟩⟩
theorem kl_L_67 : KV RL 67 yX1_goesRight := ⟨⟨578, by decide +kernel⟩, ⟨432, by decide +kernel⟩, ⟨433, by decide +kernel⟩⟩
theorem kl_L_71 : KV RL 71 yX1_turnsOf := ⟨⟨582, by decide +kernel⟩, ⟨436, by decide +kernel⟩, ⟨437, by decide +kernel⟩⟩
theorem kl_L_74 : KV RL 74 yX1_nextWall := ⟨⟨586, by decide +kernel⟩, ⟨461, by decide +kernel⟩, ⟨462, by decide +kernel⟩⟩
theorem kl_L_78 : KV RL 78 yX1_beatsUntilGone := ⟨⟨590, by decide +kernel⟩, ⟨591, by decide +kernel⟩, ⟨592, by decide +kernel⟩⟩
theorem kl_L_81 : KV RL 81 yX1_coinsIn := ⟨⟨597, by decide +kernel⟩, ⟨386, by decide +kernel⟩, ⟨387, by decide +kernel⟩⟩
theorem kl_L_84 : KV RL 84 yX1_loudestOn := ⟨⟨601, by decide +kernel⟩, ⟨602, by decide +kernel⟩, ⟨603, by decide +kernel⟩⟩
theorem kl_L_87 : KV RL 87 yX1_loudnessWanted := ⟨⟨611, by decide +kernel⟩, ⟨612, by decide +kernel⟩, ⟨613, by decide +kernel⟩⟩
theorem kl_L_90 : KV RL 90 yX1_bestStone := ⟨⟨618, by decide +kernel⟩, ⟨263, by decide +kernel⟩, ⟨264, by decide +kernel⟩⟩
theorem kl_L_97 : KS RL 97 yL_addWall := ⟨⟨464, by decide +kernel⟩, ⟨465, by decide +kernel⟩⟩
theorem kl_L_102 : KV RL 102 yX2_addWall := ⟨⟨661, by decide +kernel⟩, ⟨662, by decide +kernel⟩, ⟨663, by decide +kernel⟩⟩
theorem kl_L_103 : KV RL 103 yX2_thrown := ⟨⟨657, by decide +kernel⟩, ⟨658, by decide +kernel⟩, ⟨659, by decide +kernel⟩⟩
theorem kl_L_107 : KS RL 107 yL_hand := ⟨⟨495, by decide +kernel⟩, ⟨496, by decide +kernel⟩⟩
theorem kl_L_110 : KV RL 110 yX2_hand := ⟨⟨678, by decide +kernel⟩, ⟨679, by decide +kernel⟩, ⟨680, by decide +kernel⟩⟩
theorem kl_L_111 : KS RL 111 yL_setSnow := ⟨⟨503, by decide +kernel⟩, ⟨504, by decide +kernel⟩⟩
theorem kl_L_114 : KV RL 114 yX2_setSnow := ⟨⟨686, by decide +kernel⟩, ⟨687, by decide +kernel⟩, ⟨688, by decide +kernel⟩⟩
theorem kl_L_115 : KS RL 115 yL_shout := ⟨⟨511, by decide +kernel⟩, ⟨512, by decide +kernel⟩⟩
theorem kl_L_118 : KV RL 118 yX2_shout := ⟨⟨690, by decide +kernel⟩, ⟨691, by decide +kernel⟩, ⟨692, by decide +kernel⟩⟩
theorem kl_L_119 : KS RL 119 yL_pass := ⟨⟨521, by decide +kernel⟩, ⟨522, by decide +kernel⟩⟩
theorem kl_L_121 : KV RL 121 yX2_pass := ⟨⟨706, by decide +kernel⟩, ⟨707, by decide +kernel⟩, ⟨708, by decide +kernel⟩⟩
theorem kl_L_122 : KV RL 122 yX1_beat := ⟨⟨165, by decide +kernel⟩, ⟨166, by decide +kernel⟩, ⟨167, by decide +kernel⟩⟩
theorem kl_L_125 : KV RL 125 yX2_beat := ⟨⟨743, by decide +kernel⟩, ⟨744, by decide +kernel⟩, ⟨745, by decide +kernel⟩⟩
theorem kl_L_126 : KV RL 126 yX1_walls := ⟨⟨169, by decide +kernel⟩, ⟨170, by decide +kernel⟩, ⟨171, by decide +kernel⟩⟩
theorem kl_L_129 : KV RL 129 yX2_walls := ⟨⟨751, by decide +kernel⟩, ⟨752, by decide +kernel⟩, ⟨753, by decide +kernel⟩⟩
theorem kl_L_130 : KV RL 130 yX1_shouts := ⟨⟨173, by decide +kernel⟩, ⟨174, by decide +kernel⟩, ⟨175, by decide +kernel⟩⟩
theorem kl_L_133 : KV RL 133 yX2_shouts := ⟨⟨755, by decide +kernel⟩, ⟨756, by decide +kernel⟩, ⟨757, by decide +kernel⟩⟩
theorem kl_L_134 : KV RL 134 yX1_underWay := ⟨⟨177, by decide +kernel⟩, ⟨178, by decide +kernel⟩, ⟨179, by decide +kernel⟩⟩
theorem kl_L_137 : KV RL 137 yX2_underWay := ⟨⟨759, by decide +kernel⟩, ⟨760, by decide +kernel⟩, ⟨761, by decide +kernel⟩⟩
theorem kl_L_138 : KV RL 138 yX1_overlaps := ⟨⟨181, by decide +kernel⟩, ⟨182, by decide +kernel⟩, ⟨183, by decide +kernel⟩⟩
theorem kl_L_141 : KV RL 141 yX2_overlaps := ⟨⟨763, by decide +kernel⟩, ⟨764, by decide +kernel⟩, ⟨765, by decide +kernel⟩⟩
theorem kl_L_142 : KS RL 142 yL_snowOn := ⟨⟨528, by decide +kernel⟩, ⟨529, by decide +kernel⟩⟩
theorem kl_L_144 : KV RL 144 yX2_snowOn := ⟨⟨767, by decide +kernel⟩, ⟨768, by decide +kernel⟩, ⟨769, by decide +kernel⟩⟩
theorem kl_L_145 : KS RL 145 yL_wallOn := ⟨⟨532, by decide +kernel⟩, ⟨533, by decide +kernel⟩⟩
theorem kl_L_147 : KV RL 147 yX2_wallOn := ⟨⟨775, by decide +kernel⟩, ⟨776, by decide +kernel⟩, ⟨777, by decide +kernel⟩⟩
theorem kl_L_148 : KS RL 148 yL_loudOn := ⟨⟨539, by decide +kernel⟩, ⟨540, by decide +kernel⟩⟩
theorem kl_L_150 : KV RL 150 yX2_loudOn := ⟨⟨779, by decide +kernel⟩, ⟨780, by decide +kernel⟩, ⟨781, by decide +kernel⟩⟩
theorem kl_L_151 : KS RL 151 yL_stoneOf := ⟨⟨543, by decide +kernel⟩, ⟨544, by decide +kernel⟩⟩
theorem kl_L_153 : KV RL 153 yX2_stoneOf := ⟨⟨787, by decide +kernel⟩, ⟨788, by decide +kernel⟩, ⟨789, by decide +kernel⟩⟩
theorem kl_L_154 : KS RL 154 yL_ownerOf := ⟨⟨547, by decide +kernel⟩, ⟨548, by decide +kernel⟩⟩
theorem kl_L_156 : KV RL 156 yX2_ownerOf := ⟨⟨791, by decide +kernel⟩, ⟨792, by decide +kernel⟩, ⟨793, by decide +kernel⟩⟩
theorem kl_L_157 : KS RL 157 yL_thrownBack := ⟨⟨551, by decide +kernel⟩, ⟨552, by decide +kernel⟩⟩
theorem kl_L_159 : KV RL 159 yX2_thrownBack := ⟨⟨795, by decide +kernel⟩, ⟨796, by decide +kernel⟩, ⟨797, by decide +kernel⟩⟩
theorem kl_L_160 : KS RL 160 yL_coinsOf := ⟨⟨555, by decide +kernel⟩, ⟨556, by decide +kernel⟩⟩
theorem kl_L_162 : KV RL 162 yX2_coinsOf := ⟨⟨799, by decide +kernel⟩, ⟨800, by decide +kernel⟩, ⟨801, by decide +kernel⟩⟩
theorem kl_L_163 : KS RL 163 yL_wallsOf := ⟨⟨559, by decide +kernel⟩, ⟨560, by decide +kernel⟩⟩
theorem kl_L_165 : KV RL 165 yX2_wallsOf := ⟨⟨803, by decide +kernel⟩, ⟨804, by decide +kernel⟩, ⟨805, by decide +kernel⟩⟩
theorem kl_L_166 : KS RL 166 yL_silentFor := ⟨⟨563, by decide +kernel⟩, ⟨564, by decide +kernel⟩⟩
theorem kl_L_168 : KV RL 168 yX2_silentFor := ⟨⟨811, by decide +kernel⟩, ⟨812, by decide +kernel⟩, ⟨813, by decide +kernel⟩⟩
theorem kl_L_169 : KV RL 169 yX1_inherited := ⟨⟨185, by decide +kernel⟩, ⟨186, by decide +kernel⟩, ⟨187, by decide +kernel⟩⟩
theorem kl_L_172 : KV RL 172 yX2_inherited := ⟨⟨815, by decide +kernel⟩, ⟨816, by decide +kernel⟩, ⟨817, by decide +kernel⟩⟩
theorem kl_L_173 : KS RL 173 yL_loudnessOf := ⟨⟨567, by decide +kernel⟩, ⟨568, by decide +kernel⟩⟩
theorem kl_L_175 : KV RL 175 yX2_loudnessOf := ⟨⟨819, by decide +kernel⟩, ⟨820, by decide +kernel⟩, ⟨821, by decide +kernel⟩⟩
theorem kl_L_176 : KS RL 176 yL_placeOf := ⟨⟨571, by decide +kernel⟩, ⟨572, by decide +kernel⟩⟩
theorem kl_L_178 : KV RL 178 yX2_placeOf := ⟨⟨827, by decide +kernel⟩, ⟨828, by decide +kernel⟩, ⟨829, by decide +kernel⟩⟩
theorem kl_L_179 : KS RL 179 yL_goesRight := ⟨⟨575, by decide +kernel⟩, ⟨576, by decide +kernel⟩⟩
theorem kl_L_181 : KV RL 181 yX2_goesRight := ⟨⟨835, by decide +kernel⟩, ⟨836, by decide +kernel⟩, ⟨837, by decide +kernel⟩⟩
theorem kl_L_182 : KS RL 182 yL_turnsOf := ⟨⟨579, by decide +kernel⟩, ⟨580, by decide +kernel⟩⟩
theorem kl_L_184 : KV RL 184 yX2_turnsOf := ⟨⟨843, by decide +kernel⟩, ⟨844, by decide +kernel⟩, ⟨845, by decide +kernel⟩⟩
theorem kl_L_185 : KS RL 185 yL_nextWall := ⟨⟨583, by decide +kernel⟩, ⟨584, by decide +kernel⟩⟩
theorem kl_L_188 : KV RL 188 yX2_nextWall := ⟨⟨847, by decide +kernel⟩, ⟨848, by decide +kernel⟩, ⟨849, by decide +kernel⟩⟩
theorem kl_L_189 : KS RL 189 yL_beatsUntilGone := ⟨⟨587, by decide +kernel⟩, ⟨588, by decide +kernel⟩⟩
theorem kl_L_191 : KV RL 191 yX2_beatsUntilGone := ⟨⟨855, by decide +kernel⟩, ⟨856, by decide +kernel⟩, ⟨857, by decide +kernel⟩⟩
theorem kl_L_192 : KV RL 192 yX1_beatsUntilQuiet := ⟨⟨189, by decide +kernel⟩, ⟨190, by decide +kernel⟩, ⟨191, by decide +kernel⟩⟩
theorem kl_L_195 : KV RL 195 yX2_beatsUntilQuiet := ⟨⟨872, by decide +kernel⟩, ⟨873, by decide +kernel⟩, ⟨874, by decide +kernel⟩⟩
theorem kl_L_196 : KS RL 196 yL_coinsIn := ⟨⟨594, by decide +kernel⟩, ⟨595, by decide +kernel⟩⟩
theorem kl_L_198 : KV RL 198 yX2_coinsIn := ⟨⟨880, by decide +kernel⟩, ⟨881, by decide +kernel⟩, ⟨882, by decide +kernel⟩⟩
theorem kl_L_199 : KS RL 199 yL_loudestOn := ⟨⟨598, by decide +kernel⟩, ⟨599, by decide +kernel⟩⟩
theorem kl_L_201 : KV RL 201 yX2_loudestOn := ⟨⟨888, by decide +kernel⟩, ⟨889, by decide +kernel⟩, ⟨890, by decide +kernel⟩⟩
theorem kl_L_202 : KS RL 202 yL_loudnessWanted := ⟨⟨608, by decide +kernel⟩, ⟨609, by decide +kernel⟩⟩
theorem kl_L_204 : KV RL 204 yX2_loudnessWanted := ⟨⟨892, by decide +kernel⟩, ⟨893, by decide +kernel⟩, ⟨894, by decide +kernel⟩⟩
theorem kl_L_205 : KS RL 205 yL_bestStone := ⟨⟨615, by decide +kernel⟩, ⟨616, by decide +kernel⟩⟩
theorem kl_L_207 : KV RL 207 yX2_bestStone := ⟨⟨900, by decide +kernel⟩, ⟨901, by decide +kernel⟩, ⟨902, by decide +kernel⟩⟩
theorem kl_L_208 : KV RL 208 yX1_meanLoudness := ⟨⟨238, by decide +kernel⟩, ⟨239, by decide +kernel⟩, ⟨240, by decide +kernel⟩⟩
theorem kl_L_212 : KV RL 212 yX2_meanLoudness := ⟨⟨912, by decide +kernel⟩, ⟨913, by decide +kernel⟩, ⟨914, by decide +kernel⟩⟩
theorem kl_L_213 : KV RL 213 yX1_digest := ⟨⟨242, by decide +kernel⟩, ⟨243, by decide +kernel⟩, ⟨244, by decide +kernel⟩⟩
theorem kl_L_217 : KV RL 217 yX2_digest := ⟨⟨916, by decide +kernel⟩, ⟨917, by decide +kernel⟩, ⟨918, by decide +kernel⟩⟩
theorem kl_X0_51 : KS RX0 51 yJ7_fill_53178 := ⟨⟨78, by decide +kernel⟩, ⟨79, by decide +kernel⟩⟩
theorem kl_X0_82 : KV RX0 82 yX0_start := ⟨⟨345, by decide +kernel⟩, ⟨347, by decide +kernel⟩, ⟨13, by decide +kernel⟩⟩
theorem kl_X0_86 : KV RX0 86 yX0_move := ⟨⟨204, by decide +kernel⟩, ⟨206, by decide +kernel⟩, ⟨2, by decide +kernel⟩⟩
theorem kl_X0_90 : KV RX0 90 yX0_meet := ⟨⟨219, by decide +kernel⟩, ⟨221, by decide +kernel⟩, ⟨5, by decide +kernel⟩⟩
theorem kl_X0_93 : KV RX0 93 yX0_listen := ⟨⟨227, by decide +kernel⟩, ⟨229, by decide +kernel⟩, ⟨7, by decide +kernel⟩⟩
theorem kl_X0_97 : KSN RX0 97 yX1_isStone := ⟨⟨208, _, (by decide +kernel : lw_tbl[208]? = some (.methodLinkNest RX0 97 yX1_isStone RX1))⟩, ⟨209, by decide +kernel⟩⟩
theorem kl_X0_101 : KV RX0 101 yX0_hush := ⟨⟨211, by decide +kernel⟩, ⟨213, by decide +kernel⟩, ⟨3, by decide +kernel⟩⟩
theorem kl_X0_104 : KV RX0 104 yX0_turnAt := ⟨⟨215, by decide +kernel⟩, ⟨217, by decide +kernel⟩, ⟨4, by decide +kernel⟩⟩
theorem kl_X0_108 : KV RX0 108 yX0_settle := ⟨⟨223, by decide +kernel⟩, ⟨225, by decide +kernel⟩, ⟨6, by decide +kernel⟩⟩
theorem kl_X0_111 : KV RX0 111 yX0_loseWall := ⟨⟨231, by decide +kernel⟩, ⟨233, by decide +kernel⟩, ⟨8, by decide +kernel⟩⟩
theorem kl_X0_114 : KSN RX0 114 yX1_otherEcho := ⟨⟨235, _, (by decide +kernel : lw_tbl[235]? = some (.methodLinkNest RX0 114 yX1_otherEcho RX1))⟩, ⟨236, by decide +kernel⟩⟩
theorem kl_X1_19 : KS RX1 19 yX1_needStone := ⟨⟨447, by decide +kernel⟩, ⟨448, by decide +kernel⟩⟩
theorem kl_X1_23 : KS RX1 23 yX1_needEcho := ⟨⟨358, by decide +kernel⟩, ⟨359, by decide +kernel⟩⟩
theorem kl_X1_46 : KVN RX1 46 yX0_build := ⟨⟨491, _, (by decide +kernel : lw_tbl[491]? = some (.methodLinkNest RX1 46 yX0_build RX1))⟩, ⟨493, by decide +kernel⟩, ⟨21, by decide +kernel⟩⟩
theorem kl_X1_50 : KV RX1 50 yX1_needWall := ⟨⟨401, by decide +kernel⟩, ⟨403, by decide +kernel⟩, ⟨16, by decide +kernel⟩⟩
theorem kl_X1_56 : KS RX1 56 yX1_otherEcho := ⟨⟨502, by decide +kernel⟩, ⟨236, by decide +kernel⟩⟩
theorem kl_X1_65 : KS RX1 65 yX1_needLoud := ⟨⟨266, by decide +kernel⟩, ⟨267, by decide +kernel⟩⟩
theorem kl_X1_81 : KVN RX1 81 yX0_start := ⟨⟨520, _, (by decide +kernel : lw_tbl[520]? = some (.methodLinkNest RX1 81 yX0_start RX1))⟩, ⟨347, by decide +kernel⟩, ⟨13, by decide +kernel⟩⟩
theorem kl_X1_85 : KS RX1 85 yX1_needBeats := ⟨⟨389, by decide +kernel⟩, ⟨390, by decide +kernel⟩⟩
theorem kl_X1_91 : KVN RX1 91 yX0_goOn := ⟨⟨200, _, (by decide +kernel : lw_tbl[200]? = some (.methodLinkNest RX1 91 yX0_goOn RX1))⟩, ⟨202, by decide +kernel⟩, ⟨1, by decide +kernel⟩⟩
theorem kl_X1_100 : KVN RX1 100 yX0_loudAt := ⟨⟨456, _, (by decide +kernel : lw_tbl[456]? = some (.methodLinkNest RX1 100 yX0_loudAt RX1))⟩, ⟨458, by decide +kernel⟩, ⟨20, by decide +kernel⟩⟩
theorem kl_X1_115 : KV RX1 115 yX1_needShout := ⟨⟨422, by decide +kernel⟩, ⟨424, by decide +kernel⟩, ⟨18, by decide +kernel⟩⟩
theorem kl_X1_130 : KS RX1 130 yX1_isStone := ⟨⟨450, by decide +kernel⟩, ⟨209, by decide +kernel⟩⟩
theorem kl_X1_134 : KVN RX1 134 yX0_copyFrom := ⟨⟨193, _, (by decide +kernel : lw_tbl[193]? = some (.methodLinkNest RX1 134 yX0_copyFrom RX1))⟩, ⟨195, by decide +kernel⟩, ⟨0, by decide +kernel⟩⟩
theorem kl_X1_144 : KVN RX1 144 yX0_startAlone := ⟨⟨341, _, (by decide +kernel : lw_tbl[341]? = some (.methodLinkNest RX1 144 yX0_startAlone RX1))⟩, ⟨343, by decide +kernel⟩, ⟨12, by decide +kernel⟩⟩
theorem kl_X1_148 : KVN RX1 148 yX0_move := ⟨⟨349, _, (by decide +kernel : lw_tbl[349]? = some (.methodLinkNest RX1 148 yX0_move RX1))⟩, ⟨206, by decide +kernel⟩, ⟨2, by decide +kernel⟩⟩
theorem kl_X1_151 : KV RX1 151 yX1_turnsAlone := ⟨⟨337, by decide +kernel⟩, ⟨339, by decide +kernel⟩, ⟨11, by decide +kernel⟩⟩
theorem kl_X1_156 : KV RX1 156 yX1_digestCounts := ⟨⟨247, by decide +kernel⟩, ⟨249, by decide +kernel⟩, ⟨9, by decide +kernel⟩⟩
theorem kl_X1_160 : KV RX1 160 yX1_digestEchoes := ⟨⟨350, by decide +kernel⟩, ⟨352, by decide +kernel⟩, ⟨14, by decide +kernel⟩⟩
theorem kl_X1_163 : KV RX1 163 yX1_digestWalls := ⟨⟨393, by decide +kernel⟩, ⟨395, by decide +kernel⟩, ⟨15, by decide +kernel⟩⟩
theorem kl_X1_166 : KV RX1 166 yX1_digestShouts := ⟨⟨414, by decide +kernel⟩, ⟨416, by decide +kernel⟩, ⟨17, by decide +kernel⟩⟩
theorem kl_X1_169 : KV RX1 169 yX1_digestStones := ⟨⟨439, by decide +kernel⟩, ⟨441, by decide +kernel⟩, ⟨19, by decide +kernel⟩⟩
theorem kl_X1_172 : KV RX1 172 yX1_beat := ⟨⟨251, by decide +kernel⟩, ⟨166, by decide +kernel⟩, ⟨167, by decide +kernel⟩⟩
theorem kl_X1_176 : KS RX1 176 yX1_mix := ⟨⟨252, by decide +kernel⟩, ⟨253, by decide +kernel⟩⟩
theorem kl_X1_180 : KV RX1 180 yX1_walls := ⟨⟨256, by decide +kernel⟩, ⟨170, by decide +kernel⟩, ⟨171, by decide +kernel⟩⟩
theorem kl_X1_183 : KV RX1 183 yX1_shouts := ⟨⟨257, by decide +kernel⟩, ⟨174, by decide +kernel⟩, ⟨175, by decide +kernel⟩⟩
theorem kl_X1_186 : KV RX1 186 yX1_underWay := ⟨⟨258, by decide +kernel⟩, ⟨178, by decide +kernel⟩, ⟨179, by decide +kernel⟩⟩
theorem kl_X1_189 : KV RX1 189 yX1_overlaps := ⟨⟨259, by decide +kernel⟩, ⟨182, by decide +kernel⟩, ⟨183, by decide +kernel⟩⟩
theorem kl_X1_192 : KV RX1 192 yX1_inherited := ⟨⟨260, by decide +kernel⟩, ⟨186, by decide +kernel⟩, ⟨187, by decide +kernel⟩⟩
theorem kl_X1_195 : KV RX1 195 yX1_beatsUntilQuiet := ⟨⟨261, by decide +kernel⟩, ⟨190, by decide +kernel⟩, ⟨191, by decide +kernel⟩⟩
theorem kl_X1_198 : KV RX1 198 yX1_bestStone := ⟨⟨262, by decide +kernel⟩, ⟨263, by decide +kernel⟩, ⟨264, by decide +kernel⟩⟩
theorem kl_X1_201 : KV RX1 201 yX1_coinsOf := ⟨⟨354, by decide +kernel⟩, ⟨355, by decide +kernel⟩, ⟨356, by decide +kernel⟩⟩
theorem kl_X1_204 : KV RX1 204 yX1_wallsOf := ⟨⟨377, by decide +kernel⟩, ⟨378, by decide +kernel⟩, ⟨379, by decide +kernel⟩⟩
theorem kl_X1_207 : KV RX1 207 yX1_silentFor := ⟨⟨381, by decide +kernel⟩, ⟨382, by decide +kernel⟩, ⟨383, by decide +kernel⟩⟩
theorem kl_X1_210 : KV RX1 210 yX1_coinsIn := ⟨⟨385, by decide +kernel⟩, ⟨386, by decide +kernel⟩, ⟨387, by decide +kernel⟩⟩
theorem kl_X1_213 : KV RX1 213 yX1_stoneOf := ⟨⟨397, by decide +kernel⟩, ⟨398, by decide +kernel⟩, ⟨399, by decide +kernel⟩⟩
theorem kl_X1_216 : KV RX1 216 yX1_ownerOf := ⟨⟨406, by decide +kernel⟩, ⟨407, by decide +kernel⟩, ⟨408, by decide +kernel⟩⟩
theorem kl_X1_219 : KV RX1 219 yX1_thrownBack := ⟨⟨410, by decide +kernel⟩, ⟨411, by decide +kernel⟩, ⟨412, by decide +kernel⟩⟩
theorem kl_X1_222 : KV RX1 222 yX1_loudnessOf := ⟨⟨418, by decide +kernel⟩, ⟨419, by decide +kernel⟩, ⟨420, by decide +kernel⟩⟩
theorem kl_X1_225 : KV RX1 225 yX1_placeOf := ⟨⟨427, by decide +kernel⟩, ⟨428, by decide +kernel⟩, ⟨429, by decide +kernel⟩⟩
theorem kl_X1_228 : KV RX1 228 yX1_goesRight := ⟨⟨431, by decide +kernel⟩, ⟨432, by decide +kernel⟩, ⟨433, by decide +kernel⟩⟩
theorem kl_X1_231 : KV RX1 231 yX1_turnsOf := ⟨⟨435, by decide +kernel⟩, ⟨436, by decide +kernel⟩, ⟨437, by decide +kernel⟩⟩
theorem kl_X1_234 : KV RX1 234 yX1_snowOn := ⟨⟨443, by decide +kernel⟩, ⟨444, by decide +kernel⟩, ⟨445, by decide +kernel⟩⟩
theorem kl_X1_237 : KV RX1 237 yX1_loudOn := ⟨⟨452, by decide +kernel⟩, ⟨453, by decide +kernel⟩, ⟨454, by decide +kernel⟩⟩
theorem kl_X1_240 : KV RX1 240 yX1_nextWall := ⟨⟨460, by decide +kernel⟩, ⟨461, by decide +kernel⟩, ⟨462, by decide +kernel⟩⟩
theorem kl_X2_36 : KS RX2 36 yX2_isIn := ⟨⟨668, by decide +kernel⟩, ⟨669, by decide +kernel⟩⟩
theorem kl_X2_58 : KS RX2 58 yX2_isStone := ⟨⟨665, by decide +kernel⟩, ⟨666, by decide +kernel⟩⟩
theorem kl_X2_62 : KV RX2 62 yX2_let := ⟨⟨726, by decide +kernel⟩, ⟨728, by decide +kernel⟩, ⟨31, by decide +kernel⟩⟩
theorem kl_X2_66 : KV RX2 66 yX2_goes := ⟨⟨698, by decide +kernel⟩, ⟨700, by decide +kernel⟩, ⟨25, by decide +kernel⟩⟩
theorem kl_X2_69 : KV RX2 69 yX2_loudest := ⟨⟨702, by decide +kernel⟩, ⟨704, by decide +kernel⟩, ⟨26, by decide +kernel⟩⟩
theorem kl_X2_73 : KV RX2 73 yX2_firstOf := ⟨⟨739, by decide +kernel⟩, ⟨741, by decide +kernel⟩, ⟨34, by decide +kernel⟩⟩
theorem kl_X2_76 : KV RX2 76 yX2_step := ⟨⟨722, by decide +kernel⟩, ⟨724, by decide +kernel⟩, ⟨30, by decide +kernel⟩⟩
theorem kl_X2_80 : KV RX2 80 yX2_meet := ⟨⟨731, by decide +kernel⟩, ⟨733, by decide +kernel⟩, ⟨32, by decide +kernel⟩⟩
theorem kl_X2_83 : KV RX2 83 yX2_hush := ⟨⟨735, by decide +kernel⟩, ⟨737, by decide +kernel⟩, ⟨33, by decide +kernel⟩⟩
theorem kl_X2_86 : KV RX2 86 yX2_beatOn := ⟨⟨718, by decide +kernel⟩, ⟨720, by decide +kernel⟩, ⟨29, by decide +kernel⟩⟩
theorem kl_X2_89 : KS RX2 89 yX2_isEcho := ⟨⟨671, by decide +kernel⟩, ⟨672, by decide +kernel⟩⟩
theorem kl_X2_92 : KV RX2 92 yX2_no := ⟨⟨674, by decide +kernel⟩, ⟨676, by decide +kernel⟩, ⟨22, by decide +kernel⟩⟩
theorem kl_X2_95 : KV RX2 95 yX2_isWall := ⟨⟨682, by decide +kernel⟩, ⟨684, by decide +kernel⟩, ⟨23, by decide +kernel⟩⟩
theorem kl_X2_98 : KV RX2 98 yX2_many := ⟨⟨694, by decide +kernel⟩, ⟨696, by decide +kernel⟩, ⟨24, by decide +kernel⟩⟩
theorem kl_X2_102 : KV RX2 102 yX2_coins := ⟨⟨710, by decide +kernel⟩, ⟨712, by decide +kernel⟩, ⟨27, by decide +kernel⟩⟩
theorem kl_X2_105 : KV RX2 105 yX2_beatsOn := ⟨⟨714, by decide +kernel⟩, ⟨716, by decide +kernel⟩, ⟨28, by decide +kernel⟩⟩
theorem kl_X2_108 : KV RX2 108 yX2_ok := ⟨⟨747, by decide +kernel⟩, ⟨749, by decide +kernel⟩, ⟨35, by decide +kernel⟩⟩
theorem kl_X2_111 : KV RX2 111 yX2_isKnown := ⟨⟨771, by decide +kernel⟩, ⟨773, by decide +kernel⟩, ⟨36, by decide +kernel⟩⟩
theorem kl_X2_115 : KV RX2 115 yX2_loudAt := ⟨⟨783, by decide +kernel⟩, ⟨785, by decide +kernel⟩, ⟨37, by decide +kernel⟩⟩
theorem kl_X2_118 : KV RX2 118 yX2_manyOf := ⟨⟨807, by decide +kernel⟩, ⟨809, by decide +kernel⟩, ⟨38, by decide +kernel⟩⟩
theorem kl_X2_121 : KV RX2 121 yX2_isShout := ⟨⟨823, by decide +kernel⟩, ⟨825, by decide +kernel⟩, ⟨39, by decide +kernel⟩⟩
theorem kl_X2_124 : KV RX2 124 yX2_place := ⟨⟨831, by decide +kernel⟩, ⟨833, by decide +kernel⟩, ⟨40, by decide +kernel⟩⟩
theorem kl_X2_127 : KV RX2 127 yX2_isRight := ⟨⟨839, by decide +kernel⟩, ⟨841, by decide +kernel⟩, ⟨41, by decide +kernel⟩⟩
theorem kl_X2_130 : KV RX2 130 yX2_next := ⟨⟨851, by decide +kernel⟩, ⟨853, by decide +kernel⟩, ⟨42, by decide +kernel⟩⟩
theorem kl_X2_133 : KV RX2 133 yX2_keep := ⟨⟨863, by decide +kernel⟩, ⟨865, by decide +kernel⟩, ⟨44, by decide +kernel⟩⟩
theorem kl_X2_136 : KV RX2 136 yX2_bringBack := ⟨⟨868, by decide +kernel⟩, ⟨870, by decide +kernel⟩, ⟨45, by decide +kernel⟩⟩
theorem kl_X2_139 : KV RX2 139 yX2_untilGone := ⟨⟨859, by decide +kernel⟩, ⟨861, by decide +kernel⟩, ⟨43, by decide +kernel⟩⟩
theorem kl_X2_142 : KV RX2 142 yX2_untilQuiet := ⟨⟨876, by decide +kernel⟩, ⟨878, by decide +kernel⟩, ⟨46, by decide +kernel⟩⟩
theorem kl_X2_145 : KV RX2 145 yX2_earns := ⟨⟨884, by decide +kernel⟩, ⟨886, by decide +kernel⟩, ⟨47, by decide +kernel⟩⟩
theorem kl_X2_148 : KV RX2 148 yX2_loses := ⟨⟨896, by decide +kernel⟩, ⟨898, by decide +kernel⟩, ⟨48, by decide +kernel⟩⟩
theorem kl_X2_152 : KV RX2 152 yX2_turns := ⟨⟨908, by decide +kernel⟩, ⟨910, by decide +kernel⟩, ⟨50, by decide +kernel⟩⟩
theorem kl_X2_155 : KV RX2 155 yX2_best := ⟨⟨904, by decide +kernel⟩, ⟨906, by decide +kernel⟩, ⟨49, by decide +kernel⟩⟩
theorem cd_X0_copyFrom : CD yX0_copyFrom cX0_copyFrom 2 none 1 := ⟨⟨196, by decide +kernel⟩, List.mem_of_getElem? (i := 53) (by decide +kernel), by decide +kernel, by decide +kernel, by decide +kernel⟩
theorem cd_X0_build : CD yX0_build cX0_build 5 (some .int) 3 := ⟨⟨494, by decide +kernel⟩, List.mem_of_getElem? (i := 53) (by decide +kernel), by decide +kernel, by decide +kernel, by decide +kernel⟩
theorem cd_X0_start : CD yX0_start cX0_start 5 (some .int) 3 := ⟨⟨348, by decide +kernel⟩, List.mem_of_getElem? (i := 53) (by decide +kernel), by decide +kernel, by decide +kernel, by decide +kernel⟩
theorem cd_X0_startAlone : CD yX0_startAlone cX0_startAlone 4 none 3 := ⟨⟨344, by decide +kernel⟩, List.mem_of_getElem? (i := 53) (by decide +kernel), by decide +kernel, by decide +kernel, by decide +kernel⟩
theorem cd_X0_loudAt : CD yX0_loudAt cX0_loudAt 3 (some .int) 1 := ⟨⟨459, by decide +kernel⟩, List.mem_of_getElem? (i := 53) (by decide +kernel), by decide +kernel, by decide +kernel, by decide +kernel⟩
theorem cd_X0_goOn : CD yX0_goOn cX0_goOn 4 none 0 := ⟨⟨203, by decide +kernel⟩, List.mem_of_getElem? (i := 53) (by decide +kernel), by decide +kernel, by decide +kernel, by decide +kernel⟩
theorem cd_X0_move : CD yX0_move cX0_move 4 none 1 := ⟨⟨207, by decide +kernel⟩, List.mem_of_getElem? (i := 53) (by decide +kernel), by decide +kernel, by decide +kernel, by decide +kernel⟩
theorem cd_X0_turnAt : CD yX0_turnAt cX0_turnAt 3 none 2 := ⟨⟨218, by decide +kernel⟩, List.mem_of_getElem? (i := 53) (by decide +kernel), by decide +kernel, by decide +kernel, by decide +kernel⟩
theorem cd_X0_hush : CD yX0_hush cX0_hush 2 none 1 := ⟨⟨214, by decide +kernel⟩, List.mem_of_getElem? (i := 53) (by decide +kernel), by decide +kernel, by decide +kernel, by decide +kernel⟩
theorem cd_X0_meet : CD yX0_meet cX0_meet 2 none 0 := ⟨⟨222, by decide +kernel⟩, List.mem_of_getElem? (i := 53) (by decide +kernel), by decide +kernel, by decide +kernel, by decide +kernel⟩
theorem cd_X0_settle : CD yX0_settle cX0_settle 4 none 1 := ⟨⟨226, by decide +kernel⟩, List.mem_of_getElem? (i := 53) (by decide +kernel), by decide +kernel, by decide +kernel, by decide +kernel⟩
theorem cd_X0_listen : CD yX0_listen cX0_listen 3 none 2 := ⟨⟨230, by decide +kernel⟩, List.mem_of_getElem? (i := 53) (by decide +kernel), by decide +kernel, by decide +kernel, by decide +kernel⟩
theorem cd_X0_loseWall : CD yX0_loseWall cX0_loseWall 3 none 1 := ⟨⟨234, by decide +kernel⟩, List.mem_of_getElem? (i := 53) (by decide +kernel), by decide +kernel, by decide +kernel, by decide +kernel⟩
theorem cd_X1_addWall : CD yX1_addWall cX1_addWall 4 (some .int) 3 := ⟨⟨473, by decide +kernel⟩, List.mem_of_getElem? (i := 52) (by decide +kernel), by decide +kernel, by decide +kernel, by decide +kernel⟩
theorem cd_X1_hand : CD yX1_hand cX1_hand 2 (some .int) 1 := ⟨⟨501, by decide +kernel⟩, List.mem_of_getElem? (i := 52) (by decide +kernel), by decide +kernel, by decide +kernel, by decide +kernel⟩
theorem cd_X1_setSnow : CD yX1_setSnow cX1_setSnow 4 (some .int) 2 := ⟨⟨509, by decide +kernel⟩, List.mem_of_getElem? (i := 52) (by decide +kernel), by decide +kernel, by decide +kernel, by decide +kernel⟩
theorem cd_X1_shout : CD yX1_shout cX1_shout 4 (some .int) 3 := ⟨⟨517, by decide +kernel⟩, List.mem_of_getElem? (i := 52) (by decide +kernel), by decide +kernel, by decide +kernel, by decide +kernel⟩
theorem cd_X1_pass : CD yX1_pass cX1_pass 4 (some .int) 1 := ⟨⟨527, by decide +kernel⟩, List.mem_of_getElem? (i := 52) (by decide +kernel), by decide +kernel, by decide +kernel, by decide +kernel⟩
theorem cd_X1_beat : CD yX1_beat cX1_beat 1 (some .int) 0 := ⟨⟨168, by decide +kernel⟩, List.mem_of_getElem? (i := 52) (by decide +kernel), by decide +kernel, by decide +kernel, by decide +kernel⟩
theorem cd_X1_walls : CD yX1_walls cX1_walls 1 (some .int) 0 := ⟨⟨172, by decide +kernel⟩, List.mem_of_getElem? (i := 52) (by decide +kernel), by decide +kernel, by decide +kernel, by decide +kernel⟩
theorem cd_X1_shouts : CD yX1_shouts cX1_shouts 1 (some .int) 0 := ⟨⟨176, by decide +kernel⟩, List.mem_of_getElem? (i := 52) (by decide +kernel), by decide +kernel, by decide +kernel, by decide +kernel⟩
theorem cd_X1_underWay : CD yX1_underWay cX1_underWay 1 (some .int) 0 := ⟨⟨180, by decide +kernel⟩, List.mem_of_getElem? (i := 52) (by decide +kernel), by decide +kernel, by decide +kernel, by decide +kernel⟩
theorem cd_X1_overlaps : CD yX1_overlaps cX1_overlaps 1 (some .int) 0 := ⟨⟨184, by decide +kernel⟩, List.mem_of_getElem? (i := 52) (by decide +kernel), by decide +kernel, by decide +kernel, by decide +kernel⟩
theorem cd_X1_snowOn : CD yX1_snowOn cX1_snowOn 2 (some .int) 1 := ⟨⟨446, by decide +kernel⟩, List.mem_of_getElem? (i := 52) (by decide +kernel), by decide +kernel, by decide +kernel, by decide +kernel⟩
theorem cd_X1_wallOn : CD yX1_wallOn cX1_wallOn 2 (some .int) 1 := ⟨⟨538, by decide +kernel⟩, List.mem_of_getElem? (i := 52) (by decide +kernel), by decide +kernel, by decide +kernel, by decide +kernel⟩
theorem cd_X1_loudOn : CD yX1_loudOn cX1_loudOn 2 (some .int) 1 := ⟨⟨455, by decide +kernel⟩, List.mem_of_getElem? (i := 52) (by decide +kernel), by decide +kernel, by decide +kernel, by decide +kernel⟩
theorem cd_X1_stoneOf : CD yX1_stoneOf cX1_stoneOf 2 (some .int) 1 := ⟨⟨400, by decide +kernel⟩, List.mem_of_getElem? (i := 52) (by decide +kernel), by decide +kernel, by decide +kernel, by decide +kernel⟩
theorem cd_X1_ownerOf : CD yX1_ownerOf cX1_ownerOf 2 (some .int) 1 := ⟨⟨409, by decide +kernel⟩, List.mem_of_getElem? (i := 52) (by decide +kernel), by decide +kernel, by decide +kernel, by decide +kernel⟩
theorem cd_X1_thrownBack : CD yX1_thrownBack cX1_thrownBack 2 (some .int) 1 := ⟨⟨413, by decide +kernel⟩, List.mem_of_getElem? (i := 52) (by decide +kernel), by decide +kernel, by decide +kernel, by decide +kernel⟩
theorem cd_X1_coinsOf : CD yX1_coinsOf cX1_coinsOf 2 (some .int) 1 := ⟨⟨357, by decide +kernel⟩, List.mem_of_getElem? (i := 52) (by decide +kernel), by decide +kernel, by decide +kernel, by decide +kernel⟩
theorem cd_X1_wallsOf : CD yX1_wallsOf cX1_wallsOf 4 (some .int) 1 := ⟨⟨380, by decide +kernel⟩, List.mem_of_getElem? (i := 52) (by decide +kernel), by decide +kernel, by decide +kernel, by decide +kernel⟩
theorem cd_X1_silentFor : CD yX1_silentFor cX1_silentFor 2 (some .int) 1 := ⟨⟨384, by decide +kernel⟩, List.mem_of_getElem? (i := 52) (by decide +kernel), by decide +kernel, by decide +kernel, by decide +kernel⟩
theorem cd_X1_inherited : CD yX1_inherited cX1_inherited 1 (some .int) 0 := ⟨⟨188, by decide +kernel⟩, List.mem_of_getElem? (i := 52) (by decide +kernel), by decide +kernel, by decide +kernel, by decide +kernel⟩
theorem cd_X1_loudnessOf : CD yX1_loudnessOf cX1_loudnessOf 2 (some .int) 1 := ⟨⟨421, by decide +kernel⟩, List.mem_of_getElem? (i := 52) (by decide +kernel), by decide +kernel, by decide +kernel, by decide +kernel⟩
theorem cd_X1_placeOf : CD yX1_placeOf cX1_placeOf 2 (some .int) 1 := ⟨⟨430, by decide +kernel⟩, List.mem_of_getElem? (i := 52) (by decide +kernel), by decide +kernel, by decide +kernel, by decide +kernel⟩
theorem cd_X1_goesRight : CD yX1_goesRight cX1_goesRight 2 (some .boolean) 1 := ⟨⟨434, by decide +kernel⟩, List.mem_of_getElem? (i := 52) (by decide +kernel), by decide +kernel, by decide +kernel, by decide +kernel⟩
theorem cd_X1_turnsOf : CD yX1_turnsOf cX1_turnsOf 2 (some .int) 1 := ⟨⟨438, by decide +kernel⟩, List.mem_of_getElem? (i := 52) (by decide +kernel), by decide +kernel, by decide +kernel, by decide +kernel⟩
theorem cd_X1_nextWall : CD yX1_nextWall cX1_nextWall 5 (some .int) 2 := ⟨⟨463, by decide +kernel⟩, List.mem_of_getElem? (i := 52) (by decide +kernel), by decide +kernel, by decide +kernel, by decide +kernel⟩
theorem cd_X1_beatsUntilGone : CD yX1_beatsUntilGone cX1_beatsUntilGone 3 (some .int) 1 := ⟨⟨593, by decide +kernel⟩, List.mem_of_getElem? (i := 52) (by decide +kernel), by decide +kernel, by decide +kernel, by decide +kernel⟩
theorem cd_X1_beatsUntilQuiet : CD yX1_beatsUntilQuiet cX1_beatsUntilQuiet 2 (some .int) 0 := ⟨⟨192, by decide +kernel⟩, List.mem_of_getElem? (i := 52) (by decide +kernel), by decide +kernel, by decide +kernel, by decide +kernel⟩
theorem cd_X1_coinsIn : CD yX1_coinsIn cX1_coinsIn 4 (some .int) 2 := ⟨⟨388, by decide +kernel⟩, List.mem_of_getElem? (i := 52) (by decide +kernel), by decide +kernel, by decide +kernel, by decide +kernel⟩
theorem cd_X1_loudestOn : CD yX1_loudestOn cX1_loudestOn 5 (some .int) 2 := ⟨⟨604, by decide +kernel⟩, List.mem_of_getElem? (i := 52) (by decide +kernel), by decide +kernel, by decide +kernel, by decide +kernel⟩
theorem cd_X1_loudnessWanted : CD yX1_loudnessWanted cX1_loudnessWanted 5 (some .int) 3 := ⟨⟨614, by decide +kernel⟩, List.mem_of_getElem? (i := 52) (by decide +kernel), by decide +kernel, by decide +kernel, by decide +kernel⟩
theorem cd_X1_bestStone : CD yX1_bestStone cX1_bestStone 6 (some .int) 1 := ⟨⟨265, by decide +kernel⟩, List.mem_of_getElem? (i := 52) (by decide +kernel), by decide +kernel, by decide +kernel, by decide +kernel⟩
theorem cd_X1_meanLoudness : CD yX1_meanLoudness cX1_meanLoudness 3 (some .double) 0 := ⟨⟨241, by decide +kernel⟩, List.mem_of_getElem? (i := 52) (by decide +kernel), by decide +kernel, by decide +kernel, by decide +kernel⟩
theorem cd_X1_digest : CD yX1_digest cX1_digest 3 (some .long) 0 := ⟨⟨245, by decide +kernel⟩, List.mem_of_getElem? (i := 52) (by decide +kernel), by decide +kernel, by decide +kernel, by decide +kernel⟩
theorem cd_X1_digestCounts : CD yX1_digestCounts cX1_digestCounts 5 (some .long) 1 := ⟨⟨250, by decide +kernel⟩, List.mem_of_getElem? (i := 52) (by decide +kernel), by decide +kernel, by decide +kernel, by decide +kernel⟩
theorem cd_X1_digestEchoes : CD yX1_digestEchoes cX1_digestEchoes 6 (some .long) 1 := ⟨⟨353, by decide +kernel⟩, List.mem_of_getElem? (i := 52) (by decide +kernel), by decide +kernel, by decide +kernel, by decide +kernel⟩
theorem cd_X1_digestWalls : CD yX1_digestWalls cX1_digestWalls 6 (some .long) 1 := ⟨⟨396, by decide +kernel⟩, List.mem_of_getElem? (i := 52) (by decide +kernel), by decide +kernel, by decide +kernel, by decide +kernel⟩
theorem cd_X1_digestShouts : CD yX1_digestShouts cX1_digestShouts 6 (some .long) 1 := ⟨⟨417, by decide +kernel⟩, List.mem_of_getElem? (i := 52) (by decide +kernel), by decide +kernel, by decide +kernel, by decide +kernel⟩
theorem cd_X1_digestStones : CD yX1_digestStones cX1_digestStones 6 (some .long) 1 := ⟨⟨442, by decide +kernel⟩, List.mem_of_getElem? (i := 52) (by decide +kernel), by decide +kernel, by decide +kernel, by decide +kernel⟩
theorem cd_X1_mix : CD yX1_mix cX1_mix 3 (some .long) 2 := ⟨⟨254, by decide +kernel⟩, List.mem_of_getElem? (i := 52) (by decide +kernel), by decide +kernel, by decide +kernel, by decide +kernel⟩
theorem cd_X1_turnsAlone : CD yX1_turnsAlone cX1_turnsAlone 4 (some .int) 2 := ⟨⟨340, by decide +kernel⟩, List.mem_of_getElem? (i := 52) (by decide +kernel), by decide +kernel, by decide +kernel, by decide +kernel⟩
theorem cd_X1_isStone : CD yX1_isStone cX1_isStone 1 (some .boolean) 1 := ⟨⟨210, by decide +kernel⟩, List.mem_of_getElem? (i := 52) (by decide +kernel), by decide +kernel, by decide +kernel, by decide +kernel⟩
theorem cd_X1_otherEcho : CD yX1_otherEcho cX1_otherEcho 1 (some .int) 1 := ⟨⟨237, by decide +kernel⟩, List.mem_of_getElem? (i := 52) (by decide +kernel), by decide +kernel, by decide +kernel, by decide +kernel⟩
theorem cd_X1_needStone : CD yX1_needStone cX1_needStone 1 none 1 := ⟨⟨449, by decide +kernel⟩, List.mem_of_getElem? (i := 52) (by decide +kernel), by decide +kernel, by decide +kernel, by decide +kernel⟩
theorem cd_X1_needEcho : CD yX1_needEcho cX1_needEcho 1 none 1 := ⟨⟨360, by decide +kernel⟩, List.mem_of_getElem? (i := 52) (by decide +kernel), by decide +kernel, by decide +kernel, by decide +kernel⟩
theorem cd_X1_needWall : CD yX1_needWall cX1_needWall 2 none 1 := ⟨⟨404, by decide +kernel⟩, List.mem_of_getElem? (i := 52) (by decide +kernel), by decide +kernel, by decide +kernel, by decide +kernel⟩
theorem cd_X1_needShout : CD yX1_needShout cX1_needShout 2 none 1 := ⟨⟨425, by decide +kernel⟩, List.mem_of_getElem? (i := 52) (by decide +kernel), by decide +kernel, by decide +kernel, by decide +kernel⟩
theorem cd_X1_needLoud : CD yX1_needLoud cX1_needLoud 1 none 1 := ⟨⟨268, by decide +kernel⟩, List.mem_of_getElem? (i := 52) (by decide +kernel), by decide +kernel, by decide +kernel, by decide +kernel⟩
theorem cd_X1_needBeats : CD yX1_needBeats cX1_needBeats 1 none 1 := ⟨⟨391, by decide +kernel⟩, List.mem_of_getElem? (i := 52) (by decide +kernel), by decide +kernel, by decide +kernel, by decide +kernel⟩
theorem cd_X2_thrown : CD yX2_thrown cX2_thrown 1 (some .int) 0 := ⟨⟨660, by decide +kernel⟩, List.mem_of_getElem? (i := 55) (by decide +kernel), by decide +kernel, by decide +kernel, by decide +kernel⟩
theorem cd_X2_no : CD yX2_no cX2_no 2 (some .int) 1 := ⟨⟨677, by decide +kernel⟩, List.mem_of_getElem? (i := 55) (by decide +kernel), by decide +kernel, by decide +kernel, by decide +kernel⟩
theorem cd_X2_ok : CD yX2_ok cX2_ok 2 (some .int) 1 := ⟨⟨750, by decide +kernel⟩, List.mem_of_getElem? (i := 55) (by decide +kernel), by decide +kernel, by decide +kernel, by decide +kernel⟩
theorem cd_X2_isIn : CD yX2_isIn cX2_isIn 3 (some .boolean) 3 := ⟨⟨670, by decide +kernel⟩, List.mem_of_getElem? (i := 55) (by decide +kernel), by decide +kernel, by decide +kernel, by decide +kernel⟩
theorem cd_X2_isStone : CD yX2_isStone cX2_isStone 1 (some .boolean) 1 := ⟨⟨667, by decide +kernel⟩, List.mem_of_getElem? (i := 55) (by decide +kernel), by decide +kernel, by decide +kernel, by decide +kernel⟩
theorem cd_X2_isEcho : CD yX2_isEcho cX2_isEcho 1 (some .boolean) 1 := ⟨⟨673, by decide +kernel⟩, List.mem_of_getElem? (i := 55) (by decide +kernel), by decide +kernel, by decide +kernel, by decide +kernel⟩
theorem cd_X2_isWall : CD yX2_isWall cX2_isWall 2 (some .boolean) 1 := ⟨⟨685, by decide +kernel⟩, List.mem_of_getElem? (i := 55) (by decide +kernel), by decide +kernel, by decide +kernel, by decide +kernel⟩
theorem cd_X2_isShout : CD yX2_isShout cX2_isShout 2 (some .boolean) 1 := ⟨⟨826, by decide +kernel⟩, List.mem_of_getElem? (i := 55) (by decide +kernel), by decide +kernel, by decide +kernel, by decide +kernel⟩
theorem cd_X2_keep : CD yX2_keep cX2_keep 1 none 0 := ⟨⟨866, by decide +kernel⟩, List.mem_of_getElem? (i := 55) (by decide +kernel), by decide +kernel, by decide +kernel, by decide +kernel⟩
theorem cd_X2_bringBack : CD yX2_bringBack cX2_bringBack 1 none 0 := ⟨⟨871, by decide +kernel⟩, List.mem_of_getElem? (i := 55) (by decide +kernel), by decide +kernel, by decide +kernel, by decide +kernel⟩
theorem cd_X2_goes : CD yX2_goes cX2_goes 2 (some .boolean) 1 := ⟨⟨701, by decide +kernel⟩, List.mem_of_getElem? (i := 55) (by decide +kernel), by decide +kernel, by decide +kernel, by decide +kernel⟩
theorem cd_X2_let : CD yX2_let cX2_let 3 none 2 := ⟨⟨729, by decide +kernel⟩, List.mem_of_getElem? (i := 55) (by decide +kernel), by decide +kernel, by decide +kernel, by decide +kernel⟩
theorem cd_X2_step : CD yX2_step cX2_step 5 none 1 := ⟨⟨725, by decide +kernel⟩, List.mem_of_getElem? (i := 55) (by decide +kernel), by decide +kernel, by decide +kernel, by decide +kernel⟩
theorem cd_X2_loudest : CD yX2_loudest cX2_loudest 4 (some .int) 1 := ⟨⟨705, by decide +kernel⟩, List.mem_of_getElem? (i := 55) (by decide +kernel), by decide +kernel, by decide +kernel, by decide +kernel⟩
theorem cd_X2_meet : CD yX2_meet cX2_meet 2 none 1 := ⟨⟨734, by decide +kernel⟩, List.mem_of_getElem? (i := 55) (by decide +kernel), by decide +kernel, by decide +kernel, by decide +kernel⟩
theorem cd_X2_firstOf : CD yX2_firstOf cX2_firstOf 3 (some .int) 1 := ⟨⟨742, by decide +kernel⟩, List.mem_of_getElem? (i := 55) (by decide +kernel), by decide +kernel, by decide +kernel, by decide +kernel⟩
theorem cd_X2_hush : CD yX2_hush cX2_hush 3 none 1 := ⟨⟨738, by decide +kernel⟩, List.mem_of_getElem? (i := 55) (by decide +kernel), by decide +kernel, by decide +kernel, by decide +kernel⟩
theorem cd_X2_beatOn : CD yX2_beatOn cX2_beatOn 2 none 0 := ⟨⟨721, by decide +kernel⟩, List.mem_of_getElem? (i := 55) (by decide +kernel), by decide +kernel, by decide +kernel, by decide +kernel⟩
theorem cd_X2_beatsOn : CD yX2_beatsOn cX2_beatsOn 3 none 1 := ⟨⟨717, by decide +kernel⟩, List.mem_of_getElem? (i := 55) (by decide +kernel), by decide +kernel, by decide +kernel, by decide +kernel⟩
theorem cd_X2_coins : CD yX2_coins cX2_coins 1 (some .int) 0 := ⟨⟨713, by decide +kernel⟩, List.mem_of_getElem? (i := 55) (by decide +kernel), by decide +kernel, by decide +kernel, by decide +kernel⟩
theorem cd_X2_many : CD yX2_many cX2_many 3 (some .int) 0 := ⟨⟨697, by decide +kernel⟩, List.mem_of_getElem? (i := 55) (by decide +kernel), by decide +kernel, by decide +kernel, by decide +kernel⟩
theorem cd_X2_addWall : CD yX2_addWall cX2_addWall 4 (some .int) 3 := ⟨⟨664, by decide +kernel⟩, List.mem_of_getElem? (i := 55) (by decide +kernel), by decide +kernel, by decide +kernel, by decide +kernel⟩
theorem cd_X2_hand : CD yX2_hand cX2_hand 2 (some .int) 1 := ⟨⟨681, by decide +kernel⟩, List.mem_of_getElem? (i := 55) (by decide +kernel), by decide +kernel, by decide +kernel, by decide +kernel⟩
theorem cd_X2_setSnow : CD yX2_setSnow cX2_setSnow 4 (some .int) 2 := ⟨⟨689, by decide +kernel⟩, List.mem_of_getElem? (i := 55) (by decide +kernel), by decide +kernel, by decide +kernel, by decide +kernel⟩
theorem cd_X2_shout : CD yX2_shout cX2_shout 4 (some .int) 3 := ⟨⟨693, by decide +kernel⟩, List.mem_of_getElem? (i := 55) (by decide +kernel), by decide +kernel, by decide +kernel, by decide +kernel⟩
theorem cd_X2_pass : CD yX2_pass cX2_pass 3 (some .int) 1 := ⟨⟨709, by decide +kernel⟩, List.mem_of_getElem? (i := 55) (by decide +kernel), by decide +kernel, by decide +kernel, by decide +kernel⟩
theorem cd_X2_beat : CD yX2_beat cX2_beat 1 (some .int) 0 := ⟨⟨746, by decide +kernel⟩, List.mem_of_getElem? (i := 55) (by decide +kernel), by decide +kernel, by decide +kernel, by decide +kernel⟩
theorem cd_X2_walls : CD yX2_walls cX2_walls 1 (some .int) 0 := ⟨⟨754, by decide +kernel⟩, List.mem_of_getElem? (i := 55) (by decide +kernel), by decide +kernel, by decide +kernel, by decide +kernel⟩
theorem cd_X2_shouts : CD yX2_shouts cX2_shouts 1 (some .int) 0 := ⟨⟨758, by decide +kernel⟩, List.mem_of_getElem? (i := 55) (by decide +kernel), by decide +kernel, by decide +kernel, by decide +kernel⟩
theorem cd_X2_underWay : CD yX2_underWay cX2_underWay 1 (some .int) 0 := ⟨⟨762, by decide +kernel⟩, List.mem_of_getElem? (i := 55) (by decide +kernel), by decide +kernel, by decide +kernel, by decide +kernel⟩
theorem cd_X2_overlaps : CD yX2_overlaps cX2_overlaps 1 (some .int) 0 := ⟨⟨766, by decide +kernel⟩, List.mem_of_getElem? (i := 55) (by decide +kernel), by decide +kernel, by decide +kernel, by decide +kernel⟩
theorem cd_X2_isKnown : CD yX2_isKnown cX2_isKnown 2 (some .boolean) 1 := ⟨⟨774, by decide +kernel⟩, List.mem_of_getElem? (i := 55) (by decide +kernel), by decide +kernel, by decide +kernel, by decide +kernel⟩
theorem cd_X2_snowOn : CD yX2_snowOn cX2_snowOn 2 (some .int) 1 := ⟨⟨770, by decide +kernel⟩, List.mem_of_getElem? (i := 55) (by decide +kernel), by decide +kernel, by decide +kernel, by decide +kernel⟩
theorem cd_X2_wallOn : CD yX2_wallOn cX2_wallOn 2 (some .int) 1 := ⟨⟨778, by decide +kernel⟩, List.mem_of_getElem? (i := 55) (by decide +kernel), by decide +kernel, by decide +kernel, by decide +kernel⟩
theorem cd_X2_loudAt : CD yX2_loudAt cX2_loudAt 2 (some .int) 1 := ⟨⟨786, by decide +kernel⟩, List.mem_of_getElem? (i := 55) (by decide +kernel), by decide +kernel, by decide +kernel, by decide +kernel⟩
theorem cd_X2_loudOn : CD yX2_loudOn cX2_loudOn 2 (some .int) 1 := ⟨⟨782, by decide +kernel⟩, List.mem_of_getElem? (i := 55) (by decide +kernel), by decide +kernel, by decide +kernel, by decide +kernel⟩
theorem cd_X2_stoneOf : CD yX2_stoneOf cX2_stoneOf 2 (some .int) 1 := ⟨⟨790, by decide +kernel⟩, List.mem_of_getElem? (i := 55) (by decide +kernel), by decide +kernel, by decide +kernel, by decide +kernel⟩
theorem cd_X2_ownerOf : CD yX2_ownerOf cX2_ownerOf 2 (some .int) 1 := ⟨⟨794, by decide +kernel⟩, List.mem_of_getElem? (i := 55) (by decide +kernel), by decide +kernel, by decide +kernel, by decide +kernel⟩
theorem cd_X2_thrownBack : CD yX2_thrownBack cX2_thrownBack 2 (some .int) 1 := ⟨⟨798, by decide +kernel⟩, List.mem_of_getElem? (i := 55) (by decide +kernel), by decide +kernel, by decide +kernel, by decide +kernel⟩
theorem cd_X2_coinsOf : CD yX2_coinsOf cX2_coinsOf 2 (some .int) 1 := ⟨⟨802, by decide +kernel⟩, List.mem_of_getElem? (i := 55) (by decide +kernel), by decide +kernel, by decide +kernel, by decide +kernel⟩
theorem cd_X2_manyOf : CD yX2_manyOf cX2_manyOf 4 (some .int) 1 := ⟨⟨810, by decide +kernel⟩, List.mem_of_getElem? (i := 55) (by decide +kernel), by decide +kernel, by decide +kernel, by decide +kernel⟩
theorem cd_X2_wallsOf : CD yX2_wallsOf cX2_wallsOf 2 (some .int) 1 := ⟨⟨806, by decide +kernel⟩, List.mem_of_getElem? (i := 55) (by decide +kernel), by decide +kernel, by decide +kernel, by decide +kernel⟩
theorem cd_X2_silentFor : CD yX2_silentFor cX2_silentFor 2 (some .int) 1 := ⟨⟨814, by decide +kernel⟩, List.mem_of_getElem? (i := 55) (by decide +kernel), by decide +kernel, by decide +kernel, by decide +kernel⟩
theorem cd_X2_inherited : CD yX2_inherited cX2_inherited 1 (some .int) 0 := ⟨⟨818, by decide +kernel⟩, List.mem_of_getElem? (i := 55) (by decide +kernel), by decide +kernel, by decide +kernel, by decide +kernel⟩
theorem cd_X2_loudnessOf : CD yX2_loudnessOf cX2_loudnessOf 2 (some .int) 1 := ⟨⟨822, by decide +kernel⟩, List.mem_of_getElem? (i := 55) (by decide +kernel), by decide +kernel, by decide +kernel, by decide +kernel⟩
theorem cd_X2_place : CD yX2_place cX2_place 2 (some .int) 1 := ⟨⟨834, by decide +kernel⟩, List.mem_of_getElem? (i := 55) (by decide +kernel), by decide +kernel, by decide +kernel, by decide +kernel⟩
theorem cd_X2_placeOf : CD yX2_placeOf cX2_placeOf 2 (some .int) 1 := ⟨⟨830, by decide +kernel⟩, List.mem_of_getElem? (i := 55) (by decide +kernel), by decide +kernel, by decide +kernel, by decide +kernel⟩
theorem cd_X2_isRight : CD yX2_isRight cX2_isRight 2 (some .boolean) 1 := ⟨⟨842, by decide +kernel⟩, List.mem_of_getElem? (i := 55) (by decide +kernel), by decide +kernel, by decide +kernel, by decide +kernel⟩
theorem cd_X2_goesRight : CD yX2_goesRight cX2_goesRight 2 (some .boolean) 1 := ⟨⟨838, by decide +kernel⟩, List.mem_of_getElem? (i := 55) (by decide +kernel), by decide +kernel, by decide +kernel, by decide +kernel⟩
theorem cd_X2_turnsOf : CD yX2_turnsOf cX2_turnsOf 2 (some .int) 1 := ⟨⟨846, by decide +kernel⟩, List.mem_of_getElem? (i := 55) (by decide +kernel), by decide +kernel, by decide +kernel, by decide +kernel⟩
theorem cd_X2_next : CD yX2_next cX2_next 4 (some .int) 2 := ⟨⟨854, by decide +kernel⟩, List.mem_of_getElem? (i := 55) (by decide +kernel), by decide +kernel, by decide +kernel, by decide +kernel⟩
theorem cd_X2_nextWall : CD yX2_nextWall cX2_nextWall 3 (some .int) 2 := ⟨⟨850, by decide +kernel⟩, List.mem_of_getElem? (i := 55) (by decide +kernel), by decide +kernel, by decide +kernel, by decide +kernel⟩
theorem cd_X2_untilGone : CD yX2_untilGone cX2_untilGone 3 (some .int) 1 := ⟨⟨862, by decide +kernel⟩, List.mem_of_getElem? (i := 55) (by decide +kernel), by decide +kernel, by decide +kernel, by decide +kernel⟩
theorem cd_X2_beatsUntilGone : CD yX2_beatsUntilGone cX2_beatsUntilGone 2 (some .int) 1 := ⟨⟨858, by decide +kernel⟩, List.mem_of_getElem? (i := 55) (by decide +kernel), by decide +kernel, by decide +kernel, by decide +kernel⟩
theorem cd_X2_untilQuiet : CD yX2_untilQuiet cX2_untilQuiet 2 (some .int) 0 := ⟨⟨879, by decide +kernel⟩, List.mem_of_getElem? (i := 55) (by decide +kernel), by decide +kernel, by decide +kernel, by decide +kernel⟩
theorem cd_X2_beatsUntilQuiet : CD yX2_beatsUntilQuiet cX2_beatsUntilQuiet 1 (some .int) 0 := ⟨⟨875, by decide +kernel⟩, List.mem_of_getElem? (i := 55) (by decide +kernel), by decide +kernel, by decide +kernel, by decide +kernel⟩
theorem cd_X2_earns : CD yX2_earns cX2_earns 4 (some .int) 2 := ⟨⟨887, by decide +kernel⟩, List.mem_of_getElem? (i := 55) (by decide +kernel), by decide +kernel, by decide +kernel, by decide +kernel⟩
theorem cd_X2_coinsIn : CD yX2_coinsIn cX2_coinsIn 3 (some .int) 2 := ⟨⟨883, by decide +kernel⟩, List.mem_of_getElem? (i := 55) (by decide +kernel), by decide +kernel, by decide +kernel, by decide +kernel⟩
theorem cd_X2_loudestOn : CD yX2_loudestOn cX2_loudestOn 5 (some .int) 2 := ⟨⟨891, by decide +kernel⟩, List.mem_of_getElem? (i := 55) (by decide +kernel), by decide +kernel, by decide +kernel, by decide +kernel⟩
theorem cd_X2_loses : CD yX2_loses cX2_loses 7 (some .int) 3 := ⟨⟨899, by decide +kernel⟩, List.mem_of_getElem? (i := 55) (by decide +kernel), by decide +kernel, by decide +kernel, by decide +kernel⟩
theorem cd_X2_loudnessWanted : CD yX2_loudnessWanted cX2_loudnessWanted 5 (some .int) 3 := ⟨⟨895, by decide +kernel⟩, List.mem_of_getElem? (i := 55) (by decide +kernel), by decide +kernel, by decide +kernel, by decide +kernel⟩
theorem cd_X2_turns : CD yX2_turns cX2_turns 7 (some .int) 2 := ⟨⟨911, by decide +kernel⟩, List.mem_of_getElem? (i := 55) (by decide +kernel), by decide +kernel, by decide +kernel, by decide +kernel⟩
theorem cd_X2_best : CD yX2_best cX2_best 4 (some .int) 1 := ⟨⟨907, by decide +kernel⟩, List.mem_of_getElem? (i := 55) (by decide +kernel), by decide +kernel, by decide +kernel, by decide +kernel⟩
theorem cd_X2_bestStone : CD yX2_bestStone cX2_bestStone 2 (some .int) 1 := ⟨⟨903, by decide +kernel⟩, List.mem_of_getElem? (i := 55) (by decide +kernel), by decide +kernel, by decide +kernel, by decide +kernel⟩
theorem cd_X2_meanLoudness : CD yX2_meanLoudness cX2_meanLoudness 3 (some .double) 0 := ⟨⟨915, by decide +kernel⟩, List.mem_of_getElem? (i := 55) (by decide +kernel), by decide +kernel, by decide +kernel, by decide +kernel⟩
theorem cd_X2_digest : CD yX2_digest cX2_digest 8 (some .long) 0 := ⟨⟨919, by decide +kernel⟩, List.mem_of_getElem? (i := 55) (by decide +kernel), by decide +kernel, by decide +kernel, by decide +kernel⟩
theorem cd_J9_max_7cf53 : CD yJ9_max_7cf53 cJ9_max_7cf53 2 (some .int) 2 := ⟨⟨607, by decide +kernel⟩, List.mem_of_getElem? (i := 62) (by decide +kernel), by decide +kernel, by decide +kernel, by decide +kernel⟩
theorem cd_J7_fill_53178 : CD yJ7_fill_53178 cJ7_fill_53178 4 none 2 := ⟨⟨80, by decide +kernel⟩, List.mem_of_getElem? (i := 54) (by decide +kernel), by decide +kernel, by decide +kernel, by decide +kernel⟩
theorem ll_X1_154 : lw_tbl[246]? = some (.constantLong RX1 154 2309) := by decide +kernel
theorem ll_X1_244 : lw_tbl[255]? = some (.constantLong RX1 244 31) := by decide +kernel
theorem ll_X2_158 : lw_tbl[920]? = some (.constantLong RX2 158 2309) := by decide +kernel
theorem ll_X2_160 : lw_tbl[921]? = some (.constantLong RX2 160 31) := by decide +kernel
end
section
/-! Short forms of the calls, throws, small number facts. -/
theorem nI_inc (i : Nat) : nI i + Int32.ofInt 1 = nI (i + 1) := nI_1 i
theorem nI_inc4 (i : Nat) : nI i + Int32.ofInt 4 = nI (i + 4) := nI_add i 4
theorem rb_t {c : Prop} [Decidable c] (h : c) : some (Value.int (b2i c)) = some (.int 1) := by rw [b2i_t h]
theorem rb_f {c : Prop} [Decidable c] (h : ¬ c) : some (Value.int (b2i c)) = some (.int 0) := by rw [b2i_f h]
/-- an int as a number -/
abbrev tn (x : Int32) : Nat := x.toNatClampNeg
theorem nI_tn {x : Int32} (h : 0 ≤ x) : x = nI (tn x) := by
  obtain ⟨j, h1, rfl⟩ := nI_of (Int32.not_lt.mpr h)
  rw [tn, nI_clamp h1]
theorem tn_nI {j : Nat} (h : j < 2 ^ 31) : tn (nI j) = j := nI_clamp h
theorem tn_lt {x : Int32} {n : Nat} (h0 : 0 ≤ x) (hn : n < 2 ^ 31) (h : x < nI n) : tn x < n := by
  obtain ⟨j, h1, rfl⟩ := nI_of (Int32.not_lt.mpr h0)
  rw [tn_nI h1]
  exact (nI_ltI h1 hn).mp h
theorem tn_le {x : Int32} {n : Nat} (h0 : 0 ≤ x) (hn : n < 2 ^ 31) (h : x ≤ nI n) : tn x ≤ n := by
  obtain ⟨j, h1, rfl⟩ := nI_of (Int32.not_lt.mpr h0)
  rw [tn_nI h1]
  exact (nI_leI h1 hn).mp h
section RULES4
variable {X : XT} {g : GT} {l : Launch} {cc : ByteArray} {mL : Nat} {own : String} {ret : Option FieldType} {rm : Room} {kc ks pc : Nat} {lo lo' : List (Nat × Value)} {st st0 : List Value} {M M' : Mem}
variable {y : MethodName} {bs' : ByteArray} {mL' n idx k : Nat} {ret' : Option FieldType} {rm' : Room} {as : List Value} {res : Option Value}
theorem x_lcmp (C : Cx X g l cc mL own ret rm) {x y : Int64} (d : decode cc pc = .ok (.lcmp, 1)) (k : V X g kc ks (pc + 1) lo (.int (lg_cmp x y) :: st) M) : V X g kc ks pc lo (.long y :: .long x :: st) M := fun H locs ls h1 h2 h3 => W.lcmp C.1 C.2.1 d (k H locs ls h1 h2 h3)
theorem x_ldc2 (C : Cx X g l cc mL own ret rm) {i : Nat} {v : Int64} (d : decode cc pc = .ok (.ldc2_w idx, 3)) (h : lw_tbl[i]? = some (.constantLong own idx v)) (k : V X g kc ks (pc + 3) lo (.long v :: st) M) : V X g kc ks pc lo st M := fun H locs ls h1 h2 h3 => lv_ldc2 C.1 C.2.1 C.2.2.2.1 (C.w h rfl) d (k H locs ls h1 h2 h3)
theorem x_callS0r (C : Cx X g l cc mL own ret rm) {v : Value} (hM : CM l y bs' mL' ret' rm' g M as (some v) M') (hc : CD y bs' mL' ret' n) (hl : KS own idx y) (hn : as.length = n) (hst : st0 = as.reverse ++ st) (hR : Rm rm' rm mL' kc ks) (hz : rm'.cells = 0 ∧ rm'.slots = 0) (hW : (st.map fun v => v.category).sum ≤ 8) (d : decode cc pc = .ok (.invokestatic idx, 3)) (kk : V X g kc ks (pc + 3) lo (v :: st) M') : V X g kc ks pc lo st0 M := by
  refine x_callS C hM hc hl hn hst hR hW d ?_
  rw [hz.1, hz.2]
  exact kk
theorem x_callS0v (C : Cx X g l cc mL own ret rm) (hM : CM l y bs' mL' ret' rm' g M as none M') (hc : CD y bs' mL' ret' n) (hl : KS own idx y) (hn : as.length = n) (hst : st0 = as.reverse ++ st) (hR : Rm rm' rm mL' kc ks) (hz : rm'.cells = 0 ∧ rm'.slots = 0) (hW : (st.map fun v => v.category).sum ≤ 8) (d : decode cc pc = .ok (.invokestatic idx, 3)) (kk : V X g kc ks (pc + 3) lo st M') : V X g kc ks pc lo st0 M := by
  refine x_callS C hM hc hl hn hst hR hW d ?_
  rw [hz.1, hz.2]
  exact kk
theorem x_callSN0r (C : Cx X g l cc mL own ret rm) {v : Value} (hM : CM l y bs' mL' ret' rm' g M as (some v) M') (hc : CD y bs' mL' ret' n) (hl : KSN own idx y) (hn : as.length = n) (hst : st0 = as.reverse ++ st) (hR : Rm rm' rm mL' kc ks) (hz : rm'.cells = 0 ∧ rm'.slots = 0) (hW : (st.map fun v => v.category).sum ≤ 8) (d : decode cc pc = .ok (.invokestatic idx, 3)) (kk : V X g kc ks (pc + 3) lo (v :: st) M') : V X g kc ks pc lo st0 M := by
  refine x_callSN C hM hc hl hn hst hR hW d ?_
  rw [hz.1, hz.2]
  exact kk
theorem x_callSN0v (C : Cx X g l cc mL own ret rm) (hM : CM l y bs' mL' ret' rm' g M as none M') (hc : CD y bs' mL' ret' n) (hl : KSN own idx y) (hn : as.length = n) (hst : st0 = as.reverse ++ st) (hR : Rm rm' rm mL' kc ks) (hz : rm'.cells = 0 ∧ rm'.slots = 0) (hW : (st.map fun v => v.category).sum ≤ 8) (d : decode cc pc = .ok (.invokestatic idx, 3)) (kk : V X g kc ks (pc + 3) lo st M') : V X g kc ks pc lo st0 M := by
  refine x_callSN C hM hc hl hn hst hR hW d ?_
  rw [hz.1, hz.2]
  exact kk
theorem x_callV0r (C : Cx X g l cc mL own ret rm) {ci N : Nat} {T : u_T} {v : Value} (hM : CM l y bs' mL' ret' rm' g M (.ref (ga g k) :: as) (some v) M') (hc : CD y bs' mL' ret' n) (hl : KV own idx y) (hci : CI ci y.cls T N) (hk : xk k = ci) (hk2 : k < 38) (hn : as.length = n) (hst : st0 = as.reverse ++ .ref (ga g k) :: st) (hR : Rm rm' rm mL' kc ks) (hz : rm'.cells = 0 ∧ rm'.slots = 0) (hW : (st.map fun v => v.category).sum ≤ 8) (d : decode cc pc = .ok (.invokevirtual idx, 3)) (kk : V X g kc ks (pc + 3) lo (v :: st) M') : V X g kc ks pc lo st0 M := by
  refine x_callV C hM hc hl hci hk hk2 hn hst hR hW d ?_
  rw [hz.1, hz.2]
  exact kk
theorem x_callV0v (C : Cx X g l cc mL own ret rm) {ci N : Nat} {T : u_T} (hM : CM l y bs' mL' ret' rm' g M (.ref (ga g k) :: as) none M') (hc : CD y bs' mL' ret' n) (hl : KV own idx y) (hci : CI ci y.cls T N) (hk : xk k = ci) (hk2 : k < 38) (hn : as.length = n) (hst : st0 = as.reverse ++ .ref (ga g k) :: st) (hR : Rm rm' rm mL' kc ks) (hz : rm'.cells = 0 ∧ rm'.slots = 0) (hW : (st.map fun v => v.category).sum ≤ 8) (d : decode cc pc = .ok (.invokevirtual idx, 3)) (kk : V X g kc ks (pc + 3) lo st M') : V X g kc ks pc lo st0 M := by
  refine x_callV C hM hc hl hci hk hk2 hn hst hR hW d ?_
  rw [hz.1, hz.2]
  exact kk
theorem x_callVN0r (C : Cx X g l cc mL own ret rm) {ci N : Nat} {T : u_T} {v : Value} (hM : CM l y bs' mL' ret' rm' g M (.ref (ga g k) :: as) (some v) M') (hc : CD y bs' mL' ret' n) (hl : KVN own idx y) (hci : CI ci y.cls T N) (hk : xk k = ci) (hk2 : k < 38) (hn : as.length = n) (hst : st0 = as.reverse ++ .ref (ga g k) :: st) (hR : Rm rm' rm mL' kc ks) (hz : rm'.cells = 0 ∧ rm'.slots = 0) (hW : (st.map fun v => v.category).sum ≤ 8) (d : decode cc pc = .ok (.invokevirtual idx, 3)) (kk : V X g kc ks (pc + 3) lo (v :: st) M') : V X g kc ks pc lo st0 M := by
  refine x_callVN C hM hc hl hci hk hk2 hn hst hR hW d ?_
  rw [hz.1, hz.2]
  exact kk
theorem x_callVN0v (C : Cx X g l cc mL own ret rm) {ci N : Nat} {T : u_T} (hM : CM l y bs' mL' ret' rm' g M (.ref (ga g k) :: as) none M') (hc : CD y bs' mL' ret' n) (hl : KVN own idx y) (hci : CI ci y.cls T N) (hk : xk k = ci) (hk2 : k < 38) (hn : as.length = n) (hst : st0 = as.reverse ++ .ref (ga g k) :: st) (hR : Rm rm' rm mL' kc ks) (hz : rm'.cells = 0 ∧ rm'.slots = 0) (hW : (st.map fun v => v.category).sum ≤ 8) (d : decode cc pc = .ok (.invokevirtual idx, 3)) (kk : V X g kc ks (pc + 3) lo st M') : V X g kc ks pc lo st0 M := by
  refine x_callVN C hM hc hl hci hk hk2 hn hst hR hW d ?_
  rw [hz.1, hz.2]
  exact kk
/-- what a throw of E with a text in CanyonEchoes needs -/
def XI (E : String) (ik ic : Nat) : Prop := Bundle.fit E = true ∧ Cond.classLink RX1 ik E ∈ lw_tbl ∧ Cond.initialized E ∈ lw_tbl ∧ (∀ w ∈ vx_atS RX1 ic E ["java/lang/RuntimeException", "java/lang/Exception"], w ∈ lw_tbl ∧ xw w = true) ∧ (∀ w ∈ Cond.classLink RX1 ik E :: Cond.initialized E :: vx_atS RX1 ic E ["java/lang/RuntimeException", "java/lang/Exception"], vx_ot w = true)
theorem xi_eB : XI eB 246 250 := ⟨by decide +kernel, by decide +kernel, by decide +kernel, by decide +kernel, by decide +kernel⟩
theorem xi_eA : XI eA 26 30 := ⟨by decide +kernel, by decide +kernel, by decide +kernel, by decide +kernel, by decide +kernel⟩
theorem xi_eS : XI eS 41 45 := ⟨by decide +kernel, by decide +kernel, by decide +kernel, by decide +kernel, by decide +kernel⟩
theorem x_throw {E : String} (C : Cx X g l cc mL RX1 ret rm) (hl : l.stackTraces = false) (hq : Re X g rm M E) {ik ic is : Nat} {text : String} (hX : XI E ik ic) (hs : (RX1, is, text) ∈ strL) (d0 : decode cc pc = .ok (.new ik, 3)) (d3 : decode cc (pc + 3) = .ok (.dup, 1)) (d4 : decode cc (pc + 4) = .ok (.ldc is, 2)) (d6 : decode cc (pc + 6) = .ok (.invokespecial ic, 3)) (d9 : decode cc (pc + 9) = .ok (.athrow, 1)) (hR : 5 < rm.frames ∧ (st.map fun v => v.category).sum + 82 ≤ rm.locals ∧ kc + 1 ≤ rm.cells ∧ ks + 6 ≤ rm.slots) : V X g kc ks pc lo st M := by
  intro H locs ls h1 h2 h3
  obtain ⟨x1, x2, x3, x4, x5⟩ := hX
  obtain ⟨sa, hsa⟩ := C.2.2.2.2.1.2.2.1 _ hs
  have hR' : xR X = rm := C.2.2.2.2.2.2.2.2.1
  have hl' : xL X = l := C.2.2.2.2.2.2.2.2.2
  show W _ _ _ _ _ _ _ _ _ _ _ _ _ _ (xQ X) _
  rw [hq.1]
  refine vx_throwS (names := ["java/lang/RuntimeException", "java/lang/Exception"]) C.1 C.2.1 (by rw [hl']; exact hl) C.2.2.2.1 x1 (by decide +kernel) (C.wm x2 rfl) (C.wm x3 rfl) hsa (fun w hw => C.wm (x4 w hw).1 (x4 w hw).2) x5 C.2.2.2.2.2.1.2.1 C.2.2.2.2.2.1.2.2 h2 h3.1 d0 d3 d4 d6 d9 (fun x hx => (hq.2 x hx).elim) (by rw [hR']; exact hR.1) (by rw [hR']; exact hR.2.1) (by rw [hR']; exact hR.2.2.1) (by rw [hR']; exact hR.2.2.2) C.2.2.2.2.2.2.1 (fun t _ hz hk => ⟨rfl, ?_, ?_⟩) (fun z hz => h2.2.2 z hz) hR.2.2.1 hR.2.2.2
  · exact va_P.kept h1 (fun k q hkq => hk q.1 ((h1 k q hkq).lt))
  · exact ⟨Nat.le_trans h2.1 hz, fun q a1 a2 => (hk q (Nat.lt_of_lt_of_le a1 h2.1)).trans (h2.2.1 q a1 a2)⟩
theorem x_throwW {E : String} (C : Cx X g l cc mL RX1 ret rm) (hl : l.stackTraces = false) (hq : Re X g rm M E) {ik ic is : Nat} {text : String} (hX : XI E ik ic) (hs : (RX1, is, text) ∈ strL) (d0 : decode cc pc = .ok (.new ik, 3)) (d3 : decode cc (pc + 3) = .ok (.dup, 1)) (d4 : decode cc (pc + 4) = .ok (.ldc_w is, 3)) (d6 : decode cc (pc + 7) = .ok (.invokespecial ic, 3)) (d9 : decode cc (pc + 10) = .ok (.athrow, 1)) (hR : 5 < rm.frames ∧ (st.map fun v => v.category).sum + 82 ≤ rm.locals ∧ kc + 1 ≤ rm.cells ∧ ks + 6 ≤ rm.slots) : V X g kc ks pc lo st M := by
  intro H locs ls h1 h2 h3
  obtain ⟨x1, x2, x3, x4, x5⟩ := hX
  obtain ⟨sa, hsa⟩ := C.2.2.2.2.1.2.2.1 _ hs
  have hR' : xR X = rm := C.2.2.2.2.2.2.2.2.1
  have hl' : xL X = l := C.2.2.2.2.2.2.2.2.2
  show W _ _ _ _ _ _ _ _ _ _ _ _ _ _ (xQ X) _
  rw [hq.1]
  refine vx_throwSW (names := ["java/lang/RuntimeException", "java/lang/Exception"]) C.1 C.2.1 (by rw [hl']; exact hl) C.2.2.2.1 x1 (by decide +kernel) (C.wm x2 rfl) (C.wm x3 rfl) hsa (fun w hw => C.wm (x4 w hw).1 (x4 w hw).2) x5 C.2.2.2.2.2.1.2.1 C.2.2.2.2.2.1.2.2 h2 h3.1 d0 d3 d4 d6 d9 (fun x hx => (hq.2 x hx).elim) (by rw [hR']; exact hR.1) (by rw [hR']; exact hR.2.1) (by rw [hR']; exact hR.2.2.1) (by rw [hR']; exact hR.2.2.2) C.2.2.2.2.2.2.1 (fun t _ hz hk => ⟨rfl, ?_, ?_⟩) (fun z hz => h2.2.2 z hz) hR.2.2.1 hR.2.2.2
  · exact va_P.kept h1 (fun k q hkq => hk q.1 ((h1 k q hkq).lt))
  · exact ⟨Nat.le_trans h2.1 hz, fun q a1 a2 => (hk q (Nat.lt_of_lt_of_le a1 h2.1)).trans (h2.2.1 q a1 a2)⟩
/-- what follows a run of a callee that throws, where nobody catches it: the method throws too -/
theorem x_ranX {E : String} (C : Cx X g l cc mL own ret rm) (hq : Re X g rm M E) {H : Heap} {locs : List Loc} {ls : Array Slot} {a : Array Value} (hr : vx_Run (xP X) (xL X) (xE X) (xR X) (xS X) (xM X) (xA X) (xB X) (xMe X) (xC X) H locs kc ks rm'.cells rm'.slots (F0 (xM X) pc ls st0) st (QN a) (QX g M E) (gA g)) (h2 : va_S (gA g) (xS X).heap H locs) (hk : kc + rm'.cells ≤ rm.cells ∧ ks + rm'.slots ≤ rm.slots) : xW X H locs kc ks (F0 (xM X) pc ls st0) := by
  intro T hT Xs
  rcases hr T hT Xs with ⟨v, st₀, t, T', L, h0, X', hL, e1, e2, hqn, hgo⟩ | ⟨q, st₀, t, T', L, E', ce, h0, X', hL, e1, e2, ⟨hE, hP, hz, hkp⟩, hce, hcv, hcl, hgo⟩
  · exact hqn.elim
  · subst hE
    rw [h0] at hz hkp
    have h2' : va_S (gA g) (xS X).heap T'.heap (locs ++ L) := ⟨Nat.le_trans h2.1 (by rw [e1]; exact hz), fun q a1 a2 => by rw [e1, hkp q (Nat.lt_of_lt_of_le a1 h2.1) a2]; exact h2.2.1 q a1 a2, fun q hq => by
        rcases List.mem_append.mp hq with h | h
        · exact h2.2.2 q h
        · exact hL q h⟩
    have hw : vx_W (xP X) (xL X) (xE X) (xR X) (xS X) (xM X) (xA X) (xB X) (xMe X) (xC X) T'.heap (locs ++ L) (kc + rm'.cells) (ks + rm'.slots) (vx_MQ (xB X) QN (QX g M E') (xA X) (xS X) rm.cells rm.slots (gA g)) (F0 (xM X) pc ls st) q :=
      vx_out (fun x hx => (hq.2 x hx).elim) C.2.2.2.2.2.2.1 (by rw [e1]; exact hce) hcv hcl (fun t2 ht2 _ => ⟨rfl, by rw [ht2, e1]; exact hP, h2'.F ht2⟩) (fun z hz => h2'.2.2 z hz) hk.1 hk.2
    obtain ⟨t2, a1, b1⟩ := hw T' rfl X'
    refine ⟨t2, hgo.trans a1, ?_⟩
    rw [hq.1]
    exact b1
theorem x_callSx {E : String} (C : Cx X g l cc mL own ret rm) (hq : Re X g rm M E) (hM : CE l y bs' mL' ret' rm' g M as E) (hc : CD y bs' mL' ret' n) (hl : KS own idx y) (hn : as.length = n) (hst : st0 = as.reverse ++ st) (hR : Rm rm' rm mL' kc ks) (hW : (st.map fun v => v.category).sum ≤ 8) (d : decode cc pc = .ok (.invokestatic idx, 3)) : V X g kc ks pc lo st0 M := by
  intro H locs ls h1 h2 h3
  obtain ⟨⟨i, hcd⟩, hini, hd⟩ := hc
  obtain ⟨⟨i1, hl1⟩, i2, hl2⟩ := hl
  have hR' : xR X = rm := C.2.2.2.2.2.2.2.2.1
  have hl' : xL X = l := C.2.2.2.2.2.2.2.2.2
  subst hl'
  refine x_ranX C hq (vx_runS (As := as) (rest := st) (Ts := [Cond.code y bs' mL' ret']) ⟨C.1, C.2.1, rfl, C.2.2.2.1, fun w hw => ?_⟩ hM ⟨callB_of (Ts := [Cond.code y bs' mL' ret']) n (fun w hw => ?_) (code_good y bs' mL' ret') rfl rfl rfl (C.wm hini rfl) (C.w hl1 rfl) hd (by rw [hR']; exact hR.1), C.w hl2 rfl⟩ ⟨PC.blind, pcAt C h1 h2⟩ rfl hn h3.1 hst (lv_room hW) d (by rw [hR']; exact hR.2)) h2 hR.2
  · rw [List.mem_singleton.mp hw]; exact C.w hcd rfl
  · rw [List.mem_singleton.mp hw]; exact C.w hcd rfl
theorem x_callVx {E : String} (C : Cx X g l cc mL own ret rm) (hq : Re X g rm M E) {ci N : Nat} {T : u_T} (hM : CE l y bs' mL' ret' rm' g M (.ref (ga g k) :: as) E) (hc : CD y bs' mL' ret' n) (hl : KV own idx y) (hci : CI ci y.cls T N) (hk : xk k = ci) (hk2 : k < 38) (hn : as.length = n) (hst : st0 = as.reverse ++ .ref (ga g k) :: st) (hR : Rm rm' rm mL' kc ks) (hW : (st.map fun v => v.category).sum ≤ 8) (d : decode cc pc = .ok (.invokevirtual idx, 3)) : V X g kc ks pc lo st0 M := by
  intro H locs ls h1 h2 h3
  obtain ⟨⟨i, hcd⟩, hini, hd⟩ := hc
  obtain ⟨⟨i1, hl1⟩, ⟨i2, hl2⟩, i3, hl3⟩ := hl
  have hR' : xR X = rm := C.2.2.2.2.2.2.2.2.1
  have hl' : xL X = l := C.2.2.2.2.2.2.2.2.2
  subst hl'
  refine x_ranX C hq (vx_runV (As := as) (rest := st) (Ts := [Cond.code y bs' mL' ret']) ⟨C.1, C.2.1, rfl, C.2.2.2.1, fun w hw => ?_⟩ hM ⟨callB_of (Ts := [Cond.code y bs' mL' ret']) n (fun w hw => ?_) (code_good y bs' mL' ret') rfl rfl rfl (C.wm hini rfl) (C.w hl1 rfl) hd (by rw [hR']; exact hR.1), C.w hl2 rfl, C.w hl3 rfl⟩ ⟨PC.blind, x_recv C h1 hci hk hk2, pcAt C h1 h2⟩ rfl hn h3.1 hst (lv_room hW) d (by rw [hR']; exact hR.2)) h2 hR.2
  · rw [List.mem_singleton.mp hw]; exact C.w hcd rfl
  · rw [List.mem_singleton.mp hw]; exact C.w hcd rfl
end RULES4
end
section
/-! The model's methods as functions of the memory. Cells: 29 the object (thrown, walls, shouts), 30 snow, 31 wall, 32 stone, 33 soaks, 34 now, 35 kept, 36 got. -/
abbrev mWs (M : Mem) : Nat := tn (M 29 1)
abbrev mSh (M : Mem) : Nat := tn (M 29 2)
/-- what the model's reads need: its indices stay in range -/
def mOK (M : Mem) : Prop := (0 ≤ M 29 1 ∧ M 29 1 ≤ 10) ∧ (0 ≤ M 29 2 ∧ M 29 2 ≤ 40) ∧ (∀ s, s < 32 → M 31 s = -1 ∨ (0 ≤ M 31 s ∧ M 31 s ≤ 9)) ∧ (∀ w, w < 10 → 0 ≤ M 34 (7 + w) ∧ M 34 (7 + w) ≤ 1)
theorem ix_t (a : Nat) {w : Int32} (h : 0 ≤ w) : nI a + w = nI (a + tn w) := by
  rw [← nI_add, ← nI_tn h]
theorem ge_tn {x : Int32} (h0 : 0 ≤ x) {i : Nat} (hi : i < 2 ^ 31) : nI i ≥ x ↔ tn x ≤ i := by
  obtain ⟨j, h1, rfl⟩ := nI_of (Int32.not_lt.mpr h0)
  rw [tn_nI h1]
  exact nI_leI h1 hi
theorem tn31 {x : Int32} (h : 0 ≤ x ∧ x ≤ 31) : tn x < 32 := Nat.lt_succ_of_le (tn_le (n := 31) h.1 (by decide) h.2)
theorem tn9 {x : Int32} (h : 0 ≤ x ∧ x ≤ 9) : tn x < 10 := Nat.lt_succ_of_le (tn_le (n := 9) h.1 (by decide) h.2)
theorem tn1 {x : Int32} (h : 0 ≤ x ∧ x ≤ 1) : tn x < 2 := Nat.lt_succ_of_le (tn_le (n := 1) h.1 (by decide) h.2)
theorem mOK.ws {M : Mem} (h : mOK M) : mWs M ≤ 10 := tn_le (n := 10) h.1.1 (by decide) h.1.2
theorem mOK.sh {M : Mem} (h : mOK M) : mSh M ≤ 40 := tn_le (n := 40) h.2.1.1 (by decide) h.2.1.2
def mLet (M : Mem) (k : Nat) (v : Int32) : Mem := wr M 34 (27 + k) (if 0 < v then v else 0)
def mS1 (M : Mem) (k : Nat) : Int32 := M 34 (67 + k) + M 34 (107 + k)
def mGo (M : Mem) (k : Nat) (s : Int32) : Mem := mLet (wr M 34 (67 + k) s) k ((wr M 34 (67 + k) s) 34 (27 + k) - 1 - (wr M 34 (67 + k) s) 30 (tn s))
def mH1 (M : Mem) (e : Nat) : Mem := wr M 34 (3 + e) (M 34 (3 + e) + 1)
def mH2 (M : Mem) (e w : Nat) : Mem := wr (wr (mH1 M e) 36 e 1) 34 (17 + w) ((wr (mH1 M e) 36 e 1) 34 (17 + w) + 1)
def mH3 (M : Mem) (k e w : Nat) : Mem := wr (mH2 M e w) 34 (147 + k) (mH2 M e w 34 (147 + k) + 1)
def mH4 (M : Mem) (k e w : Nat) : Mem := wr (mH3 M k e w) 34 (107 + k) (-(mH3 M k e w 34 (107 + k)))
def mHit (M : Mem) (k e w : Nat) : Mem := mLet (mH4 M k e w) k (mH4 M k e w 34 (27 + k) - mH4 M k e w 33 w)
def mStep (M : Mem) (k : Nat) : Mem :=
  if 0 ≤ mS1 M k ∧ mS1 M k ≤ 31 then
    (if 0 < mGo M k (mS1 M k) 34 (27 + k) ∧ mGo M k (mS1 M k) 31 (tn (mS1 M k)) ≠ -1 then
      mHit (mGo M k (mS1 M k)) k (tn (mGo M k (mS1 M k) 34 (7 + tn (mGo M k (mS1 M k) 31 (tn (mS1 M k)))))) (tn (mGo M k (mS1 M k) 31 (tn (mS1 M k))))
    else mGo M k (mS1 M k))
  else mLet M k 0
/-- the loudest one on a stone among the first k -/
def mLdL (M : Mem) (s : Int32) : Nat → Int32
  | 0 => -1
  | k + 1 => if 0 < M 34 (27 + k) ∧ M 34 (67 + k) = s ∧ (mLdL M s k = -1 ∨ M 34 (27 + tn (mLdL M s k)) < M 34 (27 + k)) then nI k else mLdL M s k
def mLoudest (M : Mem) (s : Int32) : Int32 := mLdL M s (mSh M)
theorem mLdL_or (M : Mem) (s : Int32) : ∀ k, k < 2 ^ 31 → mLdL M s k = -1 ∨ (0 ≤ mLdL M s k ∧ tn (mLdL M s k) < k)
  | 0, _ => Or.inl rfl
  | k + 1, h => by
    unfold mLdL
    split
    · exact Or.inr ⟨nI_pos' (by omega), by rw [tn_nI (by omega)]; omega⟩
    · rcases mLdL_or M s k (by omega) with e | ⟨e, f⟩
      · exact Or.inl e
      · exact Or.inr ⟨e, by omega⟩
def mMeet (M : Mem) (k : Nat) : Mem := if 0 < M 34 (27 + k) ∧ mLoudest M (M 34 (67 + k)) ≠ nI k then wr (mLet M k 0) 34 1 ((mLet M k 0) 34 1 + 1) else M
/-- the first wall of an echo, from wall w on, n walls left -/
def mFO (M : Mem) (e : Int32) : Nat → Nat → Int32
  | 0, _ => -1
  | n + 1, w => if M 34 (7 + w) = e then nI w else mFO M e n (w + 1)
def mFirst (M : Mem) (e : Int32) : Int32 := mFO M e (mWs M) 0
theorem mFO_or (M : Mem) (e : Int32) : ∀ n w, w + n < 2 ^ 31 → mFO M e n w = -1 ∨ (0 ≤ mFO M e n w ∧ tn (mFO M e n w) < w + n)
  | 0, _, _ => Or.inl rfl
  | n + 1, w, h => by
    unfold mFO
    split
    · exact Or.inr ⟨nI_pos' (by omega), by rw [tn_nI (by omega)]; omega⟩
    · rcases mFO_or M e n (w + 1) (by omega) with q | ⟨q, f⟩
      · exact Or.inl q
      · exact Or.inr ⟨q, by omega⟩
def mSil (M : Mem) (e : Nat) : Mem := wr M 34 (5 + e) (if M 36 e = 0 then M 34 (5 + e) + 1 else 0)
def mLose (M : Mem) (e : Nat) (w : Nat) : Mem := wr (wr M 34 (7 + w) (1 - nI e)) 34 2 ((wr M 34 (7 + w) (1 - nI e)) 34 2 + 1)
def mHush (M : Mem) (e : Nat) : Mem :=
  if 12 ≤ mSil M e 34 (5 + e) then
    (if mFirst (wr (mSil M e) 34 (5 + e) 0) (nI e) ≠ -1 then mLose (wr (mSil M e) 34 (5 + e) 0) e (tn (mFirst (wr (mSil M e) 34 (5 + e) 0) (nI e)))
    else wr (mSil M e) 34 (5 + e) 0)
  else mSil M e
def mStepL (M : Mem) : Nat → Mem
  | 0 => M
  | k + 1 => if 0 < mStepL M k 34 (27 + k) then mStep (mStepL M k) k else mStepL M k
def mMeetL (M : Mem) : Nat → Mem
  | 0 => M
  | k + 1 => mMeet (mMeetL M k) k
def mGot0 (M : Mem) : Mem := wr (wr M 36 0 0) 36 1 0
def mB1 (M : Mem) : Mem := mStepL (mGot0 M) (mSh M)
def mB2 (M : Mem) : Mem := mMeetL (mB1 M) (mSh M)
def mB3 (M : Mem) : Mem := mHush (mHush (mB2 M) 0) 1
def mBeat (M : Mem) : Mem := wr (mB3 M) 34 0 (mB3 M 34 0 + 1)
def mBeats (M : Mem) : Nat → Mem
  | 0 => M
  | n + 1 => mBeat (mBeats M n)
def mManyL (M : Mem) : Nat → Int32
  | 0 => 0
  | k + 1 => mManyL M k + (if 0 < M 34 (27 + k) then 1 else 0)
def mMany (M : Mem) : Int32 := mManyL M (mSh M)
/-! what stays in range, stays so -/
theorem wr_ne {M : Mem} {k j k' j' : Nat} {v : Int32} (h : k' ≠ k ∨ j' ≠ j) : wr M k j v k' j' = M k' j' := by
  unfold wr
  by_cases hk : k' = k
  · subst hk
    rw [if_pos rfl]
    rcases h with h | h
    · exact absurd rfl h
    · unfold upd; rw [if_neg h]
  · rw [if_neg hk]
theorem wr_eq {M : Mem} {k j : Nat} {v : Int32} : wr M k j v k j = v := by unfold wr upd; simp
/-- the part of the memory on which mOK rests -/
def mSame (M M' : Mem) : Prop := M' 29 = M 29 ∧ M' 31 = M 31 ∧ ∀ w, w < 10 → M' 34 (7 + w) = M 34 (7 + w)
theorem mSame.rf {M : Mem} : mSame M M := ⟨rfl, rfl, fun _ _ => rfl⟩
theorem mSame.tr {M M' M'' : Mem} (h : mSame M M') (h' : mSame M' M'') : mSame M M'' := ⟨h'.1.trans h.1, h'.2.1.trans h.2.1, fun w hw => (h'.2.2 w hw).trans (h.2.2 w hw)⟩
theorem mSame.wr34 {M : Mem} {j : Nat} {v : Int32} (h : j < 7 ∨ 17 ≤ j) : mSame M (wr M 34 j v) := ⟨rfl, rfl, fun w hw => wr_ne (Or.inr (by omega))⟩
theorem mSame.wr36 {M : Mem} {j : Nat} {v : Int32} : mSame M (wr M 36 j v) := ⟨rfl, rfl, fun _ _ => rfl⟩
theorem mOK.same {M M' : Mem} (h : mOK M) (s : mSame M M') : mOK M' := by
  obtain ⟨h1, h2, h3, h4⟩ := h
  obtain ⟨s1, s2, s3⟩ := s
  refine ⟨by rw [s1]; exact h1, by rw [s1]; exact h2, fun q hq => by rw [s2]; exact h3 q hq, fun w hw => by rw [s3 w hw]; exact h4 w hw⟩
theorem mLet_same (M : Mem) (k : Nat) (v : Int32) : mSame M (mLet M k v) := mSame.wr34 (by omega)
theorem mGo_same (M : Mem) (k : Nat) (s : Int32) : mSame M (mGo M k s) := (mSame.wr34 (by omega)).tr (mLet_same _ _ _)
theorem mHit_same (M : Mem) (k e w : Nat) (he : e < 2) : mSame M (mHit M k e w) := by
  have h1 : mSame M (mH1 M e) := mSame.wr34 (by omega)
  have h2 : mSame (mH1 M e) (mH2 M e w) := (mSame.wr36).tr (mSame.wr34 (by omega))
  have h3 : mSame (mH2 M e w) (mH3 M k e w) := mSame.wr34 (by omega)
  have h4 : mSame (mH3 M k e w) (mH4 M k e w) := mSame.wr34 (by omega)
  exact (((h1.tr h2).tr h3).tr h4).tr (mLet_same _ _ _)
theorem mStep_same {M : Mem} (h : mOK M) (k : Nat) : mSame M (mStep M k) := by
  unfold mStep
  split
  · rename_i hs
    have hg := mGo_same M k (mS1 M k)
    split
    · rename_i hc
      refine hg.tr (mHit_same _ _ _ _ ?_)
      have hk := (h.same hg)
      rcases hk.2.2.1 _ (tn31 hs) with e | e
      · exact absurd e hc.2
      · exact tn1 (hk.2.2.2 _ (tn9 e))
    · exact hg
  · exact mLet_same _ _ _
theorem mStepL_same {M : Mem} (h : mOK M) : ∀ k, mSame M (mStepL M k)
  | 0 => mSame.rf
  | k + 1 => by
    have ih := mStepL_same h k
    unfold mStepL
    split
    · exact ih.tr (mStep_same (h.same ih) k)
    · exact ih
theorem mMeet_same (M : Mem) (k : Nat) : mSame M (mMeet M k) := by
  unfold mMeet
  split
  · exact (mLet_same _ _ _).tr (mSame.wr34 (by omega))
  · exact mSame.rf
theorem mMeetL_same (M : Mem) : ∀ k, mSame M (mMeetL M k)
  | 0 => mSame.rf
  | k + 1 => (mMeetL_same M k).tr (mMeet_same _ k)
theorem mSil_same (M : Mem) (e : Nat) (he : e < 2) : mSame M (mSil M e) := mSame.wr34 (by omega)
theorem mHush_ok {M : Mem} (h : mOK M) (e : Nat) (he : e < 2) : mOK (mHush M e) ∧ mHush M e 29 = M 29 ∧ mHush M e 31 = M 31 := by
  have h1 := mSil_same M e he
  have h2 : mSame (mSil M e) (wr (mSil M e) 34 (5 + e) 0) := mSame.wr34 (by omega)
  unfold mHush
  split
  · split
    · refine ⟨?_, rfl, rfl⟩
      have hk := (h.same h1).same h2
      refine ⟨hk.1, hk.2.1, hk.2.2.1, fun w hw => ?_⟩
      unfold mLose
      rw [wr_ne (Or.inr (by omega))]
      by_cases hw2 : 7 + w = 7 + tn (mFirst (wr (mSil M e) 34 (5 + e) 0) (nI e))
      · rw [hw2, wr_eq]
        rcases (show e = 0 ∨ e = 1 by omega) with rfl | rfl <;> decide
      · rw [wr_ne (Or.inr hw2)]
        exact hk.2.2.2 w hw
    · exact ⟨(h.same h1).same h2, rfl, rfl⟩
  · exact ⟨h.same h1, rfl, rfl⟩
theorem mGot0_same (M : Mem) : mSame M (mGot0 M) := mSame.wr36.tr mSame.wr36
theorem mB2_same {M : Mem} (h : mOK M) : mSame M (mB2 M) := ((mGot0_same M).tr (mStepL_same (h.same (mGot0_same M)) _)).tr (mMeetL_same _ _)
theorem wr_cell {M : Mem} {k j k' : Nat} {v : Int32} (h : k' ≠ k) : wr M k j v k' = M k' := by unfold wr; rw [if_neg h]
theorem mB3_ok {M : Mem} (h : mOK M) : mOK (mB3 M) ∧ mB3 M 29 = M 29 ∧ mB3 M 31 = M 31 := by
  have h2 := mB2_same h
  unfold mB3
  obtain ⟨a1, a2, a3⟩ := mHush_ok (h.same h2) 0 (by decide)
  obtain ⟨b1, b2, b3⟩ := mHush_ok a1 1 (by decide)
  refine ⟨b1, ?_, ?_⟩
  · rw [b2, a2, h2.1]
  · rw [b3, a3, h2.2.1]
theorem mBeat_ok {M : Mem} (h : mOK M) : mOK (mBeat M) ∧ mBeat M 29 = M 29 ∧ mBeat M 31 = M 31 := by
  obtain ⟨a1, a2, a3⟩ := mB3_ok h
  unfold mBeat
  generalize mB3 M = Q at a1 a2 a3 ⊢
  refine ⟨a1.same (mSame.wr34 (by omega)), ?_, ?_⟩
  · rw [wr_cell (by decide), a2]
  · rw [wr_cell (by decide), a3]
theorem mBeats_ok {M : Mem} (h : mOK M) : ∀ n, mOK (mBeats M n) ∧ mBeats M n 29 = M 29 ∧ mBeats M n 31 = M 31
  | 0 => ⟨h, rfl, rfl⟩
  | n + 1 => by
    obtain ⟨a1, a2, a3⟩ := mBeats_ok h n
    unfold mBeats
    obtain ⟨b1, b2, b3⟩ := mBeat_ok a1
    exact ⟨b1, b2.trans a2, b3.trans a3⟩
end
section
/-! The model's private methods, walked. -/
abbrev rmX2_thrown : Room := { frames := 0, cells := 0, slots := 0, locals := 0 }
set_option maxHeartbeats 1000000 in
set_option maxRecDepth 100000 in
theorem q2_thrown (l : Launch) (g : GT) (M : Mem) : CM l yX2_thrown cX2_thrown 1 (some .int) rmX2_thrown g M [.ref (ga g 29)] (some (.int (M 29 0))) (M) := by
  refine CM.of (by decide) (Nat.le_of_ble_eq_true rfl) (fun X C hq => ?_)
  have C : Cx X g l cX2_thrown 1 RX2 (some .int) rmX2_thrown := C
  show V X g 0 0 0 [(0, .ref (ga g 29))] [] M
  refine x_aload_n C dX2_thrown_0 rfl ?_
  refine x_getI C fl_X2_32 rfl (by decide) rfl dX2_thrown_1 ?_
  exact x_iret C hq ⟨by decide, by decide⟩ dX2_thrown_4 (rfl) (rfl)
abbrev rmX2_no : Room := { frames := 0, cells := 0, slots := 0, locals := 0 }
set_option maxHeartbeats 1000000 in
set_option maxRecDepth 100000 in
theorem q2_no (l : Launch) (g : GT) (M : Mem) (v : Int32) : CM l yX2_no cX2_no 2 (some .int) rmX2_no g M [.ref (ga g 29), .int v] (some (.int 0)) (wr M 29 0 v) := by
  refine CM.of (by decide) (Nat.le_of_ble_eq_true rfl) (fun X C hq => ?_)
  have C : Cx X g l cX2_no 2 RX2 (some .int) rmX2_no := C
  show V X g 0 0 0 [(0, .ref (ga g 29)), (1, .int v)] [] M
  refine x_aload_n C dX2_no_0 rfl ?_
  refine x_iload_n C dX2_no_1 rfl ?_
  refine x_putI C fl_X2_32 rfl (by decide) rfl dX2_no_2 ?_
  refine x_iconst C (v := 0) dX2_no_5 (by decide) ?_
  exact x_iret C hq ⟨by decide, by decide⟩ dX2_no_6 (rfl) (rfl)
abbrev rmX2_ok : Room := { frames := 0, cells := 0, slots := 0, locals := 0 }
set_option maxHeartbeats 1000000 in
set_option maxRecDepth 100000 in
theorem q2_ok (l : Launch) (g : GT) (M : Mem) (v : Int32) : CM l yX2_ok cX2_ok 2 (some .int) rmX2_ok g M [.ref (ga g 29), .int v] (some (.int v)) (wr M 29 0 0) := by
  refine CM.of (by decide) (Nat.le_of_ble_eq_true rfl) (fun X C hq => ?_)
  have C : Cx X g l cX2_ok 2 RX2 (some .int) rmX2_ok := C
  show V X g 0 0 0 [(0, .ref (ga g 29)), (1, .int v)] [] M
  refine x_aload_n C dX2_ok_0 rfl ?_
  refine x_iconst C (v := 0) dX2_ok_1 (by decide) ?_
  refine x_putI C fl_X2_32 rfl (by decide) rfl dX2_ok_2 ?_
  refine x_iload_n C dX2_ok_5 rfl ?_
  exact x_iret C hq ⟨by decide, by decide⟩ dX2_ok_6 (rfl) (rfl)
abbrev rmX2_isIn : Room := { frames := 0, cells := 0, slots := 0, locals := 0 }
set_option maxHeartbeats 1000000 in
set_option maxRecDepth 100000 in
theorem q2_isIn (l : Launch) (g : GT) (M : Mem) (v lo hi : Int32) : CM l yX2_isIn cX2_isIn 3 (some .boolean) rmX2_isIn g M [.int v, .int lo, .int hi] (some (.int (b2i (lo ≤ v ∧ v ≤ hi)))) (M) := by
  refine CM.of (by decide) (Nat.le_of_ble_eq_true rfl) (fun X C hq => ?_)
  have C : Cx X g l cX2_isIn 3 RX2 (some .boolean) rmX2_isIn := C
  show V X g 0 0 0 [(0, .int v), (1, .int lo), (2, .int hi)] [] M
  refine x_iload_n C dX2_isIn_0 rfl ?_
  refine x_iload_n C dX2_isIn_1 rfl ?_
  refine x_icmp_lt C (tgt := 14) dX2_isIn_2 (by decide) (fun c2 => ?_) (fun c2 => ?_)
  · refine x_iconst C (v := 0) dX2_isIn_14 (by decide) ?_
    exact x_zret C hq (by decide) ⟨by decide, by decide⟩ dX2_isIn_15 (by first | exact rb_t ⟨Int32.not_lt.mp c2, Int32.not_lt.mp c7⟩ | exact rb_f (fun h => absurd c7 (Int32.not_lt.mpr h.2)) | exact rb_f (fun h => absurd c2 (Int32.not_lt.mpr h.1))) (rfl)
  · refine x_iload_n C dX2_isIn_5 rfl ?_
    refine x_iload_n C dX2_isIn_6 rfl ?_
    refine x_icmp_gt C (tgt := 14) dX2_isIn_7 (by decide) (fun c7 => ?_) (fun c7 => ?_)
    · refine x_iconst C (v := 0) dX2_isIn_14 (by decide) ?_
      exact x_zret C hq (by decide) ⟨by decide, by decide⟩ dX2_isIn_15 (by first | exact rb_t ⟨Int32.not_lt.mp c2, Int32.not_lt.mp c7⟩ | exact rb_f (fun h => absurd c7 (Int32.not_lt.mpr h.2)) | exact rb_f (fun h => absurd c2 (Int32.not_lt.mpr h.1))) (rfl)
    · refine x_iconst C (v := 1) dX2_isIn_10 (by decide) ?_
      refine x_goto C (tgt := 15) dX2_isIn_11 (by decide) ?_
      exact x_zret C hq (by decide) ⟨by decide, by decide⟩ dX2_isIn_15 (by first | exact rb_t ⟨Int32.not_lt.mp c2, Int32.not_lt.mp c7⟩ | exact rb_f (fun h => absurd c7 (Int32.not_lt.mpr h.2)) | exact rb_f (fun h => absurd c2 (Int32.not_lt.mpr h.1))) (rfl)
abbrev rmX2_isStone : Room := { frames := 1, cells := 0, slots := 0, locals := 22 }
set_option maxHeartbeats 1000000 in
set_option maxRecDepth 100000 in
theorem q2_isStone (l : Launch) (g : GT) (M : Mem) (s : Int32) : CM l yX2_isStone cX2_isStone 1 (some .boolean) rmX2_isStone g M [.int s] (some (.int (b2i (0 ≤ s ∧ s ≤ 31)))) (M) := by
  refine CM.of (by decide) (Nat.le_of_ble_eq_true rfl) (fun X C hq => ?_)
  have C : Cx X g l cX2_isStone 1 RX2 (some .boolean) rmX2_isStone := C
  show V X g 0 0 0 [(0, .int s)] [] M
  refine x_iload_n C dX2_isStone_0 rfl ?_
  refine x_iconst C (v := 0) dX2_isStone_1 (by decide) ?_
  refine x_bipush C (v := 31) dX2_isStone_2 (by decide) ?_
  refine x_callS0r C (q2_isIn l g M s 0 31) cd_X2_isIn kl_X2_36 (as := [_, _, _]) rfl rfl ⟨⟨by decide, by decide⟩, by decide, by decide⟩ ⟨rfl, rfl⟩ (Nat.le_of_ble_eq_true rfl) dX2_isStone_4 ?_
  exact x_zret C hq (b2i_nar _) ⟨by decide, by decide⟩ dX2_isStone_7 (rfl) (rfl)
abbrev rmX2_isEcho : Room := { frames := 1, cells := 0, slots := 0, locals := 22 }
set_option maxHeartbeats 1000000 in
set_option maxRecDepth 100000 in
theorem q2_isEcho (l : Launch) (g : GT) (M : Mem) (s : Int32) : CM l yX2_isEcho cX2_isEcho 1 (some .boolean) rmX2_isEcho g M [.int s] (some (.int (b2i (0 ≤ s ∧ s ≤ 1)))) (M) := by
  refine CM.of (by decide) (Nat.le_of_ble_eq_true rfl) (fun X C hq => ?_)
  have C : Cx X g l cX2_isEcho 1 RX2 (some .boolean) rmX2_isEcho := C
  show V X g 0 0 0 [(0, .int s)] [] M
  refine x_iload_n C dX2_isEcho_0 rfl ?_
  refine x_iconst C (v := 0) dX2_isEcho_1 (by decide) ?_
  refine x_iconst C (v := 1) dX2_isEcho_2 (by decide) ?_
  refine x_callS0r C (q2_isIn l g M s 0 1) cd_X2_isIn kl_X2_36 (as := [_, _, _]) rfl rfl ⟨⟨by decide, by decide⟩, by decide, by decide⟩ ⟨rfl, rfl⟩ (Nat.le_of_ble_eq_true rfl) dX2_isEcho_3 ?_
  exact x_zret C hq (b2i_nar _) ⟨by decide, by decide⟩ dX2_isEcho_6 (rfl) (rfl)
abbrev rmX2_isWall : Room := { frames := 1, cells := 0, slots := 0, locals := 22 }
set_option maxHeartbeats 1000000 in
set_option maxRecDepth 100000 in
theorem q2_isWall (l : Launch) (g : GT) (M : Mem) (s : Int32) : CM l yX2_isWall cX2_isWall 2 (some .boolean) rmX2_isWall g M [.ref (ga g 29), .int s] (some (.int (b2i (0 ≤ s ∧ s ≤ M 29 1 - 1)))) (M) := by
  refine CM.of (by decide) (Nat.le_of_ble_eq_true rfl) (fun X C hq => ?_)
  have C : Cx X g l cX2_isWall 2 RX2 (some .boolean) rmX2_isWall := C
  show V X g 0 0 0 [(0, .ref (ga g 29)), (1, .int s)] [] M
  refine x_iload_n C dX2_isWall_0 rfl ?_
  refine x_iconst C (v := 0) dX2_isWall_1 (by decide) ?_
  refine x_aload_n C dX2_isWall_2 rfl ?_
  refine x_getI C fl_X2_40 rfl (by decide) rfl dX2_isWall_3 ?_
  refine x_iconst C (v := 1) dX2_isWall_6 (by decide) ?_
  refine x_isub C dX2_isWall_7 ?_
  refine x_callS0r C (q2_isIn l g M s 0 _) cd_X2_isIn kl_X2_36 (as := [_, _, _]) rfl rfl ⟨⟨by decide, by decide⟩, by decide, by decide⟩ ⟨rfl, rfl⟩ (Nat.le_of_ble_eq_true rfl) dX2_isWall_8 ?_
  exact x_zret C hq (b2i_nar _) ⟨by decide, by decide⟩ dX2_isWall_11 (rfl) (rfl)
abbrev rmX2_isShout : Room := { frames := 1, cells := 0, slots := 0, locals := 22 }
set_option maxHeartbeats 1000000 in
set_option maxRecDepth 100000 in
theorem q2_isShout (l : Launch) (g : GT) (M : Mem) (s : Int32) : CM l yX2_isShout cX2_isShout 2 (some .boolean) rmX2_isShout g M [.ref (ga g 29), .int s] (some (.int (b2i (0 ≤ s ∧ s ≤ M 29 2 - 1)))) (M) := by
  refine CM.of (by decide) (Nat.le_of_ble_eq_true rfl) (fun X C hq => ?_)
  have C : Cx X g l cX2_isShout 2 RX2 (some .boolean) rmX2_isShout := C
  show V X g 0 0 0 [(0, .ref (ga g 29)), (1, .int s)] [] M
  refine x_iload_n C dX2_isShout_0 rfl ?_
  refine x_iconst C (v := 0) dX2_isShout_1 (by decide) ?_
  refine x_aload_n C dX2_isShout_2 rfl ?_
  refine x_getI C fl_X2_43 rfl (by decide) rfl dX2_isShout_3 ?_
  refine x_iconst C (v := 1) dX2_isShout_6 (by decide) ?_
  refine x_isub C dX2_isShout_7 ?_
  refine x_callS0r C (q2_isIn l g M s 0 _) cd_X2_isIn kl_X2_36 (as := [_, _, _]) rfl rfl ⟨⟨by decide, by decide⟩, by decide, by decide⟩ ⟨rfl, rfl⟩ (Nat.le_of_ble_eq_true rfl) dX2_isShout_8 ?_
  exact x_zret C hq (b2i_nar _) ⟨by decide, by decide⟩ dX2_isShout_11 (rfl) (rfl)
abbrev rmX2_keep : Room := { frames := 1, cells := 0, slots := 0, locals := 60 }
set_option maxHeartbeats 1000000 in
set_option maxRecDepth 100000 in
theorem q2_keep (l : Launch) (g : GT) (M : Mem) : CM l yX2_keep cX2_keep 1 none rmX2_keep g M [.ref (ga g 29)] (none) (wrc M 35 (cpn (M 34) (M 35) 187)) := by
  refine CM.of (by decide) (Nat.le_of_ble_eq_true rfl) (fun X C hq => ?_)
  have C : Cx X g l cX2_keep 1 RX2 none rmX2_keep := C
  show V X g 0 0 0 [(0, .ref (ga g 29))] [] M
  refine x_aload_n C dX2_keep_0 rfl ?_
  refine x_getR C fl_X2_22 rfl (by decide) rfl dX2_keep_1 ?_
  refine x_iconst C (v := 0) dX2_keep_4 (by decide) ?_
  refine x_aload_n C dX2_keep_5 rfl ?_
  refine x_getR C fl_X2_25 rfl (by decide) rfl dX2_keep_6 ?_
  refine x_iconst C (v := 0) dX2_keep_9 (by decide) ?_
  refine x_sipush C (v := 187) dX2_keep_10 (by decide) ?_
  refine x_acopy C (i := 867) (by decide +kernel) rfl rfl (by decide) (by decide) (N := 187) rfl rfl rfl ⟨by decide, Nat.le_of_ble_eq_true rfl⟩ dX2_keep_13 ?_
  exact x_vret C hq ⟨by decide, by decide⟩ dX2_keep_16 (rfl) (rfl)
abbrev rmX2_bringBack : Room := { frames := 1, cells := 0, slots := 0, locals := 60 }
set_option maxHeartbeats 1000000 in
set_option maxRecDepth 100000 in
theorem q2_bringBack (l : Launch) (g : GT) (M : Mem) : CM l yX2_bringBack cX2_bringBack 1 none rmX2_bringBack g M [.ref (ga g 29)] (none) (wrc M 34 (cpn (M 35) (M 34) 187)) := by
  refine CM.of (by decide) (Nat.le_of_ble_eq_true rfl) (fun X C hq => ?_)
  have C : Cx X g l cX2_bringBack 1 RX2 none rmX2_bringBack := C
  show V X g 0 0 0 [(0, .ref (ga g 29))] [] M
  refine x_aload_n C dX2_bringBack_0 rfl ?_
  refine x_getR C fl_X2_25 rfl (by decide) rfl dX2_bringBack_1 ?_
  refine x_iconst C (v := 0) dX2_bringBack_4 (by decide) ?_
  refine x_aload_n C dX2_bringBack_5 rfl ?_
  refine x_getR C fl_X2_22 rfl (by decide) rfl dX2_bringBack_6 ?_
  refine x_iconst C (v := 0) dX2_bringBack_9 (by decide) ?_
  refine x_sipush C (v := 187) dX2_bringBack_10 (by decide) ?_
  refine x_acopy C (i := 867) (by decide +kernel) rfl rfl (by decide) (by decide) (N := 187) rfl rfl rfl ⟨by decide, Nat.le_of_ble_eq_true rfl⟩ dX2_bringBack_13 ?_
  exact x_vret C hq ⟨by decide, by decide⟩ dX2_bringBack_16 (rfl) (rfl)
abbrev rmX2_goes : Room := { frames := 0, cells := 0, slots := 0, locals := 0 }
set_option maxHeartbeats 1000000 in
set_option maxRecDepth 100000 in
theorem q2_goes (l : Launch) (g : GT) (M : Mem) (k : Nat) (hk : k < 40) : CM l yX2_goes cX2_goes 2 (some .boolean) rmX2_goes g M [.ref (ga g 29), .int (nI k)] (some (.int (b2i (0 < M 34 (27 + k))))) (M) := by
  refine CM.of (by decide) (Nat.le_of_ble_eq_true rfl) (fun X C hq => ?_)
  have C : Cx X g l cX2_goes 2 RX2 (some .boolean) rmX2_goes := C
  show V X g 0 0 0 [(0, .ref (ga g 29)), (1, .int (nI k))] [] M
  refine x_aload_n C dX2_goes_0 rfl ?_
  refine x_getR C fl_X2_22 rfl (by decide) rfl dX2_goes_1 ?_
  refine x_bipush C (v := 27) dX2_goes_4 (by decide) ?_
  refine x_iload_n C dX2_goes_6 rfl ?_
  refine x_iadd C dX2_goes_7 ?_
  refine x_iald C (n := 187) rfl (by decide) rfl (nI_add 27 k) ((by omega : 27 + k < 187)) dX2_goes_8 ?_
  refine x_if_le C (tgt := 16) dX2_goes_9 (by decide) (fun c9 => ?_) (fun c9 => ?_)
  · refine x_iconst C (v := 0) dX2_goes_16 (by decide) ?_
    exact x_zret C hq (by decide) ⟨by decide, by decide⟩ dX2_goes_17 (by first | exact rb_t (Int32.not_le.mp c9) | exact rb_f (Int32.not_lt.mpr c9)) (rfl)
  · refine x_iconst C (v := 1) dX2_goes_12 (by decide) ?_
    refine x_goto C (tgt := 17) dX2_goes_13 (by decide) ?_
    exact x_zret C hq (by decide) ⟨by decide, by decide⟩ dX2_goes_17 (by first | exact rb_t (Int32.not_le.mp c9) | exact rb_f (Int32.not_lt.mpr c9)) (rfl)
abbrev rmX2_let : Room := { frames := 1, cells := 0, slots := 0, locals := 30 }
set_option maxHeartbeats 1000000 in
set_option maxRecDepth 100000 in
theorem q2_let (l : Launch) (g : GT) (M : Mem) (k : Nat) (hk : k < 40) (v : Int32) : CM l yX2_let cX2_let 3 none rmX2_let g M [.ref (ga g 29), .int (nI k), .int v] (none) (mLet M k v) := by
  refine CM.of (by decide) (Nat.le_of_ble_eq_true rfl) (fun X C hq => ?_)
  have C : Cx X g l cX2_let 3 RX2 none rmX2_let := C
  show V X g 0 0 0 [(0, .ref (ga g 29)), (1, .int (nI k)), (2, .int v)] [] M
  refine x_aload_n C dX2_let_0 rfl ?_
  refine x_getR C fl_X2_22 rfl (by decide) rfl dX2_let_1 ?_
  refine x_bipush C (v := 27) dX2_let_4 (by decide) ?_
  refine x_iload_n C dX2_let_6 rfl ?_
  refine x_iadd C dX2_let_7 ?_
  refine x_iconst C (v := 0) dX2_let_8 (by decide) ?_
  refine x_iload_n C dX2_let_9 rfl ?_
  refine x_max C (i := 730) (by decide +kernel) ⟨by decide, Nat.le_of_ble_eq_true rfl, Nat.le_of_ble_eq_true rfl, Nat.le_of_ble_eq_true rfl⟩ dX2_let_10 ?_
  refine x_iast C (n := 187) rfl (by decide) rfl (nI_add 27 k) ((by omega : 27 + k < 187)) dX2_let_13 ?_
  exact x_vret C hq ⟨by decide, by decide⟩ dX2_let_14 (rfl) (rfl)
abbrev rmX2_step : Room := { frames := 2, cells := 0, slots := 0, locals := 52 }
set_option maxHeartbeats 1000000 in
set_option maxRecDepth 100000 in
theorem q2_step (l : Launch) (g : GT) (M : Mem) (h : mOK M) (k : Nat) (hk : k < 40) : CM l yX2_step cX2_step 5 none rmX2_step g M [.ref (ga g 29), .int (nI k)] (none) (mStep M k) := by
  refine CM.of (by decide) (Nat.le_of_ble_eq_true rfl) (fun X C hq => ?_)
  have C : Cx X g l cX2_step 5 RX2 none rmX2_step := C
  show V X g 0 0 0 [(0, .ref (ga g 29)), (1, .int (nI k))] [] M
  refine x_aload_n C dX2_step_0 rfl ?_
  refine x_getR C fl_X2_22 rfl (by decide) rfl dX2_step_1 ?_
  refine x_bipush C (v := 67) dX2_step_4 (by decide) ?_
  refine x_iload_n C dX2_step_6 rfl ?_
  refine x_iadd C dX2_step_7 ?_
  refine x_iald C (n := 187) rfl (by decide) rfl (nI_add 67 k) ((by omega : 67 + k < 187)) dX2_step_8 ?_
  refine x_aload_n C dX2_step_9 rfl ?_
  refine x_getR C fl_X2_22 rfl (by decide) rfl dX2_step_10 ?_
  refine x_bipush C (v := 107) dX2_step_13 (by decide) ?_
  refine x_iload_n C dX2_step_15 rfl ?_
  refine x_iadd C dX2_step_16 ?_
  refine x_iald C (n := 187) rfl (by decide) rfl (nI_add 107 k) ((by omega : 107 + k < 187)) dX2_step_17 ?_
  refine x_iadd C dX2_step_18 ?_
  change V X g 0 0 _ _ (.int (mS1 M k) :: _) M
  refine x_istore_n C (lo' := [(2, _), (0, _), (1, _)]) dX2_step_19 (by decide) rfl ?_
  refine x_iload_n C dX2_step_20 rfl ?_
  refine x_callS0r C (q2_isStone l g _ _) cd_X2_isStone kl_X2_58 (as := [_]) rfl rfl ⟨⟨by decide, by decide⟩, by decide, by decide⟩ ⟨rfl, rfl⟩ (Nat.le_of_ble_eq_true rfl) dX2_step_21 ?_
  refine x_bif_ne C (tgt := 34) dX2_step_24 (by decide) (fun c24 => ?_) (fun c24 => ?_)
  · have hs := tn31 c24
    refine x_aload_n C dX2_step_34 rfl ?_
    refine x_getR C fl_X2_22 rfl (by decide) rfl dX2_step_35 ?_
    refine x_bipush C (v := 67) dX2_step_38 (by decide) ?_
    refine x_iload_n C dX2_step_40 rfl ?_
    refine x_iadd C dX2_step_41 ?_
    refine x_iload_n C dX2_step_42 rfl ?_
    refine x_iast C (n := 187) rfl (by decide) rfl (nI_add 67 k) ((by omega : 67 + k < 187)) dX2_step_43 ?_
    refine x_aload_n C dX2_step_44 rfl ?_
    refine x_iload_n C dX2_step_45 rfl ?_
    refine x_aload_n C dX2_step_46 rfl ?_
    refine x_getR C fl_X2_22 rfl (by decide) rfl dX2_step_47 ?_
    refine x_bipush C (v := 27) dX2_step_50 (by decide) ?_
    refine x_iload_n C dX2_step_52 rfl ?_
    refine x_iadd C dX2_step_53 ?_
    refine x_iald C (n := 187) rfl (by decide) rfl (nI_add 27 k) ((by omega : 27 + k < 187)) dX2_step_54 ?_
    refine x_iconst C (v := 1) dX2_step_55 (by decide) ?_
    refine x_isub C dX2_step_56 ?_
    refine x_aload_n C dX2_step_57 rfl ?_
    refine x_getR C fl_X2_9 rfl (by decide) rfl dX2_step_58 ?_
    refine x_iload_n C dX2_step_61 rfl ?_
    refine x_iald C (n := 32) rfl (by decide) rfl (nI_tn c24.1) (hs) dX2_step_62 ?_
    refine x_isub C dX2_step_63 ?_
    refine x_callV0v C (q2_let l g _ k hk _) cd_X2_let kl_X2_62 ci2 rfl (by decide) (as := [_, _]) rfl rfl ⟨⟨by decide, by decide⟩, by decide, by decide⟩ ⟨rfl, rfl⟩ (Nat.le_of_ble_eq_true rfl) dX2_step_64 ?_
    refine x_mem (M' := mGo M k (mS1 M k)) rfl ?_
    refine x_aload_n C dX2_step_67 rfl ?_
    refine x_getR C fl_X2_13 rfl (by decide) rfl dX2_step_68 ?_
    refine x_iload_n C dX2_step_71 rfl ?_
    refine x_iald C (n := 32) rfl (by decide) rfl (nI_tn c24.1) (hs) dX2_step_72 ?_
    refine x_istore_n C (lo' := [(3, _), (2, _), (0, _), (1, _)]) dX2_step_73 (by decide) rfl ?_
    refine x_aload_n C dX2_step_74 rfl ?_
    refine x_iload_n C dX2_step_75 rfl ?_
    refine x_callV0r C (q2_goes l g _ k hk) cd_X2_goes kl_X2_66 ci2 rfl (by decide) (as := [_]) rfl rfl ⟨⟨by decide, by decide⟩, by decide, by decide⟩ ⟨rfl, rfl⟩ (Nat.le_of_ble_eq_true rfl) dX2_step_76 ?_
    refine x_bif_eq C (tgt := 87) dX2_step_79 (by decide) (fun c79 => ?_) (fun c79 => ?_)
    · exact x_vret C hq ⟨by decide, by decide⟩ dX2_step_87 (rfl) ((if_pos c24).trans (if_neg (by first | exact fun q => c79 q.1 | exact fun q => q.2 c84)))
    · refine x_iload_n C dX2_step_82 rfl ?_
      refine x_iconst C (v := (-1)) dX2_step_83 (by decide) ?_
      refine x_icmp_ne C (tgt := 88) dX2_step_84 (by decide) (fun c84 => ?_) (fun c84 => ?_)
      · have hok := (h.same (mGo_same M k (mS1 M k)))
        have hw : 0 ≤ mGo M k (mS1 M k) 31 (tn (mS1 M k)) ∧ mGo M k (mS1 M k) 31 (tn (mS1 M k)) ≤ 9 := (hok.2.2.1 _ hs).resolve_left c84
        have hw9 := tn9 hw
        have he := hok.2.2.2 _ hw9
        have he1 := tn1 he
        refine x_aload_n C dX2_step_88 rfl ?_
        refine x_getR C fl_X2_22 rfl (by decide) rfl dX2_step_89 ?_
        refine x_bipush C (v := 7) dX2_step_92 (by decide) ?_
        refine x_iload_n C dX2_step_94 rfl ?_
        refine x_iadd C dX2_step_95 ?_
        refine x_iald C (n := 187) rfl (by decide) rfl (ix_t 7 hw.1) (by omega) dX2_step_96 ?_
        refine x_istore C (lo' := [(4, _), (3, _), (2, _), (0, _), (1, _)]) dX2_step_97 (by decide) rfl ?_
        refine x_aload_n C dX2_step_99 rfl ?_
        refine x_getR C fl_X2_22 rfl (by decide) rfl dX2_step_100 ?_
        refine x_iconst C (v := 3) dX2_step_103 (by decide) ?_
        refine x_iload C dX2_step_104 rfl ?_
        refine x_iadd C dX2_step_106 ?_
        refine x_dup2 C dX2_step_107 rfl rfl ?_
        refine x_iald C (n := 187) rfl (by decide) rfl (ix_t 3 he.1) (by omega) dX2_step_108 ?_
        refine x_iconst C (v := 1) dX2_step_109 (by decide) ?_
        refine x_iadd C dX2_step_110 ?_
        refine x_iast C (n := 187) rfl (by decide) rfl (ix_t 3 he.1) (by omega) dX2_step_111 ?_
        refine x_aload_n C dX2_step_112 rfl ?_
        refine x_getR C fl_X2_28 rfl (by decide) rfl dX2_step_113 ?_
        refine x_iload C dX2_step_116 rfl ?_
        refine x_iconst C (v := 1) dX2_step_118 (by decide) ?_
        refine x_bast C (n := 2) rfl (by decide) rfl (nI_tn he.1) (he1) (v' := 1) (by decide) dX2_step_119 ?_
        refine x_aload_n C dX2_step_120 rfl ?_
        refine x_getR C fl_X2_22 rfl (by decide) rfl dX2_step_121 ?_
        refine x_bipush C (v := 17) dX2_step_124 (by decide) ?_
        refine x_iload_n C dX2_step_126 rfl ?_
        refine x_iadd C dX2_step_127 ?_
        refine x_dup2 C dX2_step_128 rfl rfl ?_
        refine x_iald C (n := 187) rfl (by decide) rfl (ix_t 17 hw.1) (by omega) dX2_step_129 ?_
        refine x_iconst C (v := 1) dX2_step_130 (by decide) ?_
        refine x_iadd C dX2_step_131 ?_
        refine x_iast C (n := 187) rfl (by decide) rfl (ix_t 17 hw.1) (by omega) dX2_step_132 ?_
        refine x_aload_n C dX2_step_133 rfl ?_
        refine x_getR C fl_X2_22 rfl (by decide) rfl dX2_step_134 ?_
        refine x_sipush C (v := 147) dX2_step_137 (by decide) ?_
        refine x_iload_n C dX2_step_140 rfl ?_
        refine x_iadd C dX2_step_141 ?_
        refine x_dup2 C dX2_step_142 rfl rfl ?_
        refine x_iald C (n := 187) rfl (by decide) rfl (nI_add 147 k) ((by omega : 147 + k < 187)) dX2_step_143 ?_
        refine x_iconst C (v := 1) dX2_step_144 (by decide) ?_
        refine x_iadd C dX2_step_145 ?_
        refine x_iast C (n := 187) rfl (by decide) rfl (nI_add 147 k) ((by omega : 147 + k < 187)) dX2_step_146 ?_
        refine x_aload_n C dX2_step_147 rfl ?_
        refine x_getR C fl_X2_22 rfl (by decide) rfl dX2_step_148 ?_
        refine x_bipush C (v := 107) dX2_step_151 (by decide) ?_
        refine x_iload_n C dX2_step_153 rfl ?_
        refine x_iadd C dX2_step_154 ?_
        refine x_aload_n C dX2_step_155 rfl ?_
        refine x_getR C fl_X2_22 rfl (by decide) rfl dX2_step_156 ?_
        refine x_bipush C (v := 107) dX2_step_159 (by decide) ?_
        refine x_iload_n C dX2_step_161 rfl ?_
        refine x_iadd C dX2_step_162 ?_
        refine x_iald C (n := 187) rfl (by decide) rfl (nI_add 107 k) ((by omega : 107 + k < 187)) dX2_step_163 ?_
        refine x_ineg C dX2_step_164 ?_
        refine x_iast C (n := 187) rfl (by decide) rfl (nI_add 107 k) ((by omega : 107 + k < 187)) dX2_step_165 ?_
        refine x_aload_n C dX2_step_166 rfl ?_
        refine x_iload_n C dX2_step_167 rfl ?_
        refine x_aload_n C dX2_step_168 rfl ?_
        refine x_getR C fl_X2_22 rfl (by decide) rfl dX2_step_169 ?_
        refine x_bipush C (v := 27) dX2_step_172 (by decide) ?_
        refine x_iload_n C dX2_step_174 rfl ?_
        refine x_iadd C dX2_step_175 ?_
        refine x_iald C (n := 187) rfl (by decide) rfl (nI_add 27 k) ((by omega : 27 + k < 187)) dX2_step_176 ?_
        refine x_aload_n C dX2_step_177 rfl ?_
        refine x_getR C fl_X2_19 rfl (by decide) rfl dX2_step_178 ?_
        refine x_iload_n C dX2_step_181 rfl ?_
        refine x_iald C (n := 10) rfl (by decide) rfl (nI_tn hw.1) (hw9) dX2_step_182 ?_
        refine x_isub C dX2_step_183 ?_
        refine x_callV0v C (q2_let l g _ k hk _) cd_X2_let kl_X2_62 ci2 rfl (by decide) (as := [_, _]) rfl rfl ⟨⟨by decide, by decide⟩, by decide, by decide⟩ ⟨rfl, rfl⟩ (Nat.le_of_ble_eq_true rfl) dX2_step_184 ?_
        exact x_vret C hq ⟨by decide, by decide⟩ dX2_step_187 (rfl) ((if_pos c24).trans (if_pos ⟨c79, c84⟩))
      · exact x_vret C hq ⟨by decide, by decide⟩ dX2_step_87 (rfl) ((if_pos c24).trans (if_neg (by first | exact fun q => c79 q.1 | exact fun q => q.2 c84)))
  · refine x_aload_n C dX2_step_27 rfl ?_
    refine x_iload_n C dX2_step_28 rfl ?_
    refine x_iconst C (v := 0) dX2_step_29 (by decide) ?_
    refine x_callV0v C (q2_let l g _ k hk _) cd_X2_let kl_X2_62 ci2 rfl (by decide) (as := [_, _]) rfl rfl ⟨⟨by decide, by decide⟩, by decide, by decide⟩ ⟨rfl, rfl⟩ (Nat.le_of_ble_eq_true rfl) dX2_step_30 ?_
    exact x_vret C hq ⟨by decide, by decide⟩ dX2_step_33 (rfl) (if_neg c24)
abbrev rmX2_loudest : Room := { frames := 1, cells := 0, slots := 0, locals := 21 }
set_option maxHeartbeats 1000000 in
set_option maxRecDepth 100000 in
theorem q2_loudest_lp {X : XT} {l : Launch} {g : GT} {M : Mem} {s : Int32} (hok : mOK M) (C : Cx X g l cX2_loudest 4 RX2 (some .int) rmX2_loudest) (hq : Rt X g rmX2_loudest (some (.int (mLoudest M s))) M) : ∀ (n i : Nat), i ≤ mSh M → mSh M + 1 ≤ i + n → V X g 0 0 4 [(3, .int (nI i)), (2, .int (mLdL M s i)), (0, .ref (ga g 29)), (1, .int s)] [] M := by
  intro n
  induction n with
  | zero =>
    intro i h1 h2; omega
  | succ n ih =>
    intro i h1 h2
    have hsh := hok.sh
    have fin : ∀ b : Int32, mLdL M s (i + 1) = b → i < mSh M → V X g 0 0 4 [(3, .int (nI (i + 1))), (2, .int b), (0, .ref (ga g 29)), (1, .int s)] [] M := fun b hb hlt => by
      have := ih (i + 1) hlt (by omega)
      rw [hb] at this
      exact this
    refine x_iload_n C dX2_loudest_4 rfl ?_
    refine x_aload_n C dX2_loudest_5 rfl ?_
    refine x_getI C fl_X2_43 rfl (by decide) rfl dX2_loudest_6 ?_
    refine x_icmp_ge C (tgt := 67) dX2_loudest_9 (by decide) (fun c9 => ?_) (fun c9 => ?_)
    · have he : i = mSh M := Nat.le_antisymm h1 ((ge_tn hok.2.1.1 (by omega)).mp c9)
      refine x_iload_n C dX2_loudest_67 rfl ?_
      exact x_iret C hq ⟨by decide, by decide⟩ dX2_loudest_68 (by rw [mLoudest, ← he]) (rfl)
    · have hlt : i < mSh M := Nat.lt_of_not_le (fun z => c9 ((ge_tn hok.2.1.1 (by omega)).mpr z))
      have hi : i < 40 := by omega
      refine x_aload_n C dX2_loudest_12 rfl ?_
      refine x_iload_n C dX2_loudest_13 rfl ?_
      refine x_callV0r C (q2_goes l g _ i hi) cd_X2_goes kl_X2_66 ci2 rfl (by decide) (as := [_]) rfl rfl ⟨⟨by decide, by decide⟩, by decide, by decide⟩ ⟨rfl, rfl⟩ (Nat.le_of_ble_eq_true rfl) dX2_loudest_14 ?_
      refine x_bif_eq C (tgt := 61) dX2_loudest_17 (by decide) (fun c17 => ?_) (fun c17 => ?_)
      · refine x_iinc C (v := nI (i + 1)) (lo' := [(3, _), (2, _), (0, _), (1, _)]) dX2_loudest_61 rfl (nI_inc _) (by decide) rfl ?_
        refine x_goto C (tgt := 4) dX2_loudest_64 (by decide) ?_
        first
          | exact fin _ (if_neg (fun z => c17 z.1)) hlt
          | exact fin _ (if_neg (fun z => c30 z.2.1)) hlt
          | (have z56 := Int32.not_le.mp c56; exact fin _ (if_pos ⟨c17, c30, Or.inr z56⟩) hlt)
          | exact fin _ (if_pos ⟨c17, c30, Or.inl c35⟩) hlt
          | exact fin _ (if_neg (fun z => z.2.2.elim c35 (fun q => absurd c56 (Int32.not_le.mpr q)))) hlt
      · refine x_aload_n C dX2_loudest_20 rfl ?_
        refine x_getR C fl_X2_22 rfl (by decide) rfl dX2_loudest_21 ?_
        refine x_bipush C (v := 67) dX2_loudest_24 (by decide) ?_
        refine x_iload_n C dX2_loudest_26 rfl ?_
        refine x_iadd C dX2_loudest_27 ?_
        refine x_iald C (n := 187) rfl (by decide) rfl (nI_add 67 i) ((by omega : 67 + i < 187)) dX2_loudest_28 ?_
        refine x_iload_n C dX2_loudest_29 rfl ?_
        refine x_icmp_ne C (tgt := 61) dX2_loudest_30 (by decide) (fun c30 => ?_) (fun c30 => ?_)
        · refine x_iinc C (v := nI (i + 1)) (lo' := [(3, _), (2, _), (0, _), (1, _)]) dX2_loudest_61 rfl (nI_inc _) (by decide) rfl ?_
          refine x_goto C (tgt := 4) dX2_loudest_64 (by decide) ?_
          first
            | exact fin _ (if_neg (fun z => c17 z.1)) hlt
            | exact fin _ (if_neg (fun z => c30 z.2.1)) hlt
            | (have z56 := Int32.not_le.mp c56; exact fin _ (if_pos ⟨c17, c30, Or.inr z56⟩) hlt)
            | exact fin _ (if_pos ⟨c17, c30, Or.inl c35⟩) hlt
            | exact fin _ (if_neg (fun z => z.2.2.elim c35 (fun q => absurd c56 (Int32.not_le.mpr q)))) hlt
        · refine x_iload_n C dX2_loudest_33 rfl ?_
          refine x_iconst C (v := (-1)) dX2_loudest_34 (by decide) ?_
          refine x_icmp_eq C (tgt := 59) dX2_loudest_35 (by decide) (fun c35 => ?_) (fun c35 => ?_)
          · refine x_iload_n C dX2_loudest_59 rfl ?_
            refine x_istore_n C (lo' := [(2, _), (3, _), (0, _), (1, _)]) dX2_loudest_60 (by decide) rfl ?_
            refine x_iinc C (v := nI (i + 1)) (lo' := [(3, _), (2, _), (0, _), (1, _)]) dX2_loudest_61 rfl (nI_inc _) (by decide) rfl ?_
            refine x_goto C (tgt := 4) dX2_loudest_64 (by decide) ?_
            first
              | exact fin _ (if_neg (fun z => c17 z.1)) hlt
              | exact fin _ (if_neg (fun z => c30 z.2.1)) hlt
              | (have z56 := Int32.not_le.mp c56; exact fin _ (if_pos ⟨c17, c30, Or.inr z56⟩) hlt)
              | exact fin _ (if_pos ⟨c17, c30, Or.inl c35⟩) hlt
              | exact fin _ (if_neg (fun z => z.2.2.elim c35 (fun q => absurd c56 (Int32.not_le.mpr q)))) hlt
          · have hb := (mLdL_or M s i (by omega)).resolve_left c35
            refine x_aload_n C dX2_loudest_38 rfl ?_
            refine x_getR C fl_X2_22 rfl (by decide) rfl dX2_loudest_39 ?_
            refine x_bipush C (v := 27) dX2_loudest_42 (by decide) ?_
            refine x_iload_n C dX2_loudest_44 rfl ?_
            refine x_iadd C dX2_loudest_45 ?_
            refine x_iald C (n := 187) rfl (by decide) rfl (nI_add 27 i) ((by omega : 27 + i < 187)) dX2_loudest_46 ?_
            refine x_aload_n C dX2_loudest_47 rfl ?_
            refine x_getR C fl_X2_22 rfl (by decide) rfl dX2_loudest_48 ?_
            refine x_bipush C (v := 27) dX2_loudest_51 (by decide) ?_
            refine x_iload_n C dX2_loudest_53 rfl ?_
            refine x_iadd C dX2_loudest_54 ?_
            refine x_iald C (n := 187) rfl (by decide) rfl (ix_t 27 hb.1) (by omega) dX2_loudest_55 ?_
            refine x_icmp_le C (tgt := 61) dX2_loudest_56 (by decide) (fun c56 => ?_) (fun c56 => ?_)
            · refine x_iinc C (v := nI (i + 1)) (lo' := [(3, _), (2, _), (0, _), (1, _)]) dX2_loudest_61 rfl (nI_inc _) (by decide) rfl ?_
              refine x_goto C (tgt := 4) dX2_loudest_64 (by decide) ?_
              first
                | exact fin _ (if_neg (fun z => c17 z.1)) hlt
                | exact fin _ (if_neg (fun z => c30 z.2.1)) hlt
                | (have z56 := Int32.not_le.mp c56; exact fin _ (if_pos ⟨c17, c30, Or.inr z56⟩) hlt)
                | exact fin _ (if_pos ⟨c17, c30, Or.inl c35⟩) hlt
                | exact fin _ (if_neg (fun z => z.2.2.elim c35 (fun q => absurd c56 (Int32.not_le.mpr q)))) hlt
            · refine x_iload_n C dX2_loudest_59 rfl ?_
              refine x_istore_n C (lo' := [(2, _), (3, _), (0, _), (1, _)]) dX2_loudest_60 (by decide) rfl ?_
              refine x_iinc C (v := nI (i + 1)) (lo' := [(3, _), (2, _), (0, _), (1, _)]) dX2_loudest_61 rfl (nI_inc _) (by decide) rfl ?_
              refine x_goto C (tgt := 4) dX2_loudest_64 (by decide) ?_
              first
                | exact fin _ (if_neg (fun z => c17 z.1)) hlt
                | exact fin _ (if_neg (fun z => c30 z.2.1)) hlt
                | (have z56 := Int32.not_le.mp c56; exact fin _ (if_pos ⟨c17, c30, Or.inr z56⟩) hlt)
                | exact fin _ (if_pos ⟨c17, c30, Or.inl c35⟩) hlt
                | exact fin _ (if_neg (fun z => z.2.2.elim c35 (fun q => absurd c56 (Int32.not_le.mpr q)))) hlt
set_option maxHeartbeats 1000000 in
set_option maxRecDepth 100000 in
theorem q2_loudest (l : Launch) (g : GT) (M : Mem) (hok : mOK M) (s : Int32) : CM l yX2_loudest cX2_loudest 4 (some .int) rmX2_loudest g M [.ref (ga g 29), .int s] (some (.int (mLoudest M s))) (M) := by
  refine CM.of (by decide) (Nat.le_of_ble_eq_true rfl) (fun X C hq => ?_)
  have C : Cx X g l cX2_loudest 4 RX2 (some .int) rmX2_loudest := C
  show V X g 0 0 0 [(0, .ref (ga g 29)), (1, .int s)] [] M
  refine x_iconst C (v := (-1)) dX2_loudest_0 (by decide) ?_
  refine x_istore_n C (lo' := [(2, _), (0, _), (1, _)]) dX2_loudest_1 (by decide) rfl ?_
  refine x_iconst C (v := 0) dX2_loudest_2 (by decide) ?_
  refine x_istore_n C (lo' := [(3, _), (2, _), (0, _), (1, _)]) dX2_loudest_3 (by decide) rfl ?_
  exact x_lsub [0, 1, 2, 3] rfl (q2_loudest_lp hok C hq (mSh M + 1) 0 (Nat.zero_le _) (by omega))
abbrev rmX2_meet : Room := { frames := 2, cells := 0, slots := 0, locals := 52 }
set_option maxHeartbeats 1000000 in
set_option maxRecDepth 100000 in
theorem q2_meet (l : Launch) (g : GT) (M : Mem) (h : mOK M) (k : Nat) (hk : k < 40) : CM l yX2_meet cX2_meet 2 none rmX2_meet g M [.ref (ga g 29), .int (nI k)] (none) (mMeet M k) := by
  refine CM.of (by decide) (Nat.le_of_ble_eq_true rfl) (fun X C hq => ?_)
  have C : Cx X g l cX2_meet 2 RX2 none rmX2_meet := C
  show V X g 0 0 0 [(0, .ref (ga g 29)), (1, .int (nI k))] [] M
  refine x_aload_n C dX2_meet_0 rfl ?_
  refine x_iload_n C dX2_meet_1 rfl ?_
  refine x_callV0r C (q2_goes l g _ k hk) cd_X2_goes kl_X2_66 ci2 rfl (by decide) (as := [_]) rfl rfl ⟨⟨by decide, by decide⟩, by decide, by decide⟩ ⟨rfl, rfl⟩ (Nat.le_of_ble_eq_true rfl) dX2_meet_2 ?_
  refine x_bif_eq C (tgt := 25) dX2_meet_5 (by decide) (fun c5 => ?_) (fun c5 => ?_)
  · exact x_vret C hq ⟨by decide, by decide⟩ dX2_meet_25 (rfl) (if_neg (by first | exact fun q => c5 q.1 | exact fun q => q.2 c22))
  · refine x_aload_n C dX2_meet_8 rfl ?_
    refine x_aload_n C dX2_meet_9 rfl ?_
    refine x_getR C fl_X2_22 rfl (by decide) rfl dX2_meet_10 ?_
    refine x_bipush C (v := 67) dX2_meet_13 (by decide) ?_
    refine x_iload_n C dX2_meet_15 rfl ?_
    refine x_iadd C dX2_meet_16 ?_
    refine x_iald C (n := 187) rfl (by decide) rfl (nI_add 67 k) ((by omega : 67 + k < 187)) dX2_meet_17 ?_
    refine x_callV0r C (q2_loudest l g _ h _) cd_X2_loudest kl_X2_69 ci2 rfl (by decide) (as := [_]) rfl rfl ⟨⟨by decide, by decide⟩, by decide, by decide⟩ ⟨rfl, rfl⟩ (Nat.le_of_ble_eq_true rfl) dX2_meet_18 ?_
    refine x_iload_n C dX2_meet_21 rfl ?_
    refine x_icmp_ne C (tgt := 26) dX2_meet_22 (by decide) (fun c22 => ?_) (fun c22 => ?_)
    · refine x_aload_n C dX2_meet_26 rfl ?_
      refine x_iload_n C dX2_meet_27 rfl ?_
      refine x_iconst C (v := 0) dX2_meet_28 (by decide) ?_
      refine x_callV0v C (q2_let l g _ k hk _) cd_X2_let kl_X2_62 ci2 rfl (by decide) (as := [_, _]) rfl rfl ⟨⟨by decide, by decide⟩, by decide, by decide⟩ ⟨rfl, rfl⟩ (Nat.le_of_ble_eq_true rfl) dX2_meet_29 ?_
      refine x_aload_n C dX2_meet_32 rfl ?_
      refine x_getR C fl_X2_22 rfl (by decide) rfl dX2_meet_33 ?_
      refine x_iconst C (v := 1) dX2_meet_36 (by decide) ?_
      refine x_dup2 C dX2_meet_37 rfl rfl ?_
      refine x_iald C (n := 187) rfl (by decide) rfl (rfl) ((by decide : 1 < 187)) dX2_meet_38 ?_
      refine x_iconst C (v := 1) dX2_meet_39 (by decide) ?_
      refine x_iadd C dX2_meet_40 ?_
      refine x_iast C (n := 187) rfl (by decide) rfl (rfl) ((by decide : 1 < 187)) dX2_meet_41 ?_
      exact x_vret C hq ⟨by decide, by decide⟩ dX2_meet_42 (rfl) (if_pos ⟨c5, c22⟩)
    · exact x_vret C hq ⟨by decide, by decide⟩ dX2_meet_25 (rfl) (if_neg (by first | exact fun q => c5 q.1 | exact fun q => q.2 c22))
abbrev rmX2_firstOf : Room := { frames := 0, cells := 0, slots := 0, locals := 0 }
set_option maxHeartbeats 1000000 in
set_option maxRecDepth 100000 in
theorem q2_firstOf_lp {X : XT} {l : Launch} {g : GT} {M : Mem} {e : Int32} {r : Option Value} (hok : mOK M) (C : Cx X g l cX2_firstOf 3 RX2 (some .int) rmX2_firstOf) (hq : Rt X g rmX2_firstOf r M) : ∀ (n w : Nat), w + n = mWs M → some (.int (mFO M e n w)) = r → V X g 0 0 2 [(2, .int (nI w)), (0, .ref (ga g 29)), (1, .int e)] [] M := by
  have hws := hok.ws
  intro n
  induction n with
  | zero =>
    intro w h1 hr
    refine x_iload_n C dX2_firstOf_2 rfl ?_
    refine x_aload_n C dX2_firstOf_3 rfl ?_
    refine x_getI C fl_X2_40 rfl (by decide) rfl dX2_firstOf_4 ?_
    refine x_icmp_ge C (tgt := 31) dX2_firstOf_7 (by decide) (fun c7 => ?_) (fun c7 => absurd ((ge_tn hok.1.1 (by omega)).mpr (show mWs M ≤ w by omega)) c7)
    refine x_iconst C (v := (-1)) dX2_firstOf_31 (by decide) ?_
    exact x_iret C hq ⟨by decide, by decide⟩ dX2_firstOf_32 (hr.symm) (rfl)
  | succ n ih =>
    intro w h1 hr
    refine x_iload_n C dX2_firstOf_2 rfl ?_
    refine x_aload_n C dX2_firstOf_3 rfl ?_
    refine x_getI C fl_X2_40 rfl (by decide) rfl dX2_firstOf_4 ?_
    refine x_icmp_ge C (tgt := 31) dX2_firstOf_7 (by decide) (fun c7 => ?_) (fun c7 => ?_)
    · exfalso; have hq : mWs M ≤ w := (ge_tn hok.1.1 (by omega)).mp c7; omega
    · refine x_aload_n C dX2_firstOf_10 rfl ?_
      refine x_getR C fl_X2_22 rfl (by decide) rfl dX2_firstOf_11 ?_
      refine x_bipush C (v := 7) dX2_firstOf_14 (by decide) ?_
      refine x_iload_n C dX2_firstOf_16 rfl ?_
      refine x_iadd C dX2_firstOf_17 ?_
      refine x_iald C (n := 187) rfl (by decide) rfl (nI_add 7 w) ((by omega : 7 + w < 187)) dX2_firstOf_18 ?_
      refine x_iload_n C dX2_firstOf_19 rfl ?_
      refine x_icmp_ne C (tgt := 25) dX2_firstOf_20 (by decide) (fun c20 => ?_) (fun c20 => ?_)
      · refine x_iinc C (v := nI (w + 1)) (lo' := [(2, _), (0, _), (1, _)]) dX2_firstOf_25 rfl (nI_inc _) (by decide) rfl ?_
        refine x_goto C (tgt := 2) dX2_firstOf_28 (by decide) ?_
        exact ih (w + 1) (by omega) (by rw [← hr]; exact congrArg (fun z => some (Value.int z)) (if_neg c20).symm)
      · skip
        refine x_iload_n C dX2_firstOf_23 rfl ?_
        exact x_iret C hq ⟨by decide, by decide⟩ dX2_firstOf_24 (by rw [← hr]; exact congrArg (fun z => some (Value.int z)) (if_pos c20)) (rfl)
set_option maxHeartbeats 1000000 in
set_option maxRecDepth 100000 in
theorem q2_firstOf (l : Launch) (g : GT) (M : Mem) (hok : mOK M) (e : Int32) : CM l yX2_firstOf cX2_firstOf 3 (some .int) rmX2_firstOf g M [.ref (ga g 29), .int e] (some (.int (mFirst M e))) (M) := by
  refine CM.of (by decide) (Nat.le_of_ble_eq_true rfl) (fun X C hq => ?_)
  have C : Cx X g l cX2_firstOf 3 RX2 (some .int) rmX2_firstOf := C
  show V X g 0 0 0 [(0, .ref (ga g 29)), (1, .int e)] [] M
  refine x_iconst C (v := 0) dX2_firstOf_0 (by decide) ?_
  refine x_istore_n C (lo' := [(2, _), (0, _), (1, _)]) dX2_firstOf_1 (by decide) rfl ?_
  exact q2_firstOf_lp hok C hq (mWs M) 0 (Nat.zero_add _) rfl
abbrev rmX2_hush : Room := { frames := 1, cells := 0, slots := 0, locals := 22 }
set_option maxHeartbeats 1000000 in
set_option maxRecDepth 100000 in
theorem q2_hush (l : Launch) (g : GT) (M : Mem) (h : mOK M) (e : Nat) (he : e < 2) : CM l yX2_hush cX2_hush 3 none rmX2_hush g M [.ref (ga g 29), .int (nI e)] (none) (mHush M e) := by
  refine CM.of (by decide) (Nat.le_of_ble_eq_true rfl) (fun X C hq => ?_)
  have C : Cx X g l cX2_hush 3 RX2 none rmX2_hush := C
  show V X g 0 0 0 [(0, .ref (ga g 29)), (1, .int (nI e))] [] M
  refine x_aload_n C dX2_hush_0 rfl ?_
  refine x_getR C fl_X2_22 rfl (by decide) rfl dX2_hush_1 ?_
  refine x_iconst C (v := 5) dX2_hush_4 (by decide) ?_
  refine x_iload_n C dX2_hush_5 rfl ?_
  refine x_iadd C dX2_hush_6 ?_
  refine x_aload_n C dX2_hush_7 rfl ?_
  refine x_getR C fl_X2_28 rfl (by decide) rfl dX2_hush_8 ?_
  refine x_iload_n C dX2_hush_11 rfl ?_
  refine x_bald C (n := 2) rfl (by decide) rfl (rfl) ((by omega : e < 2)) dX2_hush_12 ?_
  refine x_if_eq C (tgt := 20) dX2_hush_13 (by decide) (fun c13 => ?_) (fun c13 => ?_)
  · skip
    refine x_aload_n C dX2_hush_20 rfl ?_
    refine x_getR C fl_X2_22 rfl (by decide) rfl dX2_hush_21 ?_
    refine x_iconst C (v := 5) dX2_hush_24 (by decide) ?_
    refine x_iload_n C dX2_hush_25 rfl ?_
    refine x_iadd C dX2_hush_26 ?_
    refine x_iald C (n := 187) rfl (by decide) rfl (nI_add 5 e) ((by omega : 5 + e < 187)) dX2_hush_27 ?_
    refine x_iconst C (v := 1) dX2_hush_28 (by decide) ?_
    refine x_iadd C dX2_hush_29 ?_
    refine x_iast C (n := 187) rfl (by decide) rfl (nI_add 5 e) ((by omega : 5 + e < 187)) dX2_hush_30 ?_
    first
      | refine x_mem (M' := mSil M e) (by unfold mSil; rw [if_pos c13]) ?_
      | refine x_mem (M' := mSil M e) (by unfold mSil; rw [if_neg c13]) ?_
    refine x_aload_n C dX2_hush_31 rfl ?_
    refine x_getR C fl_X2_22 rfl (by decide) rfl dX2_hush_32 ?_
    refine x_iconst C (v := 5) dX2_hush_35 (by decide) ?_
    refine x_iload_n C dX2_hush_36 rfl ?_
    refine x_iadd C dX2_hush_37 ?_
    refine x_iald C (n := 187) rfl (by decide) rfl (nI_add 5 e) ((by omega : 5 + e < 187)) dX2_hush_38 ?_
    refine x_bipush C (v := 12) dX2_hush_39 (by decide) ?_
    refine x_icmp_ge C (tgt := 45) dX2_hush_41 (by decide) (fun c41 => ?_) (fun c41 => ?_)
    · have h2 := (h.same (mSil_same M e he)).same (mSame.wr34 (j := 5 + e) (v := 0) (by omega))
      refine x_aload_n C dX2_hush_45 rfl ?_
      refine x_getR C fl_X2_22 rfl (by decide) rfl dX2_hush_46 ?_
      refine x_iconst C (v := 5) dX2_hush_49 (by decide) ?_
      refine x_iload_n C dX2_hush_50 rfl ?_
      refine x_iadd C dX2_hush_51 ?_
      refine x_iconst C (v := 0) dX2_hush_52 (by decide) ?_
      refine x_iast C (n := 187) rfl (by decide) rfl (nI_add 5 e) ((by omega : 5 + e < 187)) dX2_hush_53 ?_
      refine x_aload_n C dX2_hush_54 rfl ?_
      refine x_iload_n C dX2_hush_55 rfl ?_
      refine x_callV0r C (q2_firstOf l g _ h2 _) cd_X2_firstOf kl_X2_73 ci2 rfl (by decide) (as := [_]) rfl rfl ⟨⟨by decide, by decide⟩, by decide, by decide⟩ ⟨rfl, rfl⟩ (Nat.le_of_ble_eq_true rfl) dX2_hush_56 ?_
      refine x_istore_n C (lo' := [(2, _), (0, _), (1, _)]) dX2_hush_59 (by decide) rfl ?_
      refine x_iload_n C dX2_hush_60 rfl ?_
      refine x_iconst C (v := (-1)) dX2_hush_61 (by decide) ?_
      refine x_icmp_ne C (tgt := 66) dX2_hush_62 (by decide) (fun c62 => ?_) (fun c62 => ?_)
      · have hf := (mFO_or (wr (mSil M e) 34 (5 + e) 0) (nI e) (mWs (wr (mSil M e) 34 (5 + e) 0)) 0 (by have := h2.ws; omega)).resolve_left c62
        have hws := h2.ws
        have hw9 : tn (mFirst (wr (mSil M e) 34 (5 + e) 0) (nI e)) < 10 := by have := hf.2; unfold mFirst; omega
        refine x_aload_n C dX2_hush_66 rfl ?_
        refine x_getR C fl_X2_22 rfl (by decide) rfl dX2_hush_67 ?_
        refine x_bipush C (v := 7) dX2_hush_70 (by decide) ?_
        refine x_iload_n C dX2_hush_72 rfl ?_
        refine x_iadd C dX2_hush_73 ?_
        refine x_iconst C (v := 1) dX2_hush_74 (by decide) ?_
        refine x_iload_n C dX2_hush_75 rfl ?_
        refine x_isub C dX2_hush_76 ?_
        refine x_iast C (n := 187) rfl (by decide) rfl (ix_t 7 hf.1) (by omega) dX2_hush_77 ?_
        refine x_aload_n C dX2_hush_78 rfl ?_
        refine x_getR C fl_X2_22 rfl (by decide) rfl dX2_hush_79 ?_
        refine x_iconst C (v := 2) dX2_hush_82 (by decide) ?_
        refine x_dup2 C dX2_hush_83 rfl rfl ?_
        refine x_iald C (n := 187) rfl (by decide) rfl (rfl) ((by decide : 2 < 187)) dX2_hush_84 ?_
        refine x_iconst C (v := 1) dX2_hush_85 (by decide) ?_
        refine x_iadd C dX2_hush_86 ?_
        refine x_iast C (n := 187) rfl (by decide) rfl (rfl) ((by decide : 2 < 187)) dX2_hush_87 ?_
        exact x_vret C hq ⟨by decide, by decide⟩ dX2_hush_88 (rfl) ((if_pos c41).trans (if_pos c62))
      · exact x_vret C hq ⟨by decide, by decide⟩ dX2_hush_65 (rfl) ((if_pos c41).trans (if_neg (fun z => z c62)))
    · exact x_vret C hq ⟨by decide, by decide⟩ dX2_hush_44 (rfl) (if_neg (fun z => c41 z))
  · skip
    refine x_iconst C (v := 0) dX2_hush_16 (by decide) ?_
    refine x_goto C (tgt := 30) dX2_hush_17 (by decide) ?_
    refine x_iast C (n := 187) rfl (by decide) rfl (nI_add 5 e) ((by omega : 5 + e < 187)) dX2_hush_30 ?_
    first
      | refine x_mem (M' := mSil M e) (by unfold mSil; rw [if_pos c13]) ?_
      | refine x_mem (M' := mSil M e) (by unfold mSil; rw [if_neg c13]) ?_
    refine x_aload_n C dX2_hush_31 rfl ?_
    refine x_getR C fl_X2_22 rfl (by decide) rfl dX2_hush_32 ?_
    refine x_iconst C (v := 5) dX2_hush_35 (by decide) ?_
    refine x_iload_n C dX2_hush_36 rfl ?_
    refine x_iadd C dX2_hush_37 ?_
    refine x_iald C (n := 187) rfl (by decide) rfl (nI_add 5 e) ((by omega : 5 + e < 187)) dX2_hush_38 ?_
    refine x_bipush C (v := 12) dX2_hush_39 (by decide) ?_
    refine x_icmp_ge C (tgt := 45) dX2_hush_41 (by decide) (fun c41 => ?_) (fun c41 => ?_)
    · have h2 := (h.same (mSil_same M e he)).same (mSame.wr34 (j := 5 + e) (v := 0) (by omega))
      refine x_aload_n C dX2_hush_45 rfl ?_
      refine x_getR C fl_X2_22 rfl (by decide) rfl dX2_hush_46 ?_
      refine x_iconst C (v := 5) dX2_hush_49 (by decide) ?_
      refine x_iload_n C dX2_hush_50 rfl ?_
      refine x_iadd C dX2_hush_51 ?_
      refine x_iconst C (v := 0) dX2_hush_52 (by decide) ?_
      refine x_iast C (n := 187) rfl (by decide) rfl (nI_add 5 e) ((by omega : 5 + e < 187)) dX2_hush_53 ?_
      refine x_aload_n C dX2_hush_54 rfl ?_
      refine x_iload_n C dX2_hush_55 rfl ?_
      refine x_callV0r C (q2_firstOf l g _ h2 _) cd_X2_firstOf kl_X2_73 ci2 rfl (by decide) (as := [_]) rfl rfl ⟨⟨by decide, by decide⟩, by decide, by decide⟩ ⟨rfl, rfl⟩ (Nat.le_of_ble_eq_true rfl) dX2_hush_56 ?_
      refine x_istore_n C (lo' := [(2, _), (0, _), (1, _)]) dX2_hush_59 (by decide) rfl ?_
      refine x_iload_n C dX2_hush_60 rfl ?_
      refine x_iconst C (v := (-1)) dX2_hush_61 (by decide) ?_
      refine x_icmp_ne C (tgt := 66) dX2_hush_62 (by decide) (fun c62 => ?_) (fun c62 => ?_)
      · have hf := (mFO_or (wr (mSil M e) 34 (5 + e) 0) (nI e) (mWs (wr (mSil M e) 34 (5 + e) 0)) 0 (by have := h2.ws; omega)).resolve_left c62
        have hws := h2.ws
        have hw9 : tn (mFirst (wr (mSil M e) 34 (5 + e) 0) (nI e)) < 10 := by have := hf.2; unfold mFirst; omega
        refine x_aload_n C dX2_hush_66 rfl ?_
        refine x_getR C fl_X2_22 rfl (by decide) rfl dX2_hush_67 ?_
        refine x_bipush C (v := 7) dX2_hush_70 (by decide) ?_
        refine x_iload_n C dX2_hush_72 rfl ?_
        refine x_iadd C dX2_hush_73 ?_
        refine x_iconst C (v := 1) dX2_hush_74 (by decide) ?_
        refine x_iload_n C dX2_hush_75 rfl ?_
        refine x_isub C dX2_hush_76 ?_
        refine x_iast C (n := 187) rfl (by decide) rfl (ix_t 7 hf.1) (by omega) dX2_hush_77 ?_
        refine x_aload_n C dX2_hush_78 rfl ?_
        refine x_getR C fl_X2_22 rfl (by decide) rfl dX2_hush_79 ?_
        refine x_iconst C (v := 2) dX2_hush_82 (by decide) ?_
        refine x_dup2 C dX2_hush_83 rfl rfl ?_
        refine x_iald C (n := 187) rfl (by decide) rfl (rfl) ((by decide : 2 < 187)) dX2_hush_84 ?_
        refine x_iconst C (v := 1) dX2_hush_85 (by decide) ?_
        refine x_iadd C dX2_hush_86 ?_
        refine x_iast C (n := 187) rfl (by decide) rfl (rfl) ((by decide : 2 < 187)) dX2_hush_87 ?_
        exact x_vret C hq ⟨by decide, by decide⟩ dX2_hush_88 (rfl) ((if_pos c41).trans (if_pos c62))
      · exact x_vret C hq ⟨by decide, by decide⟩ dX2_hush_65 (rfl) ((if_pos c41).trans (if_neg (fun z => z c62)))
    · exact x_vret C hq ⟨by decide, by decide⟩ dX2_hush_44 (rfl) (if_neg (fun z => c41 z))
end
section
/-! The model's looks and counts as functions of the memory. -/
theorem lt_of_nge {x : Int32} (h0 : 0 ≤ x) {i : Nat} (hi : i < 2 ^ 31) (c : ¬ nI i ≥ x) : i < tn x := Nat.lt_of_not_le (fun z => c ((ge_tn h0 hi).mpr z))
def mKeep (M : Mem) : Mem := wrc M 35 (cpn (M 34) (M 35) 187)
def mBack (M : Mem) : Mem := wrc M 34 (cpn (M 35) (M 34) 187)
def mWOL (M : Mem) (e : Int32) : Nat → Int32
  | 0 => 0
  | w + 1 => mWOL M e w + (if M 34 (7 + w) = e then 1 else 0)
def mWO (M : Mem) (e : Int32) : Int32 := mWOL M e (mWs M)
def mLA (M : Mem) (s : Int32) : Int32 := if mLoudest M s = -1 then 0 else M 34 (27 + tn (mLoudest M s))
def mPl (M : Mem) (k : Nat) : Int32 := if 0 < M 34 (27 + k) then M 34 (67 + k) else -1
abbrev mRt (M : Mem) (k : Nat) : Prop := 0 < M 34 (27 + k) ∧ 0 < M 34 (107 + k)
/-- the next wall from the stone s on, along a way, n steps at the most -/
def mNx (M : Mem) (way : Int32) : Nat → Int32 → Int32
  | 0, _ => -1
  | n + 1, s => if 0 ≤ s ∧ s ≤ 31 then (if M 31 (tn s) = -1 then mNx M way n (s + way) else s) else -1
/-- what a shout alone loses: n steps at the most; it stands at s, goes along way, has lost so much -/
def mLs (M : Mem) (there : Int32) : Nat → Int32 → Int32 → Int32 → Int32
  | 0, _, _, lost => lost
  | n + 1, s, way, lost =>
    if 99 ≤ lost then lost
    else if 0 ≤ s + way ∧ s + way ≤ 31 then
      (if M 31 (tn (s + way)) = -1 then
        (if s + way = there then lost + (1 + M 30 (tn (s + way))) else mLs M there n (s + way) way (lost + (1 + M 30 (tn (s + way)))))
      else
        (if s + way = there then lost + (1 + M 30 (tn (s + way))) + M 33 (tn (M 31 (tn (s + way)))) else mLs M there n (s + way) (-way) (lost + (1 + M 30 (tn (s + way))) + M 33 (tn (M 31 (tn (s + way)))))))
    else 99
def mTn (M : Mem) : Nat → Int32 → Int32 → Int32 → Int32 → Int32
  | 0, _, _, _, sum => sum
  | n + 1, s, way, left, sum =>
    if (0 ≤ s ∧ s ≤ 31) ∧ 0 < left - 1 - M 30 (tn s) then
      (if M 31 (tn s) = -1 then mTn M n (s + way) way (left - (1 + M 30 (tn s))) sum
      else mTn M n (s + (-way)) (-way) (left - (1 + M 30 (tn s)) - M 33 (tn (M 31 (tn s)))) (sum + 1))
    else sum
def mTurns (M : Mem) (s loud : Int32) : Int32 := mTn M 101 (s + 1) 1 loud 0
def mBestL (M : Mem) (loud : Int32) : Nat → Int32
  | 0 => 0
  | i + 1 => if mTurns M (mBestL M loud i) loud < mTurns M (nI i) loud then nI i else mBestL M loud i
def mBest (M : Mem) (loud : Int32) : Int32 := mBestL M loud 32
def mSumL (M : Mem) : Nat → Int32
  | 0 => 0
  | k + 1 => mSumL M k + M 34 (27 + k)
/-- .. and snow and what walls soak up is 0 to 5 -/
def mOK2 (M : Mem) : Prop := (∀ s, s < 32 → 0 ≤ M 30 s ∧ M 30 s ≤ 5) ∧ (∀ w, w < 10 → 0 ≤ M 33 w ∧ M 33 w ≤ 5)
/-! small numbers -/
theorem i_add {a b : Int32} (h1 : -1000000 ≤ a.toInt + b.toInt) (h2 : a.toInt + b.toInt ≤ 1000000) : (a + b).toInt = a.toInt + b.toInt := by
  rw [Int32.toInt_add]
  exact Int.bmod_eq_of_le (by omega) (by omega)
theorem i_sub {a b : Int32} (h1 : -1000000 ≤ a.toInt - b.toInt) (h2 : a.toInt - b.toInt ≤ 1000000) : (a - b).toInt = a.toInt - b.toInt := by
  rw [Int32.toInt_sub]
  exact Int.bmod_eq_of_le (by omega) (by omega)
theorem i_neg {a : Int32} (h1 : -1000000 ≤ a.toInt) (h2 : a.toInt ≤ 1000000) : (-a).toInt = -a.toInt := by
  rw [Int32.toInt_neg]
  exact Int.bmod_eq_of_le (by omega) (by omega)
theorem i_le {a b : Int32} : a ≤ b ↔ a.toInt ≤ b.toInt := Int32.le_iff_toInt_le
theorem i_lt {a b : Int32} : a < b ↔ a.toInt < b.toInt := Int32.lt_iff_toInt_lt
theorem i_eq {a b : Int32} : a = b ↔ a.toInt = b.toInt := ⟨fun h => by rw [h], Int32.toInt_inj.mp⟩
theorem i_nI {n : Nat} (h : n < 2 ^ 31) : (nI n).toInt = n := nI_toInt h
theorem i_c0 : (0 : Int32).toInt = 0 := rfl
theorem i_c1 : (1 : Int32).toInt = 1 := rfl
theorem i_cm : (-1 : Int32).toInt = -1 := rfl
theorem i_c31 : (31 : Int32).toInt = 31 := rfl
theorem i_c5 : (5 : Int32).toInt = 5 := rfl
theorem i_c99 : (99 : Int32).toInt = 99 := rfl
theorem i_tn {x : Int32} (h : 0 ≤ x) : (tn x : Int) = x.toInt := by
  have h0 := i_le.mp h
  rw [i_c0] at h0
  show ((x.toInt.toNat : Nat) : Int) = x.toInt
  omega
end
section
/-! The model's beats and counts, walked. -/
theorem tn_sm (x : Int32) : tn x < 2 ^ 31 := by
  have h := Int32.toInt_lt x
  show x.toInt.toNat < 2 ^ 31
  omega
abbrev rmX2_beatOn : Room := { frames := 3, cells := 0, slots := 0, locals := 76 }
set_option maxHeartbeats 1000000 in
set_option maxRecDepth 100000 in
theorem q2_beatOn_l2 {X : XT} {l : Launch} {g : GT} {M : Mem} (h : mOK M) (C : Cx X g l cX2_beatOn 2 RX2 none rmX2_beatOn) (hq : Rt X g rmX2_beatOn none (mBeat M)) : ∀ (n i : Nat), i ≤ mSh M → mSh M + 1 ≤ i + n → V X g 0 0 45 [(1, .int (nI i)), (0, .ref (ga g 29))] [] (mMeetL (mB1 M) i) := by
  intro n
  induction n with
  | zero =>
    intro i h1 h2; omega
  | succ n ih =>
    intro i h1 h2
    have hsh := h.sh
    have hs1 : mSame M (mB1 M) := (mGot0_same M).tr (mStepL_same (h.same (mGot0_same M)) _)
    have hki := h.same (hs1.tr (mMeetL_same (mB1 M) i))
    have e29 : mMeetL (mB1 M) i 29 = M 29 := (hs1.tr (mMeetL_same (mB1 M) i)).1
    refine x_iload_n C dX2_beatOn_45 rfl ?_
    refine x_aload_n C dX2_beatOn_46 rfl ?_
    refine x_getI C fl_X2_43 rfl (by decide) rfl dX2_beatOn_47 ?_
    refine x_icmp_ge C (tgt := 64) dX2_beatOn_50 (by decide) (fun c50 => ?_) (fun c50 => ?_)
    · rw [e29] at c50
      have he : i = mSh M := Nat.le_antisymm h1 ((ge_tn h.2.1.1 (by omega)).mp c50)
      subst he
      refine x_mem (M' := mB2 M) rfl ?_
      refine x_aload_n C dX2_beatOn_64 rfl ?_
      refine x_iconst C (v := 0) dX2_beatOn_65 (by decide) ?_
      refine x_callV0v C (q2_hush l g _ (h.same (mB2_same h)) 0 (by decide)) cd_X2_hush kl_X2_83 ci2 rfl (by decide) (as := [_]) rfl rfl ⟨⟨by decide, by decide⟩, by decide, by decide⟩ ⟨rfl, rfl⟩ (Nat.le_of_ble_eq_true rfl) dX2_beatOn_66 ?_
      refine x_aload_n C dX2_beatOn_69 rfl ?_
      refine x_iconst C (v := 1) dX2_beatOn_70 (by decide) ?_
      refine x_callV0v C (q2_hush l g _ (mHush_ok (h.same (mB2_same h)) 0 (by decide)).1 1 (by decide)) cd_X2_hush kl_X2_83 ci2 rfl (by decide) (as := [_]) rfl rfl ⟨⟨by decide, by decide⟩, by decide, by decide⟩ ⟨rfl, rfl⟩ (Nat.le_of_ble_eq_true rfl) dX2_beatOn_71 ?_
      refine x_aload_n C dX2_beatOn_74 rfl ?_
      refine x_getR C fl_X2_22 rfl (by decide) rfl dX2_beatOn_75 ?_
      refine x_iconst C (v := 0) dX2_beatOn_78 (by decide) ?_
      refine x_dup2 C dX2_beatOn_79 rfl rfl ?_
      refine x_iald C (n := 187) rfl (by decide) rfl (rfl) ((by decide : 0 < 187)) dX2_beatOn_80 ?_
      refine x_iconst C (v := 1) dX2_beatOn_81 (by decide) ?_
      refine x_iadd C dX2_beatOn_82 ?_
      refine x_iast C (n := 187) rfl (by decide) rfl (rfl) ((by decide : 0 < 187)) dX2_beatOn_83 ?_
      exact x_vret C hq ⟨by decide, by decide⟩ dX2_beatOn_84 (rfl) (rfl)
    · rw [e29] at c50
      have hlt : i < mSh M := lt_of_nge h.2.1.1 (by omega) c50
      refine x_aload_n C dX2_beatOn_53 rfl ?_
      refine x_iload_n C dX2_beatOn_54 rfl ?_
      refine x_callV0v C (q2_meet l g _ hki i (by omega)) cd_X2_meet kl_X2_80 ci2 rfl (by decide) (as := [_]) rfl rfl ⟨⟨by decide, by decide⟩, by decide, by decide⟩ ⟨rfl, rfl⟩ (Nat.le_of_ble_eq_true rfl) dX2_beatOn_55 ?_
      refine x_iinc C (v := nI (i + 1)) (lo' := [(1, _), (0, _)]) dX2_beatOn_58 rfl (nI_inc _) (by decide) rfl ?_
      refine x_goto C (tgt := 45) dX2_beatOn_61 (by decide) ?_
      exact ih (i + 1) hlt (by omega)
set_option maxHeartbeats 1000000 in
set_option maxRecDepth 100000 in
theorem q2_beatOn_l1 {X : XT} {l : Launch} {g : GT} {M : Mem} (h : mOK M) (C : Cx X g l cX2_beatOn 2 RX2 none rmX2_beatOn) (hq : Rt X g rmX2_beatOn none (mBeat M)) : ∀ (n i : Nat), i ≤ mSh M → mSh M + 1 ≤ i + n → V X g 0 0 16 [(1, .int (nI i)), (0, .ref (ga g 29))] [] (mStepL (mGot0 M) i) := by
  intro n
  induction n with
  | zero =>
    intro i h1 h2; omega
  | succ n ih =>
    intro i h1 h2
    have hsh := h.sh
    have hs1 := (mGot0_same M).tr (mStepL_same (h.same (mGot0_same M)) i)
    have hki := h.same hs1
    have e29 : mStepL (mGot0 M) i 29 = M 29 := hs1.1
    refine x_iload_n C dX2_beatOn_16 rfl ?_
    refine x_aload_n C dX2_beatOn_17 rfl ?_
    refine x_getI C fl_X2_43 rfl (by decide) rfl dX2_beatOn_18 ?_
    refine x_icmp_ge C (tgt := 43) dX2_beatOn_21 (by decide) (fun c21 => ?_) (fun c21 => ?_)
    · rw [e29] at c21
      have he : i = mSh M := Nat.le_antisymm h1 ((ge_tn h.2.1.1 (by omega)).mp c21)
      subst he
      refine x_mem (M' := mB1 M) rfl ?_
      refine x_iconst C (v := 0) dX2_beatOn_43 (by decide) ?_
      refine x_istore_n C (lo' := [(1, _), (0, _)]) dX2_beatOn_44 (by decide) rfl ?_
      exact q2_beatOn_l2 h C hq (mSh M + 1) 0 (Nat.zero_le _) (by omega)
    · rw [e29] at c21
      have hlt : i < mSh M := lt_of_nge h.2.1.1 (by omega) c21
      refine x_aload_n C dX2_beatOn_24 rfl ?_
      refine x_iload_n C dX2_beatOn_25 rfl ?_
      refine x_callV0r C (q2_goes l g _ i (by omega)) cd_X2_goes kl_X2_66 ci2 rfl (by decide) (as := [_]) rfl rfl ⟨⟨by decide, by decide⟩, by decide, by decide⟩ ⟨rfl, rfl⟩ (Nat.le_of_ble_eq_true rfl) dX2_beatOn_26 ?_
      refine x_bif_eq C (tgt := 37) dX2_beatOn_29 (by decide) (fun c29 => ?_) (fun c29 => ?_)
      · refine x_iinc C (v := nI (i + 1)) (lo' := [(1, _), (0, _)]) dX2_beatOn_37 rfl (nI_inc _) (by decide) rfl ?_
        refine x_goto C (tgt := 16) dX2_beatOn_40 (by decide) ?_
        first
          | exact x_mem (show mStepL (mGot0 M) (i + 1) = _ from if_pos c29).symm (ih (i + 1) hlt (by omega))
          | exact x_mem (show mStepL (mGot0 M) (i + 1) = _ from if_neg c29).symm (ih (i + 1) hlt (by omega))
      · refine x_aload_n C dX2_beatOn_32 rfl ?_
        refine x_iload_n C dX2_beatOn_33 rfl ?_
        refine x_callV0v C (q2_step l g _ hki i (by omega)) cd_X2_step kl_X2_76 ci2 rfl (by decide) (as := [_]) rfl rfl ⟨⟨by decide, by decide⟩, by decide, by decide⟩ ⟨rfl, rfl⟩ (Nat.le_of_ble_eq_true rfl) dX2_beatOn_34 ?_
        refine x_iinc C (v := nI (i + 1)) (lo' := [(1, _), (0, _)]) dX2_beatOn_37 rfl (nI_inc _) (by decide) rfl ?_
        refine x_goto C (tgt := 16) dX2_beatOn_40 (by decide) ?_
        first
          | exact x_mem (show mStepL (mGot0 M) (i + 1) = _ from if_pos c29).symm (ih (i + 1) hlt (by omega))
          | exact x_mem (show mStepL (mGot0 M) (i + 1) = _ from if_neg c29).symm (ih (i + 1) hlt (by omega))
set_option maxHeartbeats 1000000 in
set_option maxRecDepth 100000 in
theorem q2_beatOn (l : Launch) (g : GT) (M : Mem) (h : mOK M) : CM l yX2_beatOn cX2_beatOn 2 none rmX2_beatOn g M [.ref (ga g 29)] (none) (mBeat M) := by
  refine CM.of (by decide) (Nat.le_of_ble_eq_true rfl) (fun X C hq => ?_)
  have C : Cx X g l cX2_beatOn 2 RX2 none rmX2_beatOn := C
  show V X g 0 0 0 [(0, .ref (ga g 29))] [] M
  refine x_aload_n C dX2_beatOn_0 rfl ?_
  refine x_getR C fl_X2_28 rfl (by decide) rfl dX2_beatOn_1 ?_
  refine x_iconst C (v := 0) dX2_beatOn_4 (by decide) ?_
  refine x_iconst C (v := 0) dX2_beatOn_5 (by decide) ?_
  refine x_bast C (n := 2) rfl (by decide) rfl (rfl) ((by decide : 0 < 2)) (v' := 0) (by decide) dX2_beatOn_6 ?_
  refine x_aload_n C dX2_beatOn_7 rfl ?_
  refine x_getR C fl_X2_28 rfl (by decide) rfl dX2_beatOn_8 ?_
  refine x_iconst C (v := 1) dX2_beatOn_11 (by decide) ?_
  refine x_iconst C (v := 0) dX2_beatOn_12 (by decide) ?_
  refine x_bast C (n := 2) rfl (by decide) rfl (rfl) ((by decide : 1 < 2)) (v' := 0) (by decide) dX2_beatOn_13 ?_
  refine x_iconst C (v := 0) dX2_beatOn_14 (by decide) ?_
  refine x_istore_n C (lo' := [(1, _), (0, _)]) dX2_beatOn_15 (by decide) rfl ?_
  exact q2_beatOn_l1 h C hq (mSh M + 1) 0 (Nat.zero_le _) (by omega)
abbrev rmX2_beatsOn : Room := { frames := 4, cells := 0, slots := 0, locals := 97 }
set_option maxHeartbeats 1000000 in
set_option maxRecDepth 100000 in
theorem q2_beatsOn_lp {X : XT} {l : Launch} {g : GT} {M : Mem} {b : Int32} (h : mOK M) (hb : 0 ≤ b) (C : Cx X g l cX2_beatsOn 3 RX2 none rmX2_beatsOn) (hq : Rt X g rmX2_beatsOn none (mBeats M (tn b))) : ∀ (n i : Nat), i ≤ tn b → tn b + 1 ≤ i + n → V X g 0 0 2 [(2, .int (nI i)), (0, .ref (ga g 29)), (1, .int b)] [] (mBeats M i) := by
  intro n
  induction n with
  | zero =>
    intro i h1 h2; omega
  | succ n ih =>
    intro i h1 h2
    have hsm : tn b < 2 ^ 31 := tn_sm b
    refine x_iload_n C dX2_beatsOn_2 rfl ?_
    refine x_iload_n C dX2_beatsOn_3 rfl ?_
    refine x_icmp_ge C (tgt := 17) dX2_beatsOn_4 (by decide) (fun c4 => ?_) (fun c4 => ?_)
    · have he : i = tn b := Nat.le_antisymm h1 ((ge_tn hb (by omega)).mp c4)
      subst he
      exact x_vret C hq ⟨by decide, by decide⟩ dX2_beatsOn_17 (rfl) (rfl)
    · have hlt : i < tn b := lt_of_nge hb (by omega) c4
      refine x_aload_n C dX2_beatsOn_7 rfl ?_
      refine x_callV0v C (q2_beatOn l g _ (mBeats_ok h i).1) cd_X2_beatOn kl_X2_86 ci2 rfl (by decide) (as := []) rfl rfl ⟨⟨by decide, by decide⟩, by decide, by decide⟩ ⟨rfl, rfl⟩ (Nat.le_of_ble_eq_true rfl) dX2_beatsOn_8 ?_
      refine x_iinc C (v := nI (i + 1)) (lo' := [(2, _), (0, _), (1, _)]) dX2_beatsOn_11 rfl (nI_inc _) (by decide) rfl ?_
      refine x_goto C (tgt := 2) dX2_beatsOn_14 (by decide) ?_
      exact ih (i + 1) hlt (by omega)
set_option maxHeartbeats 1000000 in
set_option maxRecDepth 100000 in
theorem q2_beatsOn (l : Launch) (g : GT) (M : Mem) (h : mOK M) (b : Int32) (hb : 0 ≤ b) : CM l yX2_beatsOn cX2_beatsOn 3 none rmX2_beatsOn g M [.ref (ga g 29), .int b] (none) (mBeats M (tn b)) := by
  refine CM.of (by decide) (Nat.le_of_ble_eq_true rfl) (fun X C hq => ?_)
  have C : Cx X g l cX2_beatsOn 3 RX2 none rmX2_beatsOn := C
  show V X g 0 0 0 [(0, .ref (ga g 29)), (1, .int b)] [] M
  refine x_iconst C (v := 0) dX2_beatsOn_0 (by decide) ?_
  refine x_istore_n C (lo' := [(2, _), (0, _), (1, _)]) dX2_beatsOn_1 (by decide) rfl ?_
  exact x_lsub [0, 1, 2] rfl (q2_beatsOn_lp h hb C hq (tn b + 1) 0 (Nat.zero_le _) (by omega))
abbrev rmX2_coins : Room := { frames := 0, cells := 0, slots := 0, locals := 0 }
set_option maxHeartbeats 1000000 in
set_option maxRecDepth 100000 in
theorem q2_coins (l : Launch) (g : GT) (M : Mem) : CM l yX2_coins cX2_coins 1 (some .int) rmX2_coins g M [.ref (ga g 29)] (some (.int (M 34 3 + M 34 4))) (M) := by
  refine CM.of (by decide) (Nat.le_of_ble_eq_true rfl) (fun X C hq => ?_)
  have C : Cx X g l cX2_coins 1 RX2 (some .int) rmX2_coins := C
  show V X g 0 0 0 [(0, .ref (ga g 29))] [] M
  refine x_aload_n C dX2_coins_0 rfl ?_
  refine x_getR C fl_X2_22 rfl (by decide) rfl dX2_coins_1 ?_
  refine x_iconst C (v := 3) dX2_coins_4 (by decide) ?_
  refine x_iald C (n := 187) rfl (by decide) rfl (rfl) ((by decide : 3 < 187)) dX2_coins_5 ?_
  refine x_aload_n C dX2_coins_6 rfl ?_
  refine x_getR C fl_X2_22 rfl (by decide) rfl dX2_coins_7 ?_
  refine x_iconst C (v := 4) dX2_coins_10 (by decide) ?_
  refine x_iald C (n := 187) rfl (by decide) rfl (rfl) ((by decide : 4 < 187)) dX2_coins_11 ?_
  refine x_iadd C dX2_coins_12 ?_
  exact x_iret C hq ⟨by decide, by decide⟩ dX2_coins_13 (rfl) (rfl)
abbrev rmX2_many : Room := { frames := 1, cells := 0, slots := 0, locals := 21 }
set_option maxHeartbeats 1000000 in
set_option maxRecDepth 100000 in
theorem q2_many_lp {X : XT} {l : Launch} {g : GT} {M : Mem} (h : mOK M) (C : Cx X g l cX2_many 3 RX2 (some .int) rmX2_many) (hq : Rt X g rmX2_many (some (.int (mMany M))) M) : ∀ (n i : Nat), i ≤ mSh M → mSh M + 1 ≤ i + n → V X g 0 0 4 [(2, .int (nI i)), (1, .int (mManyL M i)), (0, .ref (ga g 29))] [] M := by
  intro n
  induction n with
  | zero =>
    intro i h1 h2; omega
  | succ n ih =>
    intro i h1 h2
    have hsh := h.sh
    refine x_iload_n C dX2_many_4 rfl ?_
    refine x_aload_n C dX2_many_5 rfl ?_
    refine x_getI C fl_X2_43 rfl (by decide) rfl dX2_many_6 ?_
    refine x_icmp_ge C (tgt := 34) dX2_many_9 (by decide) (fun c9 => ?_) (fun c9 => ?_)
    · have he : i = mSh M := Nat.le_antisymm h1 ((ge_tn h.2.1.1 (by omega)).mp c9)
      subst he
      refine x_iload_n C dX2_many_34 rfl ?_
      exact x_iret C hq ⟨by decide, by decide⟩ dX2_many_35 (rfl) (rfl)
    · have hlt : i < mSh M := lt_of_nge h.2.1.1 (by omega) c9
      refine x_iload_n C dX2_many_12 rfl ?_
      refine x_aload_n C dX2_many_13 rfl ?_
      refine x_iload_n C dX2_many_14 rfl ?_
      refine x_callV0r C (q2_goes l g _ i (by omega)) cd_X2_goes kl_X2_66 ci2 rfl (by decide) (as := [_]) rfl rfl ⟨⟨by decide, by decide⟩, by decide, by decide⟩ ⟨rfl, rfl⟩ (Nat.le_of_ble_eq_true rfl) dX2_many_15 ?_
      refine x_bif_eq C (tgt := 25) dX2_many_18 (by decide) (fun c18 => ?_) (fun c18 => ?_)
      · refine x_iconst C (v := 0) dX2_many_25 (by decide) ?_
        refine x_iadd C dX2_many_26 ?_
        refine x_istore_n C (lo' := [(1, _), (2, _), (0, _)]) dX2_many_27 (by decide) rfl ?_
        refine x_iinc C (v := nI (i + 1)) (lo' := [(2, _), (1, _), (0, _)]) dX2_many_28 rfl (nI_inc _) (by decide) rfl ?_
        refine x_goto C (tgt := 4) dX2_many_31 (by decide) ?_
        first
          | (have e : mManyL M (i + 1) = mManyL M i + 1 := (by show mManyL M i + (if _ then _ else _) = _; rw [if_pos c18]); exact e ▸ ih (i + 1) hlt (by omega))
          | (have e : mManyL M (i + 1) = mManyL M i + 0 := (by show mManyL M i + (if _ then _ else _) = _; rw [if_neg c18]); exact e ▸ ih (i + 1) hlt (by omega))
      · refine x_iconst C (v := 1) dX2_many_21 (by decide) ?_
        refine x_goto C (tgt := 26) dX2_many_22 (by decide) ?_
        refine x_iadd C dX2_many_26 ?_
        refine x_istore_n C (lo' := [(1, _), (2, _), (0, _)]) dX2_many_27 (by decide) rfl ?_
        refine x_iinc C (v := nI (i + 1)) (lo' := [(2, _), (1, _), (0, _)]) dX2_many_28 rfl (nI_inc _) (by decide) rfl ?_
        refine x_goto C (tgt := 4) dX2_many_31 (by decide) ?_
        first
          | (have e : mManyL M (i + 1) = mManyL M i + 1 := (by show mManyL M i + (if _ then _ else _) = _; rw [if_pos c18]); exact e ▸ ih (i + 1) hlt (by omega))
          | (have e : mManyL M (i + 1) = mManyL M i + 0 := (by show mManyL M i + (if _ then _ else _) = _; rw [if_neg c18]); exact e ▸ ih (i + 1) hlt (by omega))
set_option maxHeartbeats 1000000 in
set_option maxRecDepth 100000 in
theorem q2_many (l : Launch) (g : GT) (M : Mem) (h : mOK M) : CM l yX2_many cX2_many 3 (some .int) rmX2_many g M [.ref (ga g 29)] (some (.int (mMany M))) (M) := by
  refine CM.of (by decide) (Nat.le_of_ble_eq_true rfl) (fun X C hq => ?_)
  have C : Cx X g l cX2_many 3 RX2 (some .int) rmX2_many := C
  show V X g 0 0 0 [(0, .ref (ga g 29))] [] M
  refine x_iconst C (v := 0) dX2_many_0 (by decide) ?_
  refine x_istore_n C (lo' := [(1, _), (0, _)]) dX2_many_1 (by decide) rfl ?_
  refine x_iconst C (v := 0) dX2_many_2 (by decide) ?_
  refine x_istore_n C (lo' := [(2, _), (1, _), (0, _)]) dX2_many_3 (by decide) rfl ?_
  exact q2_many_lp h C hq (mSh M + 1) 0 (Nat.zero_le _) (by omega)
abbrev rmX2_manyOf : Room := { frames := 0, cells := 0, slots := 0, locals := 0 }
set_option maxHeartbeats 1000000 in
set_option maxRecDepth 100000 in
theorem q2_manyOf_lp {X : XT} {l : Launch} {g : GT} {M : Mem} {e : Int32} (h : mOK M) (C : Cx X g l cX2_manyOf 4 RX2 (some .int) rmX2_manyOf) (hq : Rt X g rmX2_manyOf (some (.int (mWO M e))) M) : ∀ (n i : Nat), i ≤ mWs M → mWs M + 1 ≤ i + n → V X g 0 0 4 [(3, .int (nI i)), (2, .int (mWOL M e i)), (0, .ref (ga g 29)), (1, .int e)] [] M := by
  intro n
  induction n with
  | zero =>
    intro i h1 h2; omega
  | succ n ih =>
    intro i h1 h2
    have hws := h.ws
    refine x_iload_n C dX2_manyOf_4 rfl ?_
    refine x_aload_n C dX2_manyOf_5 rfl ?_
    refine x_getI C fl_X2_40 rfl (by decide) rfl dX2_manyOf_6 ?_
    refine x_icmp_ge C (tgt := 39) dX2_manyOf_9 (by decide) (fun c9 => ?_) (fun c9 => ?_)
    · have he : i = mWs M := Nat.le_antisymm h1 ((ge_tn h.1.1 (by omega)).mp c9)
      subst he
      refine x_iload_n C dX2_manyOf_39 rfl ?_
      exact x_iret C hq ⟨by decide, by decide⟩ dX2_manyOf_40 (rfl) (rfl)
    · have hlt : i < mWs M := lt_of_nge h.1.1 (by omega) c9
      refine x_iload_n C dX2_manyOf_12 rfl ?_
      refine x_aload_n C dX2_manyOf_13 rfl ?_
      refine x_getR C fl_X2_22 rfl (by decide) rfl dX2_manyOf_14 ?_
      refine x_bipush C (v := 7) dX2_manyOf_17 (by decide) ?_
      refine x_iload_n C dX2_manyOf_19 rfl ?_
      refine x_iadd C dX2_manyOf_20 ?_
      refine x_iald C (n := 187) rfl (by decide) rfl (nI_add 7 i) ((by omega : 7 + i < 187)) dX2_manyOf_21 ?_
      refine x_iload_n C dX2_manyOf_22 rfl ?_
      refine x_icmp_ne C (tgt := 30) dX2_manyOf_23 (by decide) (fun c23 => ?_) (fun c23 => ?_)
      · refine x_iconst C (v := 0) dX2_manyOf_30 (by decide) ?_
        refine x_iadd C dX2_manyOf_31 ?_
        refine x_istore_n C (lo' := [(2, _), (3, _), (0, _), (1, _)]) dX2_manyOf_32 (by decide) rfl ?_
        refine x_iinc C (v := nI (i + 1)) (lo' := [(3, _), (2, _), (0, _), (1, _)]) dX2_manyOf_33 rfl (nI_inc _) (by decide) rfl ?_
        refine x_goto C (tgt := 4) dX2_manyOf_36 (by decide) ?_
        first
          | (have e9 : mWOL M e (i + 1) = mWOL M e i + 1 := (by show mWOL M e i + (if _ then _ else _) = _; rw [if_pos c23]); exact e9 ▸ ih (i + 1) hlt (by omega))
          | (have e9 : mWOL M e (i + 1) = mWOL M e i + 0 := (by show mWOL M e i + (if _ then _ else _) = _; rw [if_neg c23]); exact e9 ▸ ih (i + 1) hlt (by omega))
      · refine x_iconst C (v := 1) dX2_manyOf_26 (by decide) ?_
        refine x_goto C (tgt := 31) dX2_manyOf_27 (by decide) ?_
        refine x_iadd C dX2_manyOf_31 ?_
        refine x_istore_n C (lo' := [(2, _), (3, _), (0, _), (1, _)]) dX2_manyOf_32 (by decide) rfl ?_
        refine x_iinc C (v := nI (i + 1)) (lo' := [(3, _), (2, _), (0, _), (1, _)]) dX2_manyOf_33 rfl (nI_inc _) (by decide) rfl ?_
        refine x_goto C (tgt := 4) dX2_manyOf_36 (by decide) ?_
        first
          | (have e9 : mWOL M e (i + 1) = mWOL M e i + 1 := (by show mWOL M e i + (if _ then _ else _) = _; rw [if_pos c23]); exact e9 ▸ ih (i + 1) hlt (by omega))
          | (have e9 : mWOL M e (i + 1) = mWOL M e i + 0 := (by show mWOL M e i + (if _ then _ else _) = _; rw [if_neg c23]); exact e9 ▸ ih (i + 1) hlt (by omega))
set_option maxHeartbeats 1000000 in
set_option maxRecDepth 100000 in
theorem q2_manyOf (l : Launch) (g : GT) (M : Mem) (h : mOK M) (e : Int32) : CM l yX2_manyOf cX2_manyOf 4 (some .int) rmX2_manyOf g M [.ref (ga g 29), .int e] (some (.int (mWO M e))) (M) := by
  refine CM.of (by decide) (Nat.le_of_ble_eq_true rfl) (fun X C hq => ?_)
  have C : Cx X g l cX2_manyOf 4 RX2 (some .int) rmX2_manyOf := C
  show V X g 0 0 0 [(0, .ref (ga g 29)), (1, .int e)] [] M
  refine x_iconst C (v := 0) dX2_manyOf_0 (by decide) ?_
  refine x_istore_n C (lo' := [(2, _), (0, _), (1, _)]) dX2_manyOf_1 (by decide) rfl ?_
  refine x_iconst C (v := 0) dX2_manyOf_2 (by decide) ?_
  refine x_istore_n C (lo' := [(3, _), (2, _), (0, _), (1, _)]) dX2_manyOf_3 (by decide) rfl ?_
  exact x_lsub [0, 1, 2, 3] rfl (q2_manyOf_lp h C hq (mWs M + 1) 0 (Nat.zero_le _) (by omega))
abbrev rmX2_loudAt : Room := { frames := 2, cells := 0, slots := 0, locals := 44 }
set_option maxHeartbeats 1000000 in
set_option maxRecDepth 100000 in
theorem q2_loudAt (l : Launch) (g : GT) (M : Mem) (h : mOK M) (s : Int32) : CM l yX2_loudAt cX2_loudAt 2 (some .int) rmX2_loudAt g M [.ref (ga g 29), .int s] (some (.int (mLA M s))) (M) := by
  refine CM.of (by decide) (Nat.le_of_ble_eq_true rfl) (fun X C hq => ?_)
  have C : Cx X g l cX2_loudAt 2 RX2 (some .int) rmX2_loudAt := C
  show V X g 0 0 0 [(0, .ref (ga g 29)), (1, .int s)] [] M
  refine x_aload_n C dX2_loudAt_0 rfl ?_
  refine x_iload_n C dX2_loudAt_1 rfl ?_
  refine x_callV0r C (q2_loudest l g _ h s) cd_X2_loudest kl_X2_69 ci2 rfl (by decide) (as := [_]) rfl rfl ⟨⟨by decide, by decide⟩, by decide, by decide⟩ ⟨rfl, rfl⟩ (Nat.le_of_ble_eq_true rfl) dX2_loudAt_2 ?_
  refine x_iconst C (v := (-1)) dX2_loudAt_5 (by decide) ?_
  refine x_icmp_ne C (tgt := 13) dX2_loudAt_6 (by decide) (fun c6 => ?_) (fun c6 => ?_)
  · have hsh := h.sh
    have hb := (mLdL_or M s (mSh M) (by omega)).resolve_left c6
    have hb1 : 27 + tn (mLoudest M s) < 187 := by have := hb.2; unfold mLoudest; omega
    refine x_aload_n C dX2_loudAt_13 rfl ?_
    refine x_getR C fl_X2_22 rfl (by decide) rfl dX2_loudAt_14 ?_
    refine x_bipush C (v := 27) dX2_loudAt_17 (by decide) ?_
    refine x_aload_n C dX2_loudAt_19 rfl ?_
    refine x_iload_n C dX2_loudAt_20 rfl ?_
    refine x_callV0r C (q2_loudest l g _ h s) cd_X2_loudest kl_X2_69 ci2 rfl (by decide) (as := [_]) rfl rfl ⟨⟨by decide, by decide⟩, by decide, by decide⟩ ⟨rfl, rfl⟩ (Nat.le_of_ble_eq_true rfl) dX2_loudAt_21 ?_
    refine x_iadd C dX2_loudAt_24 ?_
    refine x_iald C (n := 187) rfl (by decide) rfl (ix_t 27 hb.1) (hb1) dX2_loudAt_25 ?_
    exact x_iret C hq ⟨by decide, by decide⟩ dX2_loudAt_26 (by first | (rw [mLA, if_pos c6]; done) | (rw [mLA, if_neg c6]; done)) (rfl)
  · refine x_iconst C (v := 0) dX2_loudAt_9 (by decide) ?_
    refine x_goto C (tgt := 26) dX2_loudAt_10 (by decide) ?_
    exact x_iret C hq ⟨by decide, by decide⟩ dX2_loudAt_26 (by first | (rw [mLA, if_pos c6]; done) | (rw [mLA, if_neg c6]; done)) (rfl)
abbrev rmX2_place : Room := { frames := 1, cells := 0, slots := 0, locals := 21 }
set_option maxHeartbeats 1000000 in
set_option maxRecDepth 100000 in
theorem q2_place (l : Launch) (g : GT) (M : Mem) (k : Nat) (hk : k < 40) : CM l yX2_place cX2_place 2 (some .int) rmX2_place g M [.ref (ga g 29), .int (nI k)] (some (.int (mPl M k))) (M) := by
  refine CM.of (by decide) (Nat.le_of_ble_eq_true rfl) (fun X C hq => ?_)
  have C : Cx X g l cX2_place 2 RX2 (some .int) rmX2_place := C
  show V X g 0 0 0 [(0, .ref (ga g 29)), (1, .int (nI k))] [] M
  refine x_aload_n C dX2_place_0 rfl ?_
  refine x_iload_n C dX2_place_1 rfl ?_
  refine x_callV0r C (q2_goes l g _ k hk) cd_X2_goes kl_X2_66 ci2 rfl (by decide) (as := [_]) rfl rfl ⟨⟨by decide, by decide⟩, by decide, by decide⟩ ⟨rfl, rfl⟩ (Nat.le_of_ble_eq_true rfl) dX2_place_2 ?_
  refine x_bif_eq C (tgt := 20) dX2_place_5 (by decide) (fun c5 => ?_) (fun c5 => ?_)
  · refine x_iconst C (v := (-1)) dX2_place_20 (by decide) ?_
    exact x_iret C hq ⟨by decide, by decide⟩ dX2_place_21 (by first | (rw [mPl, if_pos c5]; done) | (rw [mPl, if_neg c5]; done)) (rfl)
  · refine x_aload_n C dX2_place_8 rfl ?_
    refine x_getR C fl_X2_22 rfl (by decide) rfl dX2_place_9 ?_
    refine x_bipush C (v := 67) dX2_place_12 (by decide) ?_
    refine x_iload_n C dX2_place_14 rfl ?_
    refine x_iadd C dX2_place_15 ?_
    refine x_iald C (n := 187) rfl (by decide) rfl (nI_add 67 k) ((by omega : 67 + k < 187)) dX2_place_16 ?_
    refine x_goto C (tgt := 21) dX2_place_17 (by decide) ?_
    exact x_iret C hq ⟨by decide, by decide⟩ dX2_place_21 (by first | (rw [mPl, if_pos c5]; done) | (rw [mPl, if_neg c5]; done)) (rfl)
abbrev rmX2_isRight : Room := { frames := 1, cells := 0, slots := 0, locals := 21 }
set_option maxHeartbeats 1000000 in
set_option maxRecDepth 100000 in
theorem q2_isRight (l : Launch) (g : GT) (M : Mem) (k : Nat) (hk : k < 40) : CM l yX2_isRight cX2_isRight 2 (some .boolean) rmX2_isRight g M [.ref (ga g 29), .int (nI k)] (some (.int (b2i (mRt M k)))) (M) := by
  refine CM.of (by decide) (Nat.le_of_ble_eq_true rfl) (fun X C hq => ?_)
  have C : Cx X g l cX2_isRight 2 RX2 (some .boolean) rmX2_isRight := C
  show V X g 0 0 0 [(0, .ref (ga g 29)), (1, .int (nI k))] [] M
  refine x_aload_n C dX2_isRight_0 rfl ?_
  refine x_iload_n C dX2_isRight_1 rfl ?_
  refine x_callV0r C (q2_goes l g _ k hk) cd_X2_goes kl_X2_66 ci2 rfl (by decide) (as := [_]) rfl rfl ⟨⟨by decide, by decide⟩, by decide, by decide⟩ ⟨rfl, rfl⟩ (Nat.le_of_ble_eq_true rfl) dX2_isRight_2 ?_
  refine x_bif_eq C (tgt := 24) dX2_isRight_5 (by decide) (fun c5 => ?_) (fun c5 => ?_)
  · refine x_iconst C (v := 0) dX2_isRight_24 (by decide) ?_
    exact x_zret C hq (by decide) ⟨by decide, by decide⟩ dX2_isRight_25 (by first | exact rb_t ⟨c5, Int32.not_le.mp c17⟩ | exact rb_f (fun z => c17 |> (Int32.not_le.mpr z.2)) | exact rb_f (fun z => c5 z.1)) (rfl)
  · refine x_aload_n C dX2_isRight_8 rfl ?_
    refine x_getR C fl_X2_22 rfl (by decide) rfl dX2_isRight_9 ?_
    refine x_bipush C (v := 107) dX2_isRight_12 (by decide) ?_
    refine x_iload_n C dX2_isRight_14 rfl ?_
    refine x_iadd C dX2_isRight_15 ?_
    refine x_iald C (n := 187) rfl (by decide) rfl (nI_add 107 k) ((by omega : 107 + k < 187)) dX2_isRight_16 ?_
    refine x_if_le C (tgt := 24) dX2_isRight_17 (by decide) (fun c17 => ?_) (fun c17 => ?_)
    · refine x_iconst C (v := 0) dX2_isRight_24 (by decide) ?_
      exact x_zret C hq (by decide) ⟨by decide, by decide⟩ dX2_isRight_25 (by first | exact rb_t ⟨c5, Int32.not_le.mp c17⟩ | exact rb_f (fun z => c17 |> (Int32.not_le.mpr z.2)) | exact rb_f (fun z => c5 z.1)) (rfl)
    · refine x_iconst C (v := 1) dX2_isRight_20 (by decide) ?_
      refine x_goto C (tgt := 25) dX2_isRight_21 (by decide) ?_
      exact x_zret C hq (by decide) ⟨by decide, by decide⟩ dX2_isRight_25 (by first | exact rb_t ⟨c5, Int32.not_le.mp c17⟩ | exact rb_f (fun z => c17 |> (Int32.not_le.mpr z.2)) | exact rb_f (fun z => c5 z.1)) (rfl)
abbrev rmX2_next : Room := { frames := 2, cells := 0, slots := 0, locals := 42 }
set_option maxHeartbeats 1000000 in
set_option maxRecDepth 100000 in
theorem q2_next_lp {X : XT} {l : Launch} {g : GT} {M : Mem} {way fr : Int32} {r : Option Value} (h : mOK M) (hw : way = 1 ∨ way = -1) (C : Cx X g l cX2_next 4 RX2 (some .int) rmX2_next) (hq : Rt X g rmX2_next r M) : ∀ (n : Nat) (s : Int32), (-1 ≤ s.toInt ∧ s.toInt ≤ 32) → ((way = 1 ∧ 32 - s.toInt < n) ∨ (way = -1 ∧ s.toInt + 1 < n)) → some (.int (mNx M way n s)) = r → V X g 0 0 4 [(3, .int s), (0, .ref (ga g 29)), (1, .int fr), (2, .int way)] [] M := by
  intro n
  induction n with
  | zero =>
    intro s h1 h2; omega
  | succ n ih =>
    intro s h1 h2 hr
    refine x_iload_n C dX2_next_4 rfl ?_
    refine x_callS0r C (q2_isStone l g _ _) cd_X2_isStone kl_X2_58 (as := [_]) rfl rfl ⟨⟨by decide, by decide⟩, by decide, by decide⟩ ⟨rfl, rfl⟩ (Nat.le_of_ble_eq_true rfl) dX2_next_5 ?_
    refine x_bif_eq C (tgt := 30) dX2_next_8 (by decide) (fun c8 => ?_) (fun c8 => ?_)
    · refine x_iconst C (v := (-1)) dX2_next_30 (by decide) ?_
      exact x_iret C hq ⟨by decide, by decide⟩ dX2_next_31 (by rw [← hr]; unfold mNx; rw [if_neg c8]) (rfl)
    · have hs := tn31 c8
      refine x_aload_n C dX2_next_11 rfl ?_
      refine x_getR C fl_X2_13 rfl (by decide) rfl dX2_next_12 ?_
      refine x_iload_n C dX2_next_15 rfl ?_
      refine x_iald C (n := 32) rfl (by decide) rfl (nI_tn c8.1) (hs) dX2_next_16 ?_
      refine x_iconst C (v := (-1)) dX2_next_17 (by decide) ?_
      refine x_icmp_eq C (tgt := 23) dX2_next_18 (by decide) (fun c18 => ?_) (fun c18 => ?_)
      · skip
        refine x_iload_n C dX2_next_23 rfl ?_
        refine x_iload_n C dX2_next_24 rfl ?_
        refine x_iadd C dX2_next_25 ?_
        refine x_istore_n C (lo' := [(3, _), (0, _), (1, _), (2, _)]) dX2_next_26 (by decide) rfl ?_
        refine x_goto C (tgt := 4) dX2_next_27 (by decide) ?_
        have a1 := i_le.mp c8.1
        have a2 := i_le.mp c8.2
        rw [i_c0] at a1; rw [i_c31] at a2
        have e : some (Value.int (mNx M way n (s + way))) = r := by rw [← hr]; conv => rhs; unfold mNx; rw [if_pos c8, if_pos c18]
        rcases hw with rfl | rfl
        · have q : (s + 1).toInt = s.toInt + 1 := by rw [i_add] <;> rw [i_c1] <;> omega
          exact ih _ (by omega) (by rw [q]; rcases h2 with z | z <;> first | (left; refine ⟨rfl, ?_⟩; omega) | (exact absurd z.1 (by decide))) e
        · have q : (s + -1).toInt = s.toInt + -1 := by rw [i_add] <;> rw [i_cm] <;> omega
          exact ih _ (by omega) (by rw [q]; rcases h2 with z | z <;> first | (right; refine ⟨rfl, ?_⟩; omega) | (exact absurd z.1 (by decide))) e
      · refine x_iload_n C dX2_next_21 rfl ?_
        exact x_iret C hq ⟨by decide, by decide⟩ dX2_next_22 (by rw [← hr]; unfold mNx; rw [if_pos c8, if_neg c18]) (rfl)
set_option maxHeartbeats 1000000 in
set_option maxRecDepth 100000 in
theorem q2_next (l : Launch) (g : GT) (M : Mem) (h : mOK M) (fr way : Int32) (hf : 0 ≤ fr ∧ fr ≤ 31) (hw : way = 1 ∨ way = -1) : CM l yX2_next cX2_next 4 (some .int) rmX2_next g M [.ref (ga g 29), .int fr, .int way] (some (.int (mNx M way 34 (fr + way)))) (M) := by
  refine CM.of (by decide) (Nat.le_of_ble_eq_true rfl) (fun X C hq => ?_)
  have C : Cx X g l cX2_next 4 RX2 (some .int) rmX2_next := C
  show V X g 0 0 0 [(0, .ref (ga g 29)), (1, .int fr), (2, .int way)] [] M
  refine x_iload_n C dX2_next_0 rfl ?_
  refine x_iload_n C dX2_next_1 rfl ?_
  refine x_iadd C dX2_next_2 ?_
  refine x_istore_n C (lo' := [(3, _), (0, _), (1, _), (2, _)]) dX2_next_3 (by decide) rfl ?_
  have a1 := i_le.mp hf.1
  have a2 := i_le.mp hf.2
  rw [i_c0] at a1; rw [i_c31] at a2
  have q : (fr + way).toInt = fr.toInt + way.toInt := by rcases hw with rfl | rfl <;> rw [i_add] <;> (first | rw [i_c1] | rw [i_cm]) <;> omega
  refine q2_next_lp h hw C hq 34 (fr + way) ?_ ?_ rfl
  · rw [q]; rcases hw with rfl | rfl
    · rw [i_c1]; omega
    · rw [i_cm]; omega
  · rw [q]; rcases hw with rfl | rfl
    · left; refine ⟨rfl, ?_⟩; rw [i_c1]; omega
    · right; refine ⟨rfl, ?_⟩; rw [i_cm]; omega
theorem mKeep_ok {M : Mem} (h : mOK M) : mOK (mKeep M) := ⟨h.1, h.2.1, h.2.2.1, h.2.2.2⟩
abbrev rmX2_untilGone : Room := { frames := 4, cells := 0, slots := 0, locals := 97 }
set_option maxHeartbeats 1000000 in
set_option maxRecDepth 100000 in
theorem q2_untilGone_lp {X : XT} {l : Launch} {g : GT} {M : Mem} {k t : Nat} (h : mOK M) (hk : k < 40) (ht : ∀ j, j < t → 0 < mBeats (mKeep M) j 34 (27 + k)) (ht2 : ¬ 0 < mBeats (mKeep M) t 34 (27 + k)) (C : Cx X g l cX2_untilGone 3 RX2 (some .int) rmX2_untilGone) (hq : Rt X g rmX2_untilGone (some (.int (nI t))) (mBack (mBeats (mKeep M) t))) : ∀ (n i : Nat), i ≤ t → t + 1 ≤ i + n → V X g 0 0 6 [(2, .int (nI i)), (0, .ref (ga g 29)), (1, .int (nI k))] [] (mBeats (mKeep M) i) := by
  intro n
  induction n with
  | zero =>
    intro i h1 h2; omega
  | succ n ih =>
    intro i h1 h2
    refine x_aload_n C dX2_untilGone_6 rfl ?_
    refine x_iload_n C dX2_untilGone_7 rfl ?_
    refine x_callV0r C (q2_goes l g _ k hk) cd_X2_goes kl_X2_66 ci2 rfl (by decide) (as := [_]) rfl rfl ⟨⟨by decide, by decide⟩, by decide, by decide⟩ ⟨rfl, rfl⟩ (Nat.le_of_ble_eq_true rfl) dX2_untilGone_8 ?_
    refine x_bif_eq C (tgt := 24) dX2_untilGone_11 (by decide) (fun c11 => ?_) (fun c11 => ?_)
    · have he : i = t := by
        rcases Nat.lt_or_ge i t with z | z
        · exact absurd (ht i z) c11
        · omega
      subst he
      refine x_aload_n C dX2_untilGone_24 rfl ?_
      refine x_callV0v C (q2_bringBack l g _) cd_X2_bringBack kl_X2_136 ci2 rfl (by decide) (as := []) rfl rfl ⟨⟨by decide, by decide⟩, by decide, by decide⟩ ⟨rfl, rfl⟩ (Nat.le_of_ble_eq_true rfl) dX2_untilGone_25 ?_
      refine x_iload_n C dX2_untilGone_28 rfl ?_
      exact x_iret C hq ⟨by decide, by decide⟩ dX2_untilGone_29 (rfl) (rfl)
    · have hlt : i < t := by
        rcases Nat.lt_or_ge i t with z | z
        · exact z
        · exact absurd (show 0 < mBeats (mKeep M) t 34 (27 + k) by rw [show t = i by omega]; exact c11) ht2
      refine x_aload_n C dX2_untilGone_14 rfl ?_
      refine x_callV0v C (q2_beatOn l g _ (mBeats_ok (mKeep_ok h) i).1) cd_X2_beatOn kl_X2_86 ci2 rfl (by decide) (as := []) rfl rfl ⟨⟨by decide, by decide⟩, by decide, by decide⟩ ⟨rfl, rfl⟩ (Nat.le_of_ble_eq_true rfl) dX2_untilGone_15 ?_
      refine x_iinc C (v := nI (i + 1)) (lo' := [(2, _), (0, _), (1, _)]) dX2_untilGone_18 rfl (nI_inc _) (by decide) rfl ?_
      refine x_goto C (tgt := 6) dX2_untilGone_21 (by decide) ?_
      exact ih (i + 1) hlt (by omega)
set_option maxHeartbeats 1000000 in
set_option maxRecDepth 100000 in
theorem q2_untilGone (l : Launch) (g : GT) (M : Mem) (h : mOK M) (k t : Nat) (hk : k < 40) (ht : ∀ j, j < t → 0 < mBeats (mKeep M) j 34 (27 + k)) (ht2 : ¬ 0 < mBeats (mKeep M) t 34 (27 + k)) : CM l yX2_untilGone cX2_untilGone 3 (some .int) rmX2_untilGone g M [.ref (ga g 29), .int (nI k)] (some (.int (nI t))) (mBack (mBeats (mKeep M) t)) := by
  refine CM.of (by decide) (Nat.le_of_ble_eq_true rfl) (fun X C hq => ?_)
  have C : Cx X g l cX2_untilGone 3 RX2 (some .int) rmX2_untilGone := C
  show V X g 0 0 0 [(0, .ref (ga g 29)), (1, .int (nI k))] [] M
  refine x_aload_n C dX2_untilGone_0 rfl ?_
  refine x_callV0v C (q2_keep l g _) cd_X2_keep kl_X2_133 ci2 rfl (by decide) (as := []) rfl rfl ⟨⟨by decide, by decide⟩, by decide, by decide⟩ ⟨rfl, rfl⟩ (Nat.le_of_ble_eq_true rfl) dX2_untilGone_1 ?_
  refine x_iconst C (v := 0) dX2_untilGone_4 (by decide) ?_
  refine x_istore_n C (lo' := [(2, _), (0, _), (1, _)]) dX2_untilGone_5 (by decide) rfl ?_
  exact x_mem (M' := mKeep M) rfl (x_lsub [0, 1, 2] rfl (q2_untilGone_lp h hk ht ht2 C hq (t + 1) 0 (Nat.zero_le _) (by omega)))
abbrev rmX2_untilQuiet : Room := { frames := 4, cells := 0, slots := 0, locals := 97 }
set_option maxHeartbeats 1000000 in
set_option maxRecDepth 100000 in
theorem q2_untilQuiet_lp {X : XT} {l : Launch} {g : GT} {M : Mem} {t : Nat} (h : mOK M) (ht : ∀ j, j < t → 0 < mMany (mBeats (mKeep M) j)) (ht2 : ¬ 0 < mMany (mBeats (mKeep M) t)) (C : Cx X g l cX2_untilQuiet 2 RX2 (some .int) rmX2_untilQuiet) (hq : Rt X g rmX2_untilQuiet (some (.int (nI t))) (mBack (mBeats (mKeep M) t))) : ∀ (n i : Nat), i ≤ t → t + 1 ≤ i + n → V X g 0 0 6 [(1, .int (nI i)), (0, .ref (ga g 29))] [] (mBeats (mKeep M) i) := by
  intro n
  induction n with
  | zero =>
    intro i h1 h2; omega
  | succ n ih =>
    intro i h1 h2
    refine x_aload_n C dX2_untilQuiet_6 rfl ?_
    refine x_callV0r C (q2_many l g _ (mBeats_ok (mKeep_ok h) i).1) cd_X2_many kl_X2_98 ci2 rfl (by decide) (as := []) rfl rfl ⟨⟨by decide, by decide⟩, by decide, by decide⟩ ⟨rfl, rfl⟩ (Nat.le_of_ble_eq_true rfl) dX2_untilQuiet_7 ?_
    refine x_if_le C (tgt := 23) dX2_untilQuiet_10 (by decide) (fun c10 => ?_) (fun c10 => ?_)
    · have he : i = t := by
        rcases Nat.lt_or_ge i t with z | z
        · exact absurd c10 (Int32.not_le.mpr (ht i z))
        · omega
      subst he
      refine x_aload_n C dX2_untilQuiet_23 rfl ?_
      refine x_callV0v C (q2_bringBack l g _) cd_X2_bringBack kl_X2_136 ci2 rfl (by decide) (as := []) rfl rfl ⟨⟨by decide, by decide⟩, by decide, by decide⟩ ⟨rfl, rfl⟩ (Nat.le_of_ble_eq_true rfl) dX2_untilQuiet_24 ?_
      refine x_iload_n C dX2_untilQuiet_27 rfl ?_
      exact x_iret C hq ⟨by decide, by decide⟩ dX2_untilQuiet_28 (rfl) (rfl)
    · have hlt : i < t := by
        rcases Nat.lt_or_ge i t with z | z
        · exact z
        · exact absurd (show 0 < mMany (mBeats (mKeep M) t) by rw [show t = i by omega]; exact Int32.not_le.mp c10) ht2
      refine x_aload_n C dX2_untilQuiet_13 rfl ?_
      refine x_callV0v C (q2_beatOn l g _ (mBeats_ok (mKeep_ok h) i).1) cd_X2_beatOn kl_X2_86 ci2 rfl (by decide) (as := []) rfl rfl ⟨⟨by decide, by decide⟩, by decide, by decide⟩ ⟨rfl, rfl⟩ (Nat.le_of_ble_eq_true rfl) dX2_untilQuiet_14 ?_
      refine x_iinc C (v := nI (i + 1)) (lo' := [(1, _), (0, _)]) dX2_untilQuiet_17 rfl (nI_inc _) (by decide) rfl ?_
      refine x_goto C (tgt := 6) dX2_untilQuiet_20 (by decide) ?_
      exact ih (i + 1) hlt (by omega)
set_option maxHeartbeats 1000000 in
set_option maxRecDepth 100000 in
theorem q2_untilQuiet (l : Launch) (g : GT) (M : Mem) (h : mOK M) (t : Nat) (ht : ∀ j, j < t → 0 < mMany (mBeats (mKeep M) j)) (ht2 : ¬ 0 < mMany (mBeats (mKeep M) t)) : CM l yX2_untilQuiet cX2_untilQuiet 2 (some .int) rmX2_untilQuiet g M [.ref (ga g 29)] (some (.int (nI t))) (mBack (mBeats (mKeep M) t)) := by
  refine CM.of (by decide) (Nat.le_of_ble_eq_true rfl) (fun X C hq => ?_)
  have C : Cx X g l cX2_untilQuiet 2 RX2 (some .int) rmX2_untilQuiet := C
  show V X g 0 0 0 [(0, .ref (ga g 29))] [] M
  refine x_aload_n C dX2_untilQuiet_0 rfl ?_
  refine x_callV0v C (q2_keep l g _) cd_X2_keep kl_X2_133 ci2 rfl (by decide) (as := []) rfl rfl ⟨⟨by decide, by decide⟩, by decide, by decide⟩ ⟨rfl, rfl⟩ (Nat.le_of_ble_eq_true rfl) dX2_untilQuiet_1 ?_
  refine x_iconst C (v := 0) dX2_untilQuiet_4 (by decide) ?_
  refine x_istore_n C (lo' := [(1, _), (0, _)]) dX2_untilQuiet_5 (by decide) rfl ?_
  exact x_mem (M' := mKeep M) rfl (q2_untilQuiet_lp h ht ht2 C hq (t + 1) 0 (Nat.zero_le _) (by omega))
abbrev rmX2_earns : Room := { frames := 5, cells := 0, slots := 0, locals := 119 }
set_option maxHeartbeats 1000000 in
set_option maxRecDepth 100000 in
theorem q2_earns (l : Launch) (g : GT) (M : Mem) (h : mOK M) (e : Nat) (he : e < 2) (b : Int32) (hb : 0 ≤ b) : CM l yX2_earns cX2_earns 4 (some .int) rmX2_earns g M [.ref (ga g 29), .int (nI e), .int b] (some (.int (mBeats (mKeep M) (tn b) 34 (3 + e) - mBack (mBeats (mKeep M) (tn b)) 34 (3 + e)))) (mBack (mBeats (mKeep M) (tn b))) := by
  refine CM.of (by decide) (Nat.le_of_ble_eq_true rfl) (fun X C hq => ?_)
  have C : Cx X g l cX2_earns 4 RX2 (some .int) rmX2_earns := C
  show V X g 0 0 0 [(0, .ref (ga g 29)), (1, .int (nI e)), (2, .int b)] [] M
  refine x_aload_n C dX2_earns_0 rfl ?_
  refine x_callV0v C (q2_keep l g _) cd_X2_keep kl_X2_133 ci2 rfl (by decide) (as := []) rfl rfl ⟨⟨by decide, by decide⟩, by decide, by decide⟩ ⟨rfl, rfl⟩ (Nat.le_of_ble_eq_true rfl) dX2_earns_1 ?_
  refine x_aload_n C dX2_earns_4 rfl ?_
  refine x_iload_n C dX2_earns_5 rfl ?_
  refine x_callV0v C (q2_beatsOn l g _ (mKeep_ok h) b hb) cd_X2_beatsOn kl_X2_105 ci2 rfl (by decide) (as := [_]) rfl rfl ⟨⟨by decide, by decide⟩, by decide, by decide⟩ ⟨rfl, rfl⟩ (Nat.le_of_ble_eq_true rfl) dX2_earns_6 ?_
  refine x_aload_n C dX2_earns_9 rfl ?_
  refine x_getR C fl_X2_22 rfl (by decide) rfl dX2_earns_10 ?_
  refine x_iconst C (v := 3) dX2_earns_13 (by decide) ?_
  refine x_iload_n C dX2_earns_14 rfl ?_
  refine x_iadd C dX2_earns_15 ?_
  refine x_iald C (n := 187) rfl (by decide) rfl (nI_add 3 e) ((by omega : 3 + e < 187)) dX2_earns_16 ?_
  refine x_istore_n C (lo' := [(3, _), (0, _), (1, _), (2, _)]) dX2_earns_17 (by decide) rfl ?_
  refine x_aload_n C dX2_earns_18 rfl ?_
  refine x_callV0v C (q2_bringBack l g _) cd_X2_bringBack kl_X2_136 ci2 rfl (by decide) (as := []) rfl rfl ⟨⟨by decide, by decide⟩, by decide, by decide⟩ ⟨rfl, rfl⟩ (Nat.le_of_ble_eq_true rfl) dX2_earns_19 ?_
  refine x_iload_n C dX2_earns_22 rfl ?_
  refine x_aload_n C dX2_earns_23 rfl ?_
  refine x_getR C fl_X2_22 rfl (by decide) rfl dX2_earns_24 ?_
  refine x_iconst C (v := 3) dX2_earns_27 (by decide) ?_
  refine x_iload_n C dX2_earns_28 rfl ?_
  refine x_iadd C dX2_earns_29 ?_
  refine x_iald C (n := 187) rfl (by decide) rfl (nI_add 3 e) ((by omega : 3 + e < 187)) dX2_earns_30 ?_
  refine x_isub C dX2_earns_31 ?_
  exact x_iret C hq ⟨by decide, by decide⟩ dX2_earns_32 (rfl) (rfl)
abbrev rmX2_loses : Room := { frames := 2, cells := 0, slots := 0, locals := 42 }
set_option maxHeartbeats 1000000 in
set_option maxRecDepth 100000 in
theorem q2_loses_end {X : XT} {l : Launch} {g : GT} {M : Mem} {there fr wy s way lost : Int32} {r : Option Value} (C : Cx X g l cX2_loses 7 RX2 (some .int) rmX2_loses) (hq : Rt X g rmX2_loses r M) (hm : 0 ≤ lost.toInt ∧ 99 < lost.toInt + (0 : Nat) ∧ lost.toInt ≤ 200) (hr : some (.int (mLs M there 0 s way lost)) = r) : V X g 0 0 9 [(6, .int lost), (5, .int way), (4, .int s), (0, .ref (ga g 29)), (1, .int fr), (2, .int wy), (3, .int there)] [] M := by
  refine x_iload C dX2_loses_9 rfl ?_
  refine x_bipush C (v := 99) dX2_loses_11 (by decide) ?_
  refine x_icmp_ge C (tgt := 90) dX2_loses_13 (by decide) (fun c13 => ?_) (fun c13 => absurd (i_le.mpr (by rw [i_c99]; omega)) c13)
  refine x_iload C dX2_loses_90 rfl ?_
  exact x_iret C hq ⟨by decide, by decide⟩ dX2_loses_92 (hr.symm) (rfl)
set_option maxHeartbeats 1000000 in
set_option maxRecDepth 100000 in
theorem q2_loses_lp {X : XT} {l : Launch} {g : GT} {M : Mem} {there fr wy : Int32} {r : Option Value} (h : mOK M) (h2 : mOK2 M) (C : Cx X g l cX2_loses 7 RX2 (some .int) rmX2_loses) (hq : Rt X g rmX2_loses r M) : ∀ (n : Nat) (s way lost : Int32), (0 ≤ lost.toInt ∧ 99 < lost.toInt + n ∧ lost.toInt ≤ 200) → some (.int (mLs M there n s way lost)) = r → V X g 0 0 9 [(6, .int lost), (5, .int way), (4, .int s), (0, .ref (ga g 29)), (1, .int fr), (2, .int wy), (3, .int there)] [] M := by
  intro n
  induction n with
  | zero =>
    intro s way lost hm hr; exact q2_loses_end C hq hm hr
  | succ n ih =>
    intro s way lost hm hr
    refine x_iload C dX2_loses_9 rfl ?_
    refine x_bipush C (v := 99) dX2_loses_11 (by decide) ?_
    refine x_icmp_ge C (tgt := 90) dX2_loses_13 (by decide) (fun c13 => ?_) (fun c13 => ?_)
    · refine x_iload C dX2_loses_90 rfl ?_
      exact x_iret C hq ⟨by decide, by decide⟩ dX2_loses_92 (by rw [← hr]; unfold mLs; rw [if_pos c13]) (rfl)
    · have c13b := c13
      refine x_iload C dX2_loses_16 rfl ?_
      refine x_iload C dX2_loses_18 rfl ?_
      refine x_iadd C dX2_loses_20 ?_
      refine x_istore C (lo' := [(4, _), (6, _), (5, _), (0, _), (1, _), (2, _), (3, _)]) dX2_loses_21 (by decide) rfl ?_
      refine x_iload C dX2_loses_23 rfl ?_
      refine x_callS0r C (q2_isStone l g _ _) cd_X2_isStone kl_X2_58 (as := [_]) rfl rfl ⟨⟨by decide, by decide⟩, by decide, by decide⟩ ⟨rfl, rfl⟩ (Nat.le_of_ble_eq_true rfl) dX2_loses_25 ?_
      refine x_bif_ne C (tgt := 34) dX2_loses_28 (by decide) (fun c28 => ?_) (fun c28 => ?_)
      · have hs := tn31 c28
        have hsn := h2.1 _ hs
        have hw0 := h.2.2.1 _ hs
        refine x_iload C dX2_loses_34 rfl ?_
        refine x_iconst C (v := 1) dX2_loses_36 (by decide) ?_
        refine x_aload_n C dX2_loses_37 rfl ?_
        refine x_getR C fl_X2_9 rfl (by decide) rfl dX2_loses_38 ?_
        refine x_iload C dX2_loses_41 rfl ?_
        refine x_iald C (n := 32) rfl (by decide) rfl (nI_tn c28.1) (hs) dX2_loses_43 ?_
        refine x_iadd C dX2_loses_44 ?_
        refine x_iadd C dX2_loses_45 ?_
        refine x_istore C (lo' := [(6, _), (4, _), (5, _), (0, _), (1, _), (2, _), (3, _)]) dX2_loses_46 (by decide) rfl ?_
        refine x_aload_n C dX2_loses_48 rfl ?_
        refine x_getR C fl_X2_13 rfl (by decide) rfl dX2_loses_49 ?_
        refine x_iload C dX2_loses_52 rfl ?_
        refine x_iald C (n := 32) rfl (by decide) rfl (nI_tn c28.1) (hs) dX2_loses_54 ?_
        refine x_iconst C (v := (-1)) dX2_loses_55 (by decide) ?_
        refine x_icmp_eq C (tgt := 81) dX2_loses_56 (by decide) (fun c56 => ?_) (fun c56 => ?_)
        · refine x_iload C dX2_loses_81 rfl ?_
          refine x_iload_n C dX2_loses_83 rfl ?_
          refine x_icmp_ne C (tgt := 9) dX2_loses_84 (by decide) (fun c84 => ?_) (fun c84 => ?_)
          · skip
            have a1 := i_lt.mp (Int32.not_le.mp c13b)
            rw [i_c99] at a1
            have b1 := i_le.mp hsn.1
            have b2 := i_le.mp hsn.2
            rw [i_c0] at b1; rw [i_c5] at b2
            have q0 : ((1 : Int32) + M 30 (tn (s + way))).toInt = 1 + (M 30 (tn (s + way))).toInt := by rw [i_add] <;> rw [i_c1] <;> omega
            have q1 : (lost + (1 + M 30 (tn (s + way)))).toInt = lost.toInt + (1 + (M 30 (tn (s + way))).toInt) := by rw [i_add] <;> rw [q0] <;> omega
            first
              | (have e : some (Value.int (mLs M there n (s + way) way (lost + (1 + M 30 (tn (s + way)))))) = r := (by rw [← hr]; conv => rhs; unfold mLs; rw [if_neg c13, if_pos c28, if_pos c56, if_neg c84])
                 exact x_lsub [0, 2, 1, 3, 4, 5, 6] rfl (ih _ _ _ (by rw [q1]; omega) e))
              | (have d1 := i_le.mp hso.1
                 have d2 := i_le.mp hso.2
                 rw [i_c0] at d1; rw [i_c5] at d2
                 have e : some (Value.int (mLs M there n (s + way) (-way) (lost + (1 + M 30 (tn (s + way))) + M 33 (tn (M 31 (tn (s + way))))))) = r := (by rw [← hr]; conv => rhs; unfold mLs; rw [if_neg c13, if_pos c28, if_neg c56, if_neg c84])
                 have q2 : (lost + (1 + M 30 (tn (s + way))) + M 33 (tn (M 31 (tn (s + way))))).toInt = lost.toInt + (1 + (M 30 (tn (s + way))).toInt) + (M 33 (tn (M 31 (tn (s + way))))).toInt := (by rw [i_add] <;> rw [q1] <;> omega)
                 exact x_lsub [0, 1, 2, 3, 4, 5, 6] rfl (ih _ _ _ (by rw [q2]; omega) e))
          · skip
            refine x_iload C dX2_loses_87 rfl ?_
            exact x_iret C hq ⟨by decide, by decide⟩ dX2_loses_89 (by first | (rw [← hr]; unfold mLs; rw [if_neg c13, if_pos c28, if_pos c56, if_pos c84]; done) | (rw [← hr]; unfold mLs; rw [if_neg c13, if_pos c28, if_neg c56, if_pos c84]; done)) (rfl)
        · have hw := hw0.resolve_left c56
          have hw9 := tn9 hw
          have hso := h2.2 _ hw9
          refine x_iload C dX2_loses_59 rfl ?_
          refine x_ineg C dX2_loses_61 ?_
          refine x_istore C (lo' := [(5, _), (6, _), (4, _), (0, _), (1, _), (2, _), (3, _)]) dX2_loses_62 (by decide) rfl ?_
          refine x_iload C dX2_loses_64 rfl ?_
          refine x_aload_n C dX2_loses_66 rfl ?_
          refine x_getR C fl_X2_19 rfl (by decide) rfl dX2_loses_67 ?_
          refine x_aload_n C dX2_loses_70 rfl ?_
          refine x_getR C fl_X2_13 rfl (by decide) rfl dX2_loses_71 ?_
          refine x_iload C dX2_loses_74 rfl ?_
          refine x_iald C (n := 32) rfl (by decide) rfl (nI_tn c28.1) (hs) dX2_loses_76 ?_
          refine x_iald C (n := 10) rfl (by decide) rfl (nI_tn hw.1) (hw9) dX2_loses_77 ?_
          refine x_iadd C dX2_loses_78 ?_
          refine x_istore C (lo' := [(6, _), (5, _), (4, _), (0, _), (1, _), (2, _), (3, _)]) dX2_loses_79 (by decide) rfl ?_
          refine x_iload C dX2_loses_81 rfl ?_
          refine x_iload_n C dX2_loses_83 rfl ?_
          refine x_icmp_ne C (tgt := 9) dX2_loses_84 (by decide) (fun c84 => ?_) (fun c84 => ?_)
          · skip
            have a1 := i_lt.mp (Int32.not_le.mp c13b)
            rw [i_c99] at a1
            have b1 := i_le.mp hsn.1
            have b2 := i_le.mp hsn.2
            rw [i_c0] at b1; rw [i_c5] at b2
            have q0 : ((1 : Int32) + M 30 (tn (s + way))).toInt = 1 + (M 30 (tn (s + way))).toInt := by rw [i_add] <;> rw [i_c1] <;> omega
            have q1 : (lost + (1 + M 30 (tn (s + way)))).toInt = lost.toInt + (1 + (M 30 (tn (s + way))).toInt) := by rw [i_add] <;> rw [q0] <;> omega
            first
              | (have e : some (Value.int (mLs M there n (s + way) way (lost + (1 + M 30 (tn (s + way)))))) = r := (by rw [← hr]; conv => rhs; unfold mLs; rw [if_neg c13, if_pos c28, if_pos c56, if_neg c84])
                 exact x_lsub [0, 2, 1, 3, 4, 5, 6] rfl (ih _ _ _ (by rw [q1]; omega) e))
              | (have d1 := i_le.mp hso.1
                 have d2 := i_le.mp hso.2
                 rw [i_c0] at d1; rw [i_c5] at d2
                 have e : some (Value.int (mLs M there n (s + way) (-way) (lost + (1 + M 30 (tn (s + way))) + M 33 (tn (M 31 (tn (s + way))))))) = r := (by rw [← hr]; conv => rhs; unfold mLs; rw [if_neg c13, if_pos c28, if_neg c56, if_neg c84])
                 have q2 : (lost + (1 + M 30 (tn (s + way))) + M 33 (tn (M 31 (tn (s + way))))).toInt = lost.toInt + (1 + (M 30 (tn (s + way))).toInt) + (M 33 (tn (M 31 (tn (s + way))))).toInt := (by rw [i_add] <;> rw [q1] <;> omega)
                 exact x_lsub [0, 1, 2, 3, 4, 5, 6] rfl (ih _ _ _ (by rw [q2]; omega) e))
          · skip
            refine x_iload C dX2_loses_87 rfl ?_
            exact x_iret C hq ⟨by decide, by decide⟩ dX2_loses_89 (by first | (rw [← hr]; unfold mLs; rw [if_neg c13, if_pos c28, if_pos c56, if_pos c84]; done) | (rw [← hr]; unfold mLs; rw [if_neg c13, if_pos c28, if_neg c56, if_pos c84]; done)) (rfl)
      · refine x_bipush C (v := 99) dX2_loses_31 (by decide) ?_
        exact x_iret C hq ⟨by decide, by decide⟩ dX2_loses_33 (by rw [← hr]; unfold mLs; rw [if_neg c13, if_neg c28]) (rfl)
set_option maxHeartbeats 1000000 in
set_option maxRecDepth 100000 in
theorem q2_loses (l : Launch) (g : GT) (M : Mem) (h : mOK M) (h2 : mOK2 M) (fr wy there : Int32) : CM l yX2_loses cX2_loses 7 (some .int) rmX2_loses g M [.ref (ga g 29), .int fr, .int wy, .int there] (some (.int (mLs M there 100 fr wy 0))) (M) := by
  refine CM.of (by decide) (Nat.le_of_ble_eq_true rfl) (fun X C hq => ?_)
  have C : Cx X g l cX2_loses 7 RX2 (some .int) rmX2_loses := C
  show V X g 0 0 0 [(0, .ref (ga g 29)), (1, .int fr), (2, .int wy), (3, .int there)] [] M
  refine x_iload_n C dX2_loses_0 rfl ?_
  refine x_istore C (lo' := [(4, _), (0, _), (1, _), (2, _), (3, _)]) dX2_loses_1 (by decide) rfl ?_
  refine x_iload_n C dX2_loses_3 rfl ?_
  refine x_istore C (lo' := [(5, _), (4, _), (0, _), (1, _), (2, _), (3, _)]) dX2_loses_4 (by decide) rfl ?_
  refine x_iconst C (v := 0) dX2_loses_6 (by decide) ?_
  refine x_istore C (lo' := [(6, _), (5, _), (4, _), (0, _), (1, _), (2, _), (3, _)]) dX2_loses_7 (by decide) rfl ?_
  exact x_lsub [0, 1, 2, 3, 4, 5, 6] rfl (q2_loses_lp h h2 C hq 100 fr wy 0 ⟨by decide, by decide, by decide⟩ rfl)
abbrev rmX2_turns : Room := { frames := 2, cells := 0, slots := 0, locals := 42 }
set_option maxHeartbeats 1000000 in
set_option maxRecDepth 100000 in
theorem q2_turns_end {X : XT} {l : Launch} {g : GT} {M : Mem} {fr ld s way left sum : Int32} {r : Option Value} (h2 : mOK2 M) (C : Cx X g l cX2_turns 7 RX2 (some .int) rmX2_turns) (hq : Rt X g rmX2_turns r M) (hm : left.toInt < (0 : Nat) ∧ -200 ≤ left.toInt ∧ left.toInt ≤ 200) (hr : some (.int (mTn M (0 + 1) s way left sum)) = r) : V X g 0 0 13 [(6, .int sum), (5, .int left), (4, .int way), (3, .int s), (0, .ref (ga g 29)), (1, .int fr), (2, .int ld)] [] M := by
  refine x_iload_n C dX2_turns_13 rfl ?_
  refine x_callS0r C (q2_isStone l g _ _) cd_X2_isStone kl_X2_58 (as := [_]) rfl rfl ⟨⟨by decide, by decide⟩, by decide, by decide⟩ ⟨rfl, rfl⟩ (Nat.le_of_ble_eq_true rfl) dX2_turns_14 ?_
  refine x_bif_eq C (tgt := 89) dX2_turns_17 (by decide) (fun c17 => ?_) (fun c17 => ?_)
  · refine x_iload C dX2_turns_89 rfl ?_
    exact x_iret C hq ⟨by decide, by decide⟩ dX2_turns_91 (by first | (rw [← hr]; unfold mTn; rw [if_neg (fun z => c17 z.1)]; done) | (rw [← hr]; unfold mTn; rw [if_neg (fun z => absurd c31 (Int32.not_le.mpr z.2))]; done)) (rfl)
  · have hs := tn31 c17
    have hsn := h2.1 _ hs
    refine x_iload C dX2_turns_20 rfl ?_
    refine x_iconst C (v := 1) dX2_turns_22 (by decide) ?_
    refine x_isub C dX2_turns_23 ?_
    refine x_aload_n C dX2_turns_24 rfl ?_
    refine x_getR C fl_X2_9 rfl (by decide) rfl dX2_turns_25 ?_
    refine x_iload_n C dX2_turns_28 rfl ?_
    refine x_iald C (n := 32) rfl (by decide) rfl (nI_tn c17.1) (hs) dX2_turns_29 ?_
    refine x_isub C dX2_turns_30 ?_
    refine x_if_le C (tgt := 89) dX2_turns_31 (by decide) (fun c31 => ?_) (fun c31 => (by
      exfalso
      have a1 := i_lt.mp (Int32.not_le.mp c31)
      rw [i_c0] at a1
      have b1 := i_le.mp hsn.1
      have b2 := i_le.mp hsn.2
      rw [i_c0] at b1; rw [i_c5] at b2
      have p1 : (left - 1).toInt = left.toInt - 1 := by rw [i_sub] <;> rw [i_c1] <;> omega
      have p2 : (left - 1 - M 30 (tn s)).toInt = left.toInt - 1 - (M 30 (tn s)).toInt := by rw [i_sub] <;> rw [p1] <;> omega
      omega))
    refine x_iload C dX2_turns_89 rfl ?_
    exact x_iret C hq ⟨by decide, by decide⟩ dX2_turns_91 (by first | (rw [← hr]; unfold mTn; rw [if_neg (fun z => c17 z.1)]; done) | (rw [← hr]; unfold mTn; rw [if_neg (fun z => absurd c31 (Int32.not_le.mpr z.2))]; done)) (rfl)
set_option maxHeartbeats 1000000 in
set_option maxRecDepth 100000 in
theorem q2_turns_lp {X : XT} {l : Launch} {g : GT} {M : Mem} {fr ld : Int32} {r : Option Value} (h : mOK M) (h2 : mOK2 M) (C : Cx X g l cX2_turns 7 RX2 (some .int) rmX2_turns) (hq : Rt X g rmX2_turns r M) : ∀ (n : Nat) (s way left sum : Int32), (left.toInt < n ∧ -200 ≤ left.toInt ∧ left.toInt ≤ 200) → some (.int (mTn M (n + 1) s way left sum)) = r → V X g 0 0 13 [(6, .int sum), (5, .int left), (4, .int way), (3, .int s), (0, .ref (ga g 29)), (1, .int fr), (2, .int ld)] [] M := by
  intro n
  induction n with
  | zero =>
    intro s way left sum hm hr; exact q2_turns_end h2 C hq hm hr
  | succ n ih =>
    intro s way left sum hm hr
    refine x_iload_n C dX2_turns_13 rfl ?_
    refine x_callS0r C (q2_isStone l g _ _) cd_X2_isStone kl_X2_58 (as := [_]) rfl rfl ⟨⟨by decide, by decide⟩, by decide, by decide⟩ ⟨rfl, rfl⟩ (Nat.le_of_ble_eq_true rfl) dX2_turns_14 ?_
    refine x_bif_eq C (tgt := 89) dX2_turns_17 (by decide) (fun c17 => ?_) (fun c17 => ?_)
    · refine x_iload C dX2_turns_89 rfl ?_
      exact x_iret C hq ⟨by decide, by decide⟩ dX2_turns_91 (by first | (rw [← hr]; unfold mTn; rw [if_neg (fun z => c17 z.1)]; done) | (rw [← hr]; unfold mTn; rw [if_neg (fun z => absurd c31 (Int32.not_le.mpr z.2))]; done)) (rfl)
    · have hs := tn31 c17
      have hsn := h2.1 _ hs
      have hw0 := h.2.2.1 _ hs
      refine x_iload C dX2_turns_20 rfl ?_
      refine x_iconst C (v := 1) dX2_turns_22 (by decide) ?_
      refine x_isub C dX2_turns_23 ?_
      refine x_aload_n C dX2_turns_24 rfl ?_
      refine x_getR C fl_X2_9 rfl (by decide) rfl dX2_turns_25 ?_
      refine x_iload_n C dX2_turns_28 rfl ?_
      refine x_iald C (n := 32) rfl (by decide) rfl (nI_tn c17.1) (hs) dX2_turns_29 ?_
      refine x_isub C dX2_turns_30 ?_
      refine x_if_le C (tgt := 89) dX2_turns_31 (by decide) (fun c31 => ?_) (fun c31 => ?_)
      · refine x_iload C dX2_turns_89 rfl ?_
        exact x_iret C hq ⟨by decide, by decide⟩ dX2_turns_91 (by first | (rw [← hr]; unfold mTn; rw [if_neg (fun z => c17 z.1)]; done) | (rw [← hr]; unfold mTn; rw [if_neg (fun z => absurd c31 (Int32.not_le.mpr z.2))]; done)) (rfl)
      · have c31b := Int32.not_le.mp c31
        refine x_iload C dX2_turns_34 rfl ?_
        refine x_iconst C (v := 1) dX2_turns_36 (by decide) ?_
        refine x_aload_n C dX2_turns_37 rfl ?_
        refine x_getR C fl_X2_9 rfl (by decide) rfl dX2_turns_38 ?_
        refine x_iload_n C dX2_turns_41 rfl ?_
        refine x_iald C (n := 32) rfl (by decide) rfl (nI_tn c17.1) (hs) dX2_turns_42 ?_
        refine x_iadd C dX2_turns_43 ?_
        refine x_isub C dX2_turns_44 ?_
        refine x_istore C (lo' := [(5, _), (6, _), (4, _), (3, _), (0, _), (1, _), (2, _)]) dX2_turns_45 (by decide) rfl ?_
        refine x_aload_n C dX2_turns_47 rfl ?_
        refine x_getR C fl_X2_13 rfl (by decide) rfl dX2_turns_48 ?_
        refine x_iload_n C dX2_turns_51 rfl ?_
        refine x_iald C (n := 32) rfl (by decide) rfl (nI_tn c17.1) (hs) dX2_turns_52 ?_
        refine x_iconst C (v := (-1)) dX2_turns_53 (by decide) ?_
        refine x_icmp_eq C (tgt := 81) dX2_turns_54 (by decide) (fun c54 => ?_) (fun c54 => ?_)
        · refine x_iload_n C dX2_turns_81 rfl ?_
          refine x_iload C dX2_turns_82 rfl ?_
          refine x_iadd C dX2_turns_84 ?_
          refine x_istore_n C (lo' := [(3, _), (5, _), (6, _), (4, _), (0, _), (1, _), (2, _)]) dX2_turns_85 (by decide) rfl ?_
          refine x_goto C (tgt := 13) dX2_turns_86 (by decide) ?_
          have a1 := i_lt.mp c31b
          rw [i_c0] at a1
          have b1 := i_le.mp hsn.1
          have b2 := i_le.mp hsn.2
          rw [i_c0] at b1; rw [i_c5] at b2
          have p1 : (left - 1).toInt = left.toInt - 1 := by rw [i_sub] <;> rw [i_c1] <;> omega
          have p2 : (left - 1 - M 30 (tn s)).toInt = left.toInt - 1 - (M 30 (tn s)).toInt := by rw [i_sub] <;> rw [p1] <;> omega
          rw [p2] at a1
          have q0 : ((1 : Int32) + M 30 (tn s)).toInt = 1 + (M 30 (tn s)).toInt := by rw [i_add] <;> rw [i_c1] <;> omega
          have q1 : (left - (1 + M 30 (tn s))).toInt = left.toInt - (1 + (M 30 (tn s)).toInt) := by rw [i_sub] <;> rw [q0] <;> omega
          first
            | (have e : some (Value.int (mTn M (n + 1) (s + way) way (left - (1 + M 30 (tn s))) sum)) = r := (by rw [← hr]; conv => rhs; unfold mTn; rw [if_pos ⟨c17, c31b⟩, if_pos c54])
               exact x_lsub [2, 1, 3, 0, 4, 5, 6] rfl (ih _ _ _ _ (by rw [q1]; omega) e))
            | (have d1 := i_le.mp hso.1
               have d2 := i_le.mp hso.2
               rw [i_c0] at d1; rw [i_c5] at d2
               have e : some (Value.int (mTn M (n + 1) (s + (-way)) (-way) (left - (1 + M 30 (tn s)) - M 33 (tn (M 31 (tn s)))) (sum + 1))) = r := (by rw [← hr]; conv => rhs; unfold mTn; rw [if_pos ⟨c17, c31b⟩, if_neg c54])
               have q2 : (left - (1 + M 30 (tn s)) - M 33 (tn (M 31 (tn s)))).toInt = left.toInt - (1 + (M 30 (tn s)).toInt) - (M 33 (tn (M 31 (tn s)))).toInt := (by rw [i_sub] <;> rw [q1] <;> omega)
               exact x_lsub [3, 2, 1, 0, 4, 5, 6] rfl (ih _ _ _ _ (by rw [q2]; omega) e))
        · have hw := hw0.resolve_left c54
          have hw9 := tn9 hw
          have hso := h2.2 _ hw9
          refine x_iinc C (v := _) (lo' := [(6, _), (5, _), (4, _), (3, _), (0, _), (1, _), (2, _)]) dX2_turns_57 rfl (rfl) (by decide) rfl ?_
          refine x_iload C dX2_turns_60 rfl ?_
          refine x_aload_n C dX2_turns_62 rfl ?_
          refine x_getR C fl_X2_19 rfl (by decide) rfl dX2_turns_63 ?_
          refine x_aload_n C dX2_turns_66 rfl ?_
          refine x_getR C fl_X2_13 rfl (by decide) rfl dX2_turns_67 ?_
          refine x_iload_n C dX2_turns_70 rfl ?_
          refine x_iald C (n := 32) rfl (by decide) rfl (nI_tn c17.1) (hs) dX2_turns_71 ?_
          refine x_iald C (n := 10) rfl (by decide) rfl (nI_tn hw.1) (hw9) dX2_turns_72 ?_
          refine x_isub C dX2_turns_73 ?_
          refine x_istore C (lo' := [(5, _), (6, _), (4, _), (3, _), (0, _), (1, _), (2, _)]) dX2_turns_74 (by decide) rfl ?_
          refine x_iload C dX2_turns_76 rfl ?_
          refine x_ineg C dX2_turns_78 ?_
          refine x_istore C (lo' := [(4, _), (5, _), (6, _), (3, _), (0, _), (1, _), (2, _)]) dX2_turns_79 (by decide) rfl ?_
          refine x_iload_n C dX2_turns_81 rfl ?_
          refine x_iload C dX2_turns_82 rfl ?_
          refine x_iadd C dX2_turns_84 ?_
          refine x_istore_n C (lo' := [(3, _), (4, _), (5, _), (6, _), (0, _), (1, _), (2, _)]) dX2_turns_85 (by decide) rfl ?_
          refine x_goto C (tgt := 13) dX2_turns_86 (by decide) ?_
          have a1 := i_lt.mp c31b
          rw [i_c0] at a1
          have b1 := i_le.mp hsn.1
          have b2 := i_le.mp hsn.2
          rw [i_c0] at b1; rw [i_c5] at b2
          have p1 : (left - 1).toInt = left.toInt - 1 := by rw [i_sub] <;> rw [i_c1] <;> omega
          have p2 : (left - 1 - M 30 (tn s)).toInt = left.toInt - 1 - (M 30 (tn s)).toInt := by rw [i_sub] <;> rw [p1] <;> omega
          rw [p2] at a1
          have q0 : ((1 : Int32) + M 30 (tn s)).toInt = 1 + (M 30 (tn s)).toInt := by rw [i_add] <;> rw [i_c1] <;> omega
          have q1 : (left - (1 + M 30 (tn s))).toInt = left.toInt - (1 + (M 30 (tn s)).toInt) := by rw [i_sub] <;> rw [q0] <;> omega
          first
            | (have e : some (Value.int (mTn M (n + 1) (s + way) way (left - (1 + M 30 (tn s))) sum)) = r := (by rw [← hr]; conv => rhs; unfold mTn; rw [if_pos ⟨c17, c31b⟩, if_pos c54])
               exact x_lsub [2, 1, 3, 0, 4, 5, 6] rfl (ih _ _ _ _ (by rw [q1]; omega) e))
            | (have d1 := i_le.mp hso.1
               have d2 := i_le.mp hso.2
               rw [i_c0] at d1; rw [i_c5] at d2
               have e : some (Value.int (mTn M (n + 1) (s + (-way)) (-way) (left - (1 + M 30 (tn s)) - M 33 (tn (M 31 (tn s)))) (sum + 1))) = r := (by rw [← hr]; conv => rhs; unfold mTn; rw [if_pos ⟨c17, c31b⟩, if_neg c54])
               have q2 : (left - (1 + M 30 (tn s)) - M 33 (tn (M 31 (tn s)))).toInt = left.toInt - (1 + (M 30 (tn s)).toInt) - (M 33 (tn (M 31 (tn s)))).toInt := (by rw [i_sub] <;> rw [q1] <;> omega)
               exact x_lsub [3, 2, 1, 0, 4, 5, 6] rfl (ih _ _ _ _ (by rw [q2]; omega) e))
set_option maxHeartbeats 1000000 in
set_option maxRecDepth 100000 in
theorem q2_turns (l : Launch) (g : GT) (M : Mem) (h : mOK M) (h2 : mOK2 M) (fr ld : Int32) (hl : 1 ≤ ld ∧ ld ≤ 99) : CM l yX2_turns cX2_turns 7 (some .int) rmX2_turns g M [.ref (ga g 29), .int fr, .int ld] (some (.int (mTurns M fr ld))) (M) := by
  refine CM.of (by decide) (Nat.le_of_ble_eq_true rfl) (fun X C hq => ?_)
  have C : Cx X g l cX2_turns 7 RX2 (some .int) rmX2_turns := C
  show V X g 0 0 0 [(0, .ref (ga g 29)), (1, .int fr), (2, .int ld)] [] M
  refine x_iload_n C dX2_turns_0 rfl ?_
  refine x_iconst C (v := 1) dX2_turns_1 (by decide) ?_
  refine x_iadd C dX2_turns_2 ?_
  refine x_istore_n C (lo' := [(3, _), (0, _), (1, _), (2, _)]) dX2_turns_3 (by decide) rfl ?_
  refine x_iconst C (v := 1) dX2_turns_4 (by decide) ?_
  refine x_istore C (lo' := [(4, _), (3, _), (0, _), (1, _), (2, _)]) dX2_turns_5 (by decide) rfl ?_
  refine x_iload_n C dX2_turns_7 rfl ?_
  refine x_istore C (lo' := [(5, _), (4, _), (3, _), (0, _), (1, _), (2, _)]) dX2_turns_8 (by decide) rfl ?_
  refine x_iconst C (v := 0) dX2_turns_10 (by decide) ?_
  refine x_istore C (lo' := [(6, _), (5, _), (4, _), (3, _), (0, _), (1, _), (2, _)]) dX2_turns_11 (by decide) rfl ?_
  have a1 := i_le.mp hl.1
  have a2 := i_le.mp hl.2
  rw [i_c1] at a1; rw [i_c99] at a2
  exact x_lsub [0, 1, 2, 3, 4, 5, 6] rfl (q2_turns_lp h h2 C hq 100 (fr + 1) 1 ld 0 ⟨by omega, by omega, by omega⟩ rfl)
abbrev rmX2_best : Room := { frames := 3, cells := 0, slots := 0, locals := 68 }
theorem mBest1 (M : Mem) (ld : Int32) : mBestL M ld 1 = 0 := if_neg (fun z => Int32.lt_irrefl z)
set_option maxHeartbeats 1000000 in
set_option maxRecDepth 100000 in
theorem q2_best_lp {X : XT} {l : Launch} {g : GT} {M : Mem} {ld : Int32} (h : mOK M) (h2 : mOK2 M) (hl : 1 ≤ ld ∧ ld ≤ 99) (C : Cx X g l cX2_best 4 RX2 (some .int) rmX2_best) (hq : Rt X g rmX2_best (some (.int (mBest M ld))) M) : ∀ (n i : Nat), i ≤ 32 → 33 ≤ i + n → V X g 0 0 4 [(3, .int (nI i)), (2, .int (mBestL M ld i)), (0, .ref (ga g 29)), (1, .int ld)] [] M := by
  intro n
  induction n with
  | zero =>
    intro i h1 h2; omega
  | succ n ih =>
    intro i h1 hn
    refine x_iload_n C dX2_best_4 rfl ?_
    refine x_bipush C (v := 32) dX2_best_5 (by decide) ?_
    refine x_icmp_ge C (tgt := 33) dX2_best_7 (by decide) (fun c7 => ?_) (fun c7 => ?_)
    · have he : i = 32 := by
        have z := (nI_leI (a := 32) (b := i) (by decide) (by omega)).mp c7
        omega
      subst he
      refine x_iload_n C dX2_best_33 rfl ?_
      exact x_iret C hq ⟨by decide, by decide⟩ dX2_best_34 (rfl) (rfl)
    · have hlt : i < 32 := Nat.lt_of_not_le (fun z => c7 (nI_le (a := 32) z (by omega)))
      refine x_aload_n C dX2_best_10 rfl ?_
      refine x_iload_n C dX2_best_11 rfl ?_
      refine x_iload_n C dX2_best_12 rfl ?_
      refine x_callV0r C (q2_turns l g _ h h2 _ _ hl) cd_X2_turns kl_X2_152 ci2 rfl (by decide) (as := [_, _]) rfl rfl ⟨⟨by decide, by decide⟩, by decide, by decide⟩ ⟨rfl, rfl⟩ (Nat.le_of_ble_eq_true rfl) dX2_best_13 ?_
      refine x_aload_n C dX2_best_16 rfl ?_
      refine x_iload_n C dX2_best_17 rfl ?_
      refine x_iload_n C dX2_best_18 rfl ?_
      refine x_callV0r C (q2_turns l g _ h h2 _ _ hl) cd_X2_turns kl_X2_152 ci2 rfl (by decide) (as := [_, _]) rfl rfl ⟨⟨by decide, by decide⟩, by decide, by decide⟩ ⟨rfl, rfl⟩ (Nat.le_of_ble_eq_true rfl) dX2_best_19 ?_
      refine x_icmp_le C (tgt := 27) dX2_best_22 (by decide) (fun c22 => ?_) (fun c22 => ?_)
      · refine x_iinc C (v := nI (i + 1)) (lo' := [(3, _), (2, _), (0, _), (1, _)]) dX2_best_27 rfl (nI_inc _) (by decide) rfl ?_
        refine x_goto C (tgt := 4) dX2_best_30 (by decide) ?_
        first
          | (have z22 := Int32.not_le.mp c22; have e : mBestL M ld (i + 1) = nI i := if_pos z22; have q := ih (i + 1) hlt (by omega); rw [e] at q; exact q)
          | (have e : mBestL M ld (i + 1) = mBestL M ld i := if_neg (fun z => absurd c22 (Int32.not_le.mpr z)); have q := ih (i + 1) hlt (by omega); rw [e] at q; exact q)
      · refine x_iload_n C dX2_best_25 rfl ?_
        refine x_istore_n C (lo' := [(2, _), (3, _), (0, _), (1, _)]) dX2_best_26 (by decide) rfl ?_
        refine x_iinc C (v := nI (i + 1)) (lo' := [(3, _), (2, _), (0, _), (1, _)]) dX2_best_27 rfl (nI_inc _) (by decide) rfl ?_
        refine x_goto C (tgt := 4) dX2_best_30 (by decide) ?_
        first
          | (have z22 := Int32.not_le.mp c22; have e : mBestL M ld (i + 1) = nI i := if_pos z22; have q := ih (i + 1) hlt (by omega); rw [e] at q; exact q)
          | (have e : mBestL M ld (i + 1) = mBestL M ld i := if_neg (fun z => absurd c22 (Int32.not_le.mpr z)); have q := ih (i + 1) hlt (by omega); rw [e] at q; exact q)
set_option maxHeartbeats 1000000 in
set_option maxRecDepth 100000 in
theorem q2_best (l : Launch) (g : GT) (M : Mem) (h : mOK M) (h2 : mOK2 M) (ld : Int32) (hl : 1 ≤ ld ∧ ld ≤ 99) : CM l yX2_best cX2_best 4 (some .int) rmX2_best g M [.ref (ga g 29), .int ld] (some (.int (mBest M ld))) (M) := by
  refine CM.of (by decide) (Nat.le_of_ble_eq_true rfl) (fun X C hq => ?_)
  have C : Cx X g l cX2_best 4 RX2 (some .int) rmX2_best := C
  show V X g 0 0 0 [(0, .ref (ga g 29)), (1, .int ld)] [] M
  refine x_iconst C (v := 0) dX2_best_0 (by decide) ?_
  refine x_istore_n C (lo' := [(2, _), (0, _), (1, _)]) dX2_best_1 (by decide) rfl ?_
  refine x_iconst C (v := 1) dX2_best_2 (by decide) ?_
  refine x_istore_n C (lo' := [(3, _), (2, _), (0, _), (1, _)]) dX2_best_3 (by decide) rfl ?_
  have q := q2_best_lp h h2 hl C hq 32 1 (by decide) (by decide)
  rw [mBest1] at q
  exact x_lsub [0, 1, 2, 3] rfl q
end
section
/-! The model's public methods, walked. -/
theorem mOK.thr {M : Mem} {v : Int32} (h : mOK M) : mOK (wr M 29 0 v) := ⟨h.1, h.2.1, h.2.2.1, h.2.2.2⟩
theorem ix_lt {x c : Int32} (hc : 0 ≤ c) (h : 0 ≤ x ∧ x ≤ c - 1) : tn x < tn c := by
  have a := i_le.mp hc
  have b := i_le.mp h.1
  have d := i_le.mp h.2
  have z := Int32.toInt_lt c
  rw [i_c0] at a b
  rw [Int32.toInt_sub, i_c1, Int.bmod_eq_of_le (by omega) (by omega)] at d
  have e1 := i_tn h.1
  have e2 := i_tn hc
  omega
abbrev rmX2_isKnown : Room := { frames := 0, cells := 0, slots := 0, locals := 0 }
set_option maxHeartbeats 1000000 in
set_option maxRecDepth 100000 in
theorem q2_isKnown_t (l : Launch) (g : GT) (M : Mem) (c : Prop) [Decidable c] (hc : c) : CM l yX2_isKnown cX2_isKnown 2 (some .boolean) rmX2_isKnown g M [.ref (ga g 29), .int (b2i c)] (some (.int (b2i c))) (wr M 29 0 0) := by
  refine CM.of (by decide) (Nat.le_of_ble_eq_true rfl) (fun X C hq => ?_)
  have C : Cx X g l cX2_isKnown 2 RX2 (some .boolean) rmX2_isKnown := C
  show V X g 0 0 0 [(0, .ref (ga g 29)), (1, .int (b2i c))] [] M
  refine x_aload_n C dX2_isKnown_0 rfl ?_
  refine x_iload_n C dX2_isKnown_1 rfl ?_
  refine x_bif_eq C (tgt := 9) dX2_isKnown_2 (by decide) (fun c2 => absurd hc c2) (fun c2 => ?_)
  refine x_iconst C (v := 0) dX2_isKnown_5 (by decide) ?_
  refine x_goto C (tgt := 10) dX2_isKnown_6 (by decide) ?_
  refine x_putI C fl_X2_32 rfl (by decide) rfl dX2_isKnown_10 ?_
  refine x_iload_n C dX2_isKnown_13 rfl ?_
  exact x_zret C hq (b2i_nar _) ⟨by decide, by decide⟩ dX2_isKnown_14 (rfl) (rfl)
set_option maxHeartbeats 1000000 in
set_option maxRecDepth 100000 in
theorem q2_isKnown_f (l : Launch) (g : GT) (M : Mem) (c : Prop) [Decidable c] (hc : ¬ c) : CM l yX2_isKnown cX2_isKnown 2 (some .boolean) rmX2_isKnown g M [.ref (ga g 29), .int (b2i c)] (some (.int (b2i c))) (wr M 29 0 1) := by
  refine CM.of (by decide) (Nat.le_of_ble_eq_true rfl) (fun X C hq => ?_)
  have C : Cx X g l cX2_isKnown 2 RX2 (some .boolean) rmX2_isKnown := C
  show V X g 0 0 0 [(0, .ref (ga g 29)), (1, .int (b2i c))] [] M
  refine x_aload_n C dX2_isKnown_0 rfl ?_
  refine x_iload_n C dX2_isKnown_1 rfl ?_
  refine x_bif_eq C (tgt := 9) dX2_isKnown_2 (by decide) (fun c2 => ?_) (fun c2 => absurd c2 hc)
  refine x_iconst C (v := 1) dX2_isKnown_9 (by decide) ?_
  refine x_putI C fl_X2_32 rfl (by decide) rfl dX2_isKnown_10 ?_
  refine x_iload_n C dX2_isKnown_13 rfl ?_
  exact x_zret C hq (b2i_nar _) ⟨by decide, by decide⟩ dX2_isKnown_14 (rfl) (rfl)
abbrev rmX2_addWall : Room := { frames := 2, cells := 0, slots := 0, locals := 42 }
set_option maxHeartbeats 1000000 in
set_option maxRecDepth 100000 in
theorem q2_addWall_b1 (l : Launch) (g : GT) (M : Mem) (a e s : Int32) (hb : ¬ ((0 ≤ a ∧ a ≤ 31) ∧ (0 ≤ e ∧ e ≤ 1))) : CM l yX2_addWall cX2_addWall 4 (some .int) rmX2_addWall g M [.ref (ga g 29), .int a, .int e, .int s] (some (.int 0)) (wr (wr M 29 0 0) 29 0 1) := by
  refine CM.of (by decide) (Nat.le_of_ble_eq_true rfl) (fun X C hq => ?_)
  have C : Cx X g l cX2_addWall 4 RX2 (some .int) rmX2_addWall := C
  show V X g 0 0 0 [(0, .ref (ga g 29)), (1, .int a), (2, .int e), (3, .int s)] [] M
  refine x_aload_n C dX2_addWall_0 rfl ?_
  refine x_iconst C (v := 0) dX2_addWall_1 (by decide) ?_
  refine x_putI C fl_X2_32 rfl (by decide) rfl dX2_addWall_2 ?_
  refine x_iload_n C dX2_addWall_5 rfl ?_
  refine x_callS0r C (q2_isStone l g _ a) cd_X2_isStone kl_X2_58 (as := [_]) rfl rfl ⟨⟨by decide, by decide⟩, by decide, by decide⟩ ⟨rfl, rfl⟩ (Nat.le_of_ble_eq_true rfl) dX2_addWall_6 ?_
  refine x_bif_eq C (tgt := 19) dX2_addWall_9 (by decide) (fun c9 => ?_) (fun c9 => ?_)
  · refine x_aload_n C dX2_addWall_19 rfl ?_
    refine x_iconst C (v := 1) dX2_addWall_20 (by decide) ?_
    refine x_callV0r C (q2_no l g _ 1) cd_X2_no kl_X2_92 ci2 rfl (by decide) (as := [_]) rfl rfl ⟨⟨by decide, by decide⟩, by decide, by decide⟩ ⟨rfl, rfl⟩ (Nat.le_of_ble_eq_true rfl) dX2_addWall_21 ?_
    exact x_iret C hq ⟨by decide, by decide⟩ dX2_addWall_24 (rfl) (rfl)
  · refine x_iload_n C dX2_addWall_12 rfl ?_
    refine x_callS0r C (q2_isEcho l g _ e) cd_X2_isEcho kl_X2_89 (as := [_]) rfl rfl ⟨⟨by decide, by decide⟩, by decide, by decide⟩ ⟨rfl, rfl⟩ (Nat.le_of_ble_eq_true rfl) dX2_addWall_13 ?_
    refine x_bif_ne C (tgt := 25) dX2_addWall_16 (by decide) (fun c16 => absurd ⟨c9, c16⟩ hb) (fun c16 => ?_)
    refine x_aload_n C dX2_addWall_19 rfl ?_
    refine x_iconst C (v := 1) dX2_addWall_20 (by decide) ?_
    refine x_callV0r C (q2_no l g _ 1) cd_X2_no kl_X2_92 ci2 rfl (by decide) (as := [_]) rfl rfl ⟨⟨by decide, by decide⟩, by decide, by decide⟩ ⟨rfl, rfl⟩ (Nat.le_of_ble_eq_true rfl) dX2_addWall_21 ?_
    exact x_iret C hq ⟨by decide, by decide⟩ dX2_addWall_24 (rfl) (rfl)
set_option maxHeartbeats 1000000 in
set_option maxRecDepth 100000 in
theorem q2_addWall_b2 (l : Launch) (g : GT) (M : Mem) (a e s : Int32) (ha : (0 ≤ a ∧ a ≤ 31)) (he : (0 ≤ e ∧ e ≤ 1)) (hs : ¬ (0 ≤ s ∧ s ≤ 5)) : CM l yX2_addWall cX2_addWall 4 (some .int) rmX2_addWall g M [.ref (ga g 29), .int a, .int e, .int s] (some (.int 0)) (wr (wr M 29 0 0) 29 0 2) := by
  refine CM.of (by decide) (Nat.le_of_ble_eq_true rfl) (fun X C hq => ?_)
  have C : Cx X g l cX2_addWall 4 RX2 (some .int) rmX2_addWall := C
  show V X g 0 0 0 [(0, .ref (ga g 29)), (1, .int a), (2, .int e), (3, .int s)] [] M
  refine x_aload_n C dX2_addWall_0 rfl ?_
  refine x_iconst C (v := 0) dX2_addWall_1 (by decide) ?_
  refine x_putI C fl_X2_32 rfl (by decide) rfl dX2_addWall_2 ?_
  refine x_iload_n C dX2_addWall_5 rfl ?_
  refine x_callS0r C (q2_isStone l g _ a) cd_X2_isStone kl_X2_58 (as := [_]) rfl rfl ⟨⟨by decide, by decide⟩, by decide, by decide⟩ ⟨rfl, rfl⟩ (Nat.le_of_ble_eq_true rfl) dX2_addWall_6 ?_
  refine x_bif_eq C (tgt := 19) dX2_addWall_9 (by decide) (fun c9 => absurd ha c9) (fun c9 => ?_)
  refine x_iload_n C dX2_addWall_12 rfl ?_
  refine x_callS0r C (q2_isEcho l g _ e) cd_X2_isEcho kl_X2_89 (as := [_]) rfl rfl ⟨⟨by decide, by decide⟩, by decide, by decide⟩ ⟨rfl, rfl⟩ (Nat.le_of_ble_eq_true rfl) dX2_addWall_13 ?_
  refine x_bif_ne C (tgt := 25) dX2_addWall_16 (by decide) (fun c16 => ?_) (fun c16 => absurd he c16)
  refine x_iload_n C dX2_addWall_25 rfl ?_
  refine x_iconst C (v := 0) dX2_addWall_26 (by decide) ?_
  refine x_iconst C (v := 5) dX2_addWall_27 (by decide) ?_
  refine x_callS0r C (q2_isIn l g _ s 0 5) cd_X2_isIn kl_X2_36 (as := [_, _, _]) rfl rfl ⟨⟨by decide, by decide⟩, by decide, by decide⟩ ⟨rfl, rfl⟩ (Nat.le_of_ble_eq_true rfl) dX2_addWall_28 ?_
  refine x_bif_ne C (tgt := 40) dX2_addWall_31 (by decide) (fun c31 => absurd c31 hs) (fun c31 => ?_)
  refine x_aload_n C dX2_addWall_34 rfl ?_
  refine x_iconst C (v := 2) dX2_addWall_35 (by decide) ?_
  refine x_callV0r C (q2_no l g _ 2) cd_X2_no kl_X2_92 ci2 rfl (by decide) (as := [_]) rfl rfl ⟨⟨by decide, by decide⟩, by decide, by decide⟩ ⟨rfl, rfl⟩ (Nat.le_of_ble_eq_true rfl) dX2_addWall_36 ?_
  exact x_iret C hq ⟨by decide, by decide⟩ dX2_addWall_39 (rfl) (rfl)
set_option maxHeartbeats 1000000 in
set_option maxRecDepth 100000 in
theorem q2_addWall_b3 (l : Launch) (g : GT) (M : Mem) (h : mOK M) (a e s : Int32) (ha : (0 ≤ a ∧ a ≤ 31)) (he : (0 ≤ e ∧ e ≤ 1)) (hs : 0 ≤ s ∧ s ≤ 5) (hb : M 29 1 = 10 ∨ M 31 (tn a) ≠ -1) : CM l yX2_addWall cX2_addWall 4 (some .int) rmX2_addWall g M [.ref (ga g 29), .int a, .int e, .int s] (some (.int 0)) (wr (wr M 29 0 0) 29 0 3) := by
  refine CM.of (by decide) (Nat.le_of_ble_eq_true rfl) (fun X C hq => ?_)
  have C : Cx X g l cX2_addWall 4 RX2 (some .int) rmX2_addWall := C
  show V X g 0 0 0 [(0, .ref (ga g 29)), (1, .int a), (2, .int e), (3, .int s)] [] M
  refine x_aload_n C dX2_addWall_0 rfl ?_
  refine x_iconst C (v := 0) dX2_addWall_1 (by decide) ?_
  refine x_putI C fl_X2_32 rfl (by decide) rfl dX2_addWall_2 ?_
  refine x_iload_n C dX2_addWall_5 rfl ?_
  refine x_callS0r C (q2_isStone l g _ a) cd_X2_isStone kl_X2_58 (as := [_]) rfl rfl ⟨⟨by decide, by decide⟩, by decide, by decide⟩ ⟨rfl, rfl⟩ (Nat.le_of_ble_eq_true rfl) dX2_addWall_6 ?_
  refine x_bif_eq C (tgt := 19) dX2_addWall_9 (by decide) (fun c9 => absurd ha c9) (fun c9 => ?_)
  refine x_iload_n C dX2_addWall_12 rfl ?_
  refine x_callS0r C (q2_isEcho l g _ e) cd_X2_isEcho kl_X2_89 (as := [_]) rfl rfl ⟨⟨by decide, by decide⟩, by decide, by decide⟩ ⟨rfl, rfl⟩ (Nat.le_of_ble_eq_true rfl) dX2_addWall_13 ?_
  refine x_bif_ne C (tgt := 25) dX2_addWall_16 (by decide) (fun c16 => ?_) (fun c16 => absurd he c16)
  refine x_iload_n C dX2_addWall_25 rfl ?_
  refine x_iconst C (v := 0) dX2_addWall_26 (by decide) ?_
  refine x_iconst C (v := 5) dX2_addWall_27 (by decide) ?_
  refine x_callS0r C (q2_isIn l g _ s 0 5) cd_X2_isIn kl_X2_36 (as := [_, _, _]) rfl rfl ⟨⟨by decide, by decide⟩, by decide, by decide⟩ ⟨rfl, rfl⟩ (Nat.le_of_ble_eq_true rfl) dX2_addWall_28 ?_
  refine x_bif_ne C (tgt := 40) dX2_addWall_31 (by decide) (fun c31 => ?_) (fun c31 => absurd hs c31)
  refine x_aload_n C dX2_addWall_40 rfl ?_
  refine x_getI C fl_X2_40 rfl (by decide) rfl dX2_addWall_41 ?_
  refine x_bipush C (v := 10) dX2_addWall_44 (by decide) ?_
  refine x_icmp_eq C (tgt := 59) dX2_addWall_46 (by decide) (fun c46 => ?_) (fun c46 => ?_)
  · refine x_aload_n C dX2_addWall_59 rfl ?_
    refine x_iconst C (v := 3) dX2_addWall_60 (by decide) ?_
    refine x_callV0r C (q2_no l g _ 3) cd_X2_no kl_X2_92 ci2 rfl (by decide) (as := [_]) rfl rfl ⟨⟨by decide, by decide⟩, by decide, by decide⟩ ⟨rfl, rfl⟩ (Nat.le_of_ble_eq_true rfl) dX2_addWall_61 ?_
    exact x_iret C hq ⟨by decide, by decide⟩ dX2_addWall_64 (rfl) (rfl)
  · refine x_aload_n C dX2_addWall_49 rfl ?_
    refine x_getR C fl_X2_13 rfl (by decide) rfl dX2_addWall_50 ?_
    refine x_iload_n C dX2_addWall_53 rfl ?_
    refine x_iald C (n := 32) rfl (by decide) rfl (nI_tn ha.1) (tn31 ha) dX2_addWall_54 ?_
    refine x_iconst C (v := (-1)) dX2_addWall_55 (by decide) ?_
    refine x_icmp_eq C (tgt := 65) dX2_addWall_56 (by decide) (fun c56 => absurd c56 (hb.resolve_left c46)) (fun c56 => ?_)
    refine x_aload_n C dX2_addWall_59 rfl ?_
    refine x_iconst C (v := 3) dX2_addWall_60 (by decide) ?_
    refine x_callV0r C (q2_no l g _ 3) cd_X2_no kl_X2_92 ci2 rfl (by decide) (as := [_]) rfl rfl ⟨⟨by decide, by decide⟩, by decide, by decide⟩ ⟨rfl, rfl⟩ (Nat.le_of_ble_eq_true rfl) dX2_addWall_61 ?_
    exact x_iret C hq ⟨by decide, by decide⟩ dX2_addWall_64 (rfl) (rfl)
def mAW (M : Mem) (a e s : Int32) : Mem :=
  wr (wr (wr (wr (wr (wr M 29 0 0) 31 (tn a) (M 29 1)) 32 (tn (M 29 1)) a) 33 (tn (M 29 1)) s) 34 (7 + tn (M 29 1)) e) 29 1 (M 29 1 + 1)
set_option maxHeartbeats 1000000 in
set_option maxRecDepth 100000 in
theorem q2_addWall (l : Launch) (g : GT) (M : Mem) (h : mOK M) (a e s : Int32) (ha : (0 ≤ a ∧ a ≤ 31)) (he : (0 ≤ e ∧ e ≤ 1)) (hs : 0 ≤ s ∧ s ≤ 5) (hw : ¬ M 29 1 = 10) (hw2 : M 31 (tn a) = -1) : CM l yX2_addWall cX2_addWall 4 (some .int) rmX2_addWall g M [.ref (ga g 29), .int a, .int e, .int s] (some (.int (M 29 1 + 1 - 1))) (mAW M a e s) := by
  refine CM.of (by decide) (Nat.le_of_ble_eq_true rfl) (fun X C hq => ?_)
  have C : Cx X g l cX2_addWall 4 RX2 (some .int) rmX2_addWall := C
  show V X g 0 0 0 [(0, .ref (ga g 29)), (1, .int a), (2, .int e), (3, .int s)] [] M
  have hw9 : tn (M 29 1) < 10 := tn_lt (n := 10) h.1.1 (by decide) (i_lt.mpr (by
      have z := i_le.mp h.1.2
      have z2 : (M 29 1).toInt ≠ 10 := fun q => hw (i_eq.mpr q)
      have z3 : (10 : Int32).toInt = 10 := rfl
      show (M 29 1).toInt < (10 : Int32).toInt
      omega))
  refine x_aload_n C dX2_addWall_0 rfl ?_
  refine x_iconst C (v := 0) dX2_addWall_1 (by decide) ?_
  refine x_putI C fl_X2_32 rfl (by decide) rfl dX2_addWall_2 ?_
  refine x_iload_n C dX2_addWall_5 rfl ?_
  refine x_callS0r C (q2_isStone l g _ a) cd_X2_isStone kl_X2_58 (as := [_]) rfl rfl ⟨⟨by decide, by decide⟩, by decide, by decide⟩ ⟨rfl, rfl⟩ (Nat.le_of_ble_eq_true rfl) dX2_addWall_6 ?_
  refine x_bif_eq C (tgt := 19) dX2_addWall_9 (by decide) (fun c9 => absurd ha c9) (fun c9 => ?_)
  refine x_iload_n C dX2_addWall_12 rfl ?_
  refine x_callS0r C (q2_isEcho l g _ e) cd_X2_isEcho kl_X2_89 (as := [_]) rfl rfl ⟨⟨by decide, by decide⟩, by decide, by decide⟩ ⟨rfl, rfl⟩ (Nat.le_of_ble_eq_true rfl) dX2_addWall_13 ?_
  refine x_bif_ne C (tgt := 25) dX2_addWall_16 (by decide) (fun c16 => ?_) (fun c16 => absurd he c16)
  refine x_iload_n C dX2_addWall_25 rfl ?_
  refine x_iconst C (v := 0) dX2_addWall_26 (by decide) ?_
  refine x_iconst C (v := 5) dX2_addWall_27 (by decide) ?_
  refine x_callS0r C (q2_isIn l g _ s 0 5) cd_X2_isIn kl_X2_36 (as := [_, _, _]) rfl rfl ⟨⟨by decide, by decide⟩, by decide, by decide⟩ ⟨rfl, rfl⟩ (Nat.le_of_ble_eq_true rfl) dX2_addWall_28 ?_
  refine x_bif_ne C (tgt := 40) dX2_addWall_31 (by decide) (fun c31 => ?_) (fun c31 => absurd hs c31)
  refine x_aload_n C dX2_addWall_40 rfl ?_
  refine x_getI C fl_X2_40 rfl (by decide) rfl dX2_addWall_41 ?_
  refine x_bipush C (v := 10) dX2_addWall_44 (by decide) ?_
  refine x_icmp_eq C (tgt := 59) dX2_addWall_46 (by decide) (fun c46 => absurd c46 hw) (fun c46 => ?_)
  refine x_aload_n C dX2_addWall_49 rfl ?_
  refine x_getR C fl_X2_13 rfl (by decide) rfl dX2_addWall_50 ?_
  refine x_iload_n C dX2_addWall_53 rfl ?_
  refine x_iald C (n := 32) rfl (by decide) rfl (nI_tn ha.1) (tn31 ha) dX2_addWall_54 ?_
  refine x_iconst C (v := (-1)) dX2_addWall_55 (by decide) ?_
  refine x_icmp_eq C (tgt := 65) dX2_addWall_56 (by decide) (fun c56 => ?_) (fun c56 => absurd hw2 c56)
  refine x_aload_n C dX2_addWall_65 rfl ?_
  refine x_getR C fl_X2_13 rfl (by decide) rfl dX2_addWall_66 ?_
  refine x_iload_n C dX2_addWall_69 rfl ?_
  refine x_aload_n C dX2_addWall_70 rfl ?_
  refine x_getI C fl_X2_40 rfl (by decide) rfl dX2_addWall_71 ?_
  refine x_iast C (n := 32) rfl (by decide) rfl (nI_tn ha.1) (tn31 ha) dX2_addWall_74 ?_
  refine x_aload_n C dX2_addWall_75 rfl ?_
  refine x_getR C fl_X2_16 rfl (by decide) rfl dX2_addWall_76 ?_
  refine x_aload_n C dX2_addWall_79 rfl ?_
  refine x_getI C fl_X2_40 rfl (by decide) rfl dX2_addWall_80 ?_
  refine x_iload_n C dX2_addWall_83 rfl ?_
  refine x_iast C (n := 10) rfl (by decide) rfl (nI_tn h.1.1) (hw9) dX2_addWall_84 ?_
  refine x_aload_n C dX2_addWall_85 rfl ?_
  refine x_getR C fl_X2_19 rfl (by decide) rfl dX2_addWall_86 ?_
  refine x_aload_n C dX2_addWall_89 rfl ?_
  refine x_getI C fl_X2_40 rfl (by decide) rfl dX2_addWall_90 ?_
  refine x_iload_n C dX2_addWall_93 rfl ?_
  refine x_iast C (n := 10) rfl (by decide) rfl (nI_tn h.1.1) (hw9) dX2_addWall_94 ?_
  refine x_aload_n C dX2_addWall_95 rfl ?_
  refine x_getR C fl_X2_22 rfl (by decide) rfl dX2_addWall_96 ?_
  refine x_bipush C (v := 7) dX2_addWall_99 (by decide) ?_
  refine x_aload_n C dX2_addWall_101 rfl ?_
  refine x_getI C fl_X2_40 rfl (by decide) rfl dX2_addWall_102 ?_
  refine x_iadd C dX2_addWall_105 ?_
  refine x_iload_n C dX2_addWall_106 rfl ?_
  refine x_iast C (n := 187) rfl (by decide) rfl (ix_t 7 h.1.1) (show 7 + tn (M 29 1) < 187 by omega) dX2_addWall_107 ?_
  refine x_aload_n C dX2_addWall_108 rfl ?_
  refine x_dup C dX2_addWall_109 rfl ?_
  refine x_getI C fl_X2_40 rfl (by decide) rfl dX2_addWall_110 ?_
  refine x_iconst C (v := 1) dX2_addWall_113 (by decide) ?_
  refine x_iadd C dX2_addWall_114 ?_
  refine x_putI C fl_X2_40 rfl (by decide) rfl dX2_addWall_115 ?_
  refine x_aload_n C dX2_addWall_118 rfl ?_
  refine x_getI C fl_X2_40 rfl (by decide) rfl dX2_addWall_119 ?_
  refine x_iconst C (v := 1) dX2_addWall_122 (by decide) ?_
  refine x_isub C dX2_addWall_123 ?_
  exact x_iret C hq ⟨by decide, by decide⟩ dX2_addWall_124 (rfl) (rfl)
abbrev rmX2_hand : Room := { frames := 2, cells := 0, slots := 0, locals := 43 }
set_option maxHeartbeats 1000000 in
set_option maxRecDepth 100000 in
theorem q2_hand_b (l : Launch) (g : GT) (M : Mem) (w : Int32) (hb : ¬ (0 ≤ w ∧ w ≤ M 29 1 - 1)) : CM l yX2_hand cX2_hand 2 (some .int) rmX2_hand g M [.ref (ga g 29), .int w] (some (.int 0)) (wr (wr M 29 0 0) 29 0 1) := by
  refine CM.of (by decide) (Nat.le_of_ble_eq_true rfl) (fun X C hq => ?_)
  have C : Cx X g l cX2_hand 2 RX2 (some .int) rmX2_hand := C
  show V X g 0 0 0 [(0, .ref (ga g 29)), (1, .int w)] [] M
  refine x_aload_n C dX2_hand_0 rfl ?_
  refine x_iconst C (v := 0) dX2_hand_1 (by decide) ?_
  refine x_putI C fl_X2_32 rfl (by decide) rfl dX2_hand_2 ?_
  refine x_aload_n C dX2_hand_5 rfl ?_
  refine x_iload_n C dX2_hand_6 rfl ?_
  refine x_callV0r C (q2_isWall l g _ w) cd_X2_isWall kl_X2_95 ci2 rfl (by decide) (as := [_]) rfl rfl ⟨⟨by decide, by decide⟩, by decide, by decide⟩ ⟨rfl, rfl⟩ (Nat.le_of_ble_eq_true rfl) dX2_hand_7 ?_
  refine x_bif_ne C (tgt := 19) dX2_hand_10 (by decide) (fun c10 => absurd c10 hb) (fun c10 => ?_)
  refine x_aload_n C dX2_hand_13 rfl ?_
  refine x_iconst C (v := 1) dX2_hand_14 (by decide) ?_
  refine x_callV0r C (q2_no l g _ 1) cd_X2_no kl_X2_92 ci2 rfl (by decide) (as := [_]) rfl rfl ⟨⟨by decide, by decide⟩, by decide, by decide⟩ ⟨rfl, rfl⟩ (Nat.le_of_ble_eq_true rfl) dX2_hand_15 ?_
  exact x_iret C hq ⟨by decide, by decide⟩ dX2_hand_18 (rfl) (rfl)
set_option maxHeartbeats 1000000 in
set_option maxRecDepth 100000 in
theorem q2_hand (l : Launch) (g : GT) (M : Mem) (h : mOK M) (w : Int32) (hw : (0 ≤ w ∧ w ≤ M 29 1 - 1)) : CM l yX2_hand cX2_hand 2 (some .int) rmX2_hand g M [.ref (ga g 29), .int w] (some (.int (1 - M 34 (7 + tn w)))) (wr (wr M 29 0 0) 34 (7 + tn w) (1 - M 34 (7 + tn w))) := by
  refine CM.of (by decide) (Nat.le_of_ble_eq_true rfl) (fun X C hq => ?_)
  have C : Cx X g l cX2_hand 2 RX2 (some .int) rmX2_hand := C
  show V X g 0 0 0 [(0, .ref (ga g 29)), (1, .int w)] [] M
  have hw9 : 7 + tn w < 187 := by have := ix_lt h.1.1 hw; have := h.ws; unfold mWs at this; omega
  refine x_aload_n C dX2_hand_0 rfl ?_
  refine x_iconst C (v := 0) dX2_hand_1 (by decide) ?_
  refine x_putI C fl_X2_32 rfl (by decide) rfl dX2_hand_2 ?_
  refine x_aload_n C dX2_hand_5 rfl ?_
  refine x_iload_n C dX2_hand_6 rfl ?_
  refine x_callV0r C (q2_isWall l g _ w) cd_X2_isWall kl_X2_95 ci2 rfl (by decide) (as := [_]) rfl rfl ⟨⟨by decide, by decide⟩, by decide, by decide⟩ ⟨rfl, rfl⟩ (Nat.le_of_ble_eq_true rfl) dX2_hand_7 ?_
  refine x_bif_ne C (tgt := 19) dX2_hand_10 (by decide) (fun c10 => ?_) (fun c10 => absurd hw c10)
  refine x_aload_n C dX2_hand_19 rfl ?_
  refine x_getR C fl_X2_22 rfl (by decide) rfl dX2_hand_20 ?_
  refine x_bipush C (v := 7) dX2_hand_23 (by decide) ?_
  refine x_iload_n C dX2_hand_25 rfl ?_
  refine x_iadd C dX2_hand_26 ?_
  refine x_iconst C (v := 1) dX2_hand_27 (by decide) ?_
  refine x_aload_n C dX2_hand_28 rfl ?_
  refine x_getR C fl_X2_22 rfl (by decide) rfl dX2_hand_29 ?_
  refine x_bipush C (v := 7) dX2_hand_32 (by decide) ?_
  refine x_iload_n C dX2_hand_34 rfl ?_
  refine x_iadd C dX2_hand_35 ?_
  refine x_iald C (n := 187) rfl (by decide) rfl (ix_t 7 hw.1) (hw9) dX2_hand_36 ?_
  refine x_isub C dX2_hand_37 ?_
  refine x_iast C (n := 187) rfl (by decide) rfl (ix_t 7 hw.1) (hw9) dX2_hand_38 ?_
  refine x_aload_n C dX2_hand_39 rfl ?_
  refine x_getR C fl_X2_22 rfl (by decide) rfl dX2_hand_40 ?_
  refine x_bipush C (v := 7) dX2_hand_43 (by decide) ?_
  refine x_iload_n C dX2_hand_45 rfl ?_
  refine x_iadd C dX2_hand_46 ?_
  refine x_iald C (n := 187) rfl (by decide) rfl (ix_t 7 hw.1) (hw9) dX2_hand_47 ?_
  exact x_iret C hq ⟨by decide, by decide⟩ dX2_hand_48 (by rw [wr_eq]; rfl) (rfl)
abbrev rmX2_setSnow : Room := { frames := 2, cells := 0, slots := 0, locals := 42 }
set_option maxHeartbeats 1000000 in
set_option maxRecDepth 100000 in
theorem q2_setSnow_b1 (l : Launch) (g : GT) (M : Mem) (a s : Int32) (hb : ¬ (0 ≤ a ∧ a ≤ 31)) : CM l yX2_setSnow cX2_setSnow 4 (some .int) rmX2_setSnow g M [.ref (ga g 29), .int a, .int s] (some (.int 0)) (wr (wr M 29 0 0) 29 0 1) := by
  refine CM.of (by decide) (Nat.le_of_ble_eq_true rfl) (fun X C hq => ?_)
  have C : Cx X g l cX2_setSnow 4 RX2 (some .int) rmX2_setSnow := C
  show V X g 0 0 0 [(0, .ref (ga g 29)), (1, .int a), (2, .int s)] [] M
  refine x_aload_n C dX2_setSnow_0 rfl ?_
  refine x_iconst C (v := 0) dX2_setSnow_1 (by decide) ?_
  refine x_putI C fl_X2_32 rfl (by decide) rfl dX2_setSnow_2 ?_
  refine x_iload_n C dX2_setSnow_5 rfl ?_
  refine x_callS0r C (q2_isStone l g _ a) cd_X2_isStone kl_X2_58 (as := [_]) rfl rfl ⟨⟨by decide, by decide⟩, by decide, by decide⟩ ⟨rfl, rfl⟩ (Nat.le_of_ble_eq_true rfl) dX2_setSnow_6 ?_
  refine x_bif_ne C (tgt := 18) dX2_setSnow_9 (by decide) (fun c9 => absurd c9 hb) (fun c9 => ?_)
  refine x_aload_n C dX2_setSnow_12 rfl ?_
  refine x_iconst C (v := 1) dX2_setSnow_13 (by decide) ?_
  refine x_callV0r C (q2_no l g _ 1) cd_X2_no kl_X2_92 ci2 rfl (by decide) (as := [_]) rfl rfl ⟨⟨by decide, by decide⟩, by decide, by decide⟩ ⟨rfl, rfl⟩ (Nat.le_of_ble_eq_true rfl) dX2_setSnow_14 ?_
  exact x_iret C hq ⟨by decide, by decide⟩ dX2_setSnow_17 (rfl) (rfl)
set_option maxHeartbeats 1000000 in
set_option maxRecDepth 100000 in
theorem q2_setSnow_b2 (l : Launch) (g : GT) (M : Mem) (a s : Int32) (ha : (0 ≤ a ∧ a ≤ 31)) (hs : ¬ (0 ≤ s ∧ s ≤ 5)) : CM l yX2_setSnow cX2_setSnow 4 (some .int) rmX2_setSnow g M [.ref (ga g 29), .int a, .int s] (some (.int 0)) (wr (wr M 29 0 0) 29 0 2) := by
  refine CM.of (by decide) (Nat.le_of_ble_eq_true rfl) (fun X C hq => ?_)
  have C : Cx X g l cX2_setSnow 4 RX2 (some .int) rmX2_setSnow := C
  show V X g 0 0 0 [(0, .ref (ga g 29)), (1, .int a), (2, .int s)] [] M
  refine x_aload_n C dX2_setSnow_0 rfl ?_
  refine x_iconst C (v := 0) dX2_setSnow_1 (by decide) ?_
  refine x_putI C fl_X2_32 rfl (by decide) rfl dX2_setSnow_2 ?_
  refine x_iload_n C dX2_setSnow_5 rfl ?_
  refine x_callS0r C (q2_isStone l g _ a) cd_X2_isStone kl_X2_58 (as := [_]) rfl rfl ⟨⟨by decide, by decide⟩, by decide, by decide⟩ ⟨rfl, rfl⟩ (Nat.le_of_ble_eq_true rfl) dX2_setSnow_6 ?_
  refine x_bif_ne C (tgt := 18) dX2_setSnow_9 (by decide) (fun c9 => ?_) (fun c9 => absurd ha c9)
  refine x_iload_n C dX2_setSnow_18 rfl ?_
  refine x_iconst C (v := 0) dX2_setSnow_19 (by decide) ?_
  refine x_iconst C (v := 5) dX2_setSnow_20 (by decide) ?_
  refine x_callS0r C (q2_isIn l g _ s 0 5) cd_X2_isIn kl_X2_36 (as := [_, _, _]) rfl rfl ⟨⟨by decide, by decide⟩, by decide, by decide⟩ ⟨rfl, rfl⟩ (Nat.le_of_ble_eq_true rfl) dX2_setSnow_21 ?_
  refine x_bif_ne C (tgt := 33) dX2_setSnow_24 (by decide) (fun c24 => absurd c24 hs) (fun c24 => ?_)
  refine x_aload_n C dX2_setSnow_27 rfl ?_
  refine x_iconst C (v := 2) dX2_setSnow_28 (by decide) ?_
  refine x_callV0r C (q2_no l g _ 2) cd_X2_no kl_X2_92 ci2 rfl (by decide) (as := [_]) rfl rfl ⟨⟨by decide, by decide⟩, by decide, by decide⟩ ⟨rfl, rfl⟩ (Nat.le_of_ble_eq_true rfl) dX2_setSnow_29 ?_
  exact x_iret C hq ⟨by decide, by decide⟩ dX2_setSnow_32 (rfl) (rfl)
set_option maxHeartbeats 1000000 in
set_option maxRecDepth 100000 in
theorem q2_setSnow (l : Launch) (g : GT) (M : Mem) (a s : Int32) (ha : (0 ≤ a ∧ a ≤ 31)) (hs : 0 ≤ s ∧ s ≤ 5) : CM l yX2_setSnow cX2_setSnow 4 (some .int) rmX2_setSnow g M [.ref (ga g 29), .int a, .int s] (some (.int (M 30 (tn a)))) (wr (wr M 29 0 0) 30 (tn a) s) := by
  refine CM.of (by decide) (Nat.le_of_ble_eq_true rfl) (fun X C hq => ?_)
  have C : Cx X g l cX2_setSnow 4 RX2 (some .int) rmX2_setSnow := C
  show V X g 0 0 0 [(0, .ref (ga g 29)), (1, .int a), (2, .int s)] [] M
  refine x_aload_n C dX2_setSnow_0 rfl ?_
  refine x_iconst C (v := 0) dX2_setSnow_1 (by decide) ?_
  refine x_putI C fl_X2_32 rfl (by decide) rfl dX2_setSnow_2 ?_
  refine x_iload_n C dX2_setSnow_5 rfl ?_
  refine x_callS0r C (q2_isStone l g _ a) cd_X2_isStone kl_X2_58 (as := [_]) rfl rfl ⟨⟨by decide, by decide⟩, by decide, by decide⟩ ⟨rfl, rfl⟩ (Nat.le_of_ble_eq_true rfl) dX2_setSnow_6 ?_
  refine x_bif_ne C (tgt := 18) dX2_setSnow_9 (by decide) (fun c9 => ?_) (fun c9 => absurd ha c9)
  refine x_iload_n C dX2_setSnow_18 rfl ?_
  refine x_iconst C (v := 0) dX2_setSnow_19 (by decide) ?_
  refine x_iconst C (v := 5) dX2_setSnow_20 (by decide) ?_
  refine x_callS0r C (q2_isIn l g _ s 0 5) cd_X2_isIn kl_X2_36 (as := [_, _, _]) rfl rfl ⟨⟨by decide, by decide⟩, by decide, by decide⟩ ⟨rfl, rfl⟩ (Nat.le_of_ble_eq_true rfl) dX2_setSnow_21 ?_
  refine x_bif_ne C (tgt := 33) dX2_setSnow_24 (by decide) (fun c24 => ?_) (fun c24 => absurd hs c24)
  refine x_aload_n C dX2_setSnow_33 rfl ?_
  refine x_getR C fl_X2_9 rfl (by decide) rfl dX2_setSnow_34 ?_
  refine x_iload_n C dX2_setSnow_37 rfl ?_
  refine x_iald C (n := 32) rfl (by decide) rfl (nI_tn ha.1) (tn31 ha) dX2_setSnow_38 ?_
  refine x_istore_n C (lo' := [(3, _), (0, _), (1, _), (2, _)]) dX2_setSnow_39 (by decide) rfl ?_
  refine x_aload_n C dX2_setSnow_40 rfl ?_
  refine x_getR C fl_X2_9 rfl (by decide) rfl dX2_setSnow_41 ?_
  refine x_iload_n C dX2_setSnow_44 rfl ?_
  refine x_iload_n C dX2_setSnow_45 rfl ?_
  refine x_iast C (n := 32) rfl (by decide) rfl (nI_tn ha.1) (tn31 ha) dX2_setSnow_46 ?_
  refine x_iload_n C dX2_setSnow_47 rfl ?_
  exact x_iret C hq ⟨by decide, by decide⟩ dX2_setSnow_48 (rfl) (rfl)
abbrev rmX2_shout : Room := { frames := 2, cells := 0, slots := 0, locals := 44 }
set_option maxHeartbeats 1000000 in
set_option maxRecDepth 100000 in
theorem q2_shout_b1 (l : Launch) (g : GT) (M : Mem) (a r ld : Int32) (hb : ¬ (0 ≤ a ∧ a ≤ 31)) : CM l yX2_shout cX2_shout 4 (some .int) rmX2_shout g M [.ref (ga g 29), .int a, .int r, .int ld] (some (.int 0)) (wr (wr M 29 0 0) 29 0 1) := by
  refine CM.of (by decide) (Nat.le_of_ble_eq_true rfl) (fun X C hq => ?_)
  have C : Cx X g l cX2_shout 4 RX2 (some .int) rmX2_shout := C
  show V X g 0 0 0 [(0, .ref (ga g 29)), (1, .int a), (2, .int r), (3, .int ld)] [] M
  refine x_aload_n C dX2_shout_0 rfl ?_
  refine x_iconst C (v := 0) dX2_shout_1 (by decide) ?_
  refine x_putI C fl_X2_32 rfl (by decide) rfl dX2_shout_2 ?_
  refine x_iload_n C dX2_shout_5 rfl ?_
  refine x_callS0r C (q2_isStone l g _ a) cd_X2_isStone kl_X2_58 (as := [_]) rfl rfl ⟨⟨by decide, by decide⟩, by decide, by decide⟩ ⟨rfl, rfl⟩ (Nat.le_of_ble_eq_true rfl) dX2_shout_6 ?_
  refine x_bif_ne C (tgt := 18) dX2_shout_9 (by decide) (fun c9 => absurd c9 hb) (fun c9 => ?_)
  refine x_aload_n C dX2_shout_12 rfl ?_
  refine x_iconst C (v := 1) dX2_shout_13 (by decide) ?_
  refine x_callV0r C (q2_no l g _ 1) cd_X2_no kl_X2_92 ci2 rfl (by decide) (as := [_]) rfl rfl ⟨⟨by decide, by decide⟩, by decide, by decide⟩ ⟨rfl, rfl⟩ (Nat.le_of_ble_eq_true rfl) dX2_shout_14 ?_
  exact x_iret C hq ⟨by decide, by decide⟩ dX2_shout_17 (rfl) (rfl)
set_option maxHeartbeats 1000000 in
set_option maxRecDepth 100000 in
theorem q2_shout_b2 (l : Launch) (g : GT) (M : Mem) (a r ld : Int32) (ha : (0 ≤ a ∧ a ≤ 31)) (hb : ¬ (1 ≤ ld ∧ ld ≤ 99)) : CM l yX2_shout cX2_shout 4 (some .int) rmX2_shout g M [.ref (ga g 29), .int a, .int r, .int ld] (some (.int 0)) (wr (wr M 29 0 0) 29 0 2) := by
  refine CM.of (by decide) (Nat.le_of_ble_eq_true rfl) (fun X C hq => ?_)
  have C : Cx X g l cX2_shout 4 RX2 (some .int) rmX2_shout := C
  show V X g 0 0 0 [(0, .ref (ga g 29)), (1, .int a), (2, .int r), (3, .int ld)] [] M
  refine x_aload_n C dX2_shout_0 rfl ?_
  refine x_iconst C (v := 0) dX2_shout_1 (by decide) ?_
  refine x_putI C fl_X2_32 rfl (by decide) rfl dX2_shout_2 ?_
  refine x_iload_n C dX2_shout_5 rfl ?_
  refine x_callS0r C (q2_isStone l g _ a) cd_X2_isStone kl_X2_58 (as := [_]) rfl rfl ⟨⟨by decide, by decide⟩, by decide, by decide⟩ ⟨rfl, rfl⟩ (Nat.le_of_ble_eq_true rfl) dX2_shout_6 ?_
  refine x_bif_ne C (tgt := 18) dX2_shout_9 (by decide) (fun c9 => ?_) (fun c9 => absurd ha c9)
  refine x_iload_n C dX2_shout_18 rfl ?_
  refine x_iconst C (v := 1) dX2_shout_19 (by decide) ?_
  refine x_bipush C (v := 99) dX2_shout_20 (by decide) ?_
  refine x_callS0r C (q2_isIn l g _ ld 1 99) cd_X2_isIn kl_X2_36 (as := [_, _, _]) rfl rfl ⟨⟨by decide, by decide⟩, by decide, by decide⟩ ⟨rfl, rfl⟩ (Nat.le_of_ble_eq_true rfl) dX2_shout_22 ?_
  refine x_bif_ne C (tgt := 34) dX2_shout_25 (by decide) (fun c25 => absurd c25 hb) (fun c25 => ?_)
  refine x_aload_n C dX2_shout_28 rfl ?_
  refine x_iconst C (v := 2) dX2_shout_29 (by decide) ?_
  refine x_callV0r C (q2_no l g _ 2) cd_X2_no kl_X2_92 ci2 rfl (by decide) (as := [_]) rfl rfl ⟨⟨by decide, by decide⟩, by decide, by decide⟩ ⟨rfl, rfl⟩ (Nat.le_of_ble_eq_true rfl) dX2_shout_30 ?_
  exact x_iret C hq ⟨by decide, by decide⟩ dX2_shout_33 (rfl) (rfl)
set_option maxHeartbeats 1000000 in
set_option maxRecDepth 100000 in
theorem q2_shout_b3 (l : Launch) (g : GT) (M : Mem) (h : mOK M) (a r ld : Int32) (ha : (0 ≤ a ∧ a ≤ 31)) (hl : (1 ≤ ld ∧ ld ≤ 99)) (hb : M 29 2 = 40 ∨ mMany (wr M 29 0 0) = 8 ∨ mLoudest (wr M 29 0 0) a ≠ -1) : CM l yX2_shout cX2_shout 4 (some .int) rmX2_shout g M [.ref (ga g 29), .int a, .int r, .int ld] (some (.int 0)) (wr (wr M 29 0 0) 29 0 3) := by
  refine CM.of (by decide) (Nat.le_of_ble_eq_true rfl) (fun X C hq => ?_)
  have C : Cx X g l cX2_shout 4 RX2 (some .int) rmX2_shout := C
  show V X g 0 0 0 [(0, .ref (ga g 29)), (1, .int a), (2, .int r), (3, .int ld)] [] M
  refine x_aload_n C dX2_shout_0 rfl ?_
  refine x_iconst C (v := 0) dX2_shout_1 (by decide) ?_
  refine x_putI C fl_X2_32 rfl (by decide) rfl dX2_shout_2 ?_
  refine x_iload_n C dX2_shout_5 rfl ?_
  refine x_callS0r C (q2_isStone l g _ a) cd_X2_isStone kl_X2_58 (as := [_]) rfl rfl ⟨⟨by decide, by decide⟩, by decide, by decide⟩ ⟨rfl, rfl⟩ (Nat.le_of_ble_eq_true rfl) dX2_shout_6 ?_
  refine x_bif_ne C (tgt := 18) dX2_shout_9 (by decide) (fun c9 => ?_) (fun c9 => absurd ha c9)
  refine x_iload_n C dX2_shout_18 rfl ?_
  refine x_iconst C (v := 1) dX2_shout_19 (by decide) ?_
  refine x_bipush C (v := 99) dX2_shout_20 (by decide) ?_
  refine x_callS0r C (q2_isIn l g _ ld 1 99) cd_X2_isIn kl_X2_36 (as := [_, _, _]) rfl rfl ⟨⟨by decide, by decide⟩, by decide, by decide⟩ ⟨rfl, rfl⟩ (Nat.le_of_ble_eq_true rfl) dX2_shout_22 ?_
  refine x_bif_ne C (tgt := 34) dX2_shout_25 (by decide) (fun c25 => ?_) (fun c25 => absurd hl c25)
  refine x_aload_n C dX2_shout_34 rfl ?_
  refine x_getI C fl_X2_43 rfl (by decide) rfl dX2_shout_35 ?_
  refine x_bipush C (v := 40) dX2_shout_38 (by decide) ?_
  refine x_icmp_eq C (tgt := 61) dX2_shout_40 (by decide) (fun c40 => ?_) (fun c40 => ?_)
  · refine x_aload_n C dX2_shout_61 rfl ?_
    refine x_iconst C (v := 3) dX2_shout_62 (by decide) ?_
    refine x_callV0r C (q2_no l g _ 3) cd_X2_no kl_X2_92 ci2 rfl (by decide) (as := [_]) rfl rfl ⟨⟨by decide, by decide⟩, by decide, by decide⟩ ⟨rfl, rfl⟩ (Nat.le_of_ble_eq_true rfl) dX2_shout_63 ?_
    exact x_iret C hq ⟨by decide, by decide⟩ dX2_shout_66 (rfl) (rfl)
  · refine x_aload_n C dX2_shout_43 rfl ?_
    refine x_callV0r C (q2_many l g _ h.thr) cd_X2_many kl_X2_98 ci2 rfl (by decide) (as := []) rfl rfl ⟨⟨by decide, by decide⟩, by decide, by decide⟩ ⟨rfl, rfl⟩ (Nat.le_of_ble_eq_true rfl) dX2_shout_44 ?_
    refine x_bipush C (v := 8) dX2_shout_47 (by decide) ?_
    refine x_icmp_eq C (tgt := 61) dX2_shout_49 (by decide) (fun c49 => ?_) (fun c49 => ?_)
    · refine x_aload_n C dX2_shout_61 rfl ?_
      refine x_iconst C (v := 3) dX2_shout_62 (by decide) ?_
      refine x_callV0r C (q2_no l g _ 3) cd_X2_no kl_X2_92 ci2 rfl (by decide) (as := [_]) rfl rfl ⟨⟨by decide, by decide⟩, by decide, by decide⟩ ⟨rfl, rfl⟩ (Nat.le_of_ble_eq_true rfl) dX2_shout_63 ?_
      exact x_iret C hq ⟨by decide, by decide⟩ dX2_shout_66 (rfl) (rfl)
    · refine x_aload_n C dX2_shout_52 rfl ?_
      refine x_iload_n C dX2_shout_53 rfl ?_
      refine x_callV0r C (q2_loudest l g _ h.thr a) cd_X2_loudest kl_X2_69 ci2 rfl (by decide) (as := [_]) rfl rfl ⟨⟨by decide, by decide⟩, by decide, by decide⟩ ⟨rfl, rfl⟩ (Nat.le_of_ble_eq_true rfl) dX2_shout_54 ?_
      refine x_iconst C (v := (-1)) dX2_shout_57 (by decide) ?_
      refine x_icmp_eq C (tgt := 67) dX2_shout_58 (by decide) (fun c58 => absurd c58 ((hb.resolve_left c40).resolve_left c49)) (fun c58 => ?_)
      refine x_aload_n C dX2_shout_61 rfl ?_
      refine x_iconst C (v := 3) dX2_shout_62 (by decide) ?_
      refine x_callV0r C (q2_no l g _ 3) cd_X2_no kl_X2_92 ci2 rfl (by decide) (as := [_]) rfl rfl ⟨⟨by decide, by decide⟩, by decide, by decide⟩ ⟨rfl, rfl⟩ (Nat.le_of_ble_eq_true rfl) dX2_shout_63 ?_
      exact x_iret C hq ⟨by decide, by decide⟩ dX2_shout_66 (rfl) (rfl)
def mSho1 (M : Mem) (a wy ld : Int32) : Mem :=
  wr (wr (wr (wr (wr (wr M 29 0 0) 34 (27 + tn (M 29 2)) ld) 34 (67 + tn (M 29 2)) a) 34 (107 + tn (M 29 2)) wy) 34 (147 + tn (M 29 2)) 0) 29 2 (M 29 2 + 1)
def mSho (M : Mem) (a r ld : Int32) : Mem := mSho1 M a (if r = 0 then -1 else 1) ld
set_option maxHeartbeats 1000000 in
set_option maxRecDepth 100000 in
theorem q2_shout (l : Launch) (g : GT) (M : Mem) (h : mOK M) (a r ld : Int32) (ha : (0 ≤ a ∧ a ≤ 31)) (hl : (1 ≤ ld ∧ ld ≤ 99)) (h1 : ¬ M 29 2 = 40) (h2 : ¬ mMany (wr M 29 0 0) = 8) (h3 : mLoudest (wr M 29 0 0) a = -1) : CM l yX2_shout cX2_shout 4 (some .int) rmX2_shout g M [.ref (ga g 29), .int a, .int r, .int ld] (some (.int (M 29 2 + 1 - 1))) (mSho M a r ld) := by
  refine CM.of (by decide) (Nat.le_of_ble_eq_true rfl) (fun X C hq => ?_)
  have C : Cx X g l cX2_shout 4 RX2 (some .int) rmX2_shout := C
  show V X g 0 0 0 [(0, .ref (ga g 29)), (1, .int a), (2, .int r), (3, .int ld)] [] M
  have hs9 : tn (M 29 2) < 40 := tn_lt (n := 40) h.2.1.1 (by decide) (i_lt.mpr (by
      have z := i_le.mp h.2.1.2
      have z2 : (M 29 2).toInt ≠ 40 := fun q => h1 (i_eq.mpr q)
      have z3 : (40 : Int32).toInt = 40 := rfl
      show (M 29 2).toInt < (40 : Int32).toInt
      omega))
  refine x_aload_n C dX2_shout_0 rfl ?_
  refine x_iconst C (v := 0) dX2_shout_1 (by decide) ?_
  refine x_putI C fl_X2_32 rfl (by decide) rfl dX2_shout_2 ?_
  refine x_iload_n C dX2_shout_5 rfl ?_
  refine x_callS0r C (q2_isStone l g _ a) cd_X2_isStone kl_X2_58 (as := [_]) rfl rfl ⟨⟨by decide, by decide⟩, by decide, by decide⟩ ⟨rfl, rfl⟩ (Nat.le_of_ble_eq_true rfl) dX2_shout_6 ?_
  refine x_bif_ne C (tgt := 18) dX2_shout_9 (by decide) (fun c9 => ?_) (fun c9 => absurd ha c9)
  refine x_iload_n C dX2_shout_18 rfl ?_
  refine x_iconst C (v := 1) dX2_shout_19 (by decide) ?_
  refine x_bipush C (v := 99) dX2_shout_20 (by decide) ?_
  refine x_callS0r C (q2_isIn l g _ ld 1 99) cd_X2_isIn kl_X2_36 (as := [_, _, _]) rfl rfl ⟨⟨by decide, by decide⟩, by decide, by decide⟩ ⟨rfl, rfl⟩ (Nat.le_of_ble_eq_true rfl) dX2_shout_22 ?_
  refine x_bif_ne C (tgt := 34) dX2_shout_25 (by decide) (fun c25 => ?_) (fun c25 => absurd hl c25)
  refine x_aload_n C dX2_shout_34 rfl ?_
  refine x_getI C fl_X2_43 rfl (by decide) rfl dX2_shout_35 ?_
  refine x_bipush C (v := 40) dX2_shout_38 (by decide) ?_
  refine x_icmp_eq C (tgt := 61) dX2_shout_40 (by decide) (fun c40 => absurd c40 h1) (fun c40 => ?_)
  refine x_aload_n C dX2_shout_43 rfl ?_
  refine x_callV0r C (q2_many l g _ h.thr) cd_X2_many kl_X2_98 ci2 rfl (by decide) (as := []) rfl rfl ⟨⟨by decide, by decide⟩, by decide, by decide⟩ ⟨rfl, rfl⟩ (Nat.le_of_ble_eq_true rfl) dX2_shout_44 ?_
  refine x_bipush C (v := 8) dX2_shout_47 (by decide) ?_
  refine x_icmp_eq C (tgt := 61) dX2_shout_49 (by decide) (fun c49 => absurd c49 h2) (fun c49 => ?_)
  refine x_aload_n C dX2_shout_52 rfl ?_
  refine x_iload_n C dX2_shout_53 rfl ?_
  refine x_callV0r C (q2_loudest l g _ h.thr a) cd_X2_loudest kl_X2_69 ci2 rfl (by decide) (as := [_]) rfl rfl ⟨⟨by decide, by decide⟩, by decide, by decide⟩ ⟨rfl, rfl⟩ (Nat.le_of_ble_eq_true rfl) dX2_shout_54 ?_
  refine x_iconst C (v := (-1)) dX2_shout_57 (by decide) ?_
  refine x_icmp_eq C (tgt := 67) dX2_shout_58 (by decide) (fun c58 => ?_) (fun c58 => absurd h3 c58)
  refine x_aload_n C dX2_shout_67 rfl ?_
  refine x_getR C fl_X2_22 rfl (by decide) rfl dX2_shout_68 ?_
  refine x_bipush C (v := 27) dX2_shout_71 (by decide) ?_
  refine x_aload_n C dX2_shout_73 rfl ?_
  refine x_getI C fl_X2_43 rfl (by decide) rfl dX2_shout_74 ?_
  refine x_iadd C dX2_shout_77 ?_
  refine x_iload_n C dX2_shout_78 rfl ?_
  refine x_iast C (n := 187) rfl (by decide) rfl (ix_t 27 h.2.1.1) (show 27 + tn (M 29 2) < 187 by omega) dX2_shout_79 ?_
  refine x_aload_n C dX2_shout_80 rfl ?_
  refine x_getR C fl_X2_22 rfl (by decide) rfl dX2_shout_81 ?_
  refine x_bipush C (v := 67) dX2_shout_84 (by decide) ?_
  refine x_aload_n C dX2_shout_86 rfl ?_
  refine x_getI C fl_X2_43 rfl (by decide) rfl dX2_shout_87 ?_
  refine x_iadd C dX2_shout_90 ?_
  refine x_iload_n C dX2_shout_91 rfl ?_
  refine x_iast C (n := 187) rfl (by decide) rfl (ix_t 67 h.2.1.1) (show 67 + tn (M 29 2) < 187 by omega) dX2_shout_92 ?_
  refine x_aload_n C dX2_shout_93 rfl ?_
  refine x_getR C fl_X2_22 rfl (by decide) rfl dX2_shout_94 ?_
  refine x_bipush C (v := 107) dX2_shout_97 (by decide) ?_
  refine x_aload_n C dX2_shout_99 rfl ?_
  refine x_getI C fl_X2_43 rfl (by decide) rfl dX2_shout_100 ?_
  refine x_iadd C dX2_shout_103 ?_
  refine x_iload_n C dX2_shout_104 rfl ?_
  refine x_if_eq C (tgt := 112) dX2_shout_105 (by decide) (fun c105 => ?_) (fun c105 => ?_)
  · refine x_iconst C (v := (-1)) dX2_shout_112 (by decide) ?_
    refine x_iast C (n := 187) rfl (by decide) rfl (ix_t 107 h.2.1.1) (show 107 + tn (M 29 2) < 187 by omega) dX2_shout_113 ?_
    refine x_aload_n C dX2_shout_114 rfl ?_
    refine x_getR C fl_X2_22 rfl (by decide) rfl dX2_shout_115 ?_
    refine x_sipush C (v := 147) dX2_shout_118 (by decide) ?_
    refine x_aload_n C dX2_shout_121 rfl ?_
    refine x_getI C fl_X2_43 rfl (by decide) rfl dX2_shout_122 ?_
    refine x_iadd C dX2_shout_125 ?_
    refine x_iconst C (v := 0) dX2_shout_126 (by decide) ?_
    refine x_iast C (n := 187) rfl (by decide) rfl (ix_t 147 h.2.1.1) (show 147 + tn (M 29 2) < 187 by omega) dX2_shout_127 ?_
    refine x_aload_n C dX2_shout_128 rfl ?_
    refine x_dup C dX2_shout_129 rfl ?_
    refine x_getI C fl_X2_43 rfl (by decide) rfl dX2_shout_130 ?_
    refine x_iconst C (v := 1) dX2_shout_133 (by decide) ?_
    refine x_iadd C dX2_shout_134 ?_
    refine x_putI C fl_X2_43 rfl (by decide) rfl dX2_shout_135 ?_
    refine x_aload_n C dX2_shout_138 rfl ?_
    refine x_getI C fl_X2_43 rfl (by decide) rfl dX2_shout_139 ?_
    refine x_iconst C (v := 1) dX2_shout_142 (by decide) ?_
    refine x_isub C dX2_shout_143 ?_
    exact x_iret C hq ⟨by decide, by decide⟩ dX2_shout_144 (rfl) (by first | exact congrArg (fun z => mSho1 M a z ld) (if_pos c105) | exact congrArg (fun z => mSho1 M a z ld) (if_neg c105))
  · refine x_iconst C (v := 1) dX2_shout_108 (by decide) ?_
    refine x_goto C (tgt := 113) dX2_shout_109 (by decide) ?_
    refine x_iast C (n := 187) rfl (by decide) rfl (ix_t 107 h.2.1.1) (show 107 + tn (M 29 2) < 187 by omega) dX2_shout_113 ?_
    refine x_aload_n C dX2_shout_114 rfl ?_
    refine x_getR C fl_X2_22 rfl (by decide) rfl dX2_shout_115 ?_
    refine x_sipush C (v := 147) dX2_shout_118 (by decide) ?_
    refine x_aload_n C dX2_shout_121 rfl ?_
    refine x_getI C fl_X2_43 rfl (by decide) rfl dX2_shout_122 ?_
    refine x_iadd C dX2_shout_125 ?_
    refine x_iconst C (v := 0) dX2_shout_126 (by decide) ?_
    refine x_iast C (n := 187) rfl (by decide) rfl (ix_t 147 h.2.1.1) (show 147 + tn (M 29 2) < 187 by omega) dX2_shout_127 ?_
    refine x_aload_n C dX2_shout_128 rfl ?_
    refine x_dup C dX2_shout_129 rfl ?_
    refine x_getI C fl_X2_43 rfl (by decide) rfl dX2_shout_130 ?_
    refine x_iconst C (v := 1) dX2_shout_133 (by decide) ?_
    refine x_iadd C dX2_shout_134 ?_
    refine x_putI C fl_X2_43 rfl (by decide) rfl dX2_shout_135 ?_
    refine x_aload_n C dX2_shout_138 rfl ?_
    refine x_getI C fl_X2_43 rfl (by decide) rfl dX2_shout_139 ?_
    refine x_iconst C (v := 1) dX2_shout_142 (by decide) ?_
    refine x_isub C dX2_shout_143 ?_
    exact x_iret C hq ⟨by decide, by decide⟩ dX2_shout_144 (rfl) (by first | exact congrArg (fun z => mSho1 M a z ld) (if_pos c105) | exact congrArg (fun z => mSho1 M a z ld) (if_neg c105))
abbrev rmX2_pass : Room := { frames := 5, cells := 0, slots := 0, locals := 119 }
set_option maxHeartbeats 1000000 in
set_option maxRecDepth 100000 in
theorem q2_pass_b (l : Launch) (g : GT) (M : Mem) (b : Int32) (hb : ¬ (1 ≤ b ∧ b ≤ 100)) : CM l yX2_pass cX2_pass 3 (some .int) rmX2_pass g M [.ref (ga g 29), .int b] (some (.int 0)) (wr (wr M 29 0 0) 29 0 1) := by
  refine CM.of (by decide) (Nat.le_of_ble_eq_true rfl) (fun X C hq => ?_)
  have C : Cx X g l cX2_pass 3 RX2 (some .int) rmX2_pass := C
  show V X g 0 0 0 [(0, .ref (ga g 29)), (1, .int b)] [] M
  refine x_aload_n C dX2_pass_0 rfl ?_
  refine x_iconst C (v := 0) dX2_pass_1 (by decide) ?_
  refine x_putI C fl_X2_32 rfl (by decide) rfl dX2_pass_2 ?_
  refine x_iload_n C dX2_pass_5 rfl ?_
  refine x_iconst C (v := 1) dX2_pass_6 (by decide) ?_
  refine x_bipush C (v := 100) dX2_pass_7 (by decide) ?_
  refine x_callS0r C (q2_isIn l g _ b 1 100) cd_X2_isIn kl_X2_36 (as := [_, _, _]) rfl rfl ⟨⟨by decide, by decide⟩, by decide, by decide⟩ ⟨rfl, rfl⟩ (Nat.le_of_ble_eq_true rfl) dX2_pass_9 ?_
  refine x_bif_ne C (tgt := 21) dX2_pass_12 (by decide) (fun c12 => absurd c12 hb) (fun c12 => ?_)
  refine x_aload_n C dX2_pass_15 rfl ?_
  refine x_iconst C (v := 1) dX2_pass_16 (by decide) ?_
  refine x_callV0r C (q2_no l g _ 1) cd_X2_no kl_X2_92 ci2 rfl (by decide) (as := [_]) rfl rfl ⟨⟨by decide, by decide⟩, by decide, by decide⟩ ⟨rfl, rfl⟩ (Nat.le_of_ble_eq_true rfl) dX2_pass_17 ?_
  exact x_iret C hq ⟨by decide, by decide⟩ dX2_pass_20 (rfl) (rfl)
set_option maxHeartbeats 1000000 in
set_option maxRecDepth 100000 in
theorem q2_pass (l : Launch) (g : GT) (M : Mem) (h : mOK M) (b : Int32) (hb : 1 ≤ b ∧ b ≤ 100) : CM l yX2_pass cX2_pass 3 (some .int) rmX2_pass g M [.ref (ga g 29), .int b] (some (.int (mBeats (wr M 29 0 0) (tn b) 34 3 + mBeats (wr M 29 0 0) (tn b) 34 4 - (M 34 3 + M 34 4)))) (mBeats (wr M 29 0 0) (tn b)) := by
  refine CM.of (by decide) (Nat.le_of_ble_eq_true rfl) (fun X C hq => ?_)
  have C : Cx X g l cX2_pass 3 RX2 (some .int) rmX2_pass := C
  show V X g 0 0 0 [(0, .ref (ga g 29)), (1, .int b)] [] M
  refine x_aload_n C dX2_pass_0 rfl ?_
  refine x_iconst C (v := 0) dX2_pass_1 (by decide) ?_
  refine x_putI C fl_X2_32 rfl (by decide) rfl dX2_pass_2 ?_
  refine x_iload_n C dX2_pass_5 rfl ?_
  refine x_iconst C (v := 1) dX2_pass_6 (by decide) ?_
  refine x_bipush C (v := 100) dX2_pass_7 (by decide) ?_
  refine x_callS0r C (q2_isIn l g _ b 1 100) cd_X2_isIn kl_X2_36 (as := [_, _, _]) rfl rfl ⟨⟨by decide, by decide⟩, by decide, by decide⟩ ⟨rfl, rfl⟩ (Nat.le_of_ble_eq_true rfl) dX2_pass_9 ?_
  refine x_bif_ne C (tgt := 21) dX2_pass_12 (by decide) (fun c12 => ?_) (fun c12 => absurd hb c12)
  refine x_aload_n C dX2_pass_21 rfl ?_
  refine x_callV0r C (q2_coins l g _) cd_X2_coins kl_X2_102 ci2 rfl (by decide) (as := []) rfl rfl ⟨⟨by decide, by decide⟩, by decide, by decide⟩ ⟨rfl, rfl⟩ (Nat.le_of_ble_eq_true rfl) dX2_pass_22 ?_
  refine x_istore_n C (lo' := [(2, _), (0, _), (1, _)]) dX2_pass_25 (by decide) rfl ?_
  refine x_aload_n C dX2_pass_26 rfl ?_
  refine x_iload_n C dX2_pass_27 rfl ?_
  refine x_callV0v C (q2_beatsOn l g _ h.thr b (Int32.le_trans (by decide) hb.1)) cd_X2_beatsOn kl_X2_105 ci2 rfl (by decide) (as := [_]) rfl rfl ⟨⟨by decide, by decide⟩, by decide, by decide⟩ ⟨rfl, rfl⟩ (Nat.le_of_ble_eq_true rfl) dX2_pass_28 ?_
  refine x_aload_n C dX2_pass_31 rfl ?_
  refine x_callV0r C (q2_coins l g _) cd_X2_coins kl_X2_102 ci2 rfl (by decide) (as := []) rfl rfl ⟨⟨by decide, by decide⟩, by decide, by decide⟩ ⟨rfl, rfl⟩ (Nat.le_of_ble_eq_true rfl) dX2_pass_32 ?_
  refine x_iload_n C dX2_pass_35 rfl ?_
  refine x_isub C dX2_pass_36 ?_
  exact x_iret C hq ⟨by decide, by decide⟩ dX2_pass_37 (rfl) (rfl)
abbrev rmX2_beat : Room := { frames := 1, cells := 0, slots := 0, locals := 21 }
set_option maxHeartbeats 1000000 in
set_option maxRecDepth 100000 in
theorem q2_beat (l : Launch) (g : GT) (M : Mem) : CM l yX2_beat cX2_beat 1 (some .int) rmX2_beat g M [.ref (ga g 29)] (some (.int (M 34 0))) ((wr M 29 0 0)) := by
  refine CM.of (by decide) (Nat.le_of_ble_eq_true rfl) (fun X C hq => ?_)
  have C : Cx X g l cX2_beat 1 RX2 (some .int) rmX2_beat := C
  show V X g 0 0 0 [(0, .ref (ga g 29))] [] M
  refine x_aload_n C dX2_beat_0 rfl ?_
  refine x_aload_n C dX2_beat_1 rfl ?_
  refine x_getR C fl_X2_22 rfl (by decide) rfl dX2_beat_2 ?_
  refine x_iconst C (v := 0) dX2_beat_5 (by decide) ?_
  refine x_iald C (n := 187) rfl (by decide) rfl (rfl) ((by decide : 0 < 187)) dX2_beat_6 ?_
  refine x_callV0r C (q2_ok l g _ _) cd_X2_ok kl_X2_108 ci2 rfl (by decide) (as := [_]) rfl rfl ⟨⟨by decide, by decide⟩, by decide, by decide⟩ ⟨rfl, rfl⟩ (Nat.le_of_ble_eq_true rfl) dX2_beat_7 ?_
  exact x_iret C hq ⟨by decide, by decide⟩ dX2_beat_10 (rfl) (rfl)
abbrev rmX2_walls : Room := { frames := 1, cells := 0, slots := 0, locals := 21 }
set_option maxHeartbeats 1000000 in
set_option maxRecDepth 100000 in
theorem q2_walls (l : Launch) (g : GT) (M : Mem) : CM l yX2_walls cX2_walls 1 (some .int) rmX2_walls g M [.ref (ga g 29)] (some (.int (M 29 1))) ((wr M 29 0 0)) := by
  refine CM.of (by decide) (Nat.le_of_ble_eq_true rfl) (fun X C hq => ?_)
  have C : Cx X g l cX2_walls 1 RX2 (some .int) rmX2_walls := C
  show V X g 0 0 0 [(0, .ref (ga g 29))] [] M
  refine x_aload_n C dX2_walls_0 rfl ?_
  refine x_aload_n C dX2_walls_1 rfl ?_
  refine x_getI C fl_X2_40 rfl (by decide) rfl dX2_walls_2 ?_
  refine x_callV0r C (q2_ok l g _ _) cd_X2_ok kl_X2_108 ci2 rfl (by decide) (as := [_]) rfl rfl ⟨⟨by decide, by decide⟩, by decide, by decide⟩ ⟨rfl, rfl⟩ (Nat.le_of_ble_eq_true rfl) dX2_walls_5 ?_
  exact x_iret C hq ⟨by decide, by decide⟩ dX2_walls_8 (rfl) (rfl)
abbrev rmX2_shouts : Room := { frames := 1, cells := 0, slots := 0, locals := 21 }
set_option maxHeartbeats 1000000 in
set_option maxRecDepth 100000 in
theorem q2_shouts (l : Launch) (g : GT) (M : Mem) : CM l yX2_shouts cX2_shouts 1 (some .int) rmX2_shouts g M [.ref (ga g 29)] (some (.int (M 29 2))) ((wr M 29 0 0)) := by
  refine CM.of (by decide) (Nat.le_of_ble_eq_true rfl) (fun X C hq => ?_)
  have C : Cx X g l cX2_shouts 1 RX2 (some .int) rmX2_shouts := C
  show V X g 0 0 0 [(0, .ref (ga g 29))] [] M
  refine x_aload_n C dX2_shouts_0 rfl ?_
  refine x_aload_n C dX2_shouts_1 rfl ?_
  refine x_getI C fl_X2_43 rfl (by decide) rfl dX2_shouts_2 ?_
  refine x_callV0r C (q2_ok l g _ _) cd_X2_ok kl_X2_108 ci2 rfl (by decide) (as := [_]) rfl rfl ⟨⟨by decide, by decide⟩, by decide, by decide⟩ ⟨rfl, rfl⟩ (Nat.le_of_ble_eq_true rfl) dX2_shouts_5 ?_
  exact x_iret C hq ⟨by decide, by decide⟩ dX2_shouts_8 (rfl) (rfl)
abbrev rmX2_overlaps : Room := { frames := 1, cells := 0, slots := 0, locals := 21 }
set_option maxHeartbeats 1000000 in
set_option maxRecDepth 100000 in
theorem q2_overlaps (l : Launch) (g : GT) (M : Mem) : CM l yX2_overlaps cX2_overlaps 1 (some .int) rmX2_overlaps g M [.ref (ga g 29)] (some (.int (M 34 1))) ((wr M 29 0 0)) := by
  refine CM.of (by decide) (Nat.le_of_ble_eq_true rfl) (fun X C hq => ?_)
  have C : Cx X g l cX2_overlaps 1 RX2 (some .int) rmX2_overlaps := C
  show V X g 0 0 0 [(0, .ref (ga g 29))] [] M
  refine x_aload_n C dX2_overlaps_0 rfl ?_
  refine x_aload_n C dX2_overlaps_1 rfl ?_
  refine x_getR C fl_X2_22 rfl (by decide) rfl dX2_overlaps_2 ?_
  refine x_iconst C (v := 1) dX2_overlaps_5 (by decide) ?_
  refine x_iald C (n := 187) rfl (by decide) rfl (rfl) ((by decide : 1 < 187)) dX2_overlaps_6 ?_
  refine x_callV0r C (q2_ok l g _ _) cd_X2_ok kl_X2_108 ci2 rfl (by decide) (as := [_]) rfl rfl ⟨⟨by decide, by decide⟩, by decide, by decide⟩ ⟨rfl, rfl⟩ (Nat.le_of_ble_eq_true rfl) dX2_overlaps_7 ?_
  exact x_iret C hq ⟨by decide, by decide⟩ dX2_overlaps_10 (rfl) (rfl)
abbrev rmX2_inherited : Room := { frames := 1, cells := 0, slots := 0, locals := 21 }
set_option maxHeartbeats 1000000 in
set_option maxRecDepth 100000 in
theorem q2_inherited (l : Launch) (g : GT) (M : Mem) : CM l yX2_inherited cX2_inherited 1 (some .int) rmX2_inherited g M [.ref (ga g 29)] (some (.int (M 34 2))) ((wr M 29 0 0)) := by
  refine CM.of (by decide) (Nat.le_of_ble_eq_true rfl) (fun X C hq => ?_)
  have C : Cx X g l cX2_inherited 1 RX2 (some .int) rmX2_inherited := C
  show V X g 0 0 0 [(0, .ref (ga g 29))] [] M
  refine x_aload_n C dX2_inherited_0 rfl ?_
  refine x_aload_n C dX2_inherited_1 rfl ?_
  refine x_getR C fl_X2_22 rfl (by decide) rfl dX2_inherited_2 ?_
  refine x_iconst C (v := 2) dX2_inherited_5 (by decide) ?_
  refine x_iald C (n := 187) rfl (by decide) rfl (rfl) ((by decide : 2 < 187)) dX2_inherited_6 ?_
  refine x_callV0r C (q2_ok l g _ _) cd_X2_ok kl_X2_108 ci2 rfl (by decide) (as := [_]) rfl rfl ⟨⟨by decide, by decide⟩, by decide, by decide⟩ ⟨rfl, rfl⟩ (Nat.le_of_ble_eq_true rfl) dX2_inherited_7 ?_
  exact x_iret C hq ⟨by decide, by decide⟩ dX2_inherited_10 (rfl) (rfl)
abbrev rmX2_underWay : Room := { frames := 2, cells := 0, slots := 0, locals := 43 }
set_option maxHeartbeats 1000000 in
set_option maxRecDepth 100000 in
theorem q2_underWay (l : Launch) (g : GT) (M : Mem) (h : mOK M) : CM l yX2_underWay cX2_underWay 1 (some .int) rmX2_underWay g M [.ref (ga g 29)] (some (.int (mMany M))) ((wr M 29 0 0)) := by
  refine CM.of (by decide) (Nat.le_of_ble_eq_true rfl) (fun X C hq => ?_)
  have C : Cx X g l cX2_underWay 1 RX2 (some .int) rmX2_underWay := C
  show V X g 0 0 0 [(0, .ref (ga g 29))] [] M
  refine x_aload_n C dX2_underWay_0 rfl ?_
  refine x_aload_n C dX2_underWay_1 rfl ?_
  refine x_callV0r C (q2_many l g _ h) cd_X2_many kl_X2_98 ci2 rfl (by decide) (as := []) rfl rfl ⟨⟨by decide, by decide⟩, by decide, by decide⟩ ⟨rfl, rfl⟩ (Nat.le_of_ble_eq_true rfl) dX2_underWay_2 ?_
  refine x_callV0r C (q2_ok l g _ _) cd_X2_ok kl_X2_108 ci2 rfl (by decide) (as := [_]) rfl rfl ⟨⟨by decide, by decide⟩, by decide, by decide⟩ ⟨rfl, rfl⟩ (Nat.le_of_ble_eq_true rfl) dX2_underWay_5 ?_
  exact x_iret C hq ⟨by decide, by decide⟩ dX2_underWay_8 (rfl) (rfl)
abbrev rmX2_snowOn : Room := { frames := 2, cells := 0, slots := 0, locals := 42 }
set_option maxHeartbeats 1000000 in
set_option maxRecDepth 100000 in
theorem q2_snowOn_b (l : Launch) (g : GT) (M : Mem) (a : Int32) (hb : ¬ (0 ≤ a ∧ a ≤ 31)) : CM l yX2_snowOn cX2_snowOn 2 (some .int) rmX2_snowOn g M [.ref (ga g 29), .int a] (some (.int 0)) (wr M 29 0 1) := by
  refine CM.of (by decide) (Nat.le_of_ble_eq_true rfl) (fun X C hq => ?_)
  have C : Cx X g l cX2_snowOn 2 RX2 (some .int) rmX2_snowOn := C
  show V X g 0 0 0 [(0, .ref (ga g 29)), (1, .int a)] [] M
  refine x_aload_n C dX2_snowOn_0 rfl ?_
  refine x_iload_n C dX2_snowOn_1 rfl ?_
  refine x_callS0r C (q2_isStone l g _ a) cd_X2_isStone kl_X2_58 (as := [_]) rfl rfl ⟨⟨by decide, by decide⟩, by decide, by decide⟩ ⟨rfl, rfl⟩ (Nat.le_of_ble_eq_true rfl) dX2_snowOn_2 ?_
  refine x_callV0r C (q2_isKnown_f l g _ _ hb) cd_X2_isKnown kl_X2_111 ci2 rfl (by decide) (as := [_]) rfl rfl ⟨⟨by decide, by decide⟩, by decide, by decide⟩ ⟨rfl, rfl⟩ (Nat.le_of_ble_eq_true rfl) dX2_snowOn_5 ?_
  refine x_bif_eq C (tgt := 20) dX2_snowOn_8 (by decide) (fun c8 => ?_) (fun c8 => absurd c8 hb)
  refine x_iconst C (v := 0) dX2_snowOn_20 (by decide) ?_
  exact x_iret C hq ⟨by decide, by decide⟩ dX2_snowOn_21 (rfl) (rfl)
set_option maxHeartbeats 1000000 in
set_option maxRecDepth 100000 in
theorem q2_snowOn (l : Launch) (g : GT) (M : Mem) (a : Int32) (hc : (0 ≤ a ∧ a ≤ 31)) : CM l yX2_snowOn cX2_snowOn 2 (some .int) rmX2_snowOn g M [.ref (ga g 29), .int a] (some (.int (M 30 (tn a)))) (wr M 29 0 0) := by
  refine CM.of (by decide) (Nat.le_of_ble_eq_true rfl) (fun X C hq => ?_)
  have C : Cx X g l cX2_snowOn 2 RX2 (some .int) rmX2_snowOn := C
  show V X g 0 0 0 [(0, .ref (ga g 29)), (1, .int a)] [] M
  refine x_aload_n C dX2_snowOn_0 rfl ?_
  refine x_iload_n C dX2_snowOn_1 rfl ?_
  refine x_callS0r C (q2_isStone l g _ a) cd_X2_isStone kl_X2_58 (as := [_]) rfl rfl ⟨⟨by decide, by decide⟩, by decide, by decide⟩ ⟨rfl, rfl⟩ (Nat.le_of_ble_eq_true rfl) dX2_snowOn_2 ?_
  refine x_callV0r C (q2_isKnown_t l g _ _ hc) cd_X2_isKnown kl_X2_111 ci2 rfl (by decide) (as := [_]) rfl rfl ⟨⟨by decide, by decide⟩, by decide, by decide⟩ ⟨rfl, rfl⟩ (Nat.le_of_ble_eq_true rfl) dX2_snowOn_5 ?_
  refine x_bif_eq C (tgt := 20) dX2_snowOn_8 (by decide) (fun c8 => absurd hc c8) (fun c8 => ?_)
  refine x_aload_n C dX2_snowOn_11 rfl ?_
  refine x_getR C fl_X2_9 rfl (by decide) rfl dX2_snowOn_12 ?_
  refine x_iload_n C dX2_snowOn_15 rfl ?_
  refine x_iald C (n := 32) rfl (by decide) rfl (nI_tn hc.1) (tn31 hc) dX2_snowOn_16 ?_
  refine x_goto C (tgt := 21) dX2_snowOn_17 (by decide) ?_
  exact x_iret C hq ⟨by decide, by decide⟩ dX2_snowOn_21 (rfl) (rfl)
abbrev rmX2_wallOn : Room := { frames := 2, cells := 0, slots := 0, locals := 42 }
set_option maxHeartbeats 1000000 in
set_option maxRecDepth 100000 in
theorem q2_wallOn_b (l : Launch) (g : GT) (M : Mem) (a : Int32) (hb : ¬ (0 ≤ a ∧ a ≤ 31)) : CM l yX2_wallOn cX2_wallOn 2 (some .int) rmX2_wallOn g M [.ref (ga g 29), .int a] (some (.int 0)) (wr M 29 0 1) := by
  refine CM.of (by decide) (Nat.le_of_ble_eq_true rfl) (fun X C hq => ?_)
  have C : Cx X g l cX2_wallOn 2 RX2 (some .int) rmX2_wallOn := C
  show V X g 0 0 0 [(0, .ref (ga g 29)), (1, .int a)] [] M
  refine x_aload_n C dX2_wallOn_0 rfl ?_
  refine x_iload_n C dX2_wallOn_1 rfl ?_
  refine x_callS0r C (q2_isStone l g _ a) cd_X2_isStone kl_X2_58 (as := [_]) rfl rfl ⟨⟨by decide, by decide⟩, by decide, by decide⟩ ⟨rfl, rfl⟩ (Nat.le_of_ble_eq_true rfl) dX2_wallOn_2 ?_
  refine x_callV0r C (q2_isKnown_f l g _ _ hb) cd_X2_isKnown kl_X2_111 ci2 rfl (by decide) (as := [_]) rfl rfl ⟨⟨by decide, by decide⟩, by decide, by decide⟩ ⟨rfl, rfl⟩ (Nat.le_of_ble_eq_true rfl) dX2_wallOn_5 ?_
  refine x_bif_eq C (tgt := 20) dX2_wallOn_8 (by decide) (fun c8 => ?_) (fun c8 => absurd c8 hb)
  refine x_iconst C (v := 0) dX2_wallOn_20 (by decide) ?_
  exact x_iret C hq ⟨by decide, by decide⟩ dX2_wallOn_21 (rfl) (rfl)
set_option maxHeartbeats 1000000 in
set_option maxRecDepth 100000 in
theorem q2_wallOn (l : Launch) (g : GT) (M : Mem) (a : Int32) (hc : (0 ≤ a ∧ a ≤ 31)) : CM l yX2_wallOn cX2_wallOn 2 (some .int) rmX2_wallOn g M [.ref (ga g 29), .int a] (some (.int (M 31 (tn a)))) (wr M 29 0 0) := by
  refine CM.of (by decide) (Nat.le_of_ble_eq_true rfl) (fun X C hq => ?_)
  have C : Cx X g l cX2_wallOn 2 RX2 (some .int) rmX2_wallOn := C
  show V X g 0 0 0 [(0, .ref (ga g 29)), (1, .int a)] [] M
  refine x_aload_n C dX2_wallOn_0 rfl ?_
  refine x_iload_n C dX2_wallOn_1 rfl ?_
  refine x_callS0r C (q2_isStone l g _ a) cd_X2_isStone kl_X2_58 (as := [_]) rfl rfl ⟨⟨by decide, by decide⟩, by decide, by decide⟩ ⟨rfl, rfl⟩ (Nat.le_of_ble_eq_true rfl) dX2_wallOn_2 ?_
  refine x_callV0r C (q2_isKnown_t l g _ _ hc) cd_X2_isKnown kl_X2_111 ci2 rfl (by decide) (as := [_]) rfl rfl ⟨⟨by decide, by decide⟩, by decide, by decide⟩ ⟨rfl, rfl⟩ (Nat.le_of_ble_eq_true rfl) dX2_wallOn_5 ?_
  refine x_bif_eq C (tgt := 20) dX2_wallOn_8 (by decide) (fun c8 => absurd hc c8) (fun c8 => ?_)
  refine x_aload_n C dX2_wallOn_11 rfl ?_
  refine x_getR C fl_X2_13 rfl (by decide) rfl dX2_wallOn_12 ?_
  refine x_iload_n C dX2_wallOn_15 rfl ?_
  refine x_iald C (n := 32) rfl (by decide) rfl (nI_tn hc.1) (tn31 hc) dX2_wallOn_16 ?_
  refine x_goto C (tgt := 21) dX2_wallOn_17 (by decide) ?_
  exact x_iret C hq ⟨by decide, by decide⟩ dX2_wallOn_21 (rfl) (rfl)
abbrev rmX2_loudOn : Room := { frames := 3, cells := 0, slots := 0, locals := 65 }
set_option maxHeartbeats 1000000 in
set_option maxRecDepth 100000 in
theorem q2_loudOn_b (l : Launch) (g : GT) (M : Mem) (a : Int32) (hb : ¬ (0 ≤ a ∧ a ≤ 31)) : CM l yX2_loudOn cX2_loudOn 2 (some .int) rmX2_loudOn g M [.ref (ga g 29), .int a] (some (.int 0)) (wr M 29 0 1) := by
  refine CM.of (by decide) (Nat.le_of_ble_eq_true rfl) (fun X C hq => ?_)
  have C : Cx X g l cX2_loudOn 2 RX2 (some .int) rmX2_loudOn := C
  show V X g 0 0 0 [(0, .ref (ga g 29)), (1, .int a)] [] M
  refine x_aload_n C dX2_loudOn_0 rfl ?_
  refine x_iload_n C dX2_loudOn_1 rfl ?_
  refine x_callS0r C (q2_isStone l g _ a) cd_X2_isStone kl_X2_58 (as := [_]) rfl rfl ⟨⟨by decide, by decide⟩, by decide, by decide⟩ ⟨rfl, rfl⟩ (Nat.le_of_ble_eq_true rfl) dX2_loudOn_2 ?_
  refine x_callV0r C (q2_isKnown_f l g _ _ hb) cd_X2_isKnown kl_X2_111 ci2 rfl (by decide) (as := [_]) rfl rfl ⟨⟨by decide, by decide⟩, by decide, by decide⟩ ⟨rfl, rfl⟩ (Nat.le_of_ble_eq_true rfl) dX2_loudOn_5 ?_
  refine x_bif_eq C (tgt := 19) dX2_loudOn_8 (by decide) (fun c8 => ?_) (fun c8 => absurd c8 hb)
  refine x_iconst C (v := 0) dX2_loudOn_19 (by decide) ?_
  exact x_iret C hq ⟨by decide, by decide⟩ dX2_loudOn_20 (rfl) (rfl)
set_option maxHeartbeats 1000000 in
set_option maxRecDepth 100000 in
theorem q2_loudOn (l : Launch) (g : GT) (M : Mem) (a : Int32) (hc : (0 ≤ a ∧ a ≤ 31)) (h : mOK M) : CM l yX2_loudOn cX2_loudOn 2 (some .int) rmX2_loudOn g M [.ref (ga g 29), .int a] (some (.int (mLA (wr M 29 0 0) a))) (wr M 29 0 0) := by
  refine CM.of (by decide) (Nat.le_of_ble_eq_true rfl) (fun X C hq => ?_)
  have C : Cx X g l cX2_loudOn 2 RX2 (some .int) rmX2_loudOn := C
  show V X g 0 0 0 [(0, .ref (ga g 29)), (1, .int a)] [] M
  refine x_aload_n C dX2_loudOn_0 rfl ?_
  refine x_iload_n C dX2_loudOn_1 rfl ?_
  refine x_callS0r C (q2_isStone l g _ a) cd_X2_isStone kl_X2_58 (as := [_]) rfl rfl ⟨⟨by decide, by decide⟩, by decide, by decide⟩ ⟨rfl, rfl⟩ (Nat.le_of_ble_eq_true rfl) dX2_loudOn_2 ?_
  refine x_callV0r C (q2_isKnown_t l g _ _ hc) cd_X2_isKnown kl_X2_111 ci2 rfl (by decide) (as := [_]) rfl rfl ⟨⟨by decide, by decide⟩, by decide, by decide⟩ ⟨rfl, rfl⟩ (Nat.le_of_ble_eq_true rfl) dX2_loudOn_5 ?_
  refine x_bif_eq C (tgt := 19) dX2_loudOn_8 (by decide) (fun c8 => absurd hc c8) (fun c8 => ?_)
  refine x_aload_n C dX2_loudOn_11 rfl ?_
  refine x_iload_n C dX2_loudOn_12 rfl ?_
  refine x_callV0r C (q2_loudAt l g _ h.thr a) cd_X2_loudAt kl_X2_115 ci2 rfl (by decide) (as := [_]) rfl rfl ⟨⟨by decide, by decide⟩, by decide, by decide⟩ ⟨rfl, rfl⟩ (Nat.le_of_ble_eq_true rfl) dX2_loudOn_13 ?_
  refine x_goto C (tgt := 20) dX2_loudOn_16 (by decide) ?_
  exact x_iret C hq ⟨by decide, by decide⟩ dX2_loudOn_20 (rfl) (rfl)
abbrev rmX2_stoneOf : Room := { frames := 2, cells := 0, slots := 0, locals := 43 }
set_option maxHeartbeats 1000000 in
set_option maxRecDepth 100000 in
theorem q2_stoneOf_b (l : Launch) (g : GT) (M : Mem) (w : Int32) (hb : ¬ (0 ≤ w ∧ w ≤ M 29 1 - 1)) : CM l yX2_stoneOf cX2_stoneOf 2 (some .int) rmX2_stoneOf g M [.ref (ga g 29), .int w] (some (.int 0)) (wr M 29 0 1) := by
  refine CM.of (by decide) (Nat.le_of_ble_eq_true rfl) (fun X C hq => ?_)
  have C : Cx X g l cX2_stoneOf 2 RX2 (some .int) rmX2_stoneOf := C
  show V X g 0 0 0 [(0, .ref (ga g 29)), (1, .int w)] [] M
  refine x_aload_n C dX2_stoneOf_0 rfl ?_
  refine x_aload_n C dX2_stoneOf_1 rfl ?_
  refine x_iload_n C dX2_stoneOf_2 rfl ?_
  refine x_callV0r C (q2_isWall l g _ w) cd_X2_isWall kl_X2_95 ci2 rfl (by decide) (as := [_]) rfl rfl ⟨⟨by decide, by decide⟩, by decide, by decide⟩ ⟨rfl, rfl⟩ (Nat.le_of_ble_eq_true rfl) dX2_stoneOf_3 ?_
  refine x_callV0r C (q2_isKnown_f l g _ _ hb) cd_X2_isKnown kl_X2_111 ci2 rfl (by decide) (as := [_]) rfl rfl ⟨⟨by decide, by decide⟩, by decide, by decide⟩ ⟨rfl, rfl⟩ (Nat.le_of_ble_eq_true rfl) dX2_stoneOf_6 ?_
  refine x_bif_eq C (tgt := 21) dX2_stoneOf_9 (by decide) (fun c9 => ?_) (fun c9 => absurd c9 hb)
  refine x_iconst C (v := 0) dX2_stoneOf_21 (by decide) ?_
  exact x_iret C hq ⟨by decide, by decide⟩ dX2_stoneOf_22 (rfl) (rfl)
set_option maxHeartbeats 1000000 in
set_option maxRecDepth 100000 in
theorem q2_stoneOf (l : Launch) (g : GT) (M : Mem) (w : Int32) (hc : (0 ≤ w ∧ w ≤ M 29 1 - 1)) (h : mOK M) : CM l yX2_stoneOf cX2_stoneOf 2 (some .int) rmX2_stoneOf g M [.ref (ga g 29), .int w] (some (.int (M 32 (tn w)))) (wr M 29 0 0) := by
  refine CM.of (by decide) (Nat.le_of_ble_eq_true rfl) (fun X C hq => ?_)
  have C : Cx X g l cX2_stoneOf 2 RX2 (some .int) rmX2_stoneOf := C
  show V X g 0 0 0 [(0, .ref (ga g 29)), (1, .int w)] [] M
  have hw9 : tn w < 10 := by have := ix_lt h.1.1 hc; have := h.ws; unfold mWs at this; omega
  refine x_aload_n C dX2_stoneOf_0 rfl ?_
  refine x_aload_n C dX2_stoneOf_1 rfl ?_
  refine x_iload_n C dX2_stoneOf_2 rfl ?_
  refine x_callV0r C (q2_isWall l g _ w) cd_X2_isWall kl_X2_95 ci2 rfl (by decide) (as := [_]) rfl rfl ⟨⟨by decide, by decide⟩, by decide, by decide⟩ ⟨rfl, rfl⟩ (Nat.le_of_ble_eq_true rfl) dX2_stoneOf_3 ?_
  refine x_callV0r C (q2_isKnown_t l g _ _ hc) cd_X2_isKnown kl_X2_111 ci2 rfl (by decide) (as := [_]) rfl rfl ⟨⟨by decide, by decide⟩, by decide, by decide⟩ ⟨rfl, rfl⟩ (Nat.le_of_ble_eq_true rfl) dX2_stoneOf_6 ?_
  refine x_bif_eq C (tgt := 21) dX2_stoneOf_9 (by decide) (fun c9 => absurd hc c9) (fun c9 => ?_)
  refine x_aload_n C dX2_stoneOf_12 rfl ?_
  refine x_getR C fl_X2_16 rfl (by decide) rfl dX2_stoneOf_13 ?_
  refine x_iload_n C dX2_stoneOf_16 rfl ?_
  refine x_iald C (n := 10) rfl (by decide) rfl (nI_tn hc.1) (hw9) dX2_stoneOf_17 ?_
  refine x_goto C (tgt := 22) dX2_stoneOf_18 (by decide) ?_
  exact x_iret C hq ⟨by decide, by decide⟩ dX2_stoneOf_22 (rfl) (rfl)
abbrev rmX2_ownerOf : Room := { frames := 2, cells := 0, slots := 0, locals := 43 }
set_option maxHeartbeats 1000000 in
set_option maxRecDepth 100000 in
theorem q2_ownerOf_b (l : Launch) (g : GT) (M : Mem) (w : Int32) (hb : ¬ (0 ≤ w ∧ w ≤ M 29 1 - 1)) : CM l yX2_ownerOf cX2_ownerOf 2 (some .int) rmX2_ownerOf g M [.ref (ga g 29), .int w] (some (.int 0)) (wr M 29 0 1) := by
  refine CM.of (by decide) (Nat.le_of_ble_eq_true rfl) (fun X C hq => ?_)
  have C : Cx X g l cX2_ownerOf 2 RX2 (some .int) rmX2_ownerOf := C
  show V X g 0 0 0 [(0, .ref (ga g 29)), (1, .int w)] [] M
  refine x_aload_n C dX2_ownerOf_0 rfl ?_
  refine x_aload_n C dX2_ownerOf_1 rfl ?_
  refine x_iload_n C dX2_ownerOf_2 rfl ?_
  refine x_callV0r C (q2_isWall l g _ w) cd_X2_isWall kl_X2_95 ci2 rfl (by decide) (as := [_]) rfl rfl ⟨⟨by decide, by decide⟩, by decide, by decide⟩ ⟨rfl, rfl⟩ (Nat.le_of_ble_eq_true rfl) dX2_ownerOf_3 ?_
  refine x_callV0r C (q2_isKnown_f l g _ _ hb) cd_X2_isKnown kl_X2_111 ci2 rfl (by decide) (as := [_]) rfl rfl ⟨⟨by decide, by decide⟩, by decide, by decide⟩ ⟨rfl, rfl⟩ (Nat.le_of_ble_eq_true rfl) dX2_ownerOf_6 ?_
  refine x_bif_eq C (tgt := 24) dX2_ownerOf_9 (by decide) (fun c9 => ?_) (fun c9 => absurd c9 hb)
  refine x_iconst C (v := 0) dX2_ownerOf_24 (by decide) ?_
  exact x_iret C hq ⟨by decide, by decide⟩ dX2_ownerOf_25 (rfl) (rfl)
set_option maxHeartbeats 1000000 in
set_option maxRecDepth 100000 in
theorem q2_ownerOf (l : Launch) (g : GT) (M : Mem) (w : Int32) (hc : (0 ≤ w ∧ w ≤ M 29 1 - 1)) (h : mOK M) : CM l yX2_ownerOf cX2_ownerOf 2 (some .int) rmX2_ownerOf g M [.ref (ga g 29), .int w] (some (.int (M 34 (7 + tn w)))) (wr M 29 0 0) := by
  refine CM.of (by decide) (Nat.le_of_ble_eq_true rfl) (fun X C hq => ?_)
  have C : Cx X g l cX2_ownerOf 2 RX2 (some .int) rmX2_ownerOf := C
  show V X g 0 0 0 [(0, .ref (ga g 29)), (1, .int w)] [] M
  have hw9 : tn w < 10 := by have := ix_lt h.1.1 hc; have := h.ws; unfold mWs at this; omega
  refine x_aload_n C dX2_ownerOf_0 rfl ?_
  refine x_aload_n C dX2_ownerOf_1 rfl ?_
  refine x_iload_n C dX2_ownerOf_2 rfl ?_
  refine x_callV0r C (q2_isWall l g _ w) cd_X2_isWall kl_X2_95 ci2 rfl (by decide) (as := [_]) rfl rfl ⟨⟨by decide, by decide⟩, by decide, by decide⟩ ⟨rfl, rfl⟩ (Nat.le_of_ble_eq_true rfl) dX2_ownerOf_3 ?_
  refine x_callV0r C (q2_isKnown_t l g _ _ hc) cd_X2_isKnown kl_X2_111 ci2 rfl (by decide) (as := [_]) rfl rfl ⟨⟨by decide, by decide⟩, by decide, by decide⟩ ⟨rfl, rfl⟩ (Nat.le_of_ble_eq_true rfl) dX2_ownerOf_6 ?_
  refine x_bif_eq C (tgt := 24) dX2_ownerOf_9 (by decide) (fun c9 => absurd hc c9) (fun c9 => ?_)
  refine x_aload_n C dX2_ownerOf_12 rfl ?_
  refine x_getR C fl_X2_22 rfl (by decide) rfl dX2_ownerOf_13 ?_
  refine x_bipush C (v := 7) dX2_ownerOf_16 (by decide) ?_
  refine x_iload_n C dX2_ownerOf_18 rfl ?_
  refine x_iadd C dX2_ownerOf_19 ?_
  refine x_iald C (n := 187) rfl (by decide) rfl (ix_t 7 hc.1) (by omega) dX2_ownerOf_20 ?_
  refine x_goto C (tgt := 25) dX2_ownerOf_21 (by decide) ?_
  exact x_iret C hq ⟨by decide, by decide⟩ dX2_ownerOf_25 (rfl) (rfl)
abbrev rmX2_thrownBack : Room := { frames := 2, cells := 0, slots := 0, locals := 43 }
set_option maxHeartbeats 1000000 in
set_option maxRecDepth 100000 in
theorem q2_thrownBack_b (l : Launch) (g : GT) (M : Mem) (w : Int32) (hb : ¬ (0 ≤ w ∧ w ≤ M 29 1 - 1)) : CM l yX2_thrownBack cX2_thrownBack 2 (some .int) rmX2_thrownBack g M [.ref (ga g 29), .int w] (some (.int 0)) (wr M 29 0 1) := by
  refine CM.of (by decide) (Nat.le_of_ble_eq_true rfl) (fun X C hq => ?_)
  have C : Cx X g l cX2_thrownBack 2 RX2 (some .int) rmX2_thrownBack := C
  show V X g 0 0 0 [(0, .ref (ga g 29)), (1, .int w)] [] M
  refine x_aload_n C dX2_thrownBack_0 rfl ?_
  refine x_aload_n C dX2_thrownBack_1 rfl ?_
  refine x_iload_n C dX2_thrownBack_2 rfl ?_
  refine x_callV0r C (q2_isWall l g _ w) cd_X2_isWall kl_X2_95 ci2 rfl (by decide) (as := [_]) rfl rfl ⟨⟨by decide, by decide⟩, by decide, by decide⟩ ⟨rfl, rfl⟩ (Nat.le_of_ble_eq_true rfl) dX2_thrownBack_3 ?_
  refine x_callV0r C (q2_isKnown_f l g _ _ hb) cd_X2_isKnown kl_X2_111 ci2 rfl (by decide) (as := [_]) rfl rfl ⟨⟨by decide, by decide⟩, by decide, by decide⟩ ⟨rfl, rfl⟩ (Nat.le_of_ble_eq_true rfl) dX2_thrownBack_6 ?_
  refine x_bif_eq C (tgt := 24) dX2_thrownBack_9 (by decide) (fun c9 => ?_) (fun c9 => absurd c9 hb)
  refine x_iconst C (v := 0) dX2_thrownBack_24 (by decide) ?_
  exact x_iret C hq ⟨by decide, by decide⟩ dX2_thrownBack_25 (rfl) (rfl)
set_option maxHeartbeats 1000000 in
set_option maxRecDepth 100000 in
theorem q2_thrownBack (l : Launch) (g : GT) (M : Mem) (w : Int32) (hc : (0 ≤ w ∧ w ≤ M 29 1 - 1)) (h : mOK M) : CM l yX2_thrownBack cX2_thrownBack 2 (some .int) rmX2_thrownBack g M [.ref (ga g 29), .int w] (some (.int (M 34 (17 + tn w)))) (wr M 29 0 0) := by
  refine CM.of (by decide) (Nat.le_of_ble_eq_true rfl) (fun X C hq => ?_)
  have C : Cx X g l cX2_thrownBack 2 RX2 (some .int) rmX2_thrownBack := C
  show V X g 0 0 0 [(0, .ref (ga g 29)), (1, .int w)] [] M
  have hw9 : tn w < 10 := by have := ix_lt h.1.1 hc; have := h.ws; unfold mWs at this; omega
  refine x_aload_n C dX2_thrownBack_0 rfl ?_
  refine x_aload_n C dX2_thrownBack_1 rfl ?_
  refine x_iload_n C dX2_thrownBack_2 rfl ?_
  refine x_callV0r C (q2_isWall l g _ w) cd_X2_isWall kl_X2_95 ci2 rfl (by decide) (as := [_]) rfl rfl ⟨⟨by decide, by decide⟩, by decide, by decide⟩ ⟨rfl, rfl⟩ (Nat.le_of_ble_eq_true rfl) dX2_thrownBack_3 ?_
  refine x_callV0r C (q2_isKnown_t l g _ _ hc) cd_X2_isKnown kl_X2_111 ci2 rfl (by decide) (as := [_]) rfl rfl ⟨⟨by decide, by decide⟩, by decide, by decide⟩ ⟨rfl, rfl⟩ (Nat.le_of_ble_eq_true rfl) dX2_thrownBack_6 ?_
  refine x_bif_eq C (tgt := 24) dX2_thrownBack_9 (by decide) (fun c9 => absurd hc c9) (fun c9 => ?_)
  refine x_aload_n C dX2_thrownBack_12 rfl ?_
  refine x_getR C fl_X2_22 rfl (by decide) rfl dX2_thrownBack_13 ?_
  refine x_bipush C (v := 17) dX2_thrownBack_16 (by decide) ?_
  refine x_iload_n C dX2_thrownBack_18 rfl ?_
  refine x_iadd C dX2_thrownBack_19 ?_
  refine x_iald C (n := 187) rfl (by decide) rfl (ix_t 17 hc.1) (by omega) dX2_thrownBack_20 ?_
  refine x_goto C (tgt := 25) dX2_thrownBack_21 (by decide) ?_
  exact x_iret C hq ⟨by decide, by decide⟩ dX2_thrownBack_25 (rfl) (rfl)
abbrev rmX2_coinsOf : Room := { frames := 2, cells := 0, slots := 0, locals := 42 }
set_option maxHeartbeats 1000000 in
set_option maxRecDepth 100000 in
theorem q2_coinsOf_b (l : Launch) (g : GT) (M : Mem) (e : Int32) (hb : ¬ (0 ≤ e ∧ e ≤ 1)) : CM l yX2_coinsOf cX2_coinsOf 2 (some .int) rmX2_coinsOf g M [.ref (ga g 29), .int e] (some (.int 0)) (wr M 29 0 1) := by
  refine CM.of (by decide) (Nat.le_of_ble_eq_true rfl) (fun X C hq => ?_)
  have C : Cx X g l cX2_coinsOf 2 RX2 (some .int) rmX2_coinsOf := C
  show V X g 0 0 0 [(0, .ref (ga g 29)), (1, .int e)] [] M
  refine x_aload_n C dX2_coinsOf_0 rfl ?_
  refine x_iload_n C dX2_coinsOf_1 rfl ?_
  refine x_callS0r C (q2_isEcho l g _ e) cd_X2_isEcho kl_X2_89 (as := [_]) rfl rfl ⟨⟨by decide, by decide⟩, by decide, by decide⟩ ⟨rfl, rfl⟩ (Nat.le_of_ble_eq_true rfl) dX2_coinsOf_2 ?_
  refine x_callV0r C (q2_isKnown_f l g _ _ hb) cd_X2_isKnown kl_X2_111 ci2 rfl (by decide) (as := [_]) rfl rfl ⟨⟨by decide, by decide⟩, by decide, by decide⟩ ⟨rfl, rfl⟩ (Nat.le_of_ble_eq_true rfl) dX2_coinsOf_5 ?_
  refine x_bif_eq C (tgt := 22) dX2_coinsOf_8 (by decide) (fun c8 => ?_) (fun c8 => absurd c8 hb)
  refine x_iconst C (v := 0) dX2_coinsOf_22 (by decide) ?_
  exact x_iret C hq ⟨by decide, by decide⟩ dX2_coinsOf_23 (rfl) (rfl)
set_option maxHeartbeats 1000000 in
set_option maxRecDepth 100000 in
theorem q2_coinsOf (l : Launch) (g : GT) (M : Mem) (e : Int32) (hc : (0 ≤ e ∧ e ≤ 1)) : CM l yX2_coinsOf cX2_coinsOf 2 (some .int) rmX2_coinsOf g M [.ref (ga g 29), .int e] (some (.int (M 34 (3 + tn e)))) (wr M 29 0 0) := by
  refine CM.of (by decide) (Nat.le_of_ble_eq_true rfl) (fun X C hq => ?_)
  have C : Cx X g l cX2_coinsOf 2 RX2 (some .int) rmX2_coinsOf := C
  show V X g 0 0 0 [(0, .ref (ga g 29)), (1, .int e)] [] M
  refine x_aload_n C dX2_coinsOf_0 rfl ?_
  refine x_iload_n C dX2_coinsOf_1 rfl ?_
  refine x_callS0r C (q2_isEcho l g _ e) cd_X2_isEcho kl_X2_89 (as := [_]) rfl rfl ⟨⟨by decide, by decide⟩, by decide, by decide⟩ ⟨rfl, rfl⟩ (Nat.le_of_ble_eq_true rfl) dX2_coinsOf_2 ?_
  refine x_callV0r C (q2_isKnown_t l g _ _ hc) cd_X2_isKnown kl_X2_111 ci2 rfl (by decide) (as := [_]) rfl rfl ⟨⟨by decide, by decide⟩, by decide, by decide⟩ ⟨rfl, rfl⟩ (Nat.le_of_ble_eq_true rfl) dX2_coinsOf_5 ?_
  refine x_bif_eq C (tgt := 22) dX2_coinsOf_8 (by decide) (fun c8 => absurd hc c8) (fun c8 => ?_)
  refine x_aload_n C dX2_coinsOf_11 rfl ?_
  refine x_getR C fl_X2_22 rfl (by decide) rfl dX2_coinsOf_12 ?_
  refine x_iconst C (v := 3) dX2_coinsOf_15 (by decide) ?_
  refine x_iload_n C dX2_coinsOf_16 rfl ?_
  refine x_iadd C dX2_coinsOf_17 ?_
  refine x_iald C (n := 187) rfl (by decide) rfl (ix_t 3 hc.1) (by have := tn1 hc; omega) dX2_coinsOf_18 ?_
  refine x_goto C (tgt := 23) dX2_coinsOf_19 (by decide) ?_
  exact x_iret C hq ⟨by decide, by decide⟩ dX2_coinsOf_23 (rfl) (rfl)
abbrev rmX2_silentFor : Room := { frames := 2, cells := 0, slots := 0, locals := 42 }
set_option maxHeartbeats 1000000 in
set_option maxRecDepth 100000 in
theorem q2_silentFor_b (l : Launch) (g : GT) (M : Mem) (e : Int32) (hb : ¬ (0 ≤ e ∧ e ≤ 1)) : CM l yX2_silentFor cX2_silentFor 2 (some .int) rmX2_silentFor g M [.ref (ga g 29), .int e] (some (.int 0)) (wr M 29 0 1) := by
  refine CM.of (by decide) (Nat.le_of_ble_eq_true rfl) (fun X C hq => ?_)
  have C : Cx X g l cX2_silentFor 2 RX2 (some .int) rmX2_silentFor := C
  show V X g 0 0 0 [(0, .ref (ga g 29)), (1, .int e)] [] M
  refine x_aload_n C dX2_silentFor_0 rfl ?_
  refine x_iload_n C dX2_silentFor_1 rfl ?_
  refine x_callS0r C (q2_isEcho l g _ e) cd_X2_isEcho kl_X2_89 (as := [_]) rfl rfl ⟨⟨by decide, by decide⟩, by decide, by decide⟩ ⟨rfl, rfl⟩ (Nat.le_of_ble_eq_true rfl) dX2_silentFor_2 ?_
  refine x_callV0r C (q2_isKnown_f l g _ _ hb) cd_X2_isKnown kl_X2_111 ci2 rfl (by decide) (as := [_]) rfl rfl ⟨⟨by decide, by decide⟩, by decide, by decide⟩ ⟨rfl, rfl⟩ (Nat.le_of_ble_eq_true rfl) dX2_silentFor_5 ?_
  refine x_bif_eq C (tgt := 22) dX2_silentFor_8 (by decide) (fun c8 => ?_) (fun c8 => absurd c8 hb)
  refine x_iconst C (v := 0) dX2_silentFor_22 (by decide) ?_
  exact x_iret C hq ⟨by decide, by decide⟩ dX2_silentFor_23 (rfl) (rfl)
set_option maxHeartbeats 1000000 in
set_option maxRecDepth 100000 in
theorem q2_silentFor (l : Launch) (g : GT) (M : Mem) (e : Int32) (hc : (0 ≤ e ∧ e ≤ 1)) : CM l yX2_silentFor cX2_silentFor 2 (some .int) rmX2_silentFor g M [.ref (ga g 29), .int e] (some (.int (M 34 (5 + tn e)))) (wr M 29 0 0) := by
  refine CM.of (by decide) (Nat.le_of_ble_eq_true rfl) (fun X C hq => ?_)
  have C : Cx X g l cX2_silentFor 2 RX2 (some .int) rmX2_silentFor := C
  show V X g 0 0 0 [(0, .ref (ga g 29)), (1, .int e)] [] M
  refine x_aload_n C dX2_silentFor_0 rfl ?_
  refine x_iload_n C dX2_silentFor_1 rfl ?_
  refine x_callS0r C (q2_isEcho l g _ e) cd_X2_isEcho kl_X2_89 (as := [_]) rfl rfl ⟨⟨by decide, by decide⟩, by decide, by decide⟩ ⟨rfl, rfl⟩ (Nat.le_of_ble_eq_true rfl) dX2_silentFor_2 ?_
  refine x_callV0r C (q2_isKnown_t l g _ _ hc) cd_X2_isKnown kl_X2_111 ci2 rfl (by decide) (as := [_]) rfl rfl ⟨⟨by decide, by decide⟩, by decide, by decide⟩ ⟨rfl, rfl⟩ (Nat.le_of_ble_eq_true rfl) dX2_silentFor_5 ?_
  refine x_bif_eq C (tgt := 22) dX2_silentFor_8 (by decide) (fun c8 => absurd hc c8) (fun c8 => ?_)
  refine x_aload_n C dX2_silentFor_11 rfl ?_
  refine x_getR C fl_X2_22 rfl (by decide) rfl dX2_silentFor_12 ?_
  refine x_iconst C (v := 5) dX2_silentFor_15 (by decide) ?_
  refine x_iload_n C dX2_silentFor_16 rfl ?_
  refine x_iadd C dX2_silentFor_17 ?_
  refine x_iald C (n := 187) rfl (by decide) rfl (ix_t 5 hc.1) (by have := tn1 hc; omega) dX2_silentFor_18 ?_
  refine x_goto C (tgt := 23) dX2_silentFor_19 (by decide) ?_
  exact x_iret C hq ⟨by decide, by decide⟩ dX2_silentFor_23 (rfl) (rfl)
abbrev rmX2_wallsOf : Room := { frames := 2, cells := 0, slots := 0, locals := 42 }
set_option maxHeartbeats 1000000 in
set_option maxRecDepth 100000 in
theorem q2_wallsOf_b (l : Launch) (g : GT) (M : Mem) (e : Int32) (hb : ¬ (0 ≤ e ∧ e ≤ 1)) : CM l yX2_wallsOf cX2_wallsOf 2 (some .int) rmX2_wallsOf g M [.ref (ga g 29), .int e] (some (.int 0)) (wr M 29 0 1) := by
  refine CM.of (by decide) (Nat.le_of_ble_eq_true rfl) (fun X C hq => ?_)
  have C : Cx X g l cX2_wallsOf 2 RX2 (some .int) rmX2_wallsOf := C
  show V X g 0 0 0 [(0, .ref (ga g 29)), (1, .int e)] [] M
  refine x_aload_n C dX2_wallsOf_0 rfl ?_
  refine x_iload_n C dX2_wallsOf_1 rfl ?_
  refine x_callS0r C (q2_isEcho l g _ e) cd_X2_isEcho kl_X2_89 (as := [_]) rfl rfl ⟨⟨by decide, by decide⟩, by decide, by decide⟩ ⟨rfl, rfl⟩ (Nat.le_of_ble_eq_true rfl) dX2_wallsOf_2 ?_
  refine x_callV0r C (q2_isKnown_f l g _ _ hb) cd_X2_isKnown kl_X2_111 ci2 rfl (by decide) (as := [_]) rfl rfl ⟨⟨by decide, by decide⟩, by decide, by decide⟩ ⟨rfl, rfl⟩ (Nat.le_of_ble_eq_true rfl) dX2_wallsOf_5 ?_
  refine x_bif_eq C (tgt := 19) dX2_wallsOf_8 (by decide) (fun c8 => ?_) (fun c8 => absurd c8 hb)
  refine x_iconst C (v := 0) dX2_wallsOf_19 (by decide) ?_
  exact x_iret C hq ⟨by decide, by decide⟩ dX2_wallsOf_20 (rfl) (rfl)
set_option maxHeartbeats 1000000 in
set_option maxRecDepth 100000 in
theorem q2_wallsOf (l : Launch) (g : GT) (M : Mem) (e : Int32) (hc : (0 ≤ e ∧ e ≤ 1)) (h : mOK M) : CM l yX2_wallsOf cX2_wallsOf 2 (some .int) rmX2_wallsOf g M [.ref (ga g 29), .int e] (some (.int (mWO (wr M 29 0 0) e))) (wr M 29 0 0) := by
  refine CM.of (by decide) (Nat.le_of_ble_eq_true rfl) (fun X C hq => ?_)
  have C : Cx X g l cX2_wallsOf 2 RX2 (some .int) rmX2_wallsOf := C
  show V X g 0 0 0 [(0, .ref (ga g 29)), (1, .int e)] [] M
  refine x_aload_n C dX2_wallsOf_0 rfl ?_
  refine x_iload_n C dX2_wallsOf_1 rfl ?_
  refine x_callS0r C (q2_isEcho l g _ e) cd_X2_isEcho kl_X2_89 (as := [_]) rfl rfl ⟨⟨by decide, by decide⟩, by decide, by decide⟩ ⟨rfl, rfl⟩ (Nat.le_of_ble_eq_true rfl) dX2_wallsOf_2 ?_
  refine x_callV0r C (q2_isKnown_t l g _ _ hc) cd_X2_isKnown kl_X2_111 ci2 rfl (by decide) (as := [_]) rfl rfl ⟨⟨by decide, by decide⟩, by decide, by decide⟩ ⟨rfl, rfl⟩ (Nat.le_of_ble_eq_true rfl) dX2_wallsOf_5 ?_
  refine x_bif_eq C (tgt := 19) dX2_wallsOf_8 (by decide) (fun c8 => absurd hc c8) (fun c8 => ?_)
  refine x_aload_n C dX2_wallsOf_11 rfl ?_
  refine x_iload_n C dX2_wallsOf_12 rfl ?_
  refine x_callV0r C (q2_manyOf l g _ h.thr e) cd_X2_manyOf kl_X2_118 ci2 rfl (by decide) (as := [_]) rfl rfl ⟨⟨by decide, by decide⟩, by decide, by decide⟩ ⟨rfl, rfl⟩ (Nat.le_of_ble_eq_true rfl) dX2_wallsOf_13 ?_
  refine x_goto C (tgt := 20) dX2_wallsOf_16 (by decide) ?_
  exact x_iret C hq ⟨by decide, by decide⟩ dX2_wallsOf_20 (rfl) (rfl)
abbrev rmX2_loudnessOf : Room := { frames := 2, cells := 0, slots := 0, locals := 43 }
set_option maxHeartbeats 1000000 in
set_option maxRecDepth 100000 in
theorem q2_loudnessOf_b (l : Launch) (g : GT) (M : Mem) (w : Int32) (hb : ¬ (0 ≤ w ∧ w ≤ M 29 2 - 1)) : CM l yX2_loudnessOf cX2_loudnessOf 2 (some .int) rmX2_loudnessOf g M [.ref (ga g 29), .int w] (some (.int 0)) (wr M 29 0 1) := by
  refine CM.of (by decide) (Nat.le_of_ble_eq_true rfl) (fun X C hq => ?_)
  have C : Cx X g l cX2_loudnessOf 2 RX2 (some .int) rmX2_loudnessOf := C
  show V X g 0 0 0 [(0, .ref (ga g 29)), (1, .int w)] [] M
  refine x_aload_n C dX2_loudnessOf_0 rfl ?_
  refine x_aload_n C dX2_loudnessOf_1 rfl ?_
  refine x_iload_n C dX2_loudnessOf_2 rfl ?_
  refine x_callV0r C (q2_isShout l g _ w) cd_X2_isShout kl_X2_121 ci2 rfl (by decide) (as := [_]) rfl rfl ⟨⟨by decide, by decide⟩, by decide, by decide⟩ ⟨rfl, rfl⟩ (Nat.le_of_ble_eq_true rfl) dX2_loudnessOf_3 ?_
  refine x_callV0r C (q2_isKnown_f l g _ _ hb) cd_X2_isKnown kl_X2_111 ci2 rfl (by decide) (as := [_]) rfl rfl ⟨⟨by decide, by decide⟩, by decide, by decide⟩ ⟨rfl, rfl⟩ (Nat.le_of_ble_eq_true rfl) dX2_loudnessOf_6 ?_
  refine x_bif_eq C (tgt := 24) dX2_loudnessOf_9 (by decide) (fun c9 => ?_) (fun c9 => absurd c9 hb)
  refine x_iconst C (v := 0) dX2_loudnessOf_24 (by decide) ?_
  exact x_iret C hq ⟨by decide, by decide⟩ dX2_loudnessOf_25 (rfl) (rfl)
set_option maxHeartbeats 1000000 in
set_option maxRecDepth 100000 in
theorem q2_loudnessOf (l : Launch) (g : GT) (M : Mem) (w : Int32) (hc : (0 ≤ w ∧ w ≤ M 29 2 - 1)) (h : mOK M) : CM l yX2_loudnessOf cX2_loudnessOf 2 (some .int) rmX2_loudnessOf g M [.ref (ga g 29), .int w] (some (.int (M 34 (27 + tn w)))) (wr M 29 0 0) := by
  refine CM.of (by decide) (Nat.le_of_ble_eq_true rfl) (fun X C hq => ?_)
  have C : Cx X g l cX2_loudnessOf 2 RX2 (some .int) rmX2_loudnessOf := C
  show V X g 0 0 0 [(0, .ref (ga g 29)), (1, .int w)] [] M
  have hw9 : tn w < 40 := by have := ix_lt h.2.1.1 hc; have := h.sh; unfold mSh at this; omega
  refine x_aload_n C dX2_loudnessOf_0 rfl ?_
  refine x_aload_n C dX2_loudnessOf_1 rfl ?_
  refine x_iload_n C dX2_loudnessOf_2 rfl ?_
  refine x_callV0r C (q2_isShout l g _ w) cd_X2_isShout kl_X2_121 ci2 rfl (by decide) (as := [_]) rfl rfl ⟨⟨by decide, by decide⟩, by decide, by decide⟩ ⟨rfl, rfl⟩ (Nat.le_of_ble_eq_true rfl) dX2_loudnessOf_3 ?_
  refine x_callV0r C (q2_isKnown_t l g _ _ hc) cd_X2_isKnown kl_X2_111 ci2 rfl (by decide) (as := [_]) rfl rfl ⟨⟨by decide, by decide⟩, by decide, by decide⟩ ⟨rfl, rfl⟩ (Nat.le_of_ble_eq_true rfl) dX2_loudnessOf_6 ?_
  refine x_bif_eq C (tgt := 24) dX2_loudnessOf_9 (by decide) (fun c9 => absurd hc c9) (fun c9 => ?_)
  refine x_aload_n C dX2_loudnessOf_12 rfl ?_
  refine x_getR C fl_X2_22 rfl (by decide) rfl dX2_loudnessOf_13 ?_
  refine x_bipush C (v := 27) dX2_loudnessOf_16 (by decide) ?_
  refine x_iload_n C dX2_loudnessOf_18 rfl ?_
  refine x_iadd C dX2_loudnessOf_19 ?_
  refine x_iald C (n := 187) rfl (by decide) rfl (ix_t 27 hc.1) (by omega) dX2_loudnessOf_20 ?_
  refine x_goto C (tgt := 25) dX2_loudnessOf_21 (by decide) ?_
  exact x_iret C hq ⟨by decide, by decide⟩ dX2_loudnessOf_25 (rfl) (rfl)
abbrev rmX2_turnsOf : Room := { frames := 2, cells := 0, slots := 0, locals := 43 }
set_option maxHeartbeats 1000000 in
set_option maxRecDepth 100000 in
theorem q2_turnsOf_b (l : Launch) (g : GT) (M : Mem) (w : Int32) (hb : ¬ (0 ≤ w ∧ w ≤ M 29 2 - 1)) : CM l yX2_turnsOf cX2_turnsOf 2 (some .int) rmX2_turnsOf g M [.ref (ga g 29), .int w] (some (.int 0)) (wr M 29 0 1) := by
  refine CM.of (by decide) (Nat.le_of_ble_eq_true rfl) (fun X C hq => ?_)
  have C : Cx X g l cX2_turnsOf 2 RX2 (some .int) rmX2_turnsOf := C
  show V X g 0 0 0 [(0, .ref (ga g 29)), (1, .int w)] [] M
  refine x_aload_n C dX2_turnsOf_0 rfl ?_
  refine x_aload_n C dX2_turnsOf_1 rfl ?_
  refine x_iload_n C dX2_turnsOf_2 rfl ?_
  refine x_callV0r C (q2_isShout l g _ w) cd_X2_isShout kl_X2_121 ci2 rfl (by decide) (as := [_]) rfl rfl ⟨⟨by decide, by decide⟩, by decide, by decide⟩ ⟨rfl, rfl⟩ (Nat.le_of_ble_eq_true rfl) dX2_turnsOf_3 ?_
  refine x_callV0r C (q2_isKnown_f l g _ _ hb) cd_X2_isKnown kl_X2_111 ci2 rfl (by decide) (as := [_]) rfl rfl ⟨⟨by decide, by decide⟩, by decide, by decide⟩ ⟨rfl, rfl⟩ (Nat.le_of_ble_eq_true rfl) dX2_turnsOf_6 ?_
  refine x_bif_eq C (tgt := 25) dX2_turnsOf_9 (by decide) (fun c9 => ?_) (fun c9 => absurd c9 hb)
  refine x_iconst C (v := 0) dX2_turnsOf_25 (by decide) ?_
  exact x_iret C hq ⟨by decide, by decide⟩ dX2_turnsOf_26 (rfl) (rfl)
set_option maxHeartbeats 1000000 in
set_option maxRecDepth 100000 in
theorem q2_turnsOf (l : Launch) (g : GT) (M : Mem) (w : Int32) (hc : (0 ≤ w ∧ w ≤ M 29 2 - 1)) (h : mOK M) : CM l yX2_turnsOf cX2_turnsOf 2 (some .int) rmX2_turnsOf g M [.ref (ga g 29), .int w] (some (.int (M 34 (147 + tn w)))) (wr M 29 0 0) := by
  refine CM.of (by decide) (Nat.le_of_ble_eq_true rfl) (fun X C hq => ?_)
  have C : Cx X g l cX2_turnsOf 2 RX2 (some .int) rmX2_turnsOf := C
  show V X g 0 0 0 [(0, .ref (ga g 29)), (1, .int w)] [] M
  have hw9 : tn w < 40 := by have := ix_lt h.2.1.1 hc; have := h.sh; unfold mSh at this; omega
  refine x_aload_n C dX2_turnsOf_0 rfl ?_
  refine x_aload_n C dX2_turnsOf_1 rfl ?_
  refine x_iload_n C dX2_turnsOf_2 rfl ?_
  refine x_callV0r C (q2_isShout l g _ w) cd_X2_isShout kl_X2_121 ci2 rfl (by decide) (as := [_]) rfl rfl ⟨⟨by decide, by decide⟩, by decide, by decide⟩ ⟨rfl, rfl⟩ (Nat.le_of_ble_eq_true rfl) dX2_turnsOf_3 ?_
  refine x_callV0r C (q2_isKnown_t l g _ _ hc) cd_X2_isKnown kl_X2_111 ci2 rfl (by decide) (as := [_]) rfl rfl ⟨⟨by decide, by decide⟩, by decide, by decide⟩ ⟨rfl, rfl⟩ (Nat.le_of_ble_eq_true rfl) dX2_turnsOf_6 ?_
  refine x_bif_eq C (tgt := 25) dX2_turnsOf_9 (by decide) (fun c9 => absurd hc c9) (fun c9 => ?_)
  refine x_aload_n C dX2_turnsOf_12 rfl ?_
  refine x_getR C fl_X2_22 rfl (by decide) rfl dX2_turnsOf_13 ?_
  refine x_sipush C (v := 147) dX2_turnsOf_16 (by decide) ?_
  refine x_iload_n C dX2_turnsOf_19 rfl ?_
  refine x_iadd C dX2_turnsOf_20 ?_
  refine x_iald C (n := 187) rfl (by decide) rfl (ix_t 147 hc.1) (by omega) dX2_turnsOf_21 ?_
  refine x_goto C (tgt := 26) dX2_turnsOf_22 (by decide) ?_
  exact x_iret C hq ⟨by decide, by decide⟩ dX2_turnsOf_26 (rfl) (rfl)
end
section
/-! The model's looks, walked. -/
theorem sh_in {M : Mem} (h : mOK M) {k : Nat} (hk : k < mSh M) : 0 ≤ nI k ∧ nI k ≤ M 29 2 - 1 := by
  have hs := h.sh
  have hk : k < tn (M 29 2) := hk
  have hs : tn (M 29 2) ≤ 40 := hs
  refine ⟨nI_pos' (by omega), i_le.mpr ?_⟩
  have a := i_le.mp h.2.1.1
  have e := i_tn h.2.1.1
  have z := Int32.toInt_lt (M 29 2)
  rw [i_c0] at a
  rw [Int32.toInt_sub, i_c1, Int.bmod_eq_of_le (by omega) (by omega), i_nI (by omega)]
  omega
section TOP
variable {X : XT} {g : GT} {kc ks pc : Nat} {lo : List (Nat × Value)} {st : List Value} {M : Mem}
theorem x_top {v v' : Value} (h : v = v') (k : V X g kc ks pc lo (v' :: st) M) : V X g kc ks pc lo (v :: st) M := h ▸ k
end TOP
abbrev rmX2_placeOf : Room := { frames := 2, cells := 0, slots := 0, locals := 43 }
set_option maxHeartbeats 1000000 in
set_option maxRecDepth 100000 in
theorem q2_placeOf_b (l : Launch) (g : GT) (M : Mem) (w : Int32) (hb : ¬ (0 ≤ w ∧ w ≤ M 29 2 - 1)) : CM l yX2_placeOf cX2_placeOf 2 (some .int) rmX2_placeOf g M [.ref (ga g 29), .int w] (some (.int 0)) (wr M 29 0 1) := by
  refine CM.of (by decide) (Nat.le_of_ble_eq_true rfl) (fun X C hq => ?_)
  have C : Cx X g l cX2_placeOf 2 RX2 (some .int) rmX2_placeOf := C
  show V X g 0 0 0 [(0, .ref (ga g 29)), (1, .int w)] [] M
  refine x_aload_n C dX2_placeOf_0 rfl ?_
  refine x_aload_n C dX2_placeOf_1 rfl ?_
  refine x_iload_n C dX2_placeOf_2 rfl ?_
  refine x_callV0r C (q2_isShout l g _ w) cd_X2_isShout kl_X2_121 ci2 rfl (by decide) (as := [_]) rfl rfl ⟨⟨by decide, by decide⟩, by decide, by decide⟩ ⟨rfl, rfl⟩ (Nat.le_of_ble_eq_true rfl) dX2_placeOf_3 ?_
  refine x_callV0r C (q2_isKnown_f l g _ _ hb) cd_X2_isKnown kl_X2_111 ci2 rfl (by decide) (as := [_]) rfl rfl ⟨⟨by decide, by decide⟩, by decide, by decide⟩ ⟨rfl, rfl⟩ (Nat.le_of_ble_eq_true rfl) dX2_placeOf_6 ?_
  refine x_bif_eq C (tgt := 20) dX2_placeOf_9 (by decide) (fun c9 => ?_) (fun c9 => absurd c9 hb)
  refine x_iconst C (v := 0) dX2_placeOf_20 (by decide) ?_
  exact x_iret C hq ⟨by decide, by decide⟩ dX2_placeOf_21 (rfl) (rfl)
set_option maxHeartbeats 1000000 in
set_option maxRecDepth 100000 in
theorem q2_placeOf (l : Launch) (g : GT) (M : Mem) (h : mOK M) (k : Nat) (hk : k < mSh M) : CM l yX2_placeOf cX2_placeOf 2 (some .int) rmX2_placeOf g M [.ref (ga g 29), .int (nI k)] (some (.int (mPl (wr M 29 0 0) k))) ((wr M 29 0 0)) := by
  refine CM.of (by decide) (Nat.le_of_ble_eq_true rfl) (fun X C hq => ?_)
  have C : Cx X g l cX2_placeOf 2 RX2 (some .int) rmX2_placeOf := C
  show V X g 0 0 0 [(0, .ref (ga g 29)), (1, .int (nI k))] [] M
  have hk9 : k < 40 := by have := h.sh; omega
  have hc : 0 ≤ nI k ∧ nI k ≤ M 29 2 - 1 := sh_in h hk
  refine x_aload_n C dX2_placeOf_0 rfl ?_
  refine x_aload_n C dX2_placeOf_1 rfl ?_
  refine x_iload_n C dX2_placeOf_2 rfl ?_
  refine x_callV0r C (q2_isShout l g _ (nI k)) cd_X2_isShout kl_X2_121 ci2 rfl (by decide) (as := [_]) rfl rfl ⟨⟨by decide, by decide⟩, by decide, by decide⟩ ⟨rfl, rfl⟩ (Nat.le_of_ble_eq_true rfl) dX2_placeOf_3 ?_
  refine x_callV0r C (q2_isKnown_t l g _ _ hc) cd_X2_isKnown kl_X2_111 ci2 rfl (by decide) (as := [_]) rfl rfl ⟨⟨by decide, by decide⟩, by decide, by decide⟩ ⟨rfl, rfl⟩ (Nat.le_of_ble_eq_true rfl) dX2_placeOf_6 ?_
  refine x_bif_eq C (tgt := 20) dX2_placeOf_9 (by decide) (fun c9 => absurd hc c9) (fun c9 => ?_)
  refine x_aload_n C dX2_placeOf_12 rfl ?_
  refine x_iload_n C dX2_placeOf_13 rfl ?_
  refine x_callV0r C (q2_place l g _ k hk9) cd_X2_place kl_X2_124 ci2 rfl (by decide) (as := [_]) rfl rfl ⟨⟨by decide, by decide⟩, by decide, by decide⟩ ⟨rfl, rfl⟩ (Nat.le_of_ble_eq_true rfl) dX2_placeOf_14 ?_
  refine x_goto C (tgt := 21) dX2_placeOf_17 (by decide) ?_
  exact x_iret C hq ⟨by decide, by decide⟩ dX2_placeOf_21 (rfl) (rfl)
abbrev rmX2_goesRight : Room := { frames := 2, cells := 0, slots := 0, locals := 43 }
set_option maxHeartbeats 1000000 in
set_option maxRecDepth 100000 in
theorem q2_goesRight_b (l : Launch) (g : GT) (M : Mem) (w : Int32) (hb : ¬ (0 ≤ w ∧ w ≤ M 29 2 - 1)) : CM l yX2_goesRight cX2_goesRight 2 (some .boolean) rmX2_goesRight g M [.ref (ga g 29), .int w] (some (.int 0)) (wr M 29 0 1) := by
  refine CM.of (by decide) (Nat.le_of_ble_eq_true rfl) (fun X C hq => ?_)
  have C : Cx X g l cX2_goesRight 2 RX2 (some .boolean) rmX2_goesRight := C
  show V X g 0 0 0 [(0, .ref (ga g 29)), (1, .int w)] [] M
  refine x_aload_n C dX2_goesRight_0 rfl ?_
  refine x_aload_n C dX2_goesRight_1 rfl ?_
  refine x_iload_n C dX2_goesRight_2 rfl ?_
  refine x_callV0r C (q2_isShout l g _ w) cd_X2_isShout kl_X2_121 ci2 rfl (by decide) (as := [_]) rfl rfl ⟨⟨by decide, by decide⟩, by decide, by decide⟩ ⟨rfl, rfl⟩ (Nat.le_of_ble_eq_true rfl) dX2_goesRight_3 ?_
  refine x_callV0r C (q2_isKnown_f l g _ _ hb) cd_X2_isKnown kl_X2_111 ci2 rfl (by decide) (as := [_]) rfl rfl ⟨⟨by decide, by decide⟩, by decide, by decide⟩ ⟨rfl, rfl⟩ (Nat.le_of_ble_eq_true rfl) dX2_goesRight_6 ?_
  refine x_bif_eq C (tgt := 24) dX2_goesRight_9 (by decide) (fun c9 => ?_) (fun c9 => absurd c9 hb)
  refine x_iconst C (v := 0) dX2_goesRight_24 (by decide) ?_
  exact x_zret C hq (by decide) ⟨by decide, by decide⟩ dX2_goesRight_25 (rfl) (rfl)
set_option maxHeartbeats 1000000 in
set_option maxRecDepth 100000 in
theorem q2_goesRight (l : Launch) (g : GT) (M : Mem) (h : mOK M) (k : Nat) (hk : k < mSh M) : CM l yX2_goesRight cX2_goesRight 2 (some .boolean) rmX2_goesRight g M [.ref (ga g 29), .int (nI k)] (some (.int (b2i (mRt (wr M 29 0 0) k)))) ((wr M 29 0 0)) := by
  refine CM.of (by decide) (Nat.le_of_ble_eq_true rfl) (fun X C hq => ?_)
  have C : Cx X g l cX2_goesRight 2 RX2 (some .boolean) rmX2_goesRight := C
  show V X g 0 0 0 [(0, .ref (ga g 29)), (1, .int (nI k))] [] M
  have hk9 : k < 40 := by have := h.sh; omega
  have hc : 0 ≤ nI k ∧ nI k ≤ M 29 2 - 1 := sh_in h hk
  refine x_aload_n C dX2_goesRight_0 rfl ?_
  refine x_aload_n C dX2_goesRight_1 rfl ?_
  refine x_iload_n C dX2_goesRight_2 rfl ?_
  refine x_callV0r C (q2_isShout l g _ (nI k)) cd_X2_isShout kl_X2_121 ci2 rfl (by decide) (as := [_]) rfl rfl ⟨⟨by decide, by decide⟩, by decide, by decide⟩ ⟨rfl, rfl⟩ (Nat.le_of_ble_eq_true rfl) dX2_goesRight_3 ?_
  refine x_callV0r C (q2_isKnown_t l g _ _ hc) cd_X2_isKnown kl_X2_111 ci2 rfl (by decide) (as := [_]) rfl rfl ⟨⟨by decide, by decide⟩, by decide, by decide⟩ ⟨rfl, rfl⟩ (Nat.le_of_ble_eq_true rfl) dX2_goesRight_6 ?_
  refine x_bif_eq C (tgt := 24) dX2_goesRight_9 (by decide) (fun c9 => absurd hc c9) (fun c9 => ?_)
  refine x_aload_n C dX2_goesRight_12 rfl ?_
  refine x_iload_n C dX2_goesRight_13 rfl ?_
  refine x_callV0r C (q2_isRight l g _ k hk9) cd_X2_isRight kl_X2_127 ci2 rfl (by decide) (as := [_]) rfl rfl ⟨⟨by decide, by decide⟩, by decide, by decide⟩ ⟨rfl, rfl⟩ (Nat.le_of_ble_eq_true rfl) dX2_goesRight_14 ?_
  refine x_bif_eq C (tgt := 24) dX2_goesRight_17 (by decide) (fun c17 => ?_) (fun c17 => ?_)
  · refine x_iconst C (v := 0) dX2_goesRight_24 (by decide) ?_
    exact x_zret C hq (by decide) ⟨by decide, by decide⟩ dX2_goesRight_25 (by first | exact rb_t c17 | exact rb_f c17) (rfl)
  · refine x_iconst C (v := 1) dX2_goesRight_20 (by decide) ?_
    refine x_goto C (tgt := 25) dX2_goesRight_21 (by decide) ?_
    exact x_zret C hq (by decide) ⟨by decide, by decide⟩ dX2_goesRight_25 (by first | exact rb_t c17 | exact rb_f c17) (rfl)
abbrev rmX2_nextWall : Room := { frames := 3, cells := 0, slots := 0, locals := 65 }
set_option maxHeartbeats 1000000 in
set_option maxRecDepth 100000 in
theorem q2_nextWall_b (l : Launch) (g : GT) (M : Mem) (a r : Int32) (hb : ¬ (0 ≤ a ∧ a ≤ 31)) : CM l yX2_nextWall cX2_nextWall 3 (some .int) rmX2_nextWall g M [.ref (ga g 29), .int a, .int r] (some (.int 0)) (wr M 29 0 1) := by
  refine CM.of (by decide) (Nat.le_of_ble_eq_true rfl) (fun X C hq => ?_)
  have C : Cx X g l cX2_nextWall 3 RX2 (some .int) rmX2_nextWall := C
  show V X g 0 0 0 [(0, .ref (ga g 29)), (1, .int a), (2, .int r)] [] M
  refine x_aload_n C dX2_nextWall_0 rfl ?_
  refine x_iload_n C dX2_nextWall_1 rfl ?_
  refine x_callS0r C (q2_isStone l g _ a) cd_X2_isStone kl_X2_58 (as := [_]) rfl rfl ⟨⟨by decide, by decide⟩, by decide, by decide⟩ ⟨rfl, rfl⟩ (Nat.le_of_ble_eq_true rfl) dX2_nextWall_2 ?_
  refine x_callV0r C (q2_isKnown_f l g _ _ hb) cd_X2_isKnown kl_X2_111 ci2 rfl (by decide) (as := [_]) rfl rfl ⟨⟨by decide, by decide⟩, by decide, by decide⟩ ⟨rfl, rfl⟩ (Nat.le_of_ble_eq_true rfl) dX2_nextWall_5 ?_
  refine x_bif_eq C (tgt := 28) dX2_nextWall_8 (by decide) (fun c8 => ?_) (fun c8 => absurd c8 hb)
  refine x_iconst C (v := 0) dX2_nextWall_28 (by decide) ?_
  exact x_iret C hq ⟨by decide, by decide⟩ dX2_nextWall_29 (rfl) (rfl)
set_option maxHeartbeats 1000000 in
set_option maxRecDepth 100000 in
theorem q2_nextWall (l : Launch) (g : GT) (M : Mem) (h : mOK M) (a r : Int32) (hc : (0 ≤ a ∧ a ≤ 31)) : CM l yX2_nextWall cX2_nextWall 3 (some .int) rmX2_nextWall g M [.ref (ga g 29), .int a, .int r] (some (.int (mNx M (if r = 0 then -1 else 1) 34 (a + (if r = 0 then -1 else 1))))) ((wr M 29 0 0)) := by
  refine CM.of (by decide) (Nat.le_of_ble_eq_true rfl) (fun X C hq => ?_)
  have C : Cx X g l cX2_nextWall 3 RX2 (some .int) rmX2_nextWall := C
  show V X g 0 0 0 [(0, .ref (ga g 29)), (1, .int a), (2, .int r)] [] M
  refine x_aload_n C dX2_nextWall_0 rfl ?_
  refine x_iload_n C dX2_nextWall_1 rfl ?_
  refine x_callS0r C (q2_isStone l g _ a) cd_X2_isStone kl_X2_58 (as := [_]) rfl rfl ⟨⟨by decide, by decide⟩, by decide, by decide⟩ ⟨rfl, rfl⟩ (Nat.le_of_ble_eq_true rfl) dX2_nextWall_2 ?_
  refine x_callV0r C (q2_isKnown_t l g _ _ hc) cd_X2_isKnown kl_X2_111 ci2 rfl (by decide) (as := [_]) rfl rfl ⟨⟨by decide, by decide⟩, by decide, by decide⟩ ⟨rfl, rfl⟩ (Nat.le_of_ble_eq_true rfl) dX2_nextWall_5 ?_
  refine x_bif_eq C (tgt := 28) dX2_nextWall_8 (by decide) (fun c8 => absurd hc c8) (fun c8 => ?_)
  refine x_aload_n C dX2_nextWall_11 rfl ?_
  refine x_iload_n C dX2_nextWall_12 rfl ?_
  refine x_iload_n C dX2_nextWall_13 rfl ?_
  refine x_if_eq C (tgt := 21) dX2_nextWall_14 (by decide) (fun c14 => ?_) (fun c14 => ?_)
  · refine x_iconst C (v := (-1)) dX2_nextWall_21 (by decide) ?_
    refine x_callV0r C (q2_next l g _ h.thr a _ hc (by first | exact Or.inl rfl | exact Or.inr rfl)) cd_X2_next kl_X2_130 ci2 rfl (by decide) (as := [_, _]) rfl rfl ⟨⟨by decide, by decide⟩, by decide, by decide⟩ ⟨rfl, rfl⟩ (Nat.le_of_ble_eq_true rfl) dX2_nextWall_22 ?_
    refine x_goto C (tgt := 29) dX2_nextWall_25 (by decide) ?_
    exact x_iret C hq ⟨by decide, by decide⟩ dX2_nextWall_29 (by first | (rw [if_pos c14]; rfl) | (rw [if_neg c14]; rfl)) (rfl)
  · refine x_iconst C (v := 1) dX2_nextWall_17 (by decide) ?_
    refine x_goto C (tgt := 22) dX2_nextWall_18 (by decide) ?_
    refine x_callV0r C (q2_next l g _ h.thr a _ hc (by first | exact Or.inl rfl | exact Or.inr rfl)) cd_X2_next kl_X2_130 ci2 rfl (by decide) (as := [_, _]) rfl rfl ⟨⟨by decide, by decide⟩, by decide, by decide⟩ ⟨rfl, rfl⟩ (Nat.le_of_ble_eq_true rfl) dX2_nextWall_22 ?_
    refine x_goto C (tgt := 29) dX2_nextWall_25 (by decide) ?_
    exact x_iret C hq ⟨by decide, by decide⟩ dX2_nextWall_29 (by first | (rw [if_pos c14]; rfl) | (rw [if_neg c14]; rfl)) (rfl)
abbrev rmX2_beatsUntilGone : Room := { frames := 5, cells := 0, slots := 0, locals := 119 }
set_option maxHeartbeats 1000000 in
set_option maxRecDepth 100000 in
theorem q2_beatsUntilGone_b (l : Launch) (g : GT) (M : Mem) (w : Int32) (hb : ¬ (0 ≤ w ∧ w ≤ M 29 2 - 1)) : CM l yX2_beatsUntilGone cX2_beatsUntilGone 2 (some .int) rmX2_beatsUntilGone g M [.ref (ga g 29), .int w] (some (.int 0)) (wr M 29 0 1) := by
  refine CM.of (by decide) (Nat.le_of_ble_eq_true rfl) (fun X C hq => ?_)
  have C : Cx X g l cX2_beatsUntilGone 2 RX2 (some .int) rmX2_beatsUntilGone := C
  show V X g 0 0 0 [(0, .ref (ga g 29)), (1, .int w)] [] M
  refine x_aload_n C dX2_beatsUntilGone_0 rfl ?_
  refine x_aload_n C dX2_beatsUntilGone_1 rfl ?_
  refine x_iload_n C dX2_beatsUntilGone_2 rfl ?_
  refine x_callV0r C (q2_isShout l g _ w) cd_X2_isShout kl_X2_121 ci2 rfl (by decide) (as := [_]) rfl rfl ⟨⟨by decide, by decide⟩, by decide, by decide⟩ ⟨rfl, rfl⟩ (Nat.le_of_ble_eq_true rfl) dX2_beatsUntilGone_3 ?_
  refine x_callV0r C (q2_isKnown_f l g _ _ hb) cd_X2_isKnown kl_X2_111 ci2 rfl (by decide) (as := [_]) rfl rfl ⟨⟨by decide, by decide⟩, by decide, by decide⟩ ⟨rfl, rfl⟩ (Nat.le_of_ble_eq_true rfl) dX2_beatsUntilGone_6 ?_
  refine x_bif_eq C (tgt := 20) dX2_beatsUntilGone_9 (by decide) (fun c9 => ?_) (fun c9 => absurd c9 hb)
  refine x_iconst C (v := 0) dX2_beatsUntilGone_20 (by decide) ?_
  exact x_iret C hq ⟨by decide, by decide⟩ dX2_beatsUntilGone_21 (rfl) (rfl)
set_option maxHeartbeats 1000000 in
set_option maxRecDepth 100000 in
theorem q2_beatsUntilGone (l : Launch) (g : GT) (M : Mem) (h : mOK M) (k t : Nat) (hk : k < mSh M) (ht : ∀ j, j < t → 0 < mBeats (mKeep (wr M 29 0 0)) j 34 (27 + k)) (ht2 : ¬ 0 < mBeats (mKeep (wr M 29 0 0)) t 34 (27 + k)) : CM l yX2_beatsUntilGone cX2_beatsUntilGone 2 (some .int) rmX2_beatsUntilGone g M [.ref (ga g 29), .int (nI k)] (some (.int (nI t))) (mBack (mBeats (mKeep (wr M 29 0 0)) t)) := by
  refine CM.of (by decide) (Nat.le_of_ble_eq_true rfl) (fun X C hq => ?_)
  have C : Cx X g l cX2_beatsUntilGone 2 RX2 (some .int) rmX2_beatsUntilGone := C
  show V X g 0 0 0 [(0, .ref (ga g 29)), (1, .int (nI k))] [] M
  have hk9 : k < 40 := by have := h.sh; omega
  have hc : 0 ≤ nI k ∧ nI k ≤ M 29 2 - 1 := sh_in h hk
  refine x_aload_n C dX2_beatsUntilGone_0 rfl ?_
  refine x_aload_n C dX2_beatsUntilGone_1 rfl ?_
  refine x_iload_n C dX2_beatsUntilGone_2 rfl ?_
  refine x_callV0r C (q2_isShout l g _ (nI k)) cd_X2_isShout kl_X2_121 ci2 rfl (by decide) (as := [_]) rfl rfl ⟨⟨by decide, by decide⟩, by decide, by decide⟩ ⟨rfl, rfl⟩ (Nat.le_of_ble_eq_true rfl) dX2_beatsUntilGone_3 ?_
  refine x_callV0r C (q2_isKnown_t l g _ _ hc) cd_X2_isKnown kl_X2_111 ci2 rfl (by decide) (as := [_]) rfl rfl ⟨⟨by decide, by decide⟩, by decide, by decide⟩ ⟨rfl, rfl⟩ (Nat.le_of_ble_eq_true rfl) dX2_beatsUntilGone_6 ?_
  refine x_bif_eq C (tgt := 20) dX2_beatsUntilGone_9 (by decide) (fun c9 => absurd hc c9) (fun c9 => ?_)
  refine x_aload_n C dX2_beatsUntilGone_12 rfl ?_
  refine x_iload_n C dX2_beatsUntilGone_13 rfl ?_
  refine x_callV0r C (q2_untilGone l g _ h.thr k t hk9 ht ht2) cd_X2_untilGone kl_X2_139 ci2 rfl (by decide) (as := [_]) rfl rfl ⟨⟨by decide, by decide⟩, by decide, by decide⟩ ⟨rfl, rfl⟩ (Nat.le_of_ble_eq_true rfl) dX2_beatsUntilGone_14 ?_
  refine x_goto C (tgt := 21) dX2_beatsUntilGone_17 (by decide) ?_
  exact x_iret C hq ⟨by decide, by decide⟩ dX2_beatsUntilGone_21 (rfl) (rfl)
abbrev rmX2_beatsUntilQuiet : Room := { frames := 5, cells := 0, slots := 0, locals := 118 }
set_option maxHeartbeats 1000000 in
set_option maxRecDepth 100000 in
theorem q2_beatsUntilQuiet (l : Launch) (g : GT) (M : Mem) (h : mOK M) (t : Nat) (ht : ∀ j, j < t → 0 < mMany (mBeats (mKeep M) j)) (ht2 : ¬ 0 < mMany (mBeats (mKeep M) t)) : CM l yX2_beatsUntilQuiet cX2_beatsUntilQuiet 1 (some .int) rmX2_beatsUntilQuiet g M [.ref (ga g 29)] (some (.int (nI t))) (wr (mBack (mBeats (mKeep M) t)) 29 0 0) := by
  refine CM.of (by decide) (Nat.le_of_ble_eq_true rfl) (fun X C hq => ?_)
  have C : Cx X g l cX2_beatsUntilQuiet 1 RX2 (some .int) rmX2_beatsUntilQuiet := C
  show V X g 0 0 0 [(0, .ref (ga g 29))] [] M
  refine x_aload_n C dX2_beatsUntilQuiet_0 rfl ?_
  refine x_aload_n C dX2_beatsUntilQuiet_1 rfl ?_
  refine x_callV0r C (q2_untilQuiet l g _ h t ht ht2) cd_X2_untilQuiet kl_X2_142 ci2 rfl (by decide) (as := []) rfl rfl ⟨⟨by decide, by decide⟩, by decide, by decide⟩ ⟨rfl, rfl⟩ (Nat.le_of_ble_eq_true rfl) dX2_beatsUntilQuiet_2 ?_
  refine x_callV0r C (q2_ok l g _ _) cd_X2_ok kl_X2_108 ci2 rfl (by decide) (as := [_]) rfl rfl ⟨⟨by decide, by decide⟩, by decide, by decide⟩ ⟨rfl, rfl⟩ (Nat.le_of_ble_eq_true rfl) dX2_beatsUntilQuiet_5 ?_
  exact x_iret C hq ⟨by decide, by decide⟩ dX2_beatsUntilQuiet_8 (rfl) (rfl)
abbrev rmX2_coinsIn : Room := { frames := 6, cells := 0, slots := 0, locals := 142 }
set_option maxHeartbeats 1000000 in
set_option maxRecDepth 100000 in
theorem q2_coinsIn_b (l : Launch) (g : GT) (M : Mem) (e b : Int32) (hb : ¬ (0 ≤ e ∧ e ≤ 1)) : CM l yX2_coinsIn cX2_coinsIn 3 (some .int) rmX2_coinsIn g M [.ref (ga g 29), .int e, .int b] (some (.int 0)) (wr M 29 0 1) := by
  refine CM.of (by decide) (Nat.le_of_ble_eq_true rfl) (fun X C hq => ?_)
  have C : Cx X g l cX2_coinsIn 3 RX2 (some .int) rmX2_coinsIn := C
  show V X g 0 0 0 [(0, .ref (ga g 29)), (1, .int e), (2, .int b)] [] M
  refine x_aload_n C dX2_coinsIn_0 rfl ?_
  refine x_iload_n C dX2_coinsIn_1 rfl ?_
  refine x_callS0r C (q2_isEcho l g _ e) cd_X2_isEcho kl_X2_89 (as := [_]) rfl rfl ⟨⟨by decide, by decide⟩, by decide, by decide⟩ ⟨rfl, rfl⟩ (Nat.le_of_ble_eq_true rfl) dX2_coinsIn_2 ?_
  refine x_callV0r C (q2_isKnown_f l g _ _ hb) cd_X2_isKnown kl_X2_111 ci2 rfl (by decide) (as := [_]) rfl rfl ⟨⟨by decide, by decide⟩, by decide, by decide⟩ ⟨rfl, rfl⟩ (Nat.le_of_ble_eq_true rfl) dX2_coinsIn_5 ?_
  refine x_bif_ne C (tgt := 13) dX2_coinsIn_8 (by decide) (fun c8 => absurd c8 hb) (fun c8 => ?_)
  refine x_iconst C (v := 0) dX2_coinsIn_11 (by decide) ?_
  exact x_iret C hq ⟨by decide, by decide⟩ dX2_coinsIn_12 (rfl) (rfl)
set_option maxHeartbeats 1000000 in
set_option maxRecDepth 100000 in
theorem q2_coinsIn_b2 (l : Launch) (g : GT) (M : Mem) (e b : Int32) (hc : (0 ≤ e ∧ e ≤ 1)) (hb : ¬ (1 ≤ b ∧ b ≤ 100)) : CM l yX2_coinsIn cX2_coinsIn 3 (some .int) rmX2_coinsIn g M [.ref (ga g 29), .int e, .int b] (some (.int 0)) (wr (wr M 29 0 0) 29 0 2) := by
  refine CM.of (by decide) (Nat.le_of_ble_eq_true rfl) (fun X C hq => ?_)
  have C : Cx X g l cX2_coinsIn 3 RX2 (some .int) rmX2_coinsIn := C
  show V X g 0 0 0 [(0, .ref (ga g 29)), (1, .int e), (2, .int b)] [] M
  refine x_aload_n C dX2_coinsIn_0 rfl ?_
  refine x_iload_n C dX2_coinsIn_1 rfl ?_
  refine x_callS0r C (q2_isEcho l g _ e) cd_X2_isEcho kl_X2_89 (as := [_]) rfl rfl ⟨⟨by decide, by decide⟩, by decide, by decide⟩ ⟨rfl, rfl⟩ (Nat.le_of_ble_eq_true rfl) dX2_coinsIn_2 ?_
  refine x_callV0r C (q2_isKnown_t l g _ _ hc) cd_X2_isKnown kl_X2_111 ci2 rfl (by decide) (as := [_]) rfl rfl ⟨⟨by decide, by decide⟩, by decide, by decide⟩ ⟨rfl, rfl⟩ (Nat.le_of_ble_eq_true rfl) dX2_coinsIn_5 ?_
  refine x_bif_ne C (tgt := 13) dX2_coinsIn_8 (by decide) (fun c8 => ?_) (fun c8 => absurd hc c8)
  refine x_iload_n C dX2_coinsIn_13 rfl ?_
  refine x_iconst C (v := 1) dX2_coinsIn_14 (by decide) ?_
  refine x_bipush C (v := 100) dX2_coinsIn_15 (by decide) ?_
  refine x_callS0r C (q2_isIn l g _ b 1 100) cd_X2_isIn kl_X2_36 (as := [_, _, _]) rfl rfl ⟨⟨by decide, by decide⟩, by decide, by decide⟩ ⟨rfl, rfl⟩ (Nat.le_of_ble_eq_true rfl) dX2_coinsIn_17 ?_
  refine x_bif_eq C (tgt := 32) dX2_coinsIn_20 (by decide) (fun c20 => ?_) (fun c20 => absurd c20 hb)
  refine x_aload_n C dX2_coinsIn_32 rfl ?_
  refine x_iconst C (v := 2) dX2_coinsIn_33 (by decide) ?_
  refine x_callV0r C (q2_no l g _ 2) cd_X2_no kl_X2_92 ci2 rfl (by decide) (as := [_]) rfl rfl ⟨⟨by decide, by decide⟩, by decide, by decide⟩ ⟨rfl, rfl⟩ (Nat.le_of_ble_eq_true rfl) dX2_coinsIn_34 ?_
  exact x_iret C hq ⟨by decide, by decide⟩ dX2_coinsIn_37 (rfl) (rfl)
set_option maxHeartbeats 1000000 in
set_option maxRecDepth 100000 in
theorem q2_coinsIn (l : Launch) (g : GT) (M : Mem) (h : mOK M) (e : Nat) (he : e < 2) (b : Int32) (hb : (1 ≤ b ∧ b ≤ 100)) : CM l yX2_coinsIn cX2_coinsIn 3 (some .int) rmX2_coinsIn g M [.ref (ga g 29), .int (nI e), .int b] (some (.int (mBeats (mKeep (wr M 29 0 0)) (tn b) 34 (3 + e) - mBack (mBeats (mKeep (wr M 29 0 0)) (tn b)) 34 (3 + e)))) (mBack (mBeats (mKeep (wr M 29 0 0)) (tn b))) := by
  refine CM.of (by decide) (Nat.le_of_ble_eq_true rfl) (fun X C hq => ?_)
  have C : Cx X g l cX2_coinsIn 3 RX2 (some .int) rmX2_coinsIn := C
  show V X g 0 0 0 [(0, .ref (ga g 29)), (1, .int (nI e)), (2, .int b)] [] M
  have hc : (0 ≤ nI e ∧ nI e ≤ 1) := by rcases (show e = 0 ∨ e = 1 by omega) with rfl | rfl <;> decide
  refine x_aload_n C dX2_coinsIn_0 rfl ?_
  refine x_iload_n C dX2_coinsIn_1 rfl ?_
  refine x_callS0r C (q2_isEcho l g _ (nI e)) cd_X2_isEcho kl_X2_89 (as := [_]) rfl rfl ⟨⟨by decide, by decide⟩, by decide, by decide⟩ ⟨rfl, rfl⟩ (Nat.le_of_ble_eq_true rfl) dX2_coinsIn_2 ?_
  refine x_callV0r C (q2_isKnown_t l g _ _ hc) cd_X2_isKnown kl_X2_111 ci2 rfl (by decide) (as := [_]) rfl rfl ⟨⟨by decide, by decide⟩, by decide, by decide⟩ ⟨rfl, rfl⟩ (Nat.le_of_ble_eq_true rfl) dX2_coinsIn_5 ?_
  refine x_bif_ne C (tgt := 13) dX2_coinsIn_8 (by decide) (fun c8 => ?_) (fun c8 => absurd hc c8)
  refine x_iload_n C dX2_coinsIn_13 rfl ?_
  refine x_iconst C (v := 1) dX2_coinsIn_14 (by decide) ?_
  refine x_bipush C (v := 100) dX2_coinsIn_15 (by decide) ?_
  refine x_callS0r C (q2_isIn l g _ b 1 100) cd_X2_isIn kl_X2_36 (as := [_, _, _]) rfl rfl ⟨⟨by decide, by decide⟩, by decide, by decide⟩ ⟨rfl, rfl⟩ (Nat.le_of_ble_eq_true rfl) dX2_coinsIn_17 ?_
  refine x_bif_eq C (tgt := 32) dX2_coinsIn_20 (by decide) (fun c20 => absurd hb c20) (fun c20 => ?_)
  refine x_aload_n C dX2_coinsIn_23 rfl ?_
  refine x_iload_n C dX2_coinsIn_24 rfl ?_
  refine x_iload_n C dX2_coinsIn_25 rfl ?_
  refine x_callV0r C (q2_earns l g _ h.thr e he b (Int32.le_trans (by decide) hb.1)) cd_X2_earns kl_X2_145 ci2 rfl (by decide) (as := [_, _]) rfl rfl ⟨⟨by decide, by decide⟩, by decide, by decide⟩ ⟨rfl, rfl⟩ (Nat.le_of_ble_eq_true rfl) dX2_coinsIn_26 ?_
  refine x_goto C (tgt := 37) dX2_coinsIn_29 (by decide) ?_
  exact x_iret C hq ⟨by decide, by decide⟩ dX2_coinsIn_37 (rfl) (rfl)
abbrev rmX2_loudestOn : Room := { frames := 4, cells := 0, slots := 0, locals := 97 }
set_option maxHeartbeats 1000000 in
set_option maxRecDepth 100000 in
theorem q2_loudestOn_b (l : Launch) (g : GT) (M : Mem) (a b : Int32) (hb : ¬ (0 ≤ a ∧ a ≤ 31)) : CM l yX2_loudestOn cX2_loudestOn 5 (some .int) rmX2_loudestOn g M [.ref (ga g 29), .int a, .int b] (some (.int 0)) (wr M 29 0 1) := by
  refine CM.of (by decide) (Nat.le_of_ble_eq_true rfl) (fun X C hq => ?_)
  have C : Cx X g l cX2_loudestOn 5 RX2 (some .int) rmX2_loudestOn := C
  show V X g 0 0 0 [(0, .ref (ga g 29)), (1, .int a), (2, .int b)] [] M
  refine x_aload_n C dX2_loudestOn_0 rfl ?_
  refine x_iload_n C dX2_loudestOn_1 rfl ?_
  refine x_callS0r C (q2_isStone l g _ a) cd_X2_isStone kl_X2_58 (as := [_]) rfl rfl ⟨⟨by decide, by decide⟩, by decide, by decide⟩ ⟨rfl, rfl⟩ (Nat.le_of_ble_eq_true rfl) dX2_loudestOn_2 ?_
  refine x_callV0r C (q2_isKnown_f l g _ _ hb) cd_X2_isKnown kl_X2_111 ci2 rfl (by decide) (as := [_]) rfl rfl ⟨⟨by decide, by decide⟩, by decide, by decide⟩ ⟨rfl, rfl⟩ (Nat.le_of_ble_eq_true rfl) dX2_loudestOn_5 ?_
  refine x_bif_ne C (tgt := 13) dX2_loudestOn_8 (by decide) (fun c8 => absurd c8 hb) (fun c8 => ?_)
  refine x_iconst C (v := 0) dX2_loudestOn_11 (by decide) ?_
  exact x_iret C hq ⟨by decide, by decide⟩ dX2_loudestOn_12 (rfl) (rfl)
set_option maxHeartbeats 1000000 in
set_option maxRecDepth 100000 in
theorem q2_loudestOn_b2 (l : Launch) (g : GT) (M : Mem) (a b : Int32) (hc : (0 ≤ a ∧ a ≤ 31)) (hb : ¬ (1 ≤ b ∧ b ≤ 100)) : CM l yX2_loudestOn cX2_loudestOn 5 (some .int) rmX2_loudestOn g M [.ref (ga g 29), .int a, .int b] (some (.int 0)) (wr (wr M 29 0 0) 29 0 2) := by
  refine CM.of (by decide) (Nat.le_of_ble_eq_true rfl) (fun X C hq => ?_)
  have C : Cx X g l cX2_loudestOn 5 RX2 (some .int) rmX2_loudestOn := C
  show V X g 0 0 0 [(0, .ref (ga g 29)), (1, .int a), (2, .int b)] [] M
  refine x_aload_n C dX2_loudestOn_0 rfl ?_
  refine x_iload_n C dX2_loudestOn_1 rfl ?_
  refine x_callS0r C (q2_isStone l g _ a) cd_X2_isStone kl_X2_58 (as := [_]) rfl rfl ⟨⟨by decide, by decide⟩, by decide, by decide⟩ ⟨rfl, rfl⟩ (Nat.le_of_ble_eq_true rfl) dX2_loudestOn_2 ?_
  refine x_callV0r C (q2_isKnown_t l g _ _ hc) cd_X2_isKnown kl_X2_111 ci2 rfl (by decide) (as := [_]) rfl rfl ⟨⟨by decide, by decide⟩, by decide, by decide⟩ ⟨rfl, rfl⟩ (Nat.le_of_ble_eq_true rfl) dX2_loudestOn_5 ?_
  refine x_bif_ne C (tgt := 13) dX2_loudestOn_8 (by decide) (fun c8 => ?_) (fun c8 => absurd hc c8)
  refine x_iload_n C dX2_loudestOn_13 rfl ?_
  refine x_iconst C (v := 1) dX2_loudestOn_14 (by decide) ?_
  refine x_bipush C (v := 100) dX2_loudestOn_15 (by decide) ?_
  refine x_callS0r C (q2_isIn l g _ b 1 100) cd_X2_isIn kl_X2_36 (as := [_, _, _]) rfl rfl ⟨⟨by decide, by decide⟩, by decide, by decide⟩ ⟨rfl, rfl⟩ (Nat.le_of_ble_eq_true rfl) dX2_loudestOn_17 ?_
  refine x_bif_ne C (tgt := 29) dX2_loudestOn_20 (by decide) (fun c20 => absurd c20 hb) (fun c20 => ?_)
  refine x_aload_n C dX2_loudestOn_23 rfl ?_
  refine x_iconst C (v := 2) dX2_loudestOn_24 (by decide) ?_
  refine x_callV0r C (q2_no l g _ 2) cd_X2_no kl_X2_92 ci2 rfl (by decide) (as := [_]) rfl rfl ⟨⟨by decide, by decide⟩, by decide, by decide⟩ ⟨rfl, rfl⟩ (Nat.le_of_ble_eq_true rfl) dX2_loudestOn_25 ?_
  exact x_iret C hq ⟨by decide, by decide⟩ dX2_loudestOn_28 (rfl) (rfl)
def mLOL (M : Mem) (a : Int32) : Nat → Int32
  | 0 => 0
  | i + 1 => if mLOL M a i < mLA (mBeats M (i + 1)) a then mLA (mBeats M (i + 1)) a else mLOL M a i
set_option maxHeartbeats 1000000 in
set_option maxRecDepth 100000 in
theorem q2_loudestOn_lp {X : XT} {l : Launch} {g : GT} {M : Mem} {a b : Int32} (h : mOK M) (hb : 0 ≤ b) (C : Cx X g l cX2_loudestOn 5 RX2 (some .int) rmX2_loudestOn) (hq : Rt X g rmX2_loudestOn (some (.int (mLOL (mKeep M) a (tn b)))) (mBack (mBeats (mKeep M) (tn b)))) : ∀ (n i : Nat), i ≤ tn b → tn b + 1 ≤ i + n → V X g 0 0 38 [(4, .int (nI i)), (3, .int (mLOL (mKeep M) a i)), (0, .ref (ga g 29)), (1, .int a), (2, .int b)] [] (mBeats (mKeep M) i) := by
  intro n
  induction n with
  | zero =>
    intro i h1 h2; omega
  | succ n ih =>
    intro i h1 h2
    have hsm : tn b < 2 ^ 31 := tn_sm b
    refine x_iload C dX2_loudestOn_38 rfl ?_
    refine x_iload_n C dX2_loudestOn_40 rfl ?_
    refine x_icmp_ge C (tgt := 64) dX2_loudestOn_41 (by decide) (fun c41 => ?_) (fun c41 => ?_)
    · have he : i = tn b := Nat.le_antisymm h1 ((ge_tn hb (by omega)).mp c41)
      subst he
      refine x_aload_n C dX2_loudestOn_64 rfl ?_
      refine x_callV0v C (q2_bringBack l g _) cd_X2_bringBack kl_X2_136 ci2 rfl (by decide) (as := []) rfl rfl ⟨⟨by decide, by decide⟩, by decide, by decide⟩ ⟨rfl, rfl⟩ (Nat.le_of_ble_eq_true rfl) dX2_loudestOn_65 ?_
      refine x_iload_n C dX2_loudestOn_68 rfl ?_
      exact x_iret C hq ⟨by decide, by decide⟩ dX2_loudestOn_69 (rfl) (rfl)
    · have hlt : i < tn b := lt_of_nge hb (by omega) c41
      refine x_aload_n C dX2_loudestOn_44 rfl ?_
      refine x_callV0v C (q2_beatOn l g _ (mBeats_ok (mKeep_ok h) i).1) cd_X2_beatOn kl_X2_86 ci2 rfl (by decide) (as := []) rfl rfl ⟨⟨by decide, by decide⟩, by decide, by decide⟩ ⟨rfl, rfl⟩ (Nat.le_of_ble_eq_true rfl) dX2_loudestOn_45 ?_
      refine x_iload_n C dX2_loudestOn_48 rfl ?_
      refine x_aload_n C dX2_loudestOn_49 rfl ?_
      refine x_iload_n C dX2_loudestOn_50 rfl ?_
      refine x_callV0r C (q2_loudAt l g _ (mBeats_ok (mKeep_ok h) (i + 1)).1 a) cd_X2_loudAt kl_X2_115 ci2 rfl (by decide) (as := [_]) rfl rfl ⟨⟨by decide, by decide⟩, by decide, by decide⟩ ⟨rfl, rfl⟩ (Nat.le_of_ble_eq_true rfl) dX2_loudestOn_51 ?_
      refine x_max C (i := 730) (by decide +kernel) ⟨by decide, Nat.le_of_ble_eq_true rfl, Nat.le_of_ble_eq_true rfl, Nat.le_of_ble_eq_true rfl⟩ dX2_loudestOn_54 ?_
      refine x_istore_n C (lo' := [(3, _), (4, _), (0, _), (1, _), (2, _)]) dX2_loudestOn_57 (by decide) rfl ?_
      refine x_iinc C (v := nI (i + 1)) (lo' := [(4, _), (3, _), (0, _), (1, _), (2, _)]) dX2_loudestOn_58 rfl (nI_inc _) (by decide) rfl ?_
      refine x_goto C (tgt := 38) dX2_loudestOn_61 (by decide) ?_
      exact ih (i + 1) hlt (by omega)
set_option maxHeartbeats 1000000 in
set_option maxRecDepth 100000 in
theorem q2_loudestOn (l : Launch) (g : GT) (M : Mem) (h : mOK M) (a b : Int32) (hc : (0 ≤ a ∧ a ≤ 31)) (hb : (1 ≤ b ∧ b ≤ 100)) : CM l yX2_loudestOn cX2_loudestOn 5 (some .int) rmX2_loudestOn g M [.ref (ga g 29), .int a, .int b] (some (.int (mLOL (mKeep (wr M 29 0 0)) a (tn b)))) (mBack (mBeats (mKeep (wr M 29 0 0)) (tn b))) := by
  refine CM.of (by decide) (Nat.le_of_ble_eq_true rfl) (fun X C hq => ?_)
  have C : Cx X g l cX2_loudestOn 5 RX2 (some .int) rmX2_loudestOn := C
  show V X g 0 0 0 [(0, .ref (ga g 29)), (1, .int a), (2, .int b)] [] M
  refine x_aload_n C dX2_loudestOn_0 rfl ?_
  refine x_iload_n C dX2_loudestOn_1 rfl ?_
  refine x_callS0r C (q2_isStone l g _ a) cd_X2_isStone kl_X2_58 (as := [_]) rfl rfl ⟨⟨by decide, by decide⟩, by decide, by decide⟩ ⟨rfl, rfl⟩ (Nat.le_of_ble_eq_true rfl) dX2_loudestOn_2 ?_
  refine x_callV0r C (q2_isKnown_t l g _ _ hc) cd_X2_isKnown kl_X2_111 ci2 rfl (by decide) (as := [_]) rfl rfl ⟨⟨by decide, by decide⟩, by decide, by decide⟩ ⟨rfl, rfl⟩ (Nat.le_of_ble_eq_true rfl) dX2_loudestOn_5 ?_
  refine x_bif_ne C (tgt := 13) dX2_loudestOn_8 (by decide) (fun c8 => ?_) (fun c8 => absurd hc c8)
  refine x_iload_n C dX2_loudestOn_13 rfl ?_
  refine x_iconst C (v := 1) dX2_loudestOn_14 (by decide) ?_
  refine x_bipush C (v := 100) dX2_loudestOn_15 (by decide) ?_
  refine x_callS0r C (q2_isIn l g _ b 1 100) cd_X2_isIn kl_X2_36 (as := [_, _, _]) rfl rfl ⟨⟨by decide, by decide⟩, by decide, by decide⟩ ⟨rfl, rfl⟩ (Nat.le_of_ble_eq_true rfl) dX2_loudestOn_17 ?_
  refine x_bif_ne C (tgt := 29) dX2_loudestOn_20 (by decide) (fun c20 => ?_) (fun c20 => absurd hb c20)
  refine x_aload_n C dX2_loudestOn_29 rfl ?_
  refine x_callV0v C (q2_keep l g _) cd_X2_keep kl_X2_133 ci2 rfl (by decide) (as := []) rfl rfl ⟨⟨by decide, by decide⟩, by decide, by decide⟩ ⟨rfl, rfl⟩ (Nat.le_of_ble_eq_true rfl) dX2_loudestOn_30 ?_
  refine x_iconst C (v := 0) dX2_loudestOn_33 (by decide) ?_
  refine x_istore_n C (lo' := [(3, _), (0, _), (1, _), (2, _)]) dX2_loudestOn_34 (by decide) rfl ?_
  refine x_iconst C (v := 0) dX2_loudestOn_35 (by decide) ?_
  refine x_istore C (lo' := [(4, _), (3, _), (0, _), (1, _), (2, _)]) dX2_loudestOn_36 (by decide) rfl ?_
  exact x_mem (M' := mKeep (wr M 29 0 0)) rfl (x_lsub [0, 1, 2, 3, 4] rfl (q2_loudestOn_lp h.thr (Int32.le_trans (by decide) hb.1) C hq (tn b + 1) 0 (Nat.zero_le _) (by omega)))
abbrev rmX2_loudnessWanted : Room := { frames := 3, cells := 0, slots := 0, locals := 68 }
set_option maxHeartbeats 1000000 in
set_option maxRecDepth 100000 in
theorem q2_loudnessWanted_b (l : Launch) (g : GT) (M : Mem) (a r th : Int32) (hb : ¬ ((0 ≤ a ∧ a ≤ 31) ∧ (0 ≤ th ∧ th ≤ 31))) : CM l yX2_loudnessWanted cX2_loudnessWanted 5 (some .int) rmX2_loudnessWanted g M [.ref (ga g 29), .int a, .int r, .int th] (some (.int 0)) (wr M 29 0 1) := by
  refine CM.of (by decide) (Nat.le_of_ble_eq_true rfl) (fun X C hq => ?_)
  have C : Cx X g l cX2_loudnessWanted 5 RX2 (some .int) rmX2_loudnessWanted := C
  show V X g 0 0 0 [(0, .ref (ga g 29)), (1, .int a), (2, .int r), (3, .int th)] [] M
  refine x_aload_n C dX2_loudnessWanted_0 rfl ?_
  refine x_iload_n C dX2_loudnessWanted_1 rfl ?_
  refine x_callS0r C (q2_isStone l g _ a) cd_X2_isStone kl_X2_58 (as := [_]) rfl rfl ⟨⟨by decide, by decide⟩, by decide, by decide⟩ ⟨rfl, rfl⟩ (Nat.le_of_ble_eq_true rfl) dX2_loudnessWanted_2 ?_
  refine x_bif_eq C (tgt := 19) dX2_loudnessWanted_5 (by decide) (fun c5 => ?_) (fun c5 => ?_)
  · refine x_iconst C (v := 0) dX2_loudnessWanted_19 (by decide) ?_
    refine x_top (v' := .int (b2i ((0 ≤ a ∧ a ≤ 31) ∧ (0 ≤ th ∧ th ≤ 31)))) (by rw [b2i_f hb]) ?_
    refine x_callV0r C (q2_isKnown_f l g _ _ hb) cd_X2_isKnown kl_X2_111 ci2 rfl (by decide) (as := [_]) rfl rfl ⟨⟨by decide, by decide⟩, by decide, by decide⟩ ⟨rfl, rfl⟩ (Nat.le_of_ble_eq_true rfl) dX2_loudnessWanted_20 ?_
    refine x_bif_ne C (tgt := 28) dX2_loudnessWanted_23 (by decide) (fun c23 => absurd c23 hb) (fun c23 => ?_)
    refine x_iconst C (v := 0) dX2_loudnessWanted_26 (by decide) ?_
    exact x_iret C hq ⟨by decide, by decide⟩ dX2_loudnessWanted_27 (rfl) (rfl)
  · refine x_iload_n C dX2_loudnessWanted_8 rfl ?_
    refine x_callS0r C (q2_isStone l g _ th) cd_X2_isStone kl_X2_58 (as := [_]) rfl rfl ⟨⟨by decide, by decide⟩, by decide, by decide⟩ ⟨rfl, rfl⟩ (Nat.le_of_ble_eq_true rfl) dX2_loudnessWanted_9 ?_
    refine x_bif_eq C (tgt := 19) dX2_loudnessWanted_12 (by decide) (fun c12 => ?_) (fun c12 => absurd ⟨c5, c12⟩ hb)
    refine x_iconst C (v := 0) dX2_loudnessWanted_19 (by decide) ?_
    refine x_top (v' := .int (b2i ((0 ≤ a ∧ a ≤ 31) ∧ (0 ≤ th ∧ th ≤ 31)))) (by rw [b2i_f hb]) ?_
    refine x_callV0r C (q2_isKnown_f l g _ _ hb) cd_X2_isKnown kl_X2_111 ci2 rfl (by decide) (as := [_]) rfl rfl ⟨⟨by decide, by decide⟩, by decide, by decide⟩ ⟨rfl, rfl⟩ (Nat.le_of_ble_eq_true rfl) dX2_loudnessWanted_20 ?_
    refine x_bif_ne C (tgt := 28) dX2_loudnessWanted_23 (by decide) (fun c23 => absurd c23 hb) (fun c23 => ?_)
    refine x_iconst C (v := 0) dX2_loudnessWanted_26 (by decide) ?_
    exact x_iret C hq ⟨by decide, by decide⟩ dX2_loudnessWanted_27 (rfl) (rfl)
def mLW (M : Mem) (a wy th : Int32) : Int32 := if 99 < mLs M th 100 a wy 0 + 1 then -1 else mLs M th 100 a wy 0 + 1
set_option maxHeartbeats 1000000 in
set_option maxRecDepth 100000 in
theorem q2_loudnessWanted (l : Launch) (g : GT) (M : Mem) (h : mOK M) (h2 : mOK2 M) (a r th : Int32) (ha : (0 ≤ a ∧ a ≤ 31)) (ht : (0 ≤ th ∧ th ≤ 31)) : CM l yX2_loudnessWanted cX2_loudnessWanted 5 (some .int) rmX2_loudnessWanted g M [.ref (ga g 29), .int a, .int r, .int th] (some (.int (mLW (wr M 29 0 0) a (if r = 0 then -1 else 1) th))) ((wr M 29 0 0)) := by
  refine CM.of (by decide) (Nat.le_of_ble_eq_true rfl) (fun X C hq => ?_)
  have C : Cx X g l cX2_loudnessWanted 5 RX2 (some .int) rmX2_loudnessWanted := C
  show V X g 0 0 0 [(0, .ref (ga g 29)), (1, .int a), (2, .int r), (3, .int th)] [] M
  refine x_aload_n C dX2_loudnessWanted_0 rfl ?_
  refine x_iload_n C dX2_loudnessWanted_1 rfl ?_
  refine x_callS0r C (q2_isStone l g _ a) cd_X2_isStone kl_X2_58 (as := [_]) rfl rfl ⟨⟨by decide, by decide⟩, by decide, by decide⟩ ⟨rfl, rfl⟩ (Nat.le_of_ble_eq_true rfl) dX2_loudnessWanted_2 ?_
  refine x_bif_eq C (tgt := 19) dX2_loudnessWanted_5 (by decide) (fun c5 => absurd ha c5) (fun c5 => ?_)
  refine x_iload_n C dX2_loudnessWanted_8 rfl ?_
  refine x_callS0r C (q2_isStone l g _ th) cd_X2_isStone kl_X2_58 (as := [_]) rfl rfl ⟨⟨by decide, by decide⟩, by decide, by decide⟩ ⟨rfl, rfl⟩ (Nat.le_of_ble_eq_true rfl) dX2_loudnessWanted_9 ?_
  refine x_bif_eq C (tgt := 19) dX2_loudnessWanted_12 (by decide) (fun c12 => absurd ht c12) (fun c12 => ?_)
  refine x_iconst C (v := 1) dX2_loudnessWanted_15 (by decide) ?_
  refine x_goto C (tgt := 20) dX2_loudnessWanted_16 (by decide) ?_
  refine x_top (v' := .int (b2i ((0 ≤ a ∧ a ≤ 31) ∧ (0 ≤ th ∧ th ≤ 31)))) (by rw [b2i_t ⟨ha, ht⟩]) ?_
  refine x_callV0r C (q2_isKnown_t l g _ _ ⟨ha, ht⟩) cd_X2_isKnown kl_X2_111 ci2 rfl (by decide) (as := [_]) rfl rfl ⟨⟨by decide, by decide⟩, by decide, by decide⟩ ⟨rfl, rfl⟩ (Nat.le_of_ble_eq_true rfl) dX2_loudnessWanted_20 ?_
  refine x_bif_ne C (tgt := 28) dX2_loudnessWanted_23 (by decide) (fun c23 => ?_) (fun c23 => absurd ⟨ha, ht⟩ c23)
  refine x_aload_n C dX2_loudnessWanted_28 rfl ?_
  refine x_iload_n C dX2_loudnessWanted_29 rfl ?_
  refine x_iload_n C dX2_loudnessWanted_30 rfl ?_
  refine x_if_eq C (tgt := 38) dX2_loudnessWanted_31 (by decide) (fun c31 => ?_) (fun c31 => ?_)
  · refine x_iconst C (v := (-1)) dX2_loudnessWanted_38 (by decide) ?_
    refine x_iload_n C dX2_loudnessWanted_39 rfl ?_
    refine x_callV0r C (q2_loses l g _ h.thr h2 a _ th) cd_X2_loses kl_X2_148 ci2 rfl (by decide) (as := [_, _, _]) rfl rfl ⟨⟨by decide, by decide⟩, by decide, by decide⟩ ⟨rfl, rfl⟩ (Nat.le_of_ble_eq_true rfl) dX2_loudnessWanted_40 ?_
    refine x_iconst C (v := 1) dX2_loudnessWanted_43 (by decide) ?_
    refine x_iadd C dX2_loudnessWanted_44 ?_
    refine x_istore C (lo' := [(4, _), (0, _), (1, _), (2, _), (3, _)]) dX2_loudnessWanted_45 (by decide) rfl ?_
    refine x_iload C dX2_loudnessWanted_47 rfl ?_
    refine x_bipush C (v := 99) dX2_loudnessWanted_49 (by decide) ?_
    refine x_icmp_le C (tgt := 58) dX2_loudnessWanted_51 (by decide) (fun c51 => ?_) (fun c51 => ?_)
    · refine x_iload C dX2_loudnessWanted_58 rfl ?_
      exact x_iret C hq ⟨by decide, by decide⟩ dX2_loudnessWanted_60 (by
    first
      | (have e : (if r = 0 then (-1 : Int32) else 1) = -1 := if_pos c31
         rw [e]
         first
           | (have e2 := Int32.not_lt.mpr c51; exact congrArg (fun z => some (Value.int z)) (if_neg e2))
           | (have e2 := Int32.not_le.mp c51; exact congrArg (fun z => some (Value.int z)) (if_pos e2)))
      | (have e : (if r = 0 then (-1 : Int32) else 1) = 1 := if_neg c31
         rw [e]
         first
           | (have e2 := Int32.not_lt.mpr c51; exact congrArg (fun z => some (Value.int z)) (if_neg e2))
           | (have e2 := Int32.not_le.mp c51; exact congrArg (fun z => some (Value.int z)) (if_pos e2)))) (rfl)
    · refine x_iconst C (v := (-1)) dX2_loudnessWanted_54 (by decide) ?_
      refine x_goto C (tgt := 60) dX2_loudnessWanted_55 (by decide) ?_
      exact x_iret C hq ⟨by decide, by decide⟩ dX2_loudnessWanted_60 (by
    first
      | (have e : (if r = 0 then (-1 : Int32) else 1) = -1 := if_pos c31
         rw [e]
         first
           | (have e2 := Int32.not_lt.mpr c51; exact congrArg (fun z => some (Value.int z)) (if_neg e2))
           | (have e2 := Int32.not_le.mp c51; exact congrArg (fun z => some (Value.int z)) (if_pos e2)))
      | (have e : (if r = 0 then (-1 : Int32) else 1) = 1 := if_neg c31
         rw [e]
         first
           | (have e2 := Int32.not_lt.mpr c51; exact congrArg (fun z => some (Value.int z)) (if_neg e2))
           | (have e2 := Int32.not_le.mp c51; exact congrArg (fun z => some (Value.int z)) (if_pos e2)))) (rfl)
  · refine x_iconst C (v := 1) dX2_loudnessWanted_34 (by decide) ?_
    refine x_goto C (tgt := 39) dX2_loudnessWanted_35 (by decide) ?_
    refine x_iload_n C dX2_loudnessWanted_39 rfl ?_
    refine x_callV0r C (q2_loses l g _ h.thr h2 a _ th) cd_X2_loses kl_X2_148 ci2 rfl (by decide) (as := [_, _, _]) rfl rfl ⟨⟨by decide, by decide⟩, by decide, by decide⟩ ⟨rfl, rfl⟩ (Nat.le_of_ble_eq_true rfl) dX2_loudnessWanted_40 ?_
    refine x_iconst C (v := 1) dX2_loudnessWanted_43 (by decide) ?_
    refine x_iadd C dX2_loudnessWanted_44 ?_
    refine x_istore C (lo' := [(4, _), (0, _), (1, _), (2, _), (3, _)]) dX2_loudnessWanted_45 (by decide) rfl ?_
    refine x_iload C dX2_loudnessWanted_47 rfl ?_
    refine x_bipush C (v := 99) dX2_loudnessWanted_49 (by decide) ?_
    refine x_icmp_le C (tgt := 58) dX2_loudnessWanted_51 (by decide) (fun c51 => ?_) (fun c51 => ?_)
    · refine x_iload C dX2_loudnessWanted_58 rfl ?_
      exact x_iret C hq ⟨by decide, by decide⟩ dX2_loudnessWanted_60 (by
    first
      | (have e : (if r = 0 then (-1 : Int32) else 1) = -1 := if_pos c31
         rw [e]
         first
           | (have e2 := Int32.not_lt.mpr c51; exact congrArg (fun z => some (Value.int z)) (if_neg e2))
           | (have e2 := Int32.not_le.mp c51; exact congrArg (fun z => some (Value.int z)) (if_pos e2)))
      | (have e : (if r = 0 then (-1 : Int32) else 1) = 1 := if_neg c31
         rw [e]
         first
           | (have e2 := Int32.not_lt.mpr c51; exact congrArg (fun z => some (Value.int z)) (if_neg e2))
           | (have e2 := Int32.not_le.mp c51; exact congrArg (fun z => some (Value.int z)) (if_pos e2)))) (rfl)
    · refine x_iconst C (v := (-1)) dX2_loudnessWanted_54 (by decide) ?_
      refine x_goto C (tgt := 60) dX2_loudnessWanted_55 (by decide) ?_
      exact x_iret C hq ⟨by decide, by decide⟩ dX2_loudnessWanted_60 (by
    first
      | (have e : (if r = 0 then (-1 : Int32) else 1) = -1 := if_pos c31
         rw [e]
         first
           | (have e2 := Int32.not_lt.mpr c51; exact congrArg (fun z => some (Value.int z)) (if_neg e2))
           | (have e2 := Int32.not_le.mp c51; exact congrArg (fun z => some (Value.int z)) (if_pos e2)))
      | (have e : (if r = 0 then (-1 : Int32) else 1) = 1 := if_neg c31
         rw [e]
         first
           | (have e2 := Int32.not_lt.mpr c51; exact congrArg (fun z => some (Value.int z)) (if_neg e2))
           | (have e2 := Int32.not_le.mp c51; exact congrArg (fun z => some (Value.int z)) (if_pos e2)))) (rfl)
abbrev rmX2_bestStone : Room := { frames := 4, cells := 0, slots := 0, locals := 91 }
set_option maxHeartbeats 1000000 in
set_option maxRecDepth 100000 in
theorem q2_bestStone_b (l : Launch) (g : GT) (M : Mem) (ld : Int32) (hb : ¬ (1 ≤ ld ∧ ld ≤ 99)) : CM l yX2_bestStone cX2_bestStone 2 (some .int) rmX2_bestStone g M [.ref (ga g 29), .int ld] (some (.int 0)) (wr (wr M 29 0 0) 29 0 1) := by
  refine CM.of (by decide) (Nat.le_of_ble_eq_true rfl) (fun X C hq => ?_)
  have C : Cx X g l cX2_bestStone 2 RX2 (some .int) rmX2_bestStone := C
  show V X g 0 0 0 [(0, .ref (ga g 29)), (1, .int ld)] [] M
  refine x_aload_n C dX2_bestStone_0 rfl ?_
  refine x_iconst C (v := 0) dX2_bestStone_1 (by decide) ?_
  refine x_putI C fl_X2_32 rfl (by decide) rfl dX2_bestStone_2 ?_
  refine x_iload_n C dX2_bestStone_5 rfl ?_
  refine x_iconst C (v := 1) dX2_bestStone_6 (by decide) ?_
  refine x_bipush C (v := 99) dX2_bestStone_7 (by decide) ?_
  refine x_callS0r C (q2_isIn l g _ ld 1 99) cd_X2_isIn kl_X2_36 (as := [_, _, _]) rfl rfl ⟨⟨by decide, by decide⟩, by decide, by decide⟩ ⟨rfl, rfl⟩ (Nat.le_of_ble_eq_true rfl) dX2_bestStone_9 ?_
  refine x_bif_eq C (tgt := 23) dX2_bestStone_12 (by decide) (fun c12 => ?_) (fun c12 => absurd c12 hb)
  refine x_aload_n C dX2_bestStone_23 rfl ?_
  refine x_iconst C (v := 1) dX2_bestStone_24 (by decide) ?_
  refine x_callV0r C (q2_no l g _ 1) cd_X2_no kl_X2_92 ci2 rfl (by decide) (as := [_]) rfl rfl ⟨⟨by decide, by decide⟩, by decide, by decide⟩ ⟨rfl, rfl⟩ (Nat.le_of_ble_eq_true rfl) dX2_bestStone_25 ?_
  exact x_iret C hq ⟨by decide, by decide⟩ dX2_bestStone_28 (rfl) (rfl)
set_option maxHeartbeats 1000000 in
set_option maxRecDepth 100000 in
theorem q2_bestStone (l : Launch) (g : GT) (M : Mem) (h : mOK M) (h2 : mOK2 M) (ld : Int32) (hl : (1 ≤ ld ∧ ld ≤ 99)) : CM l yX2_bestStone cX2_bestStone 2 (some .int) rmX2_bestStone g M [.ref (ga g 29), .int ld] (some (.int (mBest (wr M 29 0 0) ld))) ((wr M 29 0 0)) := by
  refine CM.of (by decide) (Nat.le_of_ble_eq_true rfl) (fun X C hq => ?_)
  have C : Cx X g l cX2_bestStone 2 RX2 (some .int) rmX2_bestStone := C
  show V X g 0 0 0 [(0, .ref (ga g 29)), (1, .int ld)] [] M
  refine x_aload_n C dX2_bestStone_0 rfl ?_
  refine x_iconst C (v := 0) dX2_bestStone_1 (by decide) ?_
  refine x_putI C fl_X2_32 rfl (by decide) rfl dX2_bestStone_2 ?_
  refine x_iload_n C dX2_bestStone_5 rfl ?_
  refine x_iconst C (v := 1) dX2_bestStone_6 (by decide) ?_
  refine x_bipush C (v := 99) dX2_bestStone_7 (by decide) ?_
  refine x_callS0r C (q2_isIn l g _ ld 1 99) cd_X2_isIn kl_X2_36 (as := [_, _, _]) rfl rfl ⟨⟨by decide, by decide⟩, by decide, by decide⟩ ⟨rfl, rfl⟩ (Nat.le_of_ble_eq_true rfl) dX2_bestStone_9 ?_
  refine x_bif_eq C (tgt := 23) dX2_bestStone_12 (by decide) (fun c12 => absurd hl c12) (fun c12 => ?_)
  refine x_aload_n C dX2_bestStone_15 rfl ?_
  refine x_iload_n C dX2_bestStone_16 rfl ?_
  refine x_callV0r C (q2_best l g _ h.thr h2 ld hl) cd_X2_best kl_X2_155 ci2 rfl (by decide) (as := [_]) rfl rfl ⟨⟨by decide, by decide⟩, by decide, by decide⟩ ⟨rfl, rfl⟩ (Nat.le_of_ble_eq_true rfl) dX2_bestStone_17 ?_
  refine x_goto C (tgt := 28) dX2_bestStone_20 (by decide) ?_
  exact x_iret C hq ⟨by decide, by decide⟩ dX2_bestStone_28 (rfl) (rfl)
def mMean (M : Mem) : UInt64 := if mMany M = 0 then 0 else FP.ddiv (FP.i2d (mSumL M (mSh M))) (FP.i2d (mMany M))
abbrev rmX2_meanLoudness : Room := { frames := 2, cells := 0, slots := 0, locals := 43 }
set_option maxHeartbeats 1000000 in
set_option maxRecDepth 100000 in
theorem q2_mean_lp {X : XT} {l : Launch} {g : GT} {M : Mem} (h : mOK M) (hn : mMany M ≠ 0 → vf_n64 (FP.ddiv (FP.i2d (mSumL M (mSh M))) (FP.i2d (mMany M)))) (C : Cx X g l cX2_meanLoudness 3 RX2 (some .double) rmX2_meanLoudness) (hq : Rt X g rmX2_meanLoudness (some (.double (mMean M))) M) : ∀ (n i : Nat), i ≤ mSh M → mSh M + 1 ≤ i + n → V X g 0 0 9 [(2, .int (nI i)), (1, .int (mSumL M i)), (0, .ref (ga g 29))] [] M := by
  intro n
  induction n with
  | zero =>
    intro i h1 h2; omega
  | succ n ih =>
    intro i h1 h2
    have hsh := h.sh
    refine x_iload_n C dX2_meanLoudness_9 rfl ?_
    refine x_aload_n C dX2_meanLoudness_10 rfl ?_
    refine x_getI C fl_X2_43 rfl (by decide) rfl dX2_meanLoudness_11 ?_
    refine x_icmp_ge C (tgt := 35) dX2_meanLoudness_14 (by decide) (fun c14 => ?_) (fun c14 => ?_)
    · have he : i = mSh M := Nat.le_antisymm h1 ((ge_tn h.2.1.1 (by omega)).mp c14)
      subst he
      refine x_aload_n C dX2_meanLoudness_35 rfl ?_
      refine x_callV0r C (q2_many l g _ h) cd_X2_many kl_X2_98 ci2 rfl (by decide) (as := []) rfl rfl ⟨⟨by decide, by decide⟩, by decide, by decide⟩ ⟨rfl, rfl⟩ (Nat.le_of_ble_eq_true rfl) dX2_meanLoudness_36 ?_
      refine x_if_ne C (tgt := 46) dX2_meanLoudness_39 (by decide) (fun c39 => ?_) (fun c39 => ?_)
      · refine x_iload_n C dX2_meanLoudness_46 rfl ?_
        refine x_i2d C dX2_meanLoudness_47 ?_
        refine x_aload_n C dX2_meanLoudness_48 rfl ?_
        refine x_callV0r C (q2_many l g _ h) cd_X2_many kl_X2_98 ci2 rfl (by decide) (as := []) rfl rfl ⟨⟨by decide, by decide⟩, by decide, by decide⟩ ⟨rfl, rfl⟩ (Nat.le_of_ble_eq_true rfl) dX2_meanLoudness_49 ?_
        refine x_i2d C dX2_meanLoudness_52 ?_
        refine x_ddiv C dX2_meanLoudness_53 (hn c39) ?_
        exact x_dret C hq ⟨by decide, by decide⟩ dX2_meanLoudness_54 (by first | (rw [mMean, if_pos c39]; done) | (rw [mMean, if_neg c39]; done)) (rfl)
      · refine x_dconst0 C dX2_meanLoudness_42 ?_
        refine x_goto C (tgt := 54) dX2_meanLoudness_43 (by decide) ?_
        exact x_dret C hq ⟨by decide, by decide⟩ dX2_meanLoudness_54 (by first | (rw [mMean, if_pos c39]; done) | (rw [mMean, if_neg c39]; done)) (rfl)
    · have hlt : i < mSh M := lt_of_nge h.2.1.1 (by omega) c14
      refine x_iload_n C dX2_meanLoudness_17 rfl ?_
      refine x_aload_n C dX2_meanLoudness_18 rfl ?_
      refine x_getR C fl_X2_22 rfl (by decide) rfl dX2_meanLoudness_19 ?_
      refine x_bipush C (v := 27) dX2_meanLoudness_22 (by decide) ?_
      refine x_iload_n C dX2_meanLoudness_24 rfl ?_
      refine x_iadd C dX2_meanLoudness_25 ?_
      refine x_iald C (n := 187) rfl (by decide) rfl (nI_add 27 i) ((by omega : 27 + i < 187)) dX2_meanLoudness_26 ?_
      refine x_iadd C dX2_meanLoudness_27 ?_
      refine x_istore_n C (lo' := [(1, _), (2, _), (0, _)]) dX2_meanLoudness_28 (by decide) rfl ?_
      refine x_iinc C (v := nI (i + 1)) (lo' := [(2, _), (1, _), (0, _)]) dX2_meanLoudness_29 rfl (nI_inc _) (by decide) rfl ?_
      refine x_goto C (tgt := 9) dX2_meanLoudness_32 (by decide) ?_
      exact ih (i + 1) hlt (by omega)
set_option maxHeartbeats 1000000 in
set_option maxRecDepth 100000 in
theorem q2_meanLoudness (l : Launch) (g : GT) (M : Mem) (h : mOK M) (hn : mMany (wr M 29 0 0) ≠ 0 → vf_n64 (FP.ddiv (FP.i2d (mSumL (wr M 29 0 0) (mSh (wr M 29 0 0)))) (FP.i2d (mMany (wr M 29 0 0))))) : CM l yX2_meanLoudness cX2_meanLoudness 3 (some .double) rmX2_meanLoudness g M [.ref (ga g 29)] (some (.double (mMean (wr M 29 0 0)))) ((wr M 29 0 0)) := by
  refine CM.of (by decide) (Nat.le_of_ble_eq_true rfl) (fun X C hq => ?_)
  have C : Cx X g l cX2_meanLoudness 3 RX2 (some .double) rmX2_meanLoudness := C
  show V X g 0 0 0 [(0, .ref (ga g 29))] [] M
  refine x_aload_n C dX2_meanLoudness_0 rfl ?_
  refine x_iconst C (v := 0) dX2_meanLoudness_1 (by decide) ?_
  refine x_putI C fl_X2_32 rfl (by decide) rfl dX2_meanLoudness_2 ?_
  refine x_iconst C (v := 0) dX2_meanLoudness_5 (by decide) ?_
  refine x_istore_n C (lo' := [(1, _), (0, _)]) dX2_meanLoudness_6 (by decide) rfl ?_
  refine x_iconst C (v := 0) dX2_meanLoudness_7 (by decide) ?_
  refine x_istore_n C (lo' := [(2, _), (1, _), (0, _)]) dX2_meanLoudness_8 (by decide) rfl ?_
  exact q2_mean_lp h.thr hn C hq (mSh M + 1) 0 (Nat.zero_le _) (by rw [Nat.zero_add]; exact Nat.le_refl _)
end
section
/-! What the model's methods leave as it was. -/
def mFr (M M' : Mem) : Prop := ∀ k, k ≠ 34 → k ≠ 36 → M' k = M k
theorem mFr.rf {M : Mem} : mFr M M := fun _ _ _ => rfl
theorem mFr.tr {M M' M'' : Mem} (h : mFr M M') (h' : mFr M' M'') : mFr M M'' := fun k a b => (h' k a b).trans (h k a b)
theorem mFr.wr34 {M : Mem} {j : Nat} {v : Int32} : mFr M (wr M 34 j v) := fun _ a _ => wr_cell a
theorem mFr.wr36 {M : Mem} {j : Nat} {v : Int32} : mFr M (wr M 36 j v) := fun _ _ b => wr_cell b
theorem mLet_fr (M : Mem) (k : Nat) (v : Int32) : mFr M (mLet M k v) := mFr.wr34
theorem mGo_fr (M : Mem) (k : Nat) (s : Int32) : mFr M (mGo M k s) := mFr.wr34.tr (mLet_fr _ _ _)
theorem mHit_fr (M : Mem) (k e w : Nat) : mFr M (mHit M k e w) := by
  have h1 : mFr M (mH1 M e) := mFr.wr34
  have h2 : mFr (mH1 M e) (mH2 M e w) := mFr.wr36.tr mFr.wr34
  have h3 : mFr (mH2 M e w) (mH3 M k e w) := mFr.wr34
  have h4 : mFr (mH3 M k e w) (mH4 M k e w) := mFr.wr34
  exact (((h1.tr h2).tr h3).tr h4).tr (mLet_fr _ _ _)
theorem mStep_fr (M : Mem) (k : Nat) : mFr M (mStep M k) := by
  unfold mStep
  split
  · split
    · exact (mGo_fr _ _ _).tr (mHit_fr _ _ _ _)
    · exact mGo_fr _ _ _
  · exact mLet_fr _ _ _
theorem mStepL_fr (M : Mem) : ∀ k, mFr M (mStepL M k)
  | 0 => mFr.rf
  | k + 1 => by
    unfold mStepL
    split
    · exact (mStepL_fr M k).tr (mStep_fr _ _)
    · exact mStepL_fr M k
theorem mMeet_fr (M : Mem) (k : Nat) : mFr M (mMeet M k) := by
  unfold mMeet
  split
  · exact (mLet_fr _ _ _).tr mFr.wr34
  · exact mFr.rf
theorem mMeetL_fr (M : Mem) : ∀ k, mFr M (mMeetL M k)
  | 0 => mFr.rf
  | k + 1 => (mMeetL_fr M k).tr (mMeet_fr _ _)
theorem mHush_fr (M : Mem) (e : Nat) : mFr M (mHush M e) := by
  have h1 : mFr M (mSil M e) := mFr.wr34
  unfold mHush
  split
  · split
    · exact (h1.tr mFr.wr34).tr (mFr.wr34.tr mFr.wr34)
    · exact h1.tr mFr.wr34
  · exact h1
theorem mB3_fr (M : Mem) : mFr M (mB3 M) := by
  have h0 : mFr M (mGot0 M) := mFr.wr36.tr mFr.wr36
  have h1 : mFr M (mB1 M) := h0.tr (mStepL_fr _ _)
  have h2 : mFr M (mB2 M) := h1.tr (mMeetL_fr _ _)
  unfold mB3
  exact (h2.tr (mHush_fr _ _)).tr (mHush_fr _ _)
theorem mBeat_fr (M : Mem) : mFr M (mBeat M) := by
  unfold mBeat
  exact (mB3_fr M).tr mFr.wr34
theorem mBeats_fr (M : Mem) : ∀ n, mFr M (mBeats M n)
  | 0 => mFr.rf
  | n + 1 => by
    unfold mBeats
    exact (mBeats_fr M n).tr (mBeat_fr _)
/-- a look: beats on the kept, and back -/
def mLook (M : Mem) (n : Nat) : Mem := mBack (mBeats (mKeep M) n)
theorem mLook_cell (M : Mem) (n : Nat) {k : Nat} (h : k ≠ 34 ∧ k ≠ 35 ∧ k ≠ 36) : mLook M n k = M k := by
  unfold mLook
  have e := mBeats_fr (mKeep M) n k h.1 h.2.2
  generalize mBeats (mKeep M) n = Q at e ⊢
  show (if k = 34 then _ else Q k) = _
  rw [if_neg h.1, e]
  show (if k = 35 then _ else M k) = _
  rw [if_neg h.2.1]
theorem mLook_now (M : Mem) (n : Nat) {j : Nat} (h : j < 187) : mLook M n 34 j = M 34 j := by
  unfold mLook
  have e := mBeats_fr (mKeep M) n 35 (by decide) (by decide)
  generalize mBeats (mKeep M) n = Q at e ⊢
  show cpn (Q 35) (Q 34) 187 j = _
  rw [e]
  show (if j < 187 then (cpn (M 34) (M 35) 187) j else _) = _
  rw [if_pos h]
  show (if j < 187 then _ else _) = _
  rw [if_pos h]
theorem mLook_ok {M : Mem} (h : mOK M) (n : Nat) : mOK (mLook M n) := by
  obtain ⟨h1, h2, h3, h4⟩ := h
  have a := mLook_cell M n (k := 29) ⟨by decide, by decide, by decide⟩
  have b := mLook_cell M n (k := 31) ⟨by decide, by decide, by decide⟩
  exact ⟨by rw [a]; exact h1, by rw [a]; exact h2, by rw [b]; exact h3, fun w hw => by rw [mLook_now M n (by omega)]; exact h4 w hw⟩
theorem mLook_ok2 {M : Mem} (h : mOK2 M) (n : Nat) : mOK2 (mLook M n) := by
  have a := mLook_cell M n (k := 30) ⟨by decide, by decide, by decide⟩
  have b := mLook_cell M n (k := 33) ⟨by decide, by decide, by decide⟩
  exact ⟨by rw [a]; exact h.1, by rw [b]; exact h.2⟩
theorem mOK.wr38 {M : Mem} {j : Nat} {v : Int32} (h : mOK M) : mOK (wr M 38 j v) := ⟨h.1, h.2.1, h.2.2.1, h.2.2.2⟩
theorem mOK2.wr38 {M : Mem} {j : Nat} {v : Int32} (h : mOK2 M) : mOK2 (wr M 38 j v) := ⟨h.1, h.2⟩
theorem mOK.thr2 {M : Mem} (h : mOK M) : mOK (wr M 29 0 0) := ⟨h.1, h.2.1, h.2.2.1, h.2.2.2⟩
end
section
/-! The model's checksum, walked. -/
abbrev rmX2_digest : Room := { frames := 6, cells := 1, slots := 8, locals := 142 }
/-- a new row of eight ints: cell 38 of a larger world -/
def gT (g : GT) (q : Nat) : GT := (gB g, gD g, (gI g, gZ g, gJ g), (fun k => if k = 38 then q else ga g k), 39)
theorem gT_ga (g : GT) (q : Nat) {k : Nat} (h : k < 38) : ga (gT g q) k = ga g k := by
  show (if k = 38 then q else ga g k) = _
  rw [if_neg (by omega)]
def oLt (o : Option Nat) : Bool := match o with
  | some t => Nat.blt t 38
  | none => true
theorem xrow_lt (k : Nat) : ∀ t, some t ∈ xrow k → t < 38 := by
  have h : (xrow k).all oLt = true := by
    unfold xrow
    split <;> rfl
  intro t ht
  exact Nat.le_of_ble_eq_true (List.all_eq_true.mp h _ ht)
theorem xfl_ga {a a' : Nat → Nat} (c : Nat → Int32) (h : ∀ t, t < 38 → a t = a' t) : ∀ (r : List (Option Nat)) (j : Nat), (∀ t, some t ∈ r → t < 38) → xfl a c r j = xfl a' c r j
  | [], _, _ => rfl
  | some t :: r, j, hr => by
    show Value.ref (a t) :: _ = Value.ref (a' t) :: _
    rw [h t (hr t List.mem_cons_self), xfl_ga c h r (j + 1) (fun t' ht => hr t' (List.mem_cons_of_mem _ ht))]
  | none :: r, j, hr => by
    show Value.int (c j) :: _ = Value.int (c j) :: _
    rw [xfl_ga c h r (j + 1) (fun t' ht => hr t' (List.mem_cons_of_mem _ ht))]
theorem xe_gT (g : GT) (q : Nat) (c : Nat → Int32) (k : Nat) : xe (gT g q) c k = xe g c k := by
  unfold xe
  rw [xfl_ga (a := ga (gT g q)) (a' := ga g) c (fun t ht => gT_ga g q ht) (xrow k) 0 (xrow_lt k)]
  rfl
theorem wl_gT (g : GT) (q : Nat) (hg : gn g = 38) (M : Mem) (c : Nat → Int32) : wl (gT g q) (wrc M 38 c) = wl g M ++ [(q, .inl (gI g, 8, .inl c))] := by
  unfold wl
  rw [show gn (gT g q) = 38 + 1 from rfl, hg, List.range_succ, List.map_append]
  have e1 : (List.range 38).map (fun k => (ga (gT g q) k, xe (gT g q) (wrc M 38 c k) k)) = (List.range 38).map (fun k => (ga g k, xe g (M k) k)) := by
    refine List.map_congr_left (fun k hk => ?_)
    have hk := List.mem_range.mp hk
    rw [gT_ga g q hk, xe_gT]
    unfold wrc
    rw [if_neg (by omega)]
  have e2 : (ga (gT g q) 38, xe (gT g q) (wrc M 38 c 38) 38) = (q, (.inl (gI g, 8, .inl c) : va_E)) := by
    rw [xe_gT, xe_I g _ (k := 38) rfl]
    rfl
  rw [e1, List.map_singleton, e2]
theorem Hd_gT {g : GT} {q : Nat} (hg : gn g = 38) {M : Mem} {H : Heap} (h : Hd (gT g q) M H) : Hd g M H := by
  intro k p hp
  have hk : k < 38 := by rw [← hg, ← wl_len g M]; exact (List.getElem?_eq_some_iff.mp hp).1
  rw [wl_at g M (by omega)] at hp
  cases hp
  have := h k (ga (gT g q) k, xe (gT g q) (M k) k) (wl_at (gT g q) M (show k < 39 by omega))
  rw [gT_ga g q hk, xe_gT] at this
  exact this
theorem GK_gT {g : GT} {U : State} {q : Nat} (hg : gn g = 38) (h : GK g U) (hq : gB g ≤ q) (hn : ∀ k, k < 38 → ga g k ≠ q) : GK (gT g q) U := by
  obtain ⟨h1, h2, h3, h4, h5, h6, -⟩ := h
  refine ⟨h1, h2, h3, h4, fun j k hj hk e => ?_, fun k hk => ?_, (by decide : 38 ≤ 39), Nat.le_refl 39⟩
  · have hj : j < 39 := hj
    have hk : k < 39 := hk
    have e : (if j = 38 then q else ga g j) = (if k = 38 then q else ga g k) := e
    by_cases a : j = 38 <;> by_cases b : k = 38
    · omega
    · rw [if_pos a, if_neg b] at e; exact absurd e.symm (hn k (by omega))
    · rw [if_neg a, if_pos b] at e; exact absurd e (hn j (by omega))
    · rw [if_neg a, if_neg b] at e; exact h5 j k (by omega) (by omega) e
  · have hk : k < 39 := hk
    show gB g ≤ (if k = 38 then q else ga g k)
    split
    · exact hq
    · exact h6 k (by omega)
section NEWT
variable {X : XT} {g : GT} {l : Launch} {cc : ByteArray} {mL : Nat} {own : String} {ret : Option FieldType} {rm : Room} {kc ks pc : Nat} {lo : List (Nat × Value)} {st : List Value} {M M' : Mem} {res : Option Value}
theorem x_newT (C : Cx X g l cc mL own ret rm) (hg : gn g = 38) (hR : kc + 1 ≤ rm.cells ∧ ks + 8 ≤ rm.slots) (d : decode cc pc = .ok (.newarray .int, 2))
    (kk : ∀ q : Nat, Cx X (gT g q) l cc mL own ret rm → V X (gT g q) (kc + 1) (ks + 8) (pc + 2) [(0, .ref (ga (gT g q) 29))] [.ref (ga (gT g q) 38)] (wrc M 38 (fun _ => 0))) : V X g kc ks pc [(0, .ref (ga g 29))] [.int 8] M := by
  intro H locs ls h1 h2 h3
  have hK := C.2.2.2.2.1
  have hR' : xR X = rm := C.2.2.2.2.2.2.2.2.1
  have hb0 : gB g ≤ (xS X).heap.size := C.2.2.2.2.2.1.1
  have w1 : (Cond.arrayClass .int) ∈ lw_tbl := by decide +kernel
  refine va_newaK C.1 C.2.1 (atype := .int) (C.wm w1 rfl) rfl d rfl (N := 8) (by decide) (by decide) (by decide) (by rw [hR']; exact hR.1) (by rw [hR']; exact hR.2) rfl (fun H1 cA e1 z1 o1 hAr hNm => ?_)
  have hcA : cA = gI g := by
    have q2 := (hK.2.1.2 0 _ (show (gty g)[0]? = some (gI g, .int) from rfl)).2
    have q3 : (xS X).vm.findClass ("[" ++ (FieldType.int).toString) = some (gI g) := q2
    have q4 : (xS X).vm.findClass ("[" ++ (FieldType.int).toString) = some cA := hNm
    exact Option.some.inj (q4.symm.trans q3)
  subst hcA
  have hlt : ∀ k, k < 38 → ga g k < H.size := fun k hk => (h1 k _ (wl_at g M (by omega))).lt
  have C' : Cx X (gT g H.size) l cc mL own ret rm := ⟨C.1, C.2.1, C.2.2.1, C.2.2.2.1, GK_gT hg hK (Nat.le_trans hb0 h2.1) (fun k hk => Nat.ne_of_lt (hlt k hk)), C.2.2.2.2.2⟩
  have hP : Hd (gT g H.size) (wrc M 38 (fun _ => 0)) H1 := by
    unfold Hd
    rw [wl_gT g H.size hg]
    refine va_P.app (va_P.kept h1 (fun k p hp => o1 p.1 (h1 k p hp).lt)) (fun k p hp => ?_)
    have hz : k < 1 := (List.getElem?_eq_some_iff.mp hp).1
    rw [show k = 0 by omega] at hp
    cases hp
    show H1[H.size]? = some (vp_cell _ _)
    rw [e1]
    rfl
  have h2' : va_S (gA (gT g H.size)) (xS X).heap H1 locs := ⟨Nat.le_trans h2.1 (by omega), fun x a b => (o1 x (Nat.lt_of_lt_of_le a h2.1)).trans (h2.2.1 x a b), h2.2.2⟩
  have k := kk H.size C' H1 locs ls hP h2' (by rw [gT_ga g H.size (by decide)]; exact h3)
  rw [show ga (gT g H.size) 38 = H.size from rfl] at k
  exact k
theorem x_lretT {q : Nat} (hg : gn g = 38) (C : Cx X (gT g q) l cc mL own (some .long) rm) (hq : Rt X g rm res M') {v : Int64} (hk : kc ≤ rm.cells ∧ ks ≤ rm.slots) (d : decode cc pc = .ok (.lreturn, 1)) (hres : res = some (.long v)) (hm : M' = M) : V X (gT g q) kc ks pc lo [.long v] M := by
  intro H locs ls h1 h2 h3
  show W _ _ _ _ _ _ _ _ _ _ _ _ _ _ (xQ X) _
  rw [show xQ X = _ from hq]
  have h2' : va_S (gA g) (xS X).heap H locs := h2
  exact W.widen hk.1 hk.2 (W.lret C.1 C.2.1 C.2.2.2.2.2.2.2.1 (x_endG (Hd_gT hg h1) h2' hres hm) (fun q hq => h2'.2.2 q hq) d C.2.2.2.2.2.2.1)
end NEWT
/-! the checksum as a function -/
def mx (d : Int64) (x : Int32) : Int64 := d * 31 + x.toInt64
def mDA (c : Nat → Int32) : Nat → Int64
  | 0 => 2309
  | i + 1 => mx (mDA c i) (c i)
def mErn (M : Mem) (e : Nat) : Int32 := mBeats (mKeep M) (tn 20) 34 (3 + e) - mBack (mBeats (mKeep M) (tn 20)) 34 (3 + e)
def mEM (M : Mem) : Nat → Mem
  | 0 => M
  | e + 1 => mBack (mBeats (mKeep (mEM M e)) (tn 20))
def mDB (d : Int64) (M : Mem) : Nat → Int64
  | 0 => d
  | e + 1 => mx (mx (mx (mx (mDB d M e) (mEM M e 34 (3 + e))) (mWO (mEM M e) (nI e))) (mEM M e 34 (5 + e))) (mErn (mEM M e) e)
def mDC (d : Int64) (M : Mem) : Nat → Int64
  | 0 => d
  | w + 1 => mx (mx (mx (mDC d M w) (M 32 w)) (M 34 (7 + w))) (M 34 (17 + w))
def mDD (d : Int64) (M : Mem) : Nat → Int64
  | 0 => d
  | k + 1 => mx (mx (mx (mx (mDD d M k) (M 34 (27 + k))) (mPl M k)) (b2i (mRt M k))) (M 34 (147 + k))
def mDE (d : Int64) (M : Mem) : Nat → Int64
  | 0 => d
  | s + 1 => mx (mx (mx (mDE d M s) (M 30 s)) (mLA M (nI s))) (mNx M 1 34 (nI s + 1))
theorem mEM_ok {M : Mem} (h : mOK M) : ∀ e, mOK (mEM M e) ∧ mEM M e 29 = M 29
  | 0 => ⟨h, rfl⟩
  | e + 1 => by
    obtain ⟨a1, a2⟩ := mEM_ok h e
    exact ⟨mLook_ok a1 (tn 20), (mLook_cell (mEM M e) (tn 20) ⟨by decide, by decide, by decide⟩).trans a2⟩
set_option maxHeartbeats 1000000 in
set_option maxRecDepth 100000 in
theorem q2_dig_E {X : XT} {l : Launch} {g : GT} {M : Mem} {d0 : Int64} {q : Nat} (h : mOK M) (hg : gn g = 38) (C : Cx X (gT g q) l cX2_digest 8 RX2 (some .long) rmX2_digest) (hq : Rt X g rmX2_digest (some (.long (mDE d0 M 32))) M) : ∀ (n i : Nat), i ≤ 32 → 32 + 1 ≤ i + n → V X (gT g q) 1 8 347 [(4, .int (nI i)), (2, .long (mDE d0 M i)), (0, .ref (ga (gT g q) 29))] [] M := by
  intro n
  induction n with
  | zero =>
    intro i h1 h2; omega
  | succ n ih =>
    intro i h1 h2
    refine x_iload C dX2_digest_347 rfl ?_
    refine x_bipush C (v := 32) dX2_digest_349 (by decide) ?_
    refine x_icmp_ge C (tgt := 400) dX2_digest_351 (by decide) (fun c351 => ?_) (fun c351 => ?_)
    · have he : i = 32 := by
        have z := (nI_leI (a := 32) (b := i) (by decide) (by omega)).mp c351
        omega
      subst he
      refine x_lload_n C dX2_digest_400 rfl ?_
      exact x_lretT hg C hq ⟨by decide, by decide⟩ dX2_digest_401 (rfl) (rfl)
    · have hlt : i < 32 := Nat.lt_of_not_le (fun z => c351 (nI_le (a := 32) z (by omega)))
      have hi : 0 ≤ nI i ∧ nI i ≤ 31 := ⟨nI_pos' (by omega), nI_le (b := 31) (by omega) (by decide)⟩
      refine x_lload_n C dX2_digest_354 rfl ?_
      refine x_ldc2 C dX2_digest_355 ll_X2_160 ?_
      refine x_lmul C dX2_digest_358 ?_
      refine x_aload_n C dX2_digest_359 rfl ?_
      refine x_getR C fl_X2_9 rfl (by decide) rfl dX2_digest_360 ?_
      refine x_iload C dX2_digest_363 rfl ?_
      refine x_iald C (n := 32) rfl (by decide) rfl (rfl) ((by omega : i < 32)) dX2_digest_365 ?_
      refine x_i2l C dX2_digest_366 ?_
      refine x_ladd C dX2_digest_367 ?_
      refine x_ldc2 C dX2_digest_368 ll_X2_160 ?_
      refine x_lmul C dX2_digest_371 ?_
      refine x_aload_n C dX2_digest_372 rfl ?_
      refine x_iload C dX2_digest_373 rfl ?_
      refine x_callV0r C (q2_loudAt l (gT g q) _ h (nI i)) cd_X2_loudAt kl_X2_115 ci2 rfl (by decide) (as := [_]) rfl rfl ⟨⟨by decide, by decide⟩, by decide, by decide⟩ ⟨rfl, rfl⟩ (Nat.le_of_ble_eq_true rfl) dX2_digest_375 ?_
      refine x_i2l C dX2_digest_378 ?_
      refine x_ladd C dX2_digest_379 ?_
      refine x_ldc2 C dX2_digest_380 ll_X2_160 ?_
      refine x_lmul C dX2_digest_383 ?_
      refine x_aload_n C dX2_digest_384 rfl ?_
      refine x_iload C dX2_digest_385 rfl ?_
      refine x_iconst C (v := 1) dX2_digest_387 (by decide) ?_
      refine x_callV0r C (q2_next l (gT g q) _ h (nI i) 1 hi (Or.inl rfl)) cd_X2_next kl_X2_130 ci2 rfl (by decide) (as := [_, _]) rfl rfl ⟨⟨by decide, by decide⟩, by decide, by decide⟩ ⟨rfl, rfl⟩ (Nat.le_of_ble_eq_true rfl) dX2_digest_388 ?_
      refine x_i2l C dX2_digest_391 ?_
      refine x_ladd C dX2_digest_392 ?_
      refine x_lstore_n C (lo' := [(2, _), (4, _), (0, _)]) dX2_digest_393 (by decide) rfl ?_
      refine x_iinc C (v := nI (i + 1)) (lo' := [(4, _), (2, _), (0, _)]) dX2_digest_394 rfl (nI_inc _) (by decide) rfl ?_
      refine x_goto C (tgt := 347) dX2_digest_397 (by decide) ?_
      exact x_lsub [0, 1, 2] rfl (ih (i + 1) hlt (by omega))
set_option maxHeartbeats 1000000 in
set_option maxRecDepth 100000 in
theorem q2_dig_D {X : XT} {l : Launch} {g : GT} {M : Mem} {d0 : Int64} {q : Nat} (h : mOK M) (hg : gn g = 38) (C : Cx X (gT g q) l cX2_digest 8 RX2 (some .long) rmX2_digest) (hq : Rt X g rmX2_digest (some (.long (mDE (mDD d0 M (mSh M)) M 32))) M) : ∀ (n i : Nat), i ≤ mSh M → mSh M + 1 ≤ i + n → V X (gT g q) 1 8 262 [(4, .int (nI i)), (2, .long (mDD d0 M i)), (0, .ref (ga (gT g q) 29))] [] M := by
  intro n
  induction n with
  | zero =>
    intro i h1 h2; omega
  | succ n ih =>
    intro i h1 h2
    have hsh := h.sh
    refine x_iload C dX2_digest_262 rfl ?_
    refine x_aload_n C dX2_digest_264 rfl ?_
    refine x_getI C fl_X2_43 rfl (by decide) rfl dX2_digest_265 ?_
    refine x_icmp_ge C (tgt := 344) dX2_digest_268 (by decide) (fun c268 => ?_) (fun c268 => ?_)
    · have he : i = mSh M := Nat.le_antisymm h1 ((ge_tn h.2.1.1 (by omega)).mp c268)
      subst he
      refine x_iconst C (v := 0) dX2_digest_344 (by decide) ?_
      refine x_istore C (lo' := [(4, _), (2, _), (0, _)]) dX2_digest_345 (by decide) rfl ?_
      exact x_lsub [0, 1, 2] rfl (q2_dig_E h hg C hq 33 0 (by decide) (by decide))
    · have hlt : i < mSh M := lt_of_nge h.2.1.1 (by omega) c268
      refine x_lload_n C dX2_digest_271 rfl ?_
      refine x_ldc2 C dX2_digest_272 ll_X2_160 ?_
      refine x_lmul C dX2_digest_275 ?_
      refine x_aload_n C dX2_digest_276 rfl ?_
      refine x_getR C fl_X2_22 rfl (by decide) rfl dX2_digest_277 ?_
      refine x_bipush C (v := 27) dX2_digest_280 (by decide) ?_
      refine x_iload C dX2_digest_282 rfl ?_
      refine x_iadd C dX2_digest_284 ?_
      refine x_iald C (n := 187) rfl (by decide) rfl (nI_add 27 i) ((by omega : 27 + i < 187)) dX2_digest_285 ?_
      refine x_i2l C dX2_digest_286 ?_
      refine x_ladd C dX2_digest_287 ?_
      refine x_ldc2 C dX2_digest_288 ll_X2_160 ?_
      refine x_lmul C dX2_digest_291 ?_
      refine x_aload_n C dX2_digest_292 rfl ?_
      refine x_iload C dX2_digest_293 rfl ?_
      refine x_callV0r C (q2_place l (gT g q) _ i (by omega)) cd_X2_place kl_X2_124 ci2 rfl (by decide) (as := [_]) rfl rfl ⟨⟨by decide, by decide⟩, by decide, by decide⟩ ⟨rfl, rfl⟩ (Nat.le_of_ble_eq_true rfl) dX2_digest_295 ?_
      refine x_i2l C dX2_digest_298 ?_
      refine x_ladd C dX2_digest_299 ?_
      refine x_ldc2 C dX2_digest_300 ll_X2_160 ?_
      refine x_lmul C dX2_digest_303 ?_
      refine x_aload_n C dX2_digest_304 rfl ?_
      refine x_iload C dX2_digest_305 rfl ?_
      refine x_callV0r C (q2_isRight l (gT g q) _ i (by omega)) cd_X2_isRight kl_X2_127 ci2 rfl (by decide) (as := [_]) rfl rfl ⟨⟨by decide, by decide⟩, by decide, by decide⟩ ⟨rfl, rfl⟩ (Nat.le_of_ble_eq_true rfl) dX2_digest_307 ?_
      refine x_bif_eq C (tgt := 317) dX2_digest_310 (by decide) (fun c310 => ?_) (fun c310 => ?_)
      · refine x_iconst C (v := 0) dX2_digest_317 (by decide) ?_
        refine x_i2l C dX2_digest_318 ?_
        refine x_ladd C dX2_digest_319 ?_
        refine x_ldc2 C dX2_digest_320 ll_X2_160 ?_
        refine x_lmul C dX2_digest_323 ?_
        refine x_aload_n C dX2_digest_324 rfl ?_
        refine x_getR C fl_X2_22 rfl (by decide) rfl dX2_digest_325 ?_
        refine x_sipush C (v := 147) dX2_digest_328 (by decide) ?_
        refine x_iload C dX2_digest_331 rfl ?_
        refine x_iadd C dX2_digest_333 ?_
        refine x_iald C (n := 187) rfl (by decide) rfl (nI_add 147 i) ((by omega : 147 + i < 187)) dX2_digest_334 ?_
        refine x_i2l C dX2_digest_335 ?_
        refine x_ladd C dX2_digest_336 ?_
        refine x_lstore_n C (lo' := [(2, _), (4, _), (0, _)]) dX2_digest_337 (by decide) rfl ?_
        refine x_iinc C (v := nI (i + 1)) (lo' := [(4, _), (2, _), (0, _)]) dX2_digest_338 rfl (nI_inc _) (by decide) rfl ?_
        refine x_goto C (tgt := 262) dX2_digest_341 (by decide) ?_
        first
          | (have e : mDD d0 M (i + 1) = mx (mx (mx (mx (mDD d0 M i) (M 34 (27 + i))) (mPl M i)) 1) (M 34 (147 + i)) := congrArg (fun z => mx (mx (mx (mx (mDD d0 M i) (M 34 (27 + i))) (mPl M i)) z) (M 34 (147 + i))) (b2i_t c310)
             have z := ih (i + 1) hlt (by omega)
             rw [e] at z
             exact x_lsub [0, 1, 2] rfl z)
          | (have e : mDD d0 M (i + 1) = mx (mx (mx (mx (mDD d0 M i) (M 34 (27 + i))) (mPl M i)) 0) (M 34 (147 + i)) := congrArg (fun z => mx (mx (mx (mx (mDD d0 M i) (M 34 (27 + i))) (mPl M i)) z) (M 34 (147 + i))) (b2i_f c310)
             have z := ih (i + 1) hlt (by omega)
             rw [e] at z
             exact x_lsub [0, 1, 2] rfl z)
      · refine x_iconst C (v := 1) dX2_digest_313 (by decide) ?_
        refine x_goto C (tgt := 318) dX2_digest_314 (by decide) ?_
        refine x_i2l C dX2_digest_318 ?_
        refine x_ladd C dX2_digest_319 ?_
        refine x_ldc2 C dX2_digest_320 ll_X2_160 ?_
        refine x_lmul C dX2_digest_323 ?_
        refine x_aload_n C dX2_digest_324 rfl ?_
        refine x_getR C fl_X2_22 rfl (by decide) rfl dX2_digest_325 ?_
        refine x_sipush C (v := 147) dX2_digest_328 (by decide) ?_
        refine x_iload C dX2_digest_331 rfl ?_
        refine x_iadd C dX2_digest_333 ?_
        refine x_iald C (n := 187) rfl (by decide) rfl (nI_add 147 i) ((by omega : 147 + i < 187)) dX2_digest_334 ?_
        refine x_i2l C dX2_digest_335 ?_
        refine x_ladd C dX2_digest_336 ?_
        refine x_lstore_n C (lo' := [(2, _), (4, _), (0, _)]) dX2_digest_337 (by decide) rfl ?_
        refine x_iinc C (v := nI (i + 1)) (lo' := [(4, _), (2, _), (0, _)]) dX2_digest_338 rfl (nI_inc _) (by decide) rfl ?_
        refine x_goto C (tgt := 262) dX2_digest_341 (by decide) ?_
        first
          | (have e : mDD d0 M (i + 1) = mx (mx (mx (mx (mDD d0 M i) (M 34 (27 + i))) (mPl M i)) 1) (M 34 (147 + i)) := congrArg (fun z => mx (mx (mx (mx (mDD d0 M i) (M 34 (27 + i))) (mPl M i)) z) (M 34 (147 + i))) (b2i_t c310)
             have z := ih (i + 1) hlt (by omega)
             rw [e] at z
             exact x_lsub [0, 1, 2] rfl z)
          | (have e : mDD d0 M (i + 1) = mx (mx (mx (mx (mDD d0 M i) (M 34 (27 + i))) (mPl M i)) 0) (M 34 (147 + i)) := congrArg (fun z => mx (mx (mx (mx (mDD d0 M i) (M 34 (27 + i))) (mPl M i)) z) (M 34 (147 + i))) (b2i_f c310)
             have z := ih (i + 1) hlt (by omega)
             rw [e] at z
             exact x_lsub [0, 1, 2] rfl z)
set_option maxHeartbeats 1000000 in
set_option maxRecDepth 100000 in
theorem q2_dig_C {X : XT} {l : Launch} {g : GT} {M : Mem} {d0 : Int64} {q : Nat} (h : mOK M) (hg : gn g = 38) (C : Cx X (gT g q) l cX2_digest 8 RX2 (some .long) rmX2_digest) (hq : Rt X g rmX2_digest (some (.long (mDE (mDD (mDC d0 M (mWs M)) M (mSh M)) M 32))) M) : ∀ (n i : Nat), i ≤ mWs M → mWs M + 1 ≤ i + n → V X (gT g q) 1 8 197 [(4, .int (nI i)), (2, .long (mDC d0 M i)), (0, .ref (ga (gT g q) 29))] [] M := by
  intro n
  induction n with
  | zero =>
    intro i h1 h2; omega
  | succ n ih =>
    intro i h1 h2
    have hws := h.ws
    refine x_iload C dX2_digest_197 rfl ?_
    refine x_aload_n C dX2_digest_199 rfl ?_
    refine x_getI C fl_X2_40 rfl (by decide) rfl dX2_digest_200 ?_
    refine x_icmp_ge C (tgt := 259) dX2_digest_203 (by decide) (fun c203 => ?_) (fun c203 => ?_)
    · have he : i = mWs M := Nat.le_antisymm h1 ((ge_tn h.1.1 (by omega)).mp c203)
      subst he
      refine x_iconst C (v := 0) dX2_digest_259 (by decide) ?_
      refine x_istore C (lo' := [(4, _), (2, _), (0, _)]) dX2_digest_260 (by decide) rfl ?_
      exact x_lsub [0, 1, 2] rfl (q2_dig_D h hg C hq (mSh M + 1) 0 (Nat.zero_le _) (by omega))
    · have hlt : i < mWs M := lt_of_nge h.1.1 (by omega) c203
      refine x_lload_n C dX2_digest_206 rfl ?_
      refine x_ldc2 C dX2_digest_207 ll_X2_160 ?_
      refine x_lmul C dX2_digest_210 ?_
      refine x_aload_n C dX2_digest_211 rfl ?_
      refine x_getR C fl_X2_16 rfl (by decide) rfl dX2_digest_212 ?_
      refine x_iload C dX2_digest_215 rfl ?_
      refine x_iald C (n := 10) rfl (by decide) rfl (rfl) ((by omega : i < 10)) dX2_digest_217 ?_
      refine x_i2l C dX2_digest_218 ?_
      refine x_ladd C dX2_digest_219 ?_
      refine x_ldc2 C dX2_digest_220 ll_X2_160 ?_
      refine x_lmul C dX2_digest_223 ?_
      refine x_aload_n C dX2_digest_224 rfl ?_
      refine x_getR C fl_X2_22 rfl (by decide) rfl dX2_digest_225 ?_
      refine x_bipush C (v := 7) dX2_digest_228 (by decide) ?_
      refine x_iload C dX2_digest_230 rfl ?_
      refine x_iadd C dX2_digest_232 ?_
      refine x_iald C (n := 187) rfl (by decide) rfl (nI_add 7 i) ((by omega : 7 + i < 187)) dX2_digest_233 ?_
      refine x_i2l C dX2_digest_234 ?_
      refine x_ladd C dX2_digest_235 ?_
      refine x_ldc2 C dX2_digest_236 ll_X2_160 ?_
      refine x_lmul C dX2_digest_239 ?_
      refine x_aload_n C dX2_digest_240 rfl ?_
      refine x_getR C fl_X2_22 rfl (by decide) rfl dX2_digest_241 ?_
      refine x_bipush C (v := 17) dX2_digest_244 (by decide) ?_
      refine x_iload C dX2_digest_246 rfl ?_
      refine x_iadd C dX2_digest_248 ?_
      refine x_iald C (n := 187) rfl (by decide) rfl (nI_add 17 i) ((by omega : 17 + i < 187)) dX2_digest_249 ?_
      refine x_i2l C dX2_digest_250 ?_
      refine x_ladd C dX2_digest_251 ?_
      refine x_lstore_n C (lo' := [(2, _), (4, _), (0, _)]) dX2_digest_252 (by decide) rfl ?_
      refine x_iinc C (v := nI (i + 1)) (lo' := [(4, _), (2, _), (0, _)]) dX2_digest_253 rfl (nI_inc _) (by decide) rfl ?_
      refine x_goto C (tgt := 197) dX2_digest_256 (by decide) ?_
      exact x_lsub [0, 1, 2] rfl (ih (i + 1) hlt (by omega))
set_option maxHeartbeats 1000000 in
set_option maxRecDepth 100000 in
theorem q2_dig_B {X : XT} {l : Launch} {g : GT} {M : Mem} {d0 : Int64} {q : Nat} (h : mOK M) (hg : gn g = 38) (C : Cx X (gT g q) l cX2_digest 8 RX2 (some .long) rmX2_digest) (hq : Rt X g rmX2_digest (some (.long (mDE (mDD (mDC (mDB d0 M 2) (mEM M 2) (mWs (mEM M 2))) (mEM M 2) (mSh (mEM M 2))) (mEM M 2) 32))) (mEM M 2)) : ∀ (n i : Nat), i ≤ 2 → 2 + 1 ≤ i + n → V X (gT g q) 1 8 124 [(4, .int (nI i)), (2, .long (mDB d0 M i)), (0, .ref (ga (gT g q) 29))] [] (mEM M i) := by
  intro n
  induction n with
  | zero =>
    intro i h1 h2; omega
  | succ n ih =>
    intro i h1 h2
    refine x_iload C dX2_digest_124 rfl ?_
    refine x_iconst C (v := 2) dX2_digest_126 (by decide) ?_
    refine x_icmp_ge C (tgt := 194) dX2_digest_127 (by decide) (fun c127 => ?_) (fun c127 => ?_)
    · have he : i = 2 := by
        have z := (nI_leI (a := 2) (b := i) (by decide) (by omega)).mp c127
        omega
      subst he
      refine x_iconst C (v := 0) dX2_digest_194 (by decide) ?_
      refine x_istore C (lo' := [(4, _), (2, _), (0, _)]) dX2_digest_195 (by decide) rfl ?_
      exact x_lsub [0, 1, 2] rfl (q2_dig_C (mEM_ok h 2).1 hg C hq (mWs (mEM M 2) + 1) 0 (Nat.zero_le _) (by omega))
    · have hlt : i < 2 := Nat.lt_of_not_le (fun z => c127 (nI_le (a := 2) z (by omega)))
      have hk := (mEM_ok h i).1
      refine x_lload_n C dX2_digest_130 rfl ?_
      refine x_ldc2 C dX2_digest_131 ll_X2_160 ?_
      refine x_lmul C dX2_digest_134 ?_
      refine x_aload_n C dX2_digest_135 rfl ?_
      refine x_getR C fl_X2_22 rfl (by decide) rfl dX2_digest_136 ?_
      refine x_iconst C (v := 3) dX2_digest_139 (by decide) ?_
      refine x_iload C dX2_digest_140 rfl ?_
      refine x_iadd C dX2_digest_142 ?_
      refine x_iald C (n := 187) rfl (by decide) rfl (nI_add 3 i) ((by omega : 3 + i < 187)) dX2_digest_143 ?_
      refine x_i2l C dX2_digest_144 ?_
      refine x_ladd C dX2_digest_145 ?_
      refine x_ldc2 C dX2_digest_146 ll_X2_160 ?_
      refine x_lmul C dX2_digest_149 ?_
      refine x_aload_n C dX2_digest_150 rfl ?_
      refine x_iload C dX2_digest_151 rfl ?_
      refine x_callV0r C (q2_manyOf l (gT g q) _ hk (nI i)) cd_X2_manyOf kl_X2_118 ci2 rfl (by decide) (as := [_]) rfl rfl ⟨⟨by decide, by decide⟩, by decide, by decide⟩ ⟨rfl, rfl⟩ (Nat.le_of_ble_eq_true rfl) dX2_digest_153 ?_
      refine x_i2l C dX2_digest_156 ?_
      refine x_ladd C dX2_digest_157 ?_
      refine x_ldc2 C dX2_digest_158 ll_X2_160 ?_
      refine x_lmul C dX2_digest_161 ?_
      refine x_aload_n C dX2_digest_162 rfl ?_
      refine x_getR C fl_X2_22 rfl (by decide) rfl dX2_digest_163 ?_
      refine x_iconst C (v := 5) dX2_digest_166 (by decide) ?_
      refine x_iload C dX2_digest_167 rfl ?_
      refine x_iadd C dX2_digest_169 ?_
      refine x_iald C (n := 187) rfl (by decide) rfl (nI_add 5 i) ((by omega : 5 + i < 187)) dX2_digest_170 ?_
      refine x_i2l C dX2_digest_171 ?_
      refine x_ladd C dX2_digest_172 ?_
      refine x_ldc2 C dX2_digest_173 ll_X2_160 ?_
      refine x_lmul C dX2_digest_176 ?_
      refine x_aload_n C dX2_digest_177 rfl ?_
      refine x_iload C dX2_digest_178 rfl ?_
      refine x_bipush C (v := 20) dX2_digest_180 (by decide) ?_
      refine x_callV0r C (q2_earns l (gT g q) _ hk i hlt 20 (by decide)) cd_X2_earns kl_X2_145 ci2 rfl (by decide) (as := [_, _]) rfl rfl ⟨⟨by decide, by decide⟩, by decide, by decide⟩ ⟨rfl, rfl⟩ (Nat.le_of_ble_eq_true rfl) dX2_digest_182 ?_
      refine x_i2l C dX2_digest_185 ?_
      refine x_ladd C dX2_digest_186 ?_
      refine x_lstore_n C (lo' := [(2, _), (4, _), (0, _)]) dX2_digest_187 (by decide) rfl ?_
      refine x_iinc C (v := nI (i + 1)) (lo' := [(4, _), (2, _), (0, _)]) dX2_digest_188 rfl (nI_inc _) (by decide) rfl ?_
      refine x_goto C (tgt := 124) dX2_digest_191 (by decide) ?_
      exact x_lsub [0, 1, 2] rfl (ih (i + 1) hlt (by omega))
set_option maxHeartbeats 1000000 in
set_option maxRecDepth 100000 in
theorem q2_dig_A {X : XT} {l : Launch} {g : GT} {M : Mem} {q : Nat} (h : mOK M) (hg : gn g = 38) (C : Cx X (gT g q) l cX2_digest 8 RX2 (some .long) rmX2_digest) (hq : Rt X g rmX2_digest (some (.long (mDE (mDD (mDC (mDB (mDA (M 38) 8) M 2) (mEM M 2) (mWs (mEM M 2))) (mEM M 2) (mSh (mEM M 2))) (mEM M 2) 32))) (mEM M 2)) : ∀ (n i : Nat), i ≤ 8 → 8 + 1 ≤ i + n → V X (gT g q) 1 8 91 [(6, .int (nI i)), (5, .int (nI 8)), (4, .ref (ga (gT g q) 38)), (2, .long (mDA (M 38) i)), (1, .ref (ga (gT g q) 38)), (0, .ref (ga (gT g q) 29))] [] M := by
  intro n
  induction n with
  | zero =>
    intro i h1 h2; omega
  | succ n ih =>
    intro i h1 h2
    refine x_iload C dX2_digest_91 rfl ?_
    refine x_iload C dX2_digest_93 rfl ?_
    refine x_icmp_ge C (tgt := 121) dX2_digest_95 (by decide) (fun c95 => ?_) (fun c95 => ?_)
    · have he : i = 8 := by
        have z := (nI_leI (a := 8) (b := i) (by decide) (by omega)).mp c95
        omega
      subst he
      refine x_iconst C (v := 0) dX2_digest_121 (by decide) ?_
      refine x_istore C (lo' := [(4, _), (6, _), (5, _), (2, _), (1, _), (0, _)]) dX2_digest_122 (by decide) rfl ?_
      exact x_lsub [0, 3, 5] rfl (q2_dig_B h hg C hq 3 0 (by decide) (by decide))
    · have hlt : i < 8 := Nat.lt_of_not_le (fun z => c95 (nI_le (a := 8) z (by omega)))
      refine x_aload C dX2_digest_98 rfl ?_
      refine x_iload C dX2_digest_100 rfl ?_
      refine x_ialdG C (n := 8) rfl (by decide : 38 < 39) rfl (rfl) ((by omega : i < 8)) dX2_digest_102 ?_
      refine x_istore C (lo' := [(7, _), (6, _), (5, _), (4, _), (2, _), (1, _), (0, _)]) dX2_digest_103 (by decide) rfl ?_
      refine x_lload_n C dX2_digest_105 rfl ?_
      refine x_ldc2 C dX2_digest_106 ll_X2_160 ?_
      refine x_lmul C dX2_digest_109 ?_
      refine x_iload C dX2_digest_110 rfl ?_
      refine x_i2l C dX2_digest_112 ?_
      refine x_ladd C dX2_digest_113 ?_
      refine x_lstore_n C (lo' := [(2, _), (7, _), (6, _), (5, _), (4, _), (1, _), (0, _)]) dX2_digest_114 (by decide) rfl ?_
      refine x_iinc C (v := nI (i + 1)) (lo' := [(6, _), (2, _), (7, _), (5, _), (4, _), (1, _), (0, _)]) dX2_digest_115 rfl (nI_inc _) (by decide) rfl ?_
      refine x_goto C (tgt := 91) dX2_digest_118 (by decide) ?_
      exact x_lsub [0, 3, 4, 1, 5, 6] rfl (ih (i + 1) hlt (by omega))
def dg0 (M : Mem) : Mem := wrc (wr M 29 0 0) 38 (fun _ => 0)
def dg1 (M : Mem) : Mem := wr (dg0 M) 38 0 (dg0 M 34 0)
def dg2 (M : Mem) : Mem := wr (dg1 M) 38 1 (dg1 M 29 1)
def dg3 (M : Mem) : Mem := wr (dg2 M) 38 2 (dg2 M 29 2)
def dg4 (M : Mem) : Mem := wr (dg3 M) 38 3 (mMany (dg3 M))
def dg5 (M : Mem) : Mem := wr (dg4 M) 38 4 (dg4 M 34 1)
def dg6 (M : Mem) : Mem := wr (dg5 M) 38 5 (dg5 M 34 2)
def dg7 (M : Mem) (t : Nat) : Mem := wr (mLook (dg6 M) t) 38 6 (nI t)
def dg8 (M : Mem) (t : Nat) : Mem := wr (dg7 M t) 38 7 (mBest (dg7 M t) 30)
def mDig (M : Mem) : Int64 := mDE (mDD (mDC (mDB (mDA (M 38) 8) M 2) (mEM M 2) (mWs (mEM M 2))) (mEM M 2) (mSh (mEM M 2))) (mEM M 2) 32
theorem dg3_ok {M : Mem} (h : mOK M) : mOK (dg3 M) := (show mOK (dg0 M) from ⟨h.1, h.2.1, h.2.2.1, h.2.2.2⟩).wr38.wr38.wr38
theorem dg6_ok {M : Mem} (h : mOK M) : mOK (dg6 M) := (dg3_ok h).wr38.wr38.wr38
theorem dg7_ok {M : Mem} (h : mOK M) (t : Nat) : mOK (dg7 M t) := (mLook_ok (dg6_ok h) t).wr38
theorem dg7_ok2 {M : Mem} (h : mOK2 M) (t : Nat) : mOK2 (dg7 M t) := (mLook_ok2 (show mOK2 (dg6 M) from ⟨h.1, h.2⟩) t).wr38
theorem dg8_ok {M : Mem} (h : mOK M) (t : Nat) : mOK (dg8 M t) := (dg7_ok h t).wr38
set_option maxHeartbeats 1000000 in
set_option maxRecDepth 100000 in
theorem q2_digest (l : Launch) (g : GT) (M : Mem) (hg : gn g = 38) (h : mOK M) (h2 : mOK2 M) (t : Nat) (ht : ∀ j, j < t → 0 < mMany (mBeats (mKeep (dg6 M)) j)) (ht2 : ¬ 0 < mMany (mBeats (mKeep (dg6 M)) t)) : CM l yX2_digest cX2_digest 8 (some .long) rmX2_digest g M [.ref (ga g 29)] (some (.long (mDig (dg8 M t)))) (mEM (dg8 M t) 2) := by
  refine CM.of (by decide) (Nat.le_of_ble_eq_true rfl) (fun X C hq => ?_)
  have C : Cx X g l cX2_digest 8 RX2 (some .long) rmX2_digest := C
  show V X g 0 0 0 [(0, .ref (ga g 29))] [] M
  refine x_aload_n C dX2_digest_0 rfl ?_
  refine x_iconst C (v := 0) dX2_digest_1 (by decide) ?_
  refine x_putI C fl_X2_32 rfl (by decide) rfl dX2_digest_2 ?_
  refine x_bipush C (v := 8) dX2_digest_5 (by decide) ?_
  refine x_newT C hg (by decide) dX2_digest_7 (fun q C => ?_)
  refine x_mem (M' := dg0 M) rfl ?_
  refine x_dup C dX2_digest_9 rfl ?_
  refine x_iconst C (v := 0) dX2_digest_10 (by decide) ?_
  refine x_aload_n C dX2_digest_11 rfl ?_
  refine x_getR C fl_X2_22 rfl (by decide) rfl dX2_digest_12 ?_
  refine x_iconst C (v := 0) dX2_digest_15 (by decide) ?_
  refine x_iald C (n := 187) rfl (by decide) rfl (rfl) ((by decide : 0 < 187)) dX2_digest_16 ?_
  refine x_iastG C (n := 8) rfl (by decide : 38 < 39) rfl (rfl) ((by decide : 0 < 8)) dX2_digest_17 ?_
  refine x_mem (M' := dg1 M) rfl ?_
  refine x_dup C dX2_digest_18 rfl ?_
  refine x_iconst C (v := 1) dX2_digest_19 (by decide) ?_
  refine x_aload_n C dX2_digest_20 rfl ?_
  refine x_getI C fl_X2_40 rfl (by decide) rfl dX2_digest_21 ?_
  refine x_iastG C (n := 8) rfl (by decide : 38 < 39) rfl (rfl) ((by decide : 1 < 8)) dX2_digest_24 ?_
  refine x_mem (M' := dg2 M) rfl ?_
  refine x_dup C dX2_digest_25 rfl ?_
  refine x_iconst C (v := 2) dX2_digest_26 (by decide) ?_
  refine x_aload_n C dX2_digest_27 rfl ?_
  refine x_getI C fl_X2_43 rfl (by decide) rfl dX2_digest_28 ?_
  refine x_iastG C (n := 8) rfl (by decide : 38 < 39) rfl (rfl) ((by decide : 2 < 8)) dX2_digest_31 ?_
  refine x_mem (M' := dg3 M) rfl ?_
  refine x_dup C dX2_digest_32 rfl ?_
  refine x_iconst C (v := 3) dX2_digest_33 (by decide) ?_
  refine x_aload_n C dX2_digest_34 rfl ?_
  refine x_callV0r C (q2_many l (gT g q) _ (dg3_ok h)) cd_X2_many kl_X2_98 ci2 rfl (by decide) (as := []) rfl rfl ⟨⟨by decide, by decide⟩, by decide, by decide⟩ ⟨rfl, rfl⟩ (Nat.le_of_ble_eq_true rfl) dX2_digest_35 ?_
  refine x_iastG C (n := 8) rfl (by decide : 38 < 39) rfl (rfl) ((by decide : 3 < 8)) dX2_digest_38 ?_
  refine x_mem (M' := dg4 M) rfl ?_
  refine x_dup C dX2_digest_39 rfl ?_
  refine x_iconst C (v := 4) dX2_digest_40 (by decide) ?_
  refine x_aload_n C dX2_digest_41 rfl ?_
  refine x_getR C fl_X2_22 rfl (by decide) rfl dX2_digest_42 ?_
  refine x_iconst C (v := 1) dX2_digest_45 (by decide) ?_
  refine x_iald C (n := 187) rfl (by decide) rfl (rfl) ((by decide : 1 < 187)) dX2_digest_46 ?_
  refine x_iastG C (n := 8) rfl (by decide : 38 < 39) rfl (rfl) ((by decide : 4 < 8)) dX2_digest_47 ?_
  refine x_mem (M' := dg5 M) rfl ?_
  refine x_dup C dX2_digest_48 rfl ?_
  refine x_iconst C (v := 5) dX2_digest_49 (by decide) ?_
  refine x_aload_n C dX2_digest_50 rfl ?_
  refine x_getR C fl_X2_22 rfl (by decide) rfl dX2_digest_51 ?_
  refine x_iconst C (v := 2) dX2_digest_54 (by decide) ?_
  refine x_iald C (n := 187) rfl (by decide) rfl (rfl) ((by decide : 2 < 187)) dX2_digest_55 ?_
  refine x_iastG C (n := 8) rfl (by decide : 38 < 39) rfl (rfl) ((by decide : 5 < 8)) dX2_digest_56 ?_
  refine x_mem (M' := dg6 M) rfl ?_
  refine x_dup C dX2_digest_57 rfl ?_
  refine x_bipush C (v := 6) dX2_digest_58 (by decide) ?_
  refine x_aload_n C dX2_digest_60 rfl ?_
  refine x_callV0r C (q2_untilQuiet l (gT g q) _ (dg6_ok h) t ht ht2) cd_X2_untilQuiet kl_X2_142 ci2 rfl (by decide) (as := []) rfl rfl ⟨⟨by decide, by decide⟩, by decide, by decide⟩ ⟨rfl, rfl⟩ (Nat.le_of_ble_eq_true rfl) dX2_digest_61 ?_
  refine x_iastG C (n := 8) rfl (by decide : 38 < 39) rfl (rfl) ((by decide : 6 < 8)) dX2_digest_64 ?_
  refine x_mem (M' := dg7 M t) rfl ?_
  refine x_dup C dX2_digest_65 rfl ?_
  refine x_bipush C (v := 7) dX2_digest_66 (by decide) ?_
  refine x_aload_n C dX2_digest_68 rfl ?_
  refine x_bipush C (v := 30) dX2_digest_69 (by decide) ?_
  refine x_callV0r C (q2_best l (gT g q) _ (dg7_ok h t) (dg7_ok2 h2 t) 30 (by decide)) cd_X2_best kl_X2_155 ci2 rfl (by decide) (as := [_]) rfl rfl ⟨⟨by decide, by decide⟩, by decide, by decide⟩ ⟨rfl, rfl⟩ (Nat.le_of_ble_eq_true rfl) dX2_digest_71 ?_
  refine x_iastG C (n := 8) rfl (by decide : 38 < 39) rfl (rfl) ((by decide : 7 < 8)) dX2_digest_74 ?_
  refine x_mem (M' := dg8 M t) rfl ?_
  refine x_astore_n C (lo' := [(1, _), (0, _)]) dX2_digest_75 (by decide) rfl ?_
  refine x_ldc2 C dX2_digest_76 ll_X2_158 ?_
  refine x_lstore_n C (lo' := [(2, _), (1, _), (0, _)]) dX2_digest_79 (by decide) rfl ?_
  refine x_aload_n C dX2_digest_80 rfl ?_
  refine x_astore C (lo' := [(4, _), (2, _), (1, _), (0, _)]) dX2_digest_81 (by decide) rfl ?_
  refine x_aload C dX2_digest_83 rfl ?_
  refine x_alen C (n := 8) rfl (by decide : 38 < 39) rfl dX2_digest_85 ?_
  refine x_istore C (lo' := [(5, _), (4, _), (2, _), (1, _), (0, _)]) dX2_digest_86 (by decide) rfl ?_
  refine x_iconst C (v := 0) dX2_digest_88 (by decide) ?_
  refine x_istore C (lo' := [(6, _), (5, _), (4, _), (2, _), (1, _), (0, _)]) dX2_digest_89 (by decide) rfl ?_
  exact q2_dig_A (dg8_ok h t) hg C hq 9 0 (by decide) (by decide)
end
section
/-! The canyon's methods as functions of the memory; b is the canyon's own cell (1 or 15): slots beatCount, wallCount, shoutCount, underWayCount, overlapCount, inheritedCount; cells b+1 snow, b+2 wallAt, b+3 shoutAt, b+4 wallStone, b+5 wallOwner, b+6 wallSoaks, b+7 wallThrows, b+8 coins, b+9 silence, b+10 loud, b+11 place, b+12 step, b+13 turns. -/
theorem wr_ap (M : Mem) (k j : Nat) (v : Int32) (k' j' : Nat) : wr M k j v k' j' = if k' = k ∧ j' = j then v else M k' j' := by
  by_cases hk : k' = k
  · subst hk
    by_cases hj : j' = j
    · subst hj; rw [wr_eq, if_pos ⟨rfl, rfl⟩]
    · rw [wr_ne (Or.inr hj), if_neg (fun z => hj z.2)]
  · rw [wr_ne (Or.inl hk), if_neg (fun z => hk z.1)]
theorem wrc_ap (M : Mem) (k : Nat) (c : Nat → Int32) (k' j' : Nat) : wrc M k c k' j' = if k' = k then c j' else M k' j' := by
  unfold wrc; split <;> rfl
theorem wrc_cell {M : Mem} {k : Nat} {c : Nat → Int32} {k' : Nat} (h : k' ≠ k) : wrc M k c k' = M k' := by unfold wrc; rw [if_neg h]
theorem fill_0 (M : Mem) (k : Nat) (v : Int32) : wrc M k (cpn (fun _ => v) (M k) 0) = M := by
  funext k' j'
  rw [wrc_ap]
  split
  · rename_i h; subst h; rfl
  · rfl
theorem fill_s (M : Mem) (k : Nat) (v : Int32) (i : Nat) : wr (wrc M k (cpn (fun _ => v) (M k) i)) k i v = wrc M k (cpn (fun _ => v) (M k) (i + 1)) := by
  funext k' j'
  rw [wr_ap, wrc_ap, wrc_ap]
  by_cases hk : k' = k
  · subst hk
    rw [if_pos rfl, if_pos rfl]
    unfold cpn
    by_cases h1 : j' = i
    · rw [if_pos ⟨rfl, h1⟩, if_pos (by omega)]
    · rw [if_neg (fun z => h1 z.2)]
      by_cases h2 : j' < i
      · rw [if_pos h2, if_pos (by omega)]
      · rw [if_neg h2, if_neg (by omega)]
  · rw [if_neg (fun z => hk z.1), if_neg hk, if_neg hk]
def cFill (b : Nat) (M : Mem) : Mem := wrc M (b + 3) (cpn (fun _ => -1) (M (b + 3)) 32)
def cHush (b : Nat) (M : Mem) (k : Nat) : Mem := wr (wr (wr (wr M (b + 10) k 0) (b + 11) k (-1)) (b + 12) k 0) b 3 (M b 3 - 1)
def cTurn (b : Nat) (M : Mem) (w k : Nat) : Mem :=
  wr (wr (wr (wr (wr M (b + 8) (tn (M (b + 5) w)) (M (b + 8) (tn (M (b + 5) w)) + 1)) (b + 7) w (M (b + 7) w + 1)) (b + 13) k (M (b + 13) k + 1)) (b + 10) k (M (b + 10) k - M (b + 6) w)) (b + 12) k (-(M (b + 12) k))
def cGo (b : Nat) (M : Mem) (k : Nat) (s : Int32) : Mem := wr (wr M (b + 11) k s) (b + 10) k (M (b + 10) k - (1 + M (b + 1) (tn s)))
def cMv (b : Nat) (M : Mem) (k : Nat) (s : Int32) : Mem := if 0 < cGo b M k s (b + 10) k ∧ M (b + 2) (tn s) ≠ -1 then cTurn b (cGo b M k s) (tn (M (b + 2) (tn s))) k else cGo b M k s
def cS (b : Nat) (M : Mem) (k : Nat) : Int32 := M (b + 11) k + M (b + 12) k
def cMove (b : Nat) (M : Mem) (k : Nat) : Mem :=
  if 0 ≤ cS b M k ∧ cS b M k ≤ 31 then (if 0 < cMv b M k (cS b M k) (b + 10) k then cMv b M k (cS b M k) else cHush b (cMv b M k (cS b M k)) k) else cHush b M k
def cOv (b : Nat) (M : Mem) : Mem := wr M b 4 (M b 4 + 1)
def cSettle (b : Nat) (M : Mem) (k : Nat) : Mem :=
  if M (b + 3) (tn (M (b + 11) k)) = -1 then wr M (b + 3) (tn (M (b + 11) k)) (nI k)
  else if M (b + 10) (tn (M (b + 3) (tn (M (b + 11) k)))) < M (b + 10) k then wr (cHush b (cOv b M) (tn (M (b + 3) (tn (M (b + 11) k))))) (b + 3) (tn (M (b + 11) k)) (nI k)
  else cHush b (cOv b M) k
def cMeetL (b : Nat) (M : Mem) : Nat → Mem
  | 0 => cFill b M
  | k + 1 => if 0 < cMeetL b M k (b + 10) k then cSettle b (cMeetL b M k) k else cMeetL b M k
def cMoveL (b : Nat) (M : Mem) : Nat → Mem
  | 0 => M
  | k + 1 => if 0 < cMoveL b M k (b + 10) k then cMove b (cMoveL b M k) k else cMoveL b M k
def cOth (e : Int32) : Int32 := if e = 0 then 1 else 0
def cLW (b : Nat) (M : Mem) (e : Nat) : Nat → Nat → Mem
  | 0, _ => M
  | n + 1, w => if M (b + 5) w = nI e then wr (wr M (b + 5) w (cOth (nI e))) b 5 (M b 5 + 1) else cLW b M e n (w + 1)
abbrev cWs (b : Nat) (M : Mem) : Nat := tn (M b 1)
abbrev cSh (b : Nat) (M : Mem) : Nat := tn (M b 2)
def cSil (b : Nat) (M : Mem) (e : Nat) (p : Int32) : Mem := wr M (b + 9) e (if p = 0 then M (b + 9) e + 1 else 0)
def cListen (b : Nat) (M : Mem) (e : Nat) (p : Int32) : Mem :=
  if cSil b M e p (b + 9) e = 12 then cLW b (wr (cSil b M e p) (b + 9) e 0) e (cWs b M) 0 else cSil b M e p
def cB1 (b : Nat) (M : Mem) : Mem := cMoveL b M (cSh b M)
def cB2 (b : Nat) (M : Mem) : Mem := cMeetL b (cB1 b M) (cSh b M)
def cB3 (b : Nat) (M : Mem) : Mem := cListen b (cB2 b M) 0 (b2i (M (b + 8) 0 < cB2 b M (b + 8) 0))
def cB4 (b : Nat) (M : Mem) : Mem := cListen b (cB3 b M) 1 (b2i (M (b + 8) 1 < cB3 b M (b + 8) 1))
def cBeat (b : Nat) (M : Mem) : Mem := wr (cB4 b M) b 0 (cB4 b M b 0 + 1)
def cBeats (b : Nat) (M : Mem) : Nat → Mem
  | 0 => M
  | n + 1 => cBeat b (cBeats b M n)
/-! what keeps the canyon's indices in range -/
def cOK (b : Nat) (M : Mem) : Prop :=
  (0 ≤ M b 1 ∧ M b 1 ≤ 10) ∧ (0 ≤ M b 2 ∧ M b 2 ≤ 40) ∧ (∀ s, s < 32 → M (b + 2) s = -1 ∨ (0 ≤ M (b + 2) s ∧ M (b + 2) s ≤ 9)) ∧ (∀ w, w < 10 → 0 ≤ M (b + 5) w ∧ M (b + 5) w ≤ 1) ∧
  (∀ s, s < 32 → M (b + 3) s = -1 ∨ (0 ≤ M (b + 3) s ∧ M (b + 3) s ≤ 39)) ∧ (∀ k, k < 40 → 0 < M (b + 10) k → 0 ≤ M (b + 11) k ∧ M (b + 11) k ≤ 31)
theorem cOK.ws {b : Nat} {M : Mem} (h : cOK b M) : cWs b M ≤ 10 := tn_le (n := 10) h.1.1 (by decide) h.1.2
theorem cOK.sh {b : Nat} {M : Mem} (h : cOK b M) : cSh b M ≤ 40 := tn_le (n := 40) h.2.1.1 (by decide) h.2.1.2
theorem tn39 {x : Int32} (h : 0 ≤ x ∧ x ≤ 39) : tn x < 40 := Nat.lt_succ_of_le (tn_le (n := 39) h.1 (by decide) h.2)
/-- what no beat's first two steps change: the counts of walls and shouts, the walls, their echoes -/
def cSame (b : Nat) (M M' : Mem) : Prop := M' b 1 = M b 1 ∧ M' b 2 = M b 2 ∧ M' (b + 2) = M (b + 2) ∧ M' (b + 5) = M (b + 5)
theorem cSame.rf {b : Nat} {M : Mem} : cSame b M M := ⟨rfl, rfl, rfl, rfl⟩
theorem cSame.tr {b : Nat} {M M' M'' : Mem} (h : cSame b M M') (g : cSame b M' M'') : cSame b M M'' := ⟨g.1.trans h.1, g.2.1.trans h.2.1, g.2.2.1.trans h.2.2.1, g.2.2.2.trans h.2.2.2⟩
theorem cSame.wr {b : Nat} {M : Mem} {k j : Nat} {v : Int32} (h : (k = b ∧ 3 ≤ j) ∨ k = b + 3 ∨ b + 6 ≤ k) : cSame b M (wr M k j v) := by
  refine ⟨wr_ne (by omega), wr_ne (by omega), wr_cell (by omega), wr_cell (by omega)⟩
theorem cSame.wc {b : Nat} {M : Mem} {k : Nat} {c : Nat → Int32} (h : k = b + 3 ∨ b + 6 ≤ k) : cSame b M (wrc M k c) := by
  have e : ∀ k', k' ≠ k → wrc M k c k' = M k' := fun k' hk => wrc_cell hk
  exact ⟨by rw [e b (by omega)], by rw [e b (by omega)], e _ (by omega), e _ (by omega)⟩
theorem cHush_same (b : Nat) (M : Mem) (k : Nat) : cSame b M (cHush b M k) := (((cSame.wr (by omega)).tr (cSame.wr (by omega))).tr (cSame.wr (by omega))).tr (cSame.wr (by omega))
theorem cTurn_same (b : Nat) (M : Mem) (w k : Nat) : cSame b M (cTurn b M w k) := ((((cSame.wr (by omega)).tr (cSame.wr (by omega))).tr (cSame.wr (by omega))).tr (cSame.wr (by omega))).tr (cSame.wr (by omega))
theorem cGo_same (b : Nat) (M : Mem) (k : Nat) (s : Int32) : cSame b M (cGo b M k s) := (cSame.wr (by omega)).tr (cSame.wr (by omega))
theorem cMv_same (b : Nat) (M : Mem) (k : Nat) (s : Int32) : cSame b M (cMv b M k s) := by
  unfold cMv
  split
  · exact (cGo_same _ _ _ _).tr (cTurn_same _ _ _ _)
  · exact cGo_same _ _ _ _
theorem cMove_same (b : Nat) (M : Mem) (k : Nat) : cSame b M (cMove b M k) := by
  unfold cMove
  split
  · split
    · exact cMv_same _ _ _ _
    · exact (cMv_same _ _ _ _).tr (cHush_same _ _ _)
  · exact cHush_same _ _ _
theorem cMoveL_same (b : Nat) (M : Mem) : ∀ k, cSame b M (cMoveL b M k)
  | 0 => cSame.rf
  | k + 1 => by
    unfold cMoveL
    split
    · exact (cMoveL_same b M k).tr (cMove_same _ _ _)
    · exact cMoveL_same b M k
theorem cSettle_same (b : Nat) (M : Mem) (k : Nat) : cSame b M (cSettle b M k) := by
  have h1 : cSame b M (cOv b M) := cSame.wr (by omega)
  unfold cSettle
  split
  · exact cSame.wr (by omega)
  · split
    · exact (h1.tr (cHush_same _ _ _)).tr (cSame.wr (by omega))
    · exact h1.tr (cHush_same _ _ _)
theorem cMeetL_same (b : Nat) (M : Mem) : ∀ k, cSame b M (cMeetL b M k)
  | 0 => cSame.wc (by omega)
  | k + 1 => by
    unfold cMeetL
    split
    · exact (cMeetL_same b M k).tr (cSettle_same _ _ _)
    · exact cMeetL_same b M k
/-- the two parts of cOK that the first two steps touch -/
def cOKs (b : Nat) (M : Mem) : Prop := (∀ s, s < 32 → M (b + 3) s = -1 ∨ (0 ≤ M (b + 3) s ∧ M (b + 3) s ≤ 39)) ∧ (∀ k, k < 40 → 0 < M (b + 10) k → 0 ≤ M (b + 11) k ∧ M (b + 11) k ≤ 31)
theorem cOK.mk {b : Nat} {M M' : Mem} (h : cOK b M) (s : cSame b M M') (g : cOKs b M') : cOK b M' := by
  obtain ⟨h1, h2, h3, h4, -, -⟩ := h
  obtain ⟨s1, s2, s3, s4⟩ := s
  exact ⟨by rw [s1]; exact h1, by rw [s2]; exact h2, by rw [s3]; exact h3, by rw [s4]; exact h4, g.1, g.2⟩
theorem cOK.s {b : Nat} {M : Mem} (h : cOK b M) : cOKs b M := ⟨h.2.2.2.2.1, h.2.2.2.2.2⟩
theorem cHush_s {b : Nat} {M : Mem} (h : cOKs b M) (k : Nat) : cOKs b (cHush b M k) := by
  refine ⟨fun s hs => ?_, fun j hj hl => ?_⟩
  · have e : cHush b M k (b + 3) s = M (b + 3) s := by
      unfold cHush; rw [wr_ne (by omega), wr_ne (by omega), wr_ne (by omega), wr_ne (by omega)]
    rw [e]; exact h.1 s hs
  · by_cases hjk : j = k
    · subst hjk
      have e : cHush b M j (b + 10) j = 0 := by
        unfold cHush; rw [wr_ne (by omega), wr_ne (by omega), wr_ne (by omega), wr_eq]
      rw [e] at hl; exact absurd hl (by decide)
    · have e1 : cHush b M k (b + 10) j = M (b + 10) j := by
        unfold cHush; rw [wr_ne (by omega), wr_ne (by omega), wr_ne (by omega), wr_ne (by omega)]
      have e2 : cHush b M k (b + 11) j = M (b + 11) j := by
        unfold cHush; rw [wr_ne (by omega), wr_ne (by omega), wr_ne (by omega), wr_ne (by omega)]
      rw [e1] at hl; rw [e2]; exact h.2 j hj hl
theorem cGo_s {b : Nat} {M : Mem} (h : cOKs b M) (k : Nat) {s : Int32} (hs : 0 ≤ s ∧ s ≤ 31) : cOKs b (cGo b M k s) := by
  refine ⟨fun q hq => ?_, fun j hj hl => ?_⟩
  · have e : cGo b M k s (b + 3) q = M (b + 3) q := by
      unfold cGo; rw [wr_ne (by omega), wr_ne (by omega)]
    rw [e]; exact h.1 q hq
  · by_cases hjk : j = k
    · subst hjk
      have e : cGo b M j s (b + 11) j = s := by
        unfold cGo; rw [wr_ne (by omega), wr_eq]
      rw [e]; exact hs
    · have e1 : cGo b M k s (b + 10) j = M (b + 10) j := by
        unfold cGo; rw [wr_ne (by omega), wr_ne (by omega)]
      have e2 : cGo b M k s (b + 11) j = M (b + 11) j := by
        unfold cGo; rw [wr_ne (by omega), wr_ne (by omega)]
      rw [e1] at hl; rw [e2]; exact h.2 j hj hl
theorem cTurn_s {b : Nat} {M : Mem} (h : cOKs b M) (w k : Nat) (hl : 0 < M (b + 10) k) : cOKs b (cTurn b M w k) := by
  refine ⟨fun q hq => ?_, fun j hj hl2 => ?_⟩
  · have e : cTurn b M w k (b + 3) q = M (b + 3) q := by
      unfold cTurn; rw [wr_ne (by omega), wr_ne (by omega), wr_ne (by omega), wr_ne (by omega), wr_ne (by omega)]
    rw [e]; exact h.1 q hq
  · have e2 : cTurn b M w k (b + 11) j = M (b + 11) j := by
      unfold cTurn; rw [wr_ne (by omega), wr_ne (by omega), wr_ne (by omega), wr_ne (by omega), wr_ne (by omega)]
    rw [e2]
    by_cases hjk : j = k
    · subst hjk; exact h.2 j hj hl
    · have e1 : cTurn b M w k (b + 10) j = M (b + 10) j := by
        unfold cTurn; rw [wr_ne (by omega), wr_ne (by omega), wr_ne (by omega), wr_ne (by omega), wr_ne (by omega)]
      rw [e1] at hl2; exact h.2 j hj hl2
theorem cMv_s {b : Nat} {M : Mem} (h : cOKs b M) (k : Nat) {s : Int32} (hs : 0 ≤ s ∧ s ≤ 31) : cOKs b (cMv b M k s) := by
  unfold cMv
  split
  · rename_i c
    exact cTurn_s (cGo_s h k hs) _ _ c.1
  · exact cGo_s h k hs
theorem cMove_s {b : Nat} {M : Mem} (h : cOKs b M) (k : Nat) : cOKs b (cMove b M k) := by
  unfold cMove
  split
  · rename_i hs
    split
    · exact cMv_s h k hs
    · exact cHush_s (cMv_s h k hs) k
  · exact cHush_s h k
theorem cMoveL_s {b : Nat} {M : Mem} (h : cOKs b M) : ∀ k, cOKs b (cMoveL b M k)
  | 0 => h
  | k + 1 => by
    unfold cMoveL
    split
    · exact cMove_s (cMoveL_s h k) k
    · exact cMoveL_s h k
theorem cOKs.at3 {b : Nat} {M : Mem} (h : cOKs b M) {q : Nat} {v : Int32} (hv : v = -1 ∨ (0 ≤ v ∧ v ≤ 39)) : cOKs b (wr M (b + 3) q v) := by
  refine ⟨fun s hs => ?_, fun j hj hl => ?_⟩
  · rw [wr_ap]
    split
    · exact hv
    · exact h.1 s hs
  · rw [wr_ne (by omega)] at hl ⊢
    exact h.2 j hj hl
theorem cOv_s {b : Nat} {M : Mem} (h : cOKs b M) : cOKs b (cOv b M) := by
  refine ⟨fun s hs => ?_, fun j hj hl => ?_⟩
  · have e : cOv b M (b + 3) s = M (b + 3) s := wr_ne (by omega)
    rw [e]; exact h.1 s hs
  · have e1 : cOv b M (b + 10) j = M (b + 10) j := wr_ne (by omega)
    have e2 : cOv b M (b + 11) j = M (b + 11) j := wr_ne (by omega)
    rw [e1] at hl; rw [e2]; exact h.2 j hj hl
theorem nI39 {k : Nat} (h : k < 40) : nI k = -1 ∨ (0 ≤ nI k ∧ nI k ≤ 39) := Or.inr ⟨nI_pos' (by omega), nI_le (b := 39) (by omega) (by decide)⟩
theorem cSettle_s {b : Nat} {M : Mem} (h : cOKs b M) {k : Nat} (hk : k < 40) : cOKs b (cSettle b M k) := by
  unfold cSettle
  split
  · exact h.at3 (nI39 hk)
  · split
    · exact (cHush_s (cOv_s h) _).at3 (nI39 hk)
    · exact cHush_s (cOv_s h) _
theorem cFill_s {b : Nat} {M : Mem} (h : cOKs b M) : cOKs b (cFill b M) := by
  refine ⟨fun s hs => ?_, fun j hj hl => ?_⟩
  · left
    unfold cFill
    rw [wrc_ap, if_pos rfl]
    unfold cpn
    rw [if_pos hs]
  · have e1 : cFill b M (b + 10) = M (b + 10) := wrc_cell (by omega)
    have e2 : cFill b M (b + 11) = M (b + 11) := wrc_cell (by omega)
    rw [e1] at hl; rw [e2]; exact h.2 j hj hl
theorem cMeetL_s {b : Nat} {M : Mem} (h : cOKs b M) : ∀ k, k ≤ 40 → cOKs b (cMeetL b M k)
  | 0, _ => cFill_s h
  | k + 1, hk => by
    unfold cMeetL
    split
    · exact cSettle_s (cMeetL_s h k (by omega)) (by omega)
    · exact cMeetL_s h k (by omega)
theorem cB1_ok {b : Nat} {M : Mem} (h : cOK b M) : cOK b (cB1 b M) ∧ cSame b M (cB1 b M) := ⟨h.mk (cMoveL_same _ _ _) (cMoveL_s h.s _), cMoveL_same _ _ _⟩
theorem cB2_ok {b : Nat} {M : Mem} (h : cOK b M) : cOK b (cB2 b M) ∧ cSame b M (cB2 b M) := by
  have a := cB1_ok h
  exact ⟨a.1.mk (cMeetL_same _ _ _) (cMeetL_s a.1.s _ h.sh), a.2.tr (cMeetL_same _ _ _)⟩
theorem cOth_in (e : Int32) : 0 ≤ cOth e ∧ cOth e ≤ 1 := by
  unfold cOth
  split <;> decide
theorem cLW_ok {b : Nat} {M : Mem} (h : cOK b M) (e : Nat) : ∀ n w, cOK b (cLW b M e n w) ∧ cLW b M e n w b 2 = M b 2 ∧ cLW b M e n w b 1 = M b 1 ∧ cLW b M e n w (b + 8) = M (b + 8)
  | 0, _ => ⟨h, rfl, rfl, rfl⟩
  | n + 1, w => by
    unfold cLW
    split
    · obtain ⟨h1, h2, h3, h4, h5, h6⟩ := h
      refine ⟨⟨?_, ?_, fun s hs => ?_, fun q hq => ?_, fun s hs => ?_, fun j hj hl => ?_⟩, ?_, ?_, ?_⟩
      · rw [wr_ne (by omega), wr_ne (by omega)]; exact h1
      · rw [wr_ne (by omega), wr_ne (by omega)]; exact h2
      · rw [wr_ne (by omega), wr_ne (by omega)]; exact h3 s hs
      · rw [wr_ne (by omega), wr_ap]
        split
        · exact cOth_in _
        · exact h4 q hq
      · rw [wr_ne (by omega), wr_ne (by omega)]; exact h5 s hs
      · rw [wr_ne (by omega), wr_ne (by omega)] at hl ⊢; exact h6 j hj hl
      · rw [wr_ne (by omega), wr_ne (by omega)]
      · rw [wr_ne (by omega), wr_ne (by omega)]
      · rw [wr_cell (by omega), wr_cell (by omega)]
    · exact cLW_ok h e n (w + 1)
theorem cOK.at9 {b : Nat} {M : Mem} (h : cOK b M) {e : Nat} {v : Int32} : cOK b (wr M (b + 9) e v) := by
  obtain ⟨h1, h2, h3, h4, h5, h6⟩ := h
  refine ⟨?_, ?_, fun s hs => ?_, fun q hq => ?_, fun s hs => ?_, fun j hj hl => ?_⟩
  · rw [wr_ne (by omega)]; exact h1
  · rw [wr_ne (by omega)]; exact h2
  · rw [wr_ne (by omega)]; exact h3 s hs
  · rw [wr_ne (by omega)]; exact h4 q hq
  · rw [wr_ne (by omega)]; exact h5 s hs
  · rw [wr_ne (by omega)] at hl ⊢; exact h6 j hj hl
theorem cListen_ok {b : Nat} {M : Mem} (h : cOK b M) (e : Nat) (p : Int32) : cOK b (cListen b M e p) ∧ cListen b M e p b 2 = M b 2 ∧ cListen b M e p b 1 = M b 1 ∧ cListen b M e p (b + 8) = M (b + 8) := by
  unfold cListen
  split
  · obtain ⟨a1, a2, a3, a4⟩ := cLW_ok (b := b) (M := wr (cSil b M e p) (b + 9) e 0) (show cOK b (wr (wr M (b + 9) e _) (b + 9) e 0) from h.at9.at9) e (cWs b M) 0
    refine ⟨a1, ?_, ?_, ?_⟩
    · rw [a2, wr_ne (by omega)]; exact wr_ne (by omega)
    · rw [a3, wr_ne (by omega)]; exact wr_ne (by omega)
    · rw [a4, wr_cell (by omega)]; exact wr_cell (by omega)
  · exact ⟨h.at9, wr_ne (by omega), wr_ne (by omega), wr_cell (by omega)⟩
theorem cB3_ok {b : Nat} {M : Mem} (h : cOK b M) : cOK b (cB3 b M) ∧ cB3 b M b 2 = M b 2 ∧ cB3 b M b 1 = M b 1 ∧ cB3 b M (b + 8) = cB2 b M (b + 8) := by
  obtain ⟨a, s1, s2, -, -⟩ := cB2_ok h
  obtain ⟨a1, a2, a3, a4⟩ := cListen_ok a 0 (b2i (M (b + 8) 0 < cB2 b M (b + 8) 0))
  exact ⟨a1, a2.trans s2, a3.trans s1, a4⟩
theorem cB4_ok {b : Nat} {M : Mem} (h : cOK b M) : cOK b (cB4 b M) ∧ cB4 b M b 2 = M b 2 ∧ cB4 b M b 1 = M b 1 := by
  obtain ⟨a, s1, s2, -⟩ := cB3_ok h
  obtain ⟨a1, a2, a3, a4⟩ := cListen_ok a 1 (b2i (M (b + 8) 1 < cB3 b M (b + 8) 1))
  exact ⟨a1, a2.trans s1, a3.trans s2⟩
theorem cBeat_ok {b : Nat} {M : Mem} (h : cOK b M) : cOK b (cBeat b M) ∧ cBeat b M b 2 = M b 2 ∧ cBeat b M b 1 = M b 1 := by
  obtain ⟨⟨h1, h2, h3, h4, h5, h6⟩, s1, s2⟩ := cB4_ok h
  unfold cBeat
  generalize cB4 b M = Q at h1 h2 h3 h4 h5 h6 s1 s2 ⊢
  refine ⟨⟨?_, ?_, fun s hs => ?_, fun q hq => ?_, fun s hs => ?_, fun j hj hl => ?_⟩, ?_, ?_⟩
  · rw [wr_ne (by omega)]; exact h1
  · rw [wr_ne (by omega)]; exact h2
  · rw [wr_ne (by omega)]; exact h3 s hs
  · rw [wr_ne (by omega)]; exact h4 q hq
  · rw [wr_ne (by omega)]; exact h5 s hs
  · rw [wr_ne (by omega)] at hl ⊢; exact h6 j hj hl
  · rw [wr_ne (by omega)]; exact s1
  · rw [wr_ne (by omega)]; exact s2
theorem cBeats_ok {b : Nat} {M : Mem} (h : cOK b M) : ∀ n, cOK b (cBeats b M n) ∧ cBeats b M n b 2 = M b 2 ∧ cBeats b M n b 1 = M b 1
  | 0 => ⟨h, rfl, rfl⟩
  | n + 1 => by
    obtain ⟨a1, a2, a3⟩ := cBeats_ok h n
    unfold cBeats
    obtain ⟨b1, b2, b3⟩ := cBeat_ok a1
    exact ⟨b1, b2.trans a2, b3.trans a3⟩
end
