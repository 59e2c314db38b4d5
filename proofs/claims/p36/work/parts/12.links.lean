/-! The pool's entries: fields, methods, code words, constants. -/
theorem fl_L_15 : FL RL 15 2 1 := ⟨RX2, TX2, 8, ci2, by decide, rfl, Or.inl ⟨503, by decide +kernel⟩⟩
theorem fl_L_38 : FL RL 38 2 0 := ⟨RX2, TX2, 8, ci2, by decide, rfl, Or.inl ⟨501, by decide +kernel⟩⟩
theorem fl_L_50 : FL RL 50 2 2 := ⟨RX2, TX2, 8, ci2, by decide, rfl, Or.inl ⟨505, by decide +kernel⟩⟩
theorem fl_X0_9 : FL RX0 9 0 6 := ⟨RX0, TX0, 19, ci0, by decide, rfl, Or.inl ⟨64, by decide +kernel⟩⟩
theorem fl_X0_15 : FL RX0 15 0 7 := ⟨RX0, TX0, 19, ci0, by decide, rfl, Or.inl ⟨66, by decide +kernel⟩⟩
theorem fl_X0_18 : FL RX0 18 0 8 := ⟨RX0, TX0, 19, ci0, by decide, rfl, Or.inl ⟨68, by decide +kernel⟩⟩
theorem fl_X0_21 : FL RX0 21 0 9 := ⟨RX0, TX0, 19, ci0, by decide, rfl, Or.inl ⟨70, by decide +kernel⟩⟩
theorem fl_X0_24 : FL RX0 24 0 10 := ⟨RX0, TX0, 19, ci0, by decide, rfl, Or.inl ⟨72, by decide +kernel⟩⟩
theorem fl_X0_27 : FL RX0 27 0 11 := ⟨RX0, TX0, 19, ci0, by decide, rfl, Or.inl ⟨74, by decide +kernel⟩⟩
theorem fl_X0_30 : FL RX0 30 0 12 := ⟨RX0, TX0, 19, ci0, by decide, rfl, Or.inl ⟨75, by decide +kernel⟩⟩
theorem fl_X0_33 : FL RX0 33 0 13 := ⟨RX0, TX0, 19, ci0, by decide, rfl, Or.inl ⟨77, by decide +kernel⟩⟩
theorem fl_X0_36 : FL RX0 36 0 14 := ⟨RX0, TX0, 19, ci0, by decide, rfl, Or.inl ⟨79, by decide +kernel⟩⟩
theorem fl_X0_39 : FL RX0 39 0 15 := ⟨RX0, TX0, 19, ci0, by decide, rfl, Or.inl ⟨81, by decide +kernel⟩⟩
theorem fl_X0_42 : FL RX0 42 0 16 := ⟨RX0, TX0, 19, ci0, by decide, rfl, Or.inl ⟨83, by decide +kernel⟩⟩
theorem fl_X0_45 : FL RX0 45 0 17 := ⟨RX0, TX0, 19, ci0, by decide, rfl, Or.inl ⟨85, by decide +kernel⟩⟩
theorem fl_X0_48 : FL RX0 48 0 18 := ⟨RX0, TX0, 19, ci0, by decide, rfl, Or.inl ⟨87, by decide +kernel⟩⟩
theorem fl_X0_57 : FLI RX0 57 0 0 := ⟨RX0, TX0, 19, ci0, by decide, rfl, Or.inl ⟨52, by decide +kernel⟩, rfl, by decide +kernel⟩
theorem fl_X0_61 : FLI RX0 61 0 1 := ⟨RX0, TX0, 19, ci0, by decide, rfl, Or.inl ⟨54, by decide +kernel⟩, rfl, by decide +kernel⟩
theorem fl_X0_64 : FLI RX0 64 0 2 := ⟨RX0, TX0, 19, ci0, by decide, rfl, Or.inl ⟨56, by decide +kernel⟩, rfl, by decide +kernel⟩
theorem fl_X0_67 : FLI RX0 67 0 3 := ⟨RX0, TX0, 19, ci0, by decide, rfl, Or.inl ⟨58, by decide +kernel⟩, rfl, by decide +kernel⟩
theorem fl_X0_70 : FLI RX0 70 0 4 := ⟨RX0, TX0, 19, ci0, by decide, rfl, Or.inl ⟨60, by decide +kernel⟩, rfl, by decide +kernel⟩
theorem fl_X0_73 : FLI RX0 73 0 5 := ⟨RX0, TX0, 19, ci0, by decide, rfl, Or.inl ⟨62, by decide +kernel⟩, rfl, by decide +kernel⟩
theorem fl_X1_10 : FL RX1 10 1 0 := ⟨RX1, TX1, 2, ci1, by decide, rfl, Or.inl ⟨129, by decide +kernel⟩⟩
theorem fl_X1_16 : FL RX1 16 1 1 := ⟨RX1, TX1, 2, ci1, by decide, rfl, Or.inl ⟨130, by decide +kernel⟩⟩
theorem fl_X1_33 : FLI RX1 33 0 1 := ⟨RX0, TX0, 19, ci0, by decide, rfl, Or.inr ⟨55, _, (by decide +kernel : lw_tbl[55]? = some (.fieldLinkNest RX1 33 RX0 (TX0 1).2.1 (TX0 1).2.2.1 RX1))⟩, rfl, by decide +kernel⟩
theorem fl_X1_37 : FL RX1 37 0 7 := ⟨RX0, TX0, 19, ci0, by decide, rfl, Or.inr ⟨67, _, (by decide +kernel : lw_tbl[67]? = some (.fieldLinkNest RX1 37 RX0 (TX0 7).2.1 (TX0 7).2.2.1 RX1))⟩⟩
theorem fl_X1_53 : FL RX1 53 0 10 := ⟨RX0, TX0, 19, ci0, by decide, rfl, Or.inr ⟨73, _, (by decide +kernel : lw_tbl[73]? = some (.fieldLinkNest RX1 53 RX0 (TX0 10).2.1 (TX0 10).2.2.1 RX1))⟩⟩
theorem fl_X1_62 : FL RX1 62 0 6 := ⟨RX0, TX0, 19, ci0, by decide, rfl, Or.inr ⟨65, _, (by decide +kernel : lw_tbl[65]? = some (.fieldLinkNest RX1 62 RX0 (TX0 6).2.1 (TX0 6).2.2.1 RX1))⟩⟩
theorem fl_X1_68 : FLI RX1 68 0 2 := ⟨RX0, TX0, 19, ci0, by decide, rfl, Or.inr ⟨57, _, (by decide +kernel : lw_tbl[57]? = some (.fieldLinkNest RX1 68 RX0 (TX0 2).2.1 (TX0 2).2.2.1 RX1))⟩, rfl, by decide +kernel⟩
theorem fl_X1_71 : FLI RX1 71 0 3 := ⟨RX0, TX0, 19, ci0, by decide, rfl, Or.inr ⟨59, _, (by decide +kernel : lw_tbl[59]? = some (.fieldLinkNest RX1 71 RX0 (TX0 3).2.1 (TX0 3).2.2.1 RX1))⟩, rfl, by decide +kernel⟩
theorem fl_X1_76 : FL RX1 76 0 8 := ⟨RX0, TX0, 19, ci0, by decide, rfl, Or.inr ⟨69, _, (by decide +kernel : lw_tbl[69]? = some (.fieldLinkNest RX1 76 RX0 (TX0 8).2.1 (TX0 8).2.2.1 RX1))⟩⟩
theorem fl_X1_88 : FL RX1 88 0 13 := ⟨RX0, TX0, 19, ci0, by decide, rfl, Or.inr ⟨78, _, (by decide +kernel : lw_tbl[78]? = some (.fieldLinkNest RX1 88 RX0 (TX0 13).2.1 (TX0 13).2.2.1 RX1))⟩⟩
theorem fl_X1_94 : FLI RX1 94 0 0 := ⟨RX0, TX0, 19, ci0, by decide, rfl, Or.inr ⟨53, _, (by decide +kernel : lw_tbl[53]? = some (.fieldLinkNest RX1 94 RX0 (TX0 0).2.1 (TX0 0).2.2.1 RX1))⟩, rfl, by decide +kernel⟩
theorem fl_X1_97 : FLI RX1 97 0 4 := ⟨RX0, TX0, 19, ci0, by decide, rfl, Or.inr ⟨61, _, (by decide +kernel : lw_tbl[61]? = some (.fieldLinkNest RX1 97 RX0 (TX0 4).2.1 (TX0 4).2.2.1 RX1))⟩, rfl, by decide +kernel⟩
theorem fl_X1_103 : FL RX1 103 0 9 := ⟨RX0, TX0, 19, ci0, by decide, rfl, Or.inr ⟨71, _, (by decide +kernel : lw_tbl[71]? = some (.fieldLinkNest RX1 103 RX0 (TX0 9).2.1 (TX0 9).2.2.1 RX1))⟩⟩
theorem fl_X1_106 : FL RX1 106 0 12 := ⟨RX0, TX0, 19, ci0, by decide, rfl, Or.inr ⟨76, _, (by decide +kernel : lw_tbl[76]? = some (.fieldLinkNest RX1 106 RX0 (TX0 12).2.1 (TX0 12).2.2.1 RX1))⟩⟩
theorem fl_X1_109 : FL RX1 109 0 14 := ⟨RX0, TX0, 19, ci0, by decide, rfl, Or.inr ⟨80, _, (by decide +kernel : lw_tbl[80]? = some (.fieldLinkNest RX1 109 RX0 (TX0 14).2.1 (TX0 14).2.2.1 RX1))⟩⟩
theorem fl_X1_112 : FLI RX1 112 0 5 := ⟨RX0, TX0, 19, ci0, by decide, rfl, Or.inr ⟨63, _, (by decide +kernel : lw_tbl[63]? = some (.fieldLinkNest RX1 112 RX0 (TX0 5).2.1 (TX0 5).2.2.1 RX1))⟩, rfl, by decide +kernel⟩
theorem fl_X1_118 : FL RX1 118 0 15 := ⟨RX0, TX0, 19, ci0, by decide, rfl, Or.inr ⟨82, _, (by decide +kernel : lw_tbl[82]? = some (.fieldLinkNest RX1 118 RX0 (TX0 15).2.1 (TX0 15).2.2.1 RX1))⟩⟩
theorem fl_X1_121 : FL RX1 121 0 16 := ⟨RX0, TX0, 19, ci0, by decide, rfl, Or.inr ⟨84, _, (by decide +kernel : lw_tbl[84]? = some (.fieldLinkNest RX1 121 RX0 (TX0 16).2.1 (TX0 16).2.2.1 RX1))⟩⟩
theorem fl_X1_124 : FL RX1 124 0 17 := ⟨RX0, TX0, 19, ci0, by decide, rfl, Or.inr ⟨86, _, (by decide +kernel : lw_tbl[86]? = some (.fieldLinkNest RX1 124 RX0 (TX0 17).2.1 (TX0 17).2.2.1 RX1))⟩⟩
theorem fl_X1_127 : FL RX1 127 0 18 := ⟨RX0, TX0, 19, ci0, by decide, rfl, Or.inr ⟨88, _, (by decide +kernel : lw_tbl[88]? = some (.fieldLinkNest RX1 127 RX0 (TX0 18).2.1 (TX0 18).2.2.1 RX1))⟩⟩
theorem fl_X2_7 : FL RX2 7 2 0 := ⟨RX2, TX2, 8, ci2, by decide, rfl, Or.inl ⟨500, by decide +kernel⟩⟩
theorem fl_X2_14 : FL RX2 14 2 1 := ⟨RX2, TX2, 8, ci2, by decide, rfl, Or.inl ⟨502, by decide +kernel⟩⟩
theorem fl_X2_18 : FL RX2 18 2 2 := ⟨RX2, TX2, 8, ci2, by decide, rfl, Or.inl ⟨504, by decide +kernel⟩⟩
theorem fl_X2_21 : FL RX2 21 2 3 := ⟨RX2, TX2, 8, ci2, by decide, rfl, Or.inl ⟨506, by decide +kernel⟩⟩
theorem fl_X2_24 : FL RX2 24 2 4 := ⟨RX2, TX2, 8, ci2, by decide, rfl, Or.inl ⟨507, by decide +kernel⟩⟩
theorem fl_X2_32 : FLI RX2 32 2 5 := ⟨RX2, TX2, 8, ci2, by decide, rfl, Or.inl ⟨508, by decide +kernel⟩, rfl, by decide +kernel⟩
theorem fl_X2_36 : FLI RX2 36 2 6 := ⟨RX2, TX2, 8, ci2, by decide, rfl, Or.inl ⟨509, by decide +kernel⟩, rfl, by decide +kernel⟩
theorem fl_X2_39 : FLI RX2 39 2 7 := ⟨RX2, TX2, 8, ci2, by decide, rfl, Or.inl ⟨510, by decide +kernel⟩, rfl, by decide +kernel⟩
theorem kl_L_9 : KS RL 9 yL_below := ⟨⟨567, by decide +kernel⟩, ⟨568, by decide +kernel⟩⟩
theorem kl_L_21 : KV RL 21 yX2_wallOn := ⟨⟨579, by decide +kernel⟩, ⟨472, by decide +kernel⟩, ⟨473, by decide +kernel⟩⟩
theorem kl_L_25 : KS RL 25 yX2_with := ⟨⟨580, by decide +kernel⟩, ⟨581, by decide +kernel⟩⟩
theorem kl_L_29 : KV RL 29 yX1_addWall := ⟨⟨583, by decide +kernel⟩, ⟨584, by decide +kernel⟩, ⟨585, by decide +kernel⟩⟩
theorem kl_L_35 : KV RL 35 yX1_hand := ⟨⟨608, by decide +kernel⟩, ⟨609, by decide +kernel⟩, ⟨610, by decide +kernel⟩⟩
theorem kl_L_47 : KV RL 47 yX1_setSnow := ⟨⟨615, by decide +kernel⟩, ⟨616, by decide +kernel⟩, ⟨617, by decide +kernel⟩⟩
theorem kl_L_53 : KV RL 53 yX2_underWay := ⟨⟨620, by decide +kernel⟩, ⟨558, by decide +kernel⟩, ⟨559, by decide +kernel⟩⟩
theorem kl_L_57 : KV RL 57 yX2_loudestOn := ⟨⟨621, by decide +kernel⟩, ⟨476, by decide +kernel⟩, ⟨477, by decide +kernel⟩⟩
theorem kl_L_60 : KV RL 60 yX1_shout := ⟨⟨622, by decide +kernel⟩, ⟨623, by decide +kernel⟩, ⟨624, by decide +kernel⟩⟩
theorem kl_L_64 : KV RL 64 yX1_pass := ⟨⟨136, by decide +kernel⟩, ⟨137, by decide +kernel⟩, ⟨138, by decide +kernel⟩⟩
theorem kl_L_67 : KV RL 67 yX2_pass_ := ⟨⟨629, by decide +kernel⟩, ⟨630, by decide +kernel⟩, ⟨631, by decide +kernel⟩⟩
theorem kl_L_71 : KS RL 71 yL_cell := ⟨⟨571, by decide +kernel⟩, ⟨572, by decide +kernel⟩⟩
theorem kl_L_75 : KS RL 75 yL_act := ⟨⟨575, by decide +kernel⟩, ⟨576, by decide +kernel⟩⟩
theorem kl_L_80 : KS RL 80 yL_build := ⟨⟨633, by decide +kernel⟩, ⟨634, by decide +kernel⟩⟩
theorem kl_L_84 : KV RL 84 yX1_digest := ⟨⟨406, by decide +kernel⟩, ⟨407, by decide +kernel⟩, ⟨408, by decide +kernel⟩⟩
theorem kl_L_88 : KV RL 88 yX1_shouts := ⟨⟨253, by decide +kernel⟩, ⟨254, by decide +kernel⟩, ⟨255, by decide +kernel⟩⟩
theorem kl_L_90 : KV RL 90 yX1_walls := ⟨⟨249, by decide +kernel⟩, ⟨250, by decide +kernel⟩, ⟨251, by decide +kernel⟩⟩
theorem kl_L_92 : KV RL 92 yX1_loudnessOf := ⟨⟨334, by decide +kernel⟩, ⟨335, by decide +kernel⟩, ⟨336, by decide +kernel⟩⟩
theorem kl_L_95 : KV RL 95 yX1_placeOf := ⟨⟨343, by decide +kernel⟩, ⟨344, by decide +kernel⟩, ⟨345, by decide +kernel⟩⟩
theorem kl_L_98 : KV RL 98 yX1_turnsOf := ⟨⟨351, by decide +kernel⟩, ⟨352, by decide +kernel⟩, ⟨353, by decide +kernel⟩⟩
theorem kl_L_101 : KV RL 101 yX1_goesRight := ⟨⟨347, by decide +kernel⟩, ⟨348, by decide +kernel⟩, ⟨349, by decide +kernel⟩⟩
theorem kl_L_105 : KV RL 105 yX1_beatsUntilGone := ⟨⟨355, by decide +kernel⟩, ⟨356, by decide +kernel⟩, ⟨357, by decide +kernel⟩⟩
theorem kl_L_108 : KV RL 108 yX1_beatsUntilQuiet := ⟨⟨366, by decide +kernel⟩, ⟨367, by decide +kernel⟩, ⟨368, by decide +kernel⟩⟩
theorem kl_L_111 : KV RL 111 yX1_loudOn := ⟨⟨289, by decide +kernel⟩, ⟨290, by decide +kernel⟩, ⟨291, by decide +kernel⟩⟩
theorem kl_L_114 : KV RL 114 yX1_thrownBack := ⟨⟨310, by decide +kernel⟩, ⟨311, by decide +kernel⟩, ⟨312, by decide +kernel⟩⟩
theorem kl_L_117 : KV RL 117 yX1_stoneOf := ⟨⟨297, by decide +kernel⟩, ⟨298, by decide +kernel⟩, ⟨299, by decide +kernel⟩⟩
theorem kl_L_120 : KV RL 120 yX1_wallOn := ⟨⟨265, by decide +kernel⟩, ⟨266, by decide +kernel⟩, ⟨267, by decide +kernel⟩⟩
theorem kl_L_121 : KV RL 121 yX1_underWay := ⟨⟨257, by decide +kernel⟩, ⟨258, by decide +kernel⟩, ⟨259, by decide +kernel⟩⟩
theorem kl_L_122 : KV RL 122 yX1_coinsOf := ⟨⟨314, by decide +kernel⟩, ⟨315, by decide +kernel⟩, ⟨316, by decide +kernel⟩⟩
theorem kl_L_125 : KV RL 125 yX1_wallsOf := ⟨⟨322, by decide +kernel⟩, ⟨323, by decide +kernel⟩, ⟨324, by decide +kernel⟩⟩
theorem kl_L_128 : KV RL 128 yX1_silentFor := ⟨⟨326, by decide +kernel⟩, ⟨327, by decide +kernel⟩, ⟨328, by decide +kernel⟩⟩
theorem kl_L_131 : KV RL 131 yX1_loudnessWanted := ⟨⟨381, by decide +kernel⟩, ⟨382, by decide +kernel⟩, ⟨383, by decide +kernel⟩⟩
theorem kl_L_134 : KS RL 134 yL_comes := ⟨⟨638, by decide +kernel⟩, ⟨639, by decide +kernel⟩⟩
theorem kl_L_138 : KV RL 138 yX1_bestStone := ⟨⟨394, by decide +kernel⟩, ⟨395, by decide +kernel⟩, ⟨396, by decide +kernel⟩⟩
theorem kl_L_141 : KV RL 141 yX2_turns := ⟨⟨480, by decide +kernel⟩, ⟨481, by decide +kernel⟩, ⟨482, by decide +kernel⟩⟩
theorem kl_L_144 : KV RL 144 yX1_coinsIn := ⟨⟨370, by decide +kernel⟩, ⟨371, by decide +kernel⟩, ⟨372, by decide +kernel⟩⟩
theorem kl_L_147 : KV RL 147 yX1_loudestOn := ⟨⟨374, by decide +kernel⟩, ⟨375, by decide +kernel⟩, ⟨376, by decide +kernel⟩⟩
theorem kl_L_149 : KV RL 149 yX1_ownerOf := ⟨⟨306, by decide +kernel⟩, ⟨307, by decide +kernel⟩, ⟨308, by decide +kernel⟩⟩
theorem kl_L_152 : KV RL 152 yX1_overlaps := ⟨⟨261, by decide +kernel⟩, ⟨262, by decide +kernel⟩, ⟨263, by decide +kernel⟩⟩
theorem kl_L_155 : KV RL 155 yX1_inherited := ⟨⟨330, by decide +kernel⟩, ⟨331, by decide +kernel⟩, ⟨332, by decide +kernel⟩⟩
theorem kl_L_158 : KV RL 158 yX2_pass := ⟨⟨466, by decide +kernel⟩, ⟨467, by decide +kernel⟩, ⟨468, by decide +kernel⟩⟩
theorem kl_L_165 : KV RL 165 yX2_isSame := ⟨⟨535, by decide +kernel⟩, ⟨536, by decide +kernel⟩, ⟨537, by decide +kernel⟩⟩
theorem kl_L_169 : KV RL 169 yX2_alone := ⟨⟨641, by decide +kernel⟩, ⟨485, by decide +kernel⟩, ⟨486, by decide +kernel⟩⟩
theorem kl_X0_51 : KS RX0 51 yJ7_fill_53178 := ⟨⟨49, by decide +kernel⟩, ⟨50, by decide +kernel⟩⟩
theorem kl_X0_82 : KV RX0 82 yX0_start := ⟨⟨389, by decide +kernel⟩, ⟨391, by decide +kernel⟩, ⟨14, by decide +kernel⟩⟩
theorem kl_X0_86 : KV RX0 86 yX0_move := ⟨⟨215, by decide +kernel⟩, ⟨217, by decide +kernel⟩, ⟨2, by decide +kernel⟩⟩
theorem kl_X0_90 : KV RX0 90 yX0_meet := ⟨⟨230, by decide +kernel⟩, ⟨232, by decide +kernel⟩, ⟨5, by decide +kernel⟩⟩
theorem kl_X0_93 : KV RX0 93 yX0_listen := ⟨⟨238, by decide +kernel⟩, ⟨240, by decide +kernel⟩, ⟨7, by decide +kernel⟩⟩
theorem kl_X0_97 : KSN RX0 97 yX1_isStone := ⟨⟨219, _, (by decide +kernel : lw_tbl[219]? = some (.methodLinkNest RX0 97 yX1_isStone RX1))⟩, ⟨220, by decide +kernel⟩⟩
theorem kl_X0_101 : KV RX0 101 yX0_hush := ⟨⟨222, by decide +kernel⟩, ⟨224, by decide +kernel⟩, ⟨3, by decide +kernel⟩⟩
theorem kl_X0_104 : KV RX0 104 yX0_turnAt := ⟨⟨226, by decide +kernel⟩, ⟨228, by decide +kernel⟩, ⟨4, by decide +kernel⟩⟩
theorem kl_X0_108 : KV RX0 108 yX0_settle := ⟨⟨234, by decide +kernel⟩, ⟨236, by decide +kernel⟩, ⟨6, by decide +kernel⟩⟩
theorem kl_X0_111 : KV RX0 111 yX0_loseWall := ⟨⟨242, by decide +kernel⟩, ⟨244, by decide +kernel⟩, ⟨8, by decide +kernel⟩⟩
theorem kl_X0_114 : KSN RX0 114 yX1_otherEcho := ⟨⟨246, _, (by decide +kernel : lw_tbl[246]? = some (.methodLinkNest RX0 114 yX1_otherEcho RX1))⟩, ⟨247, by decide +kernel⟩⟩
theorem kl_X1_19 : KS RX1 19 yX1_needStone := ⟨⟨269, by decide +kernel⟩, ⟨270, by decide +kernel⟩⟩
theorem kl_X1_23 : KS RX1 23 yX1_needEcho := ⟨⟨318, by decide +kernel⟩, ⟨319, by decide +kernel⟩⟩
theorem kl_X1_46 : KVN RX1 46 yX0_build := ⟨⟨604, _, (by decide +kernel : lw_tbl[604]? = some (.methodLinkNest RX1 46 yX0_build RX1))⟩, ⟨606, by decide +kernel⟩, ⟨21, by decide +kernel⟩⟩
theorem kl_X1_50 : KV RX1 50 yX1_needWall := ⟨⟨301, by decide +kernel⟩, ⟨303, by decide +kernel⟩, ⟨10, by decide +kernel⟩⟩
theorem kl_X1_56 : KS RX1 56 yX1_otherEcho := ⟨⟨612, by decide +kernel⟩, ⟨247, by decide +kernel⟩⟩
theorem kl_X1_65 : KS RX1 65 yX1_needLoud := ⟨⟨398, by decide +kernel⟩, ⟨399, by decide +kernel⟩⟩
theorem kl_X1_81 : KVN RX1 81 yX0_start := ⟨⟨628, _, (by decide +kernel : lw_tbl[628]? = some (.methodLinkNest RX1 81 yX0_start RX1))⟩, ⟨391, by decide +kernel⟩, ⟨14, by decide +kernel⟩⟩
theorem kl_X1_85 : KS RX1 85 yX1_needBeats := ⟨⟨140, by decide +kernel⟩, ⟨141, by decide +kernel⟩⟩
theorem kl_X1_91 : KVN RX1 91 yX0_goOn := ⟨⟨211, _, (by decide +kernel : lw_tbl[211]? = some (.methodLinkNest RX1 91 yX0_goOn RX1))⟩, ⟨213, by decide +kernel⟩, ⟨1, by decide +kernel⟩⟩
theorem kl_X1_100 : KVN RX1 100 yX0_loudAt := ⟨⟨293, _, (by decide +kernel : lw_tbl[293]? = some (.methodLinkNest RX1 100 yX0_loudAt RX1))⟩, ⟨295, by decide +kernel⟩, ⟨9, by decide +kernel⟩⟩
theorem kl_X1_115 : KV RX1 115 yX1_needShout := ⟨⟨338, by decide +kernel⟩, ⟨340, by decide +kernel⟩, ⟨11, by decide +kernel⟩⟩
theorem kl_X1_130 : KVN RX1 130 yX0_copyFrom := ⟨⟨359, _, (by decide +kernel : lw_tbl[359]? = some (.methodLinkNest RX1 130 yX0_copyFrom RX1))⟩, ⟨361, by decide +kernel⟩, ⟨12, by decide +kernel⟩⟩
theorem kl_X1_140 : KVN RX1 140 yX0_startAlone := ⟨⟨385, _, (by decide +kernel : lw_tbl[385]? = some (.methodLinkNest RX1 140 yX0_startAlone RX1))⟩, ⟨387, by decide +kernel⟩, ⟨13, by decide +kernel⟩⟩
theorem kl_X1_144 : KVN RX1 144 yX0_move := ⟨⟨393, _, (by decide +kernel : lw_tbl[393]? = some (.methodLinkNest RX1 144 yX0_move RX1))⟩, ⟨217, by decide +kernel⟩, ⟨2, by decide +kernel⟩⟩
theorem kl_X1_147 : KV RX1 147 yX1_turnsAlone := ⟨⟨402, by decide +kernel⟩, ⟨404, by decide +kernel⟩, ⟨15, by decide +kernel⟩⟩
theorem kl_X1_152 : KV RX1 152 yX1_digestCounts := ⟨⟨411, by decide +kernel⟩, ⟨413, by decide +kernel⟩, ⟨16, by decide +kernel⟩⟩
theorem kl_X1_156 : KV RX1 156 yX1_digestEchoes := ⟨⟨430, by decide +kernel⟩, ⟨432, by decide +kernel⟩, ⟨17, by decide +kernel⟩⟩
theorem kl_X1_159 : KV RX1 159 yX1_digestWalls := ⟨⟨438, by decide +kernel⟩, ⟨440, by decide +kernel⟩, ⟨18, by decide +kernel⟩⟩
theorem kl_X1_162 : KV RX1 162 yX1_digestShouts := ⟨⟨445, by decide +kernel⟩, ⟨447, by decide +kernel⟩, ⟨19, by decide +kernel⟩⟩
theorem kl_X1_165 : KV RX1 165 yX1_digestStones := ⟨⟨453, by decide +kernel⟩, ⟨455, by decide +kernel⟩, ⟨20, by decide +kernel⟩⟩
theorem kl_X1_168 : KV RX1 168 yX1_beat := ⟨⟨415, by decide +kernel⟩, ⟨416, by decide +kernel⟩, ⟨417, by decide +kernel⟩⟩
theorem kl_X1_172 : KS RX1 172 yX1_mix := ⟨⟨419, by decide +kernel⟩, ⟨420, by decide +kernel⟩⟩
theorem kl_X1_176 : KV RX1 176 yX1_walls := ⟨⟨423, by decide +kernel⟩, ⟨250, by decide +kernel⟩, ⟨251, by decide +kernel⟩⟩
theorem kl_X1_179 : KV RX1 179 yX1_shouts := ⟨⟨424, by decide +kernel⟩, ⟨254, by decide +kernel⟩, ⟨255, by decide +kernel⟩⟩
theorem kl_X1_182 : KV RX1 182 yX1_underWay := ⟨⟨425, by decide +kernel⟩, ⟨258, by decide +kernel⟩, ⟨259, by decide +kernel⟩⟩
theorem kl_X1_185 : KV RX1 185 yX1_overlaps := ⟨⟨426, by decide +kernel⟩, ⟨262, by decide +kernel⟩, ⟨263, by decide +kernel⟩⟩
theorem kl_X1_188 : KV RX1 188 yX1_inherited := ⟨⟨427, by decide +kernel⟩, ⟨331, by decide +kernel⟩, ⟨332, by decide +kernel⟩⟩
theorem kl_X1_191 : KV RX1 191 yX1_beatsUntilQuiet := ⟨⟨428, by decide +kernel⟩, ⟨367, by decide +kernel⟩, ⟨368, by decide +kernel⟩⟩
theorem kl_X1_194 : KV RX1 194 yX1_bestStone := ⟨⟨429, by decide +kernel⟩, ⟨395, by decide +kernel⟩, ⟨396, by decide +kernel⟩⟩
theorem kl_X1_197 : KV RX1 197 yX1_coinsOf := ⟨⟨434, by decide +kernel⟩, ⟨315, by decide +kernel⟩, ⟨316, by decide +kernel⟩⟩
theorem kl_X1_200 : KV RX1 200 yX1_wallsOf := ⟨⟨435, by decide +kernel⟩, ⟨323, by decide +kernel⟩, ⟨324, by decide +kernel⟩⟩
theorem kl_X1_203 : KV RX1 203 yX1_silentFor := ⟨⟨436, by decide +kernel⟩, ⟨327, by decide +kernel⟩, ⟨328, by decide +kernel⟩⟩
theorem kl_X1_206 : KV RX1 206 yX1_coinsIn := ⟨⟨437, by decide +kernel⟩, ⟨371, by decide +kernel⟩, ⟨372, by decide +kernel⟩⟩
theorem kl_X1_209 : KV RX1 209 yX1_stoneOf := ⟨⟨442, by decide +kernel⟩, ⟨298, by decide +kernel⟩, ⟨299, by decide +kernel⟩⟩
theorem kl_X1_212 : KV RX1 212 yX1_ownerOf := ⟨⟨443, by decide +kernel⟩, ⟨307, by decide +kernel⟩, ⟨308, by decide +kernel⟩⟩
theorem kl_X1_215 : KV RX1 215 yX1_thrownBack := ⟨⟨444, by decide +kernel⟩, ⟨311, by decide +kernel⟩, ⟨312, by decide +kernel⟩⟩
theorem kl_X1_218 : KV RX1 218 yX1_loudnessOf := ⟨⟨449, by decide +kernel⟩, ⟨335, by decide +kernel⟩, ⟨336, by decide +kernel⟩⟩
theorem kl_X1_221 : KV RX1 221 yX1_placeOf := ⟨⟨450, by decide +kernel⟩, ⟨344, by decide +kernel⟩, ⟨345, by decide +kernel⟩⟩
theorem kl_X1_224 : KV RX1 224 yX1_goesRight := ⟨⟨451, by decide +kernel⟩, ⟨348, by decide +kernel⟩, ⟨349, by decide +kernel⟩⟩
theorem kl_X1_228 : KV RX1 228 yX1_turnsOf := ⟨⟨452, by decide +kernel⟩, ⟨352, by decide +kernel⟩, ⟨353, by decide +kernel⟩⟩
theorem kl_X1_231 : KV RX1 231 yX1_snowOn := ⟨⟨457, by decide +kernel⟩, ⟨458, by decide +kernel⟩, ⟨459, by decide +kernel⟩⟩
theorem kl_X1_234 : KV RX1 234 yX1_loudOn := ⟨⟨461, by decide +kernel⟩, ⟨290, by decide +kernel⟩, ⟨291, by decide +kernel⟩⟩
theorem kl_X1_237 : KV RX1 237 yX1_nextWall := ⟨⟨462, by decide +kernel⟩, ⟨463, by decide +kernel⟩, ⟨464, by decide +kernel⟩⟩
theorem kl_X1_243 : KS RX1 243 yX1_isStone := ⟨⟨272, by decide +kernel⟩, ⟨220, by decide +kernel⟩⟩
theorem kl_X2_48 : KV RX2 48 yX2_wallOn := ⟨⟨471, by decide +kernel⟩, ⟨472, by decide +kernel⟩, ⟨473, by decide +kernel⟩⟩
theorem kl_X2_52 : KV RX2 52 yX2_loudestOn := ⟨⟨475, by decide +kernel⟩, ⟨476, by decide +kernel⟩, ⟨477, by decide +kernel⟩⟩
theorem kl_X2_55 : KV RX2 55 yX2_pass := ⟨⟨534, by decide +kernel⟩, ⟨467, by decide +kernel⟩, ⟨468, by decide +kernel⟩⟩
theorem kl_X2_59 : KV RX2 59 yX2_copy := ⟨⟨488, by decide +kernel⟩, ⟨489, by decide +kernel⟩, ⟨490, by decide +kernel⟩⟩
theorem kl_X2_63 : KV RX2 63 yX2_alone := ⟨⟨484, by decide +kernel⟩, ⟨485, by decide +kernel⟩, ⟨486, by decide +kernel⟩⟩
theorem kl_X2_67 : KV RX2 67 yX1_stoneOf := ⟨⟨539, by decide +kernel⟩, ⟨298, by decide +kernel⟩, ⟨299, by decide +kernel⟩⟩
theorem kl_X2_72 : KV RX2 72 yX1_ownerOf := ⟨⟨540, by decide +kernel⟩, ⟨307, by decide +kernel⟩, ⟨308, by decide +kernel⟩⟩
theorem kl_X2_75 : KV RX2 75 yX1_thrownBack := ⟨⟨541, by decide +kernel⟩, ⟨311, by decide +kernel⟩, ⟨312, by decide +kernel⟩⟩
theorem kl_X2_78 : KV RX2 78 yX1_coinsOf := ⟨⟨542, by decide +kernel⟩, ⟨315, by decide +kernel⟩, ⟨316, by decide +kernel⟩⟩
theorem kl_X2_81 : KV RX2 81 yX1_wallsOf := ⟨⟨543, by decide +kernel⟩, ⟨323, by decide +kernel⟩, ⟨324, by decide +kernel⟩⟩
theorem kl_X2_84 : KV RX2 84 yX1_silentFor := ⟨⟨544, by decide +kernel⟩, ⟨327, by decide +kernel⟩, ⟨328, by decide +kernel⟩⟩
theorem kl_X2_87 : KV RX2 87 yX1_loudnessOf := ⟨⟨545, by decide +kernel⟩, ⟨335, by decide +kernel⟩, ⟨336, by decide +kernel⟩⟩
theorem kl_X2_90 : KV RX2 90 yX1_placeOf := ⟨⟨546, by decide +kernel⟩, ⟨344, by decide +kernel⟩, ⟨345, by decide +kernel⟩⟩
theorem kl_X2_93 : KV RX2 93 yX1_goesRight := ⟨⟨547, by decide +kernel⟩, ⟨348, by decide +kernel⟩, ⟨349, by decide +kernel⟩⟩
theorem kl_X2_97 : KV RX2 97 yX1_turnsOf := ⟨⟨548, by decide +kernel⟩, ⟨352, by decide +kernel⟩, ⟨353, by decide +kernel⟩⟩
theorem kl_X2_100 : KV RX2 100 yX1_snowOn := ⟨⟨549, by decide +kernel⟩, ⟨458, by decide +kernel⟩, ⟨459, by decide +kernel⟩⟩
theorem kl_X2_103 : KV RX2 103 yX1_wallOn := ⟨⟨550, by decide +kernel⟩, ⟨266, by decide +kernel⟩, ⟨267, by decide +kernel⟩⟩
theorem kl_X2_104 : KV RX2 104 yX1_loudOn := ⟨⟨551, by decide +kernel⟩, ⟨290, by decide +kernel⟩, ⟨291, by decide +kernel⟩⟩
theorem kl_X2_107 : KV RX2 107 yX1_nextWall := ⟨⟨552, by decide +kernel⟩, ⟨463, by decide +kernel⟩, ⟨464, by decide +kernel⟩⟩
theorem kl_X2_111 : KV RX2 111 yX1_beat := ⟨⟨553, by decide +kernel⟩, ⟨416, by decide +kernel⟩, ⟨417, by decide +kernel⟩⟩
theorem kl_X2_113 : KV RX2 113 yX1_walls := ⟨⟨554, by decide +kernel⟩, ⟨250, by decide +kernel⟩, ⟨251, by decide +kernel⟩⟩
theorem kl_X2_115 : KV RX2 115 yX1_shouts := ⟨⟨555, by decide +kernel⟩, ⟨254, by decide +kernel⟩, ⟨255, by decide +kernel⟩⟩
theorem kl_X2_117 : KV RX2 117 yX1_underWay := ⟨⟨556, by decide +kernel⟩, ⟨258, by decide +kernel⟩, ⟨259, by decide +kernel⟩⟩
theorem kl_X2_120 : KV RX2 120 yX2_underWay := ⟨⟨557, by decide +kernel⟩, ⟨558, by decide +kernel⟩, ⟨559, by decide +kernel⟩⟩
theorem kl_X2_121 : KV RX2 121 yX1_overlaps := ⟨⟨561, by decide +kernel⟩, ⟨262, by decide +kernel⟩, ⟨263, by decide +kernel⟩⟩
theorem kl_X2_123 : KV RX2 123 yX1_inherited := ⟨⟨562, by decide +kernel⟩, ⟨331, by decide +kernel⟩, ⟨332, by decide +kernel⟩⟩
theorem kl_X2_126 : KV RX2 126 yX1_meanLoudness := ⟨⟨563, by decide +kernel⟩, ⟨564, by decide +kernel⟩, ⟨565, by decide +kernel⟩⟩
theorem cd_X0_copyFrom : CD yX0_copyFrom cX0_copyFrom 2 none 1 := ⟨⟨362, by decide +kernel⟩, List.mem_of_getElem? (i := 24) (by decide +kernel), by decide +kernel, by decide +kernel, by decide +kernel⟩
theorem cd_X0_build : CD yX0_build cX0_build 5 (some .int) 3 := ⟨⟨607, by decide +kernel⟩, List.mem_of_getElem? (i := 24) (by decide +kernel), by decide +kernel, by decide +kernel, by decide +kernel⟩
theorem cd_X0_start : CD yX0_start cX0_start 5 (some .int) 3 := ⟨⟨392, by decide +kernel⟩, List.mem_of_getElem? (i := 24) (by decide +kernel), by decide +kernel, by decide +kernel, by decide +kernel⟩
theorem cd_X0_startAlone : CD yX0_startAlone cX0_startAlone 4 none 3 := ⟨⟨388, by decide +kernel⟩, List.mem_of_getElem? (i := 24) (by decide +kernel), by decide +kernel, by decide +kernel, by decide +kernel⟩
theorem cd_X0_loudAt : CD yX0_loudAt cX0_loudAt 3 (some .int) 1 := ⟨⟨296, by decide +kernel⟩, List.mem_of_getElem? (i := 24) (by decide +kernel), by decide +kernel, by decide +kernel, by decide +kernel⟩
theorem cd_X0_goOn : CD yX0_goOn cX0_goOn 4 none 0 := ⟨⟨214, by decide +kernel⟩, List.mem_of_getElem? (i := 24) (by decide +kernel), by decide +kernel, by decide +kernel, by decide +kernel⟩
theorem cd_X0_move : CD yX0_move cX0_move 4 none 1 := ⟨⟨218, by decide +kernel⟩, List.mem_of_getElem? (i := 24) (by decide +kernel), by decide +kernel, by decide +kernel, by decide +kernel⟩
theorem cd_X0_turnAt : CD yX0_turnAt cX0_turnAt 3 none 2 := ⟨⟨229, by decide +kernel⟩, List.mem_of_getElem? (i := 24) (by decide +kernel), by decide +kernel, by decide +kernel, by decide +kernel⟩
theorem cd_X0_hush : CD yX0_hush cX0_hush 2 none 1 := ⟨⟨225, by decide +kernel⟩, List.mem_of_getElem? (i := 24) (by decide +kernel), by decide +kernel, by decide +kernel, by decide +kernel⟩
theorem cd_X0_meet : CD yX0_meet cX0_meet 2 none 0 := ⟨⟨233, by decide +kernel⟩, List.mem_of_getElem? (i := 24) (by decide +kernel), by decide +kernel, by decide +kernel, by decide +kernel⟩
theorem cd_X0_settle : CD yX0_settle cX0_settle 4 none 1 := ⟨⟨237, by decide +kernel⟩, List.mem_of_getElem? (i := 24) (by decide +kernel), by decide +kernel, by decide +kernel, by decide +kernel⟩
theorem cd_X0_listen : CD yX0_listen cX0_listen 3 none 2 := ⟨⟨241, by decide +kernel⟩, List.mem_of_getElem? (i := 24) (by decide +kernel), by decide +kernel, by decide +kernel, by decide +kernel⟩
theorem cd_X0_loseWall : CD yX0_loseWall cX0_loseWall 3 none 1 := ⟨⟨245, by decide +kernel⟩, List.mem_of_getElem? (i := 24) (by decide +kernel), by decide +kernel, by decide +kernel, by decide +kernel⟩
theorem cd_X1_addWall : CD yX1_addWall cX1_addWall 4 (some .int) 3 := ⟨⟨586, by decide +kernel⟩, List.mem_of_getElem? (i := 23) (by decide +kernel), by decide +kernel, by decide +kernel, by decide +kernel⟩
theorem cd_X1_hand : CD yX1_hand cX1_hand 2 (some .int) 1 := ⟨⟨611, by decide +kernel⟩, List.mem_of_getElem? (i := 23) (by decide +kernel), by decide +kernel, by decide +kernel, by decide +kernel⟩
theorem cd_X1_setSnow : CD yX1_setSnow cX1_setSnow 4 (some .int) 2 := ⟨⟨618, by decide +kernel⟩, List.mem_of_getElem? (i := 23) (by decide +kernel), by decide +kernel, by decide +kernel, by decide +kernel⟩
theorem cd_X1_shout : CD yX1_shout cX1_shout 4 (some .int) 3 := ⟨⟨625, by decide +kernel⟩, List.mem_of_getElem? (i := 23) (by decide +kernel), by decide +kernel, by decide +kernel, by decide +kernel⟩
theorem cd_X1_pass : CD yX1_pass cX1_pass 4 (some .int) 1 := ⟨⟨139, by decide +kernel⟩, List.mem_of_getElem? (i := 23) (by decide +kernel), by decide +kernel, by decide +kernel, by decide +kernel⟩
theorem cd_X1_beat : CD yX1_beat cX1_beat 1 (some .int) 0 := ⟨⟨418, by decide +kernel⟩, List.mem_of_getElem? (i := 23) (by decide +kernel), by decide +kernel, by decide +kernel, by decide +kernel⟩
theorem cd_X1_walls : CD yX1_walls cX1_walls 1 (some .int) 0 := ⟨⟨252, by decide +kernel⟩, List.mem_of_getElem? (i := 23) (by decide +kernel), by decide +kernel, by decide +kernel, by decide +kernel⟩
theorem cd_X1_shouts : CD yX1_shouts cX1_shouts 1 (some .int) 0 := ⟨⟨256, by decide +kernel⟩, List.mem_of_getElem? (i := 23) (by decide +kernel), by decide +kernel, by decide +kernel, by decide +kernel⟩
theorem cd_X1_underWay : CD yX1_underWay cX1_underWay 1 (some .int) 0 := ⟨⟨260, by decide +kernel⟩, List.mem_of_getElem? (i := 23) (by decide +kernel), by decide +kernel, by decide +kernel, by decide +kernel⟩
theorem cd_X1_overlaps : CD yX1_overlaps cX1_overlaps 1 (some .int) 0 := ⟨⟨264, by decide +kernel⟩, List.mem_of_getElem? (i := 23) (by decide +kernel), by decide +kernel, by decide +kernel, by decide +kernel⟩
theorem cd_X1_snowOn : CD yX1_snowOn cX1_snowOn 2 (some .int) 1 := ⟨⟨460, by decide +kernel⟩, List.mem_of_getElem? (i := 23) (by decide +kernel), by decide +kernel, by decide +kernel, by decide +kernel⟩
theorem cd_X1_wallOn : CD yX1_wallOn cX1_wallOn 2 (some .int) 1 := ⟨⟨268, by decide +kernel⟩, List.mem_of_getElem? (i := 23) (by decide +kernel), by decide +kernel, by decide +kernel, by decide +kernel⟩
theorem cd_X1_loudOn : CD yX1_loudOn cX1_loudOn 2 (some .int) 1 := ⟨⟨292, by decide +kernel⟩, List.mem_of_getElem? (i := 23) (by decide +kernel), by decide +kernel, by decide +kernel, by decide +kernel⟩
theorem cd_X1_stoneOf : CD yX1_stoneOf cX1_stoneOf 2 (some .int) 1 := ⟨⟨300, by decide +kernel⟩, List.mem_of_getElem? (i := 23) (by decide +kernel), by decide +kernel, by decide +kernel, by decide +kernel⟩
theorem cd_X1_ownerOf : CD yX1_ownerOf cX1_ownerOf 2 (some .int) 1 := ⟨⟨309, by decide +kernel⟩, List.mem_of_getElem? (i := 23) (by decide +kernel), by decide +kernel, by decide +kernel, by decide +kernel⟩
theorem cd_X1_thrownBack : CD yX1_thrownBack cX1_thrownBack 2 (some .int) 1 := ⟨⟨313, by decide +kernel⟩, List.mem_of_getElem? (i := 23) (by decide +kernel), by decide +kernel, by decide +kernel, by decide +kernel⟩
theorem cd_X1_coinsOf : CD yX1_coinsOf cX1_coinsOf 2 (some .int) 1 := ⟨⟨317, by decide +kernel⟩, List.mem_of_getElem? (i := 23) (by decide +kernel), by decide +kernel, by decide +kernel, by decide +kernel⟩
theorem cd_X1_wallsOf : CD yX1_wallsOf cX1_wallsOf 4 (some .int) 1 := ⟨⟨325, by decide +kernel⟩, List.mem_of_getElem? (i := 23) (by decide +kernel), by decide +kernel, by decide +kernel, by decide +kernel⟩
theorem cd_X1_silentFor : CD yX1_silentFor cX1_silentFor 2 (some .int) 1 := ⟨⟨329, by decide +kernel⟩, List.mem_of_getElem? (i := 23) (by decide +kernel), by decide +kernel, by decide +kernel, by decide +kernel⟩
theorem cd_X1_inherited : CD yX1_inherited cX1_inherited 1 (some .int) 0 := ⟨⟨333, by decide +kernel⟩, List.mem_of_getElem? (i := 23) (by decide +kernel), by decide +kernel, by decide +kernel, by decide +kernel⟩
theorem cd_X1_loudnessOf : CD yX1_loudnessOf cX1_loudnessOf 2 (some .int) 1 := ⟨⟨337, by decide +kernel⟩, List.mem_of_getElem? (i := 23) (by decide +kernel), by decide +kernel, by decide +kernel, by decide +kernel⟩
theorem cd_X1_placeOf : CD yX1_placeOf cX1_placeOf 2 (some .int) 1 := ⟨⟨346, by decide +kernel⟩, List.mem_of_getElem? (i := 23) (by decide +kernel), by decide +kernel, by decide +kernel, by decide +kernel⟩
theorem cd_X1_goesRight : CD yX1_goesRight cX1_goesRight 2 (some .boolean) 1 := ⟨⟨350, by decide +kernel⟩, List.mem_of_getElem? (i := 23) (by decide +kernel), by decide +kernel, by decide +kernel, by decide +kernel⟩
theorem cd_X1_turnsOf : CD yX1_turnsOf cX1_turnsOf 2 (some .int) 1 := ⟨⟨354, by decide +kernel⟩, List.mem_of_getElem? (i := 23) (by decide +kernel), by decide +kernel, by decide +kernel, by decide +kernel⟩
theorem cd_X1_nextWall : CD yX1_nextWall cX1_nextWall 5 (some .int) 2 := ⟨⟨465, by decide +kernel⟩, List.mem_of_getElem? (i := 23) (by decide +kernel), by decide +kernel, by decide +kernel, by decide +kernel⟩
theorem cd_X1_beatsUntilGone : CD yX1_beatsUntilGone cX1_beatsUntilGone 3 (some .int) 1 := ⟨⟨358, by decide +kernel⟩, List.mem_of_getElem? (i := 23) (by decide +kernel), by decide +kernel, by decide +kernel, by decide +kernel⟩
theorem cd_X1_beatsUntilQuiet : CD yX1_beatsUntilQuiet cX1_beatsUntilQuiet 2 (some .int) 0 := ⟨⟨369, by decide +kernel⟩, List.mem_of_getElem? (i := 23) (by decide +kernel), by decide +kernel, by decide +kernel, by decide +kernel⟩
theorem cd_X1_coinsIn : CD yX1_coinsIn cX1_coinsIn 4 (some .int) 2 := ⟨⟨373, by decide +kernel⟩, List.mem_of_getElem? (i := 23) (by decide +kernel), by decide +kernel, by decide +kernel, by decide +kernel⟩
theorem cd_X1_loudestOn : CD yX1_loudestOn cX1_loudestOn 5 (some .int) 2 := ⟨⟨377, by decide +kernel⟩, List.mem_of_getElem? (i := 23) (by decide +kernel), by decide +kernel, by decide +kernel, by decide +kernel⟩
theorem cd_X1_loudnessWanted : CD yX1_loudnessWanted cX1_loudnessWanted 5 (some .int) 3 := ⟨⟨384, by decide +kernel⟩, List.mem_of_getElem? (i := 23) (by decide +kernel), by decide +kernel, by decide +kernel, by decide +kernel⟩
theorem cd_X1_bestStone : CD yX1_bestStone cX1_bestStone 6 (some .int) 1 := ⟨⟨397, by decide +kernel⟩, List.mem_of_getElem? (i := 23) (by decide +kernel), by decide +kernel, by decide +kernel, by decide +kernel⟩
theorem cd_X1_meanLoudness : CD yX1_meanLoudness cX1_meanLoudness 3 (some .double) 0 := ⟨⟨566, by decide +kernel⟩, List.mem_of_getElem? (i := 23) (by decide +kernel), by decide +kernel, by decide +kernel, by decide +kernel⟩
theorem cd_X1_digest : CD yX1_digest cX1_digest 3 (some .long) 0 := ⟨⟨409, by decide +kernel⟩, List.mem_of_getElem? (i := 23) (by decide +kernel), by decide +kernel, by decide +kernel, by decide +kernel⟩
theorem cd_X1_digestCounts : CD yX1_digestCounts cX1_digestCounts 5 (some .long) 1 := ⟨⟨414, by decide +kernel⟩, List.mem_of_getElem? (i := 23) (by decide +kernel), by decide +kernel, by decide +kernel, by decide +kernel⟩
theorem cd_X1_digestEchoes : CD yX1_digestEchoes cX1_digestEchoes 6 (some .long) 1 := ⟨⟨433, by decide +kernel⟩, List.mem_of_getElem? (i := 23) (by decide +kernel), by decide +kernel, by decide +kernel, by decide +kernel⟩
theorem cd_X1_digestWalls : CD yX1_digestWalls cX1_digestWalls 6 (some .long) 1 := ⟨⟨441, by decide +kernel⟩, List.mem_of_getElem? (i := 23) (by decide +kernel), by decide +kernel, by decide +kernel, by decide +kernel⟩
theorem cd_X1_digestShouts : CD yX1_digestShouts cX1_digestShouts 6 (some .long) 1 := ⟨⟨448, by decide +kernel⟩, List.mem_of_getElem? (i := 23) (by decide +kernel), by decide +kernel, by decide +kernel, by decide +kernel⟩
theorem cd_X1_digestStones : CD yX1_digestStones cX1_digestStones 6 (some .long) 1 := ⟨⟨456, by decide +kernel⟩, List.mem_of_getElem? (i := 23) (by decide +kernel), by decide +kernel, by decide +kernel, by decide +kernel⟩
theorem cd_X1_mix : CD yX1_mix cX1_mix 3 (some .long) 2 := ⟨⟨421, by decide +kernel⟩, List.mem_of_getElem? (i := 23) (by decide +kernel), by decide +kernel, by decide +kernel, by decide +kernel⟩
theorem cd_X1_turnsAlone : CD yX1_turnsAlone cX1_turnsAlone 4 (some .int) 2 := ⟨⟨405, by decide +kernel⟩, List.mem_of_getElem? (i := 23) (by decide +kernel), by decide +kernel, by decide +kernel, by decide +kernel⟩
theorem cd_X1_isStone : CD yX1_isStone cX1_isStone 1 (some .boolean) 1 := ⟨⟨221, by decide +kernel⟩, List.mem_of_getElem? (i := 23) (by decide +kernel), by decide +kernel, by decide +kernel, by decide +kernel⟩
theorem cd_X1_otherEcho : CD yX1_otherEcho cX1_otherEcho 1 (some .int) 1 := ⟨⟨248, by decide +kernel⟩, List.mem_of_getElem? (i := 23) (by decide +kernel), by decide +kernel, by decide +kernel, by decide +kernel⟩
theorem cd_X1_needStone : CD yX1_needStone cX1_needStone 1 none 1 := ⟨⟨271, by decide +kernel⟩, List.mem_of_getElem? (i := 23) (by decide +kernel), by decide +kernel, by decide +kernel, by decide +kernel⟩
theorem cd_X1_needEcho : CD yX1_needEcho cX1_needEcho 1 none 1 := ⟨⟨320, by decide +kernel⟩, List.mem_of_getElem? (i := 23) (by decide +kernel), by decide +kernel, by decide +kernel, by decide +kernel⟩
theorem cd_X1_needWall : CD yX1_needWall cX1_needWall 2 none 1 := ⟨⟨304, by decide +kernel⟩, List.mem_of_getElem? (i := 23) (by decide +kernel), by decide +kernel, by decide +kernel, by decide +kernel⟩
theorem cd_X1_needShout : CD yX1_needShout cX1_needShout 2 none 1 := ⟨⟨341, by decide +kernel⟩, List.mem_of_getElem? (i := 23) (by decide +kernel), by decide +kernel, by decide +kernel, by decide +kernel⟩
theorem cd_X1_needLoud : CD yX1_needLoud cX1_needLoud 1 none 1 := ⟨⟨400, by decide +kernel⟩, List.mem_of_getElem? (i := 23) (by decide +kernel), by decide +kernel, by decide +kernel, by decide +kernel⟩
theorem cd_X1_needBeats : CD yX1_needBeats cX1_needBeats 1 none 1 := ⟨⟨142, by decide +kernel⟩, List.mem_of_getElem? (i := 23) (by decide +kernel), by decide +kernel, by decide +kernel, by decide +kernel⟩
theorem cd_X2_with : CD yX2_with cX2_with 4 (some (.array (.array .int))) 2 := ⟨⟨582, by decide +kernel⟩, List.mem_of_getElem? (i := 26) (by decide +kernel), by decide +kernel, by decide +kernel, by decide +kernel⟩
theorem cd_X2_copy : CD yX2_copy cX2_copy 3 (some (.object "CanyonEchoesLaw$Sim")) 0 := ⟨⟨491, by decide +kernel⟩, List.mem_of_getElem? (i := 26) (by decide +kernel), by decide +kernel, by decide +kernel, by decide +kernel⟩
theorem cd_X2_wallOn : CD yX2_wallOn cX2_wallOn 3 (some .int) 1 := ⟨⟨474, by decide +kernel⟩, List.mem_of_getElem? (i := 26) (by decide +kernel), by decide +kernel, by decide +kernel, by decide +kernel⟩
theorem cd_X2_loudestOn : CD yX2_loudestOn cX2_loudestOn 4 (some .int) 1 := ⟨⟨478, by decide +kernel⟩, List.mem_of_getElem? (i := 26) (by decide +kernel), by decide +kernel, by decide +kernel, by decide +kernel⟩
theorem cd_X2_underWay : CD yX2_underWay cX2_underWay 6 (some .int) 0 := ⟨⟨560, by decide +kernel⟩, List.mem_of_getElem? (i := 26) (by decide +kernel), by decide +kernel, by decide +kernel, by decide +kernel⟩
theorem cd_X2_pass : CD yX2_pass cX2_pass 7 (some .int) 0 := ⟨⟨469, by decide +kernel⟩, List.mem_of_getElem? (i := 26) (by decide +kernel), by decide +kernel, by decide +kernel, by decide +kernel⟩
theorem cd_X2_pass_ : CD yX2_pass_ cX2_pass_ 4 (some .int) 1 := ⟨⟨632, by decide +kernel⟩, List.mem_of_getElem? (i := 26) (by decide +kernel), by decide +kernel, by decide +kernel, by decide +kernel⟩
theorem cd_X2_alone : CD yX2_alone cX2_alone 5 (some (.object "CanyonEchoesLaw$Sim")) 3 := ⟨⟨487, by decide +kernel⟩, List.mem_of_getElem? (i := 26) (by decide +kernel), by decide +kernel, by decide +kernel, by decide +kernel⟩
theorem cd_X2_turns : CD yX2_turns cX2_turns 4 (some .int) 2 := ⟨⟨483, by decide +kernel⟩, List.mem_of_getElem? (i := 26) (by decide +kernel), by decide +kernel, by decide +kernel, by decide +kernel⟩
theorem cd_X2_isSame : CD yX2_isSame cX2_isSame 9 (some .boolean) 1 := ⟨⟨538, by decide +kernel⟩, List.mem_of_getElem? (i := 26) (by decide +kernel), by decide +kernel, by decide +kernel, by decide +kernel⟩
theorem cd_J9_max_7cf53 : CD yJ9_max_7cf53 cJ9_max_7cf53 2 (some .int) 2 := ⟨⟨380, by decide +kernel⟩, List.mem_of_getElem? (i := 33) (by decide +kernel), by decide +kernel, by decide +kernel, by decide +kernel⟩
theorem cd_J7_fill_53178 : CD yJ7_fill_53178 cJ7_fill_53178 4 none 2 := ⟨⟨51, by decide +kernel⟩, List.mem_of_getElem? (i := 25) (by decide +kernel), by decide +kernel, by decide +kernel, by decide +kernel⟩
theorem cd_L_below : CD yL_below cL_below 2 (some .int) 2 := ⟨⟨569, by decide +kernel⟩, List.mem_of_getElem? (i := 22) (by decide +kernel), by decide +kernel, by decide +kernel, by decide +kernel⟩
theorem cd_L_cell : CD yL_cell cL_cell 2 (some .int) 2 := ⟨⟨573, by decide +kernel⟩, List.mem_of_getElem? (i := 22) (by decide +kernel), by decide +kernel, by decide +kernel, by decide +kernel⟩
theorem cd_L_build : CD yL_build cL_build 6 (some (.object "CanyonEchoesLaw$Sim")) 2 := ⟨⟨635, by decide +kernel⟩, List.mem_of_getElem? (i := 22) (by decide +kernel), by decide +kernel, by decide +kernel, by decide +kernel⟩
theorem cd_L_comes : CD yL_comes cL_comes 6 (some .boolean) 5 := ⟨⟨640, by decide +kernel⟩, List.mem_of_getElem? (i := 22) (by decide +kernel), by decide +kernel, by decide +kernel, by decide +kernel⟩
theorem ll_X1_150 : lw_tbl[410]? = some (.constantLong RX1 150 2309) := by decide +kernel
theorem ll_X1_241 : lw_tbl[422]? = some (.constantLong RX1 241 31) := by decide +kernel
