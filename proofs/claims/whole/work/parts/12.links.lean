/-! The pool's entries: fields, methods, code words, constants. -/
theorem fl_X0_9 : FL RX0 9 0 6 := ⟨RX0, TX0, 19, ci0, by decide, rfl, Or.inl ⟨93, by decide +kernel⟩⟩
theorem fl_X0_15 : FL RX0 15 0 7 := ⟨RX0, TX0, 19, ci0, by decide, rfl, Or.inl ⟨95, by decide +kernel⟩⟩
theorem fl_X0_18 : FL RX0 18 0 8 := ⟨RX0, TX0, 19, ci0, by decide, rfl, Or.inl ⟨97, by decide +kernel⟩⟩
theorem fl_X0_21 : FL RX0 21 0 9 := ⟨RX0, TX0, 19, ci0, by decide, rfl, Or.inl ⟨99, by decide +kernel⟩⟩
theorem fl_X0_24 : FL RX0 24 0 10 := ⟨RX0, TX0, 19, ci0, by decide, rfl, Or.inl ⟨101, by decide +kernel⟩⟩
theorem fl_X0_27 : FL RX0 27 0 11 := ⟨RX0, TX0, 19, ci0, by decide, rfl, Or.inl ⟨103, by decide +kernel⟩⟩
theorem fl_X0_30 : FL RX0 30 0 12 := ⟨RX0, TX0, 19, ci0, by decide, rfl, Or.inl ⟨104, by decide +kernel⟩⟩
theorem fl_X0_33 : FL RX0 33 0 13 := ⟨RX0, TX0, 19, ci0, by decide, rfl, Or.inl ⟨106, by decide +kernel⟩⟩
theorem fl_X0_36 : FL RX0 36 0 14 := ⟨RX0, TX0, 19, ci0, by decide, rfl, Or.inl ⟨108, by decide +kernel⟩⟩
theorem fl_X0_39 : FL RX0 39 0 15 := ⟨RX0, TX0, 19, ci0, by decide, rfl, Or.inl ⟨110, by decide +kernel⟩⟩
theorem fl_X0_42 : FL RX0 42 0 16 := ⟨RX0, TX0, 19, ci0, by decide, rfl, Or.inl ⟨112, by decide +kernel⟩⟩
theorem fl_X0_45 : FL RX0 45 0 17 := ⟨RX0, TX0, 19, ci0, by decide, rfl, Or.inl ⟨114, by decide +kernel⟩⟩
theorem fl_X0_48 : FL RX0 48 0 18 := ⟨RX0, TX0, 19, ci0, by decide, rfl, Or.inl ⟨116, by decide +kernel⟩⟩
theorem fl_X0_57 : FLI RX0 57 0 0 := ⟨RX0, TX0, 19, ci0, by decide, rfl, Or.inl ⟨81, by decide +kernel⟩, rfl, by decide +kernel⟩
theorem fl_X0_61 : FLI RX0 61 0 1 := ⟨RX0, TX0, 19, ci0, by decide, rfl, Or.inl ⟨83, by decide +kernel⟩, rfl, by decide +kernel⟩
theorem fl_X0_64 : FLI RX0 64 0 2 := ⟨RX0, TX0, 19, ci0, by decide, rfl, Or.inl ⟨85, by decide +kernel⟩, rfl, by decide +kernel⟩
theorem fl_X0_67 : FLI RX0 67 0 3 := ⟨RX0, TX0, 19, ci0, by decide, rfl, Or.inl ⟨87, by decide +kernel⟩, rfl, by decide +kernel⟩
theorem fl_X0_70 : FLI RX0 70 0 4 := ⟨RX0, TX0, 19, ci0, by decide, rfl, Or.inl ⟨89, by decide +kernel⟩, rfl, by decide +kernel⟩
theorem fl_X0_73 : FLI RX0 73 0 5 := ⟨RX0, TX0, 19, ci0, by decide, rfl, Or.inl ⟨91, by decide +kernel⟩, rfl, by decide +kernel⟩
theorem fl_X1_10 : FL RX1 10 1 0 := ⟨RX1, TX1, 2, ci1, by decide, rfl, Or.inl ⟨158, by decide +kernel⟩⟩
theorem fl_X1_16 : FL RX1 16 1 1 := ⟨RX1, TX1, 2, ci1, by decide, rfl, Or.inl ⟨159, by decide +kernel⟩⟩
theorem fl_X1_33 : FLI RX1 33 0 1 := ⟨RX0, TX0, 19, ci0, by decide, rfl, Or.inr ⟨84, _, (by decide +kernel : lw_tbl[84]? = some (.fieldLinkNest RX1 33 RX0 (TX0 1).2.1 (TX0 1).2.2.1 RX1))⟩, rfl, by decide +kernel⟩
theorem fl_X1_37 : FL RX1 37 0 7 := ⟨RX0, TX0, 19, ci0, by decide, rfl, Or.inr ⟨96, _, (by decide +kernel : lw_tbl[96]? = some (.fieldLinkNest RX1 37 RX0 (TX0 7).2.1 (TX0 7).2.2.1 RX1))⟩⟩
theorem fl_X1_53 : FL RX1 53 0 10 := ⟨RX0, TX0, 19, ci0, by decide, rfl, Or.inr ⟨102, _, (by decide +kernel : lw_tbl[102]? = some (.fieldLinkNest RX1 53 RX0 (TX0 10).2.1 (TX0 10).2.2.1 RX1))⟩⟩
theorem fl_X1_62 : FL RX1 62 0 6 := ⟨RX0, TX0, 19, ci0, by decide, rfl, Or.inr ⟨94, _, (by decide +kernel : lw_tbl[94]? = some (.fieldLinkNest RX1 62 RX0 (TX0 6).2.1 (TX0 6).2.2.1 RX1))⟩⟩
theorem fl_X1_68 : FLI RX1 68 0 2 := ⟨RX0, TX0, 19, ci0, by decide, rfl, Or.inr ⟨86, _, (by decide +kernel : lw_tbl[86]? = some (.fieldLinkNest RX1 68 RX0 (TX0 2).2.1 (TX0 2).2.2.1 RX1))⟩, rfl, by decide +kernel⟩
theorem fl_X1_71 : FLI RX1 71 0 3 := ⟨RX0, TX0, 19, ci0, by decide, rfl, Or.inr ⟨88, _, (by decide +kernel : lw_tbl[88]? = some (.fieldLinkNest RX1 71 RX0 (TX0 3).2.1 (TX0 3).2.2.1 RX1))⟩, rfl, by decide +kernel⟩
theorem fl_X1_76 : FL RX1 76 0 8 := ⟨RX0, TX0, 19, ci0, by decide, rfl, Or.inr ⟨98, _, (by decide +kernel : lw_tbl[98]? = some (.fieldLinkNest RX1 76 RX0 (TX0 8).2.1 (TX0 8).2.2.1 RX1))⟩⟩
theorem fl_X1_88 : FL RX1 88 0 13 := ⟨RX0, TX0, 19, ci0, by decide, rfl, Or.inr ⟨107, _, (by decide +kernel : lw_tbl[107]? = some (.fieldLinkNest RX1 88 RX0 (TX0 13).2.1 (TX0 13).2.2.1 RX1))⟩⟩
theorem fl_X1_94 : FLI RX1 94 0 0 := ⟨RX0, TX0, 19, ci0, by decide, rfl, Or.inr ⟨82, _, (by decide +kernel : lw_tbl[82]? = some (.fieldLinkNest RX1 94 RX0 (TX0 0).2.1 (TX0 0).2.2.1 RX1))⟩, rfl, by decide +kernel⟩
theorem fl_X1_97 : FLI RX1 97 0 4 := ⟨RX0, TX0, 19, ci0, by decide, rfl, Or.inr ⟨90, _, (by decide +kernel : lw_tbl[90]? = some (.fieldLinkNest RX1 97 RX0 (TX0 4).2.1 (TX0 4).2.2.1 RX1))⟩, rfl, by decide +kernel⟩
theorem fl_X1_103 : FL RX1 103 0 9 := ⟨RX0, TX0, 19, ci0, by decide, rfl, Or.inr ⟨100, _, (by decide +kernel : lw_tbl[100]? = some (.fieldLinkNest RX1 103 RX0 (TX0 9).2.1 (TX0 9).2.2.1 RX1))⟩⟩
theorem fl_X1_106 : FL RX1 106 0 12 := ⟨RX0, TX0, 19, ci0, by decide, rfl, Or.inr ⟨105, _, (by decide +kernel : lw_tbl[105]? = some (.fieldLinkNest RX1 106 RX0 (TX0 12).2.1 (TX0 12).2.2.1 RX1))⟩⟩
theorem fl_X1_109 : FL RX1 109 0 14 := ⟨RX0, TX0, 19, ci0, by decide, rfl, Or.inr ⟨109, _, (by decide +kernel : lw_tbl[109]? = some (.fieldLinkNest RX1 109 RX0 (TX0 14).2.1 (TX0 14).2.2.1 RX1))⟩⟩
theorem fl_X1_112 : FLI RX1 112 0 5 := ⟨RX0, TX0, 19, ci0, by decide, rfl, Or.inr ⟨92, _, (by decide +kernel : lw_tbl[92]? = some (.fieldLinkNest RX1 112 RX0 (TX0 5).2.1 (TX0 5).2.2.1 RX1))⟩, rfl, by decide +kernel⟩
theorem fl_X1_118 : FL RX1 118 0 15 := ⟨RX0, TX0, 19, ci0, by decide, rfl, Or.inr ⟨111, _, (by decide +kernel : lw_tbl[111]? = some (.fieldLinkNest RX1 118 RX0 (TX0 15).2.1 (TX0 15).2.2.1 RX1))⟩⟩
theorem fl_X1_121 : FL RX1 121 0 16 := ⟨RX0, TX0, 19, ci0, by decide, rfl, Or.inr ⟨113, _, (by decide +kernel : lw_tbl[113]? = some (.fieldLinkNest RX1 121 RX0 (TX0 16).2.1 (TX0 16).2.2.1 RX1))⟩⟩
theorem fl_X1_124 : FL RX1 124 0 17 := ⟨RX0, TX0, 19, ci0, by decide, rfl, Or.inr ⟨115, _, (by decide +kernel : lw_tbl[115]? = some (.fieldLinkNest RX1 124 RX0 (TX0 17).2.1 (TX0 17).2.2.1 RX1))⟩⟩
theorem fl_X1_127 : FL RX1 127 0 18 := ⟨RX0, TX0, 19, ci0, by decide, rfl, Or.inr ⟨117, _, (by decide +kernel : lw_tbl[117]? = some (.fieldLinkNest RX1 127 RX0 (TX0 18).2.1 (TX0 18).2.2.1 RX1))⟩⟩
theorem fl_X2_9 : FL RX2 9 2 3 := ⟨RX2, TX2, 10, ci2, by decide, rfl, Or.inl ⟨628, by decide +kernel⟩⟩
theorem fl_X2_13 : FL RX2 13 2 4 := ⟨RX2, TX2, 10, ci2, by decide, rfl, Or.inl ⟨629, by decide +kernel⟩⟩
theorem fl_X2_16 : FL RX2 16 2 5 := ⟨RX2, TX2, 10, ci2, by decide, rfl, Or.inl ⟨630, by decide +kernel⟩⟩
theorem fl_X2_19 : FL RX2 19 2 6 := ⟨RX2, TX2, 10, ci2, by decide, rfl, Or.inl ⟨631, by decide +kernel⟩⟩
theorem fl_X2_22 : FL RX2 22 2 7 := ⟨RX2, TX2, 10, ci2, by decide, rfl, Or.inl ⟨632, by decide +kernel⟩⟩
theorem fl_X2_25 : FL RX2 25 2 8 := ⟨RX2, TX2, 10, ci2, by decide, rfl, Or.inl ⟨633, by decide +kernel⟩⟩
theorem fl_X2_28 : FL RX2 28 2 9 := ⟨RX2, TX2, 10, ci2, by decide, rfl, Or.inl ⟨634, by decide +kernel⟩⟩
theorem fl_X2_32 : FLI RX2 32 2 0 := ⟨RX2, TX2, 10, ci2, by decide, rfl, Or.inl ⟨625, by decide +kernel⟩, rfl, by decide +kernel⟩
theorem fl_X2_40 : FLI RX2 40 2 1 := ⟨RX2, TX2, 10, ci2, by decide, rfl, Or.inl ⟨626, by decide +kernel⟩, rfl, by decide +kernel⟩
theorem fl_X2_43 : FLI RX2 43 2 2 := ⟨RX2, TX2, 10, ci2, by decide, rfl, Or.inl ⟨627, by decide +kernel⟩, rfl, by decide +kernel⟩
theorem kl_L_7 : KV RL 7 yX1_addWall := ⟨⟨470, by decide +kernel⟩, ⟨471, by decide +kernel⟩, ⟨472, by decide +kernel⟩⟩
theorem kl_L_19 : KV RL 19 yX1_hand := ⟨⟨498, by decide +kernel⟩, ⟨499, by decide +kernel⟩, ⟨500, by decide +kernel⟩⟩
theorem kl_L_23 : KV RL 23 yX1_setSnow := ⟨⟨506, by decide +kernel⟩, ⟨507, by decide +kernel⟩, ⟨508, by decide +kernel⟩⟩
theorem kl_L_27 : KV RL 27 yX1_shout := ⟨⟨514, by decide +kernel⟩, ⟨515, by decide +kernel⟩, ⟨516, by decide +kernel⟩⟩
theorem kl_L_31 : KV RL 31 yX1_pass := ⟨⟨524, by decide +kernel⟩, ⟨525, by decide +kernel⟩, ⟨526, by decide +kernel⟩⟩
theorem kl_L_34 : KV RL 34 yX1_snowOn := ⟨⟨531, by decide +kernel⟩, ⟨444, by decide +kernel⟩, ⟨445, by decide +kernel⟩⟩
theorem kl_L_37 : KV RL 37 yX1_wallOn := ⟨⟨535, by decide +kernel⟩, ⟨536, by decide +kernel⟩, ⟨537, by decide +kernel⟩⟩
theorem kl_L_40 : KV RL 40 yX1_loudOn := ⟨⟨542, by decide +kernel⟩, ⟨453, by decide +kernel⟩, ⟨454, by decide +kernel⟩⟩
theorem kl_L_43 : KV RL 43 yX1_stoneOf := ⟨⟨546, by decide +kernel⟩, ⟨398, by decide +kernel⟩, ⟨399, by decide +kernel⟩⟩
theorem kl_L_46 : KV RL 46 yX1_ownerOf := ⟨⟨550, by decide +kernel⟩, ⟨407, by decide +kernel⟩, ⟨408, by decide +kernel⟩⟩
theorem kl_L_49 : KV RL 49 yX1_thrownBack := ⟨⟨554, by decide +kernel⟩, ⟨411, by decide +kernel⟩, ⟨412, by decide +kernel⟩⟩
theorem kl_L_52 : KV RL 52 yX1_coinsOf := ⟨⟨558, by decide +kernel⟩, ⟨355, by decide +kernel⟩, ⟨356, by decide +kernel⟩⟩
theorem kl_L_55 : KV RL 55 yX1_wallsOf := ⟨⟨562, by decide +kernel⟩, ⟨378, by decide +kernel⟩, ⟨379, by decide +kernel⟩⟩
theorem kl_L_58 : KV RL 58 yX1_silentFor := ⟨⟨566, by decide +kernel⟩, ⟨382, by decide +kernel⟩, ⟨383, by decide +kernel⟩⟩
theorem kl_L_61 : KV RL 61 yX1_loudnessOf := ⟨⟨570, by decide +kernel⟩, ⟨419, by decide +kernel⟩, ⟨420, by decide +kernel⟩⟩
theorem kl_L_64 : KV RL 64 yX1_placeOf := ⟨⟨574, by decide +kernel⟩, ⟨428, by decide +kernel⟩, ⟨429, by decide +kernel⟩⟩
theorem kl_L_67 : KV RL 67 yX1_goesRight := ⟨⟨578, by decide +kernel⟩, ⟨432, by decide +kernel⟩, ⟨433, by decide +kernel⟩⟩
theorem kl_L_71 : KV RL 71 yX1_turnsOf := ⟨⟨582, by decide +kernel⟩, ⟨436, by decide +kernel⟩, ⟨437, by decide +kernel⟩⟩
theorem kl_L_74 : KV RL 74 yX1_nextWall := ⟨⟨586, by decide +kernel⟩, ⟨461, by decide +kernel⟩, ⟨462, by decide +kernel⟩⟩
theorem kl_L_78 : KV RL 78 yX1_beatsUntilGone := ⟨⟨590, by decide +kernel⟩, ⟨591, by decide +kernel⟩, ⟨592, by decide +kernel⟩⟩
theorem kl_L_81 : KV RL 81 yX1_coinsIn := ⟨⟨597, by decide +kernel⟩, ⟨386, by decide +kernel⟩, ⟨387, by decide +kernel⟩⟩
theorem kl_L_84 : KV RL 84 yX1_loudestOn := ⟨⟨601, by decide +kernel⟩, ⟨602, by decide +kernel⟩, ⟨603, by decide +kernel⟩⟩
theorem kl_L_87 : KV RL 87 yX1_loudnessWanted := ⟨⟨611, by decide +kernel⟩, ⟨612, by decide +kernel⟩, ⟨613, by decide +kernel⟩⟩
theorem kl_L_90 : KV RL 90 yX1_bestStone := ⟨⟨618, by decide +kernel⟩, ⟨263, by decide +kernel⟩, ⟨264, by decide +kernel⟩⟩
theorem kl_L_97 : KS RL 97 yL_addWall := ⟨⟨464, by decide +kernel⟩, ⟨465, by decide +kernel⟩⟩
theorem kl_L_102 : KV RL 102 yX2_addWall := ⟨⟨661, by decide +kernel⟩, ⟨662, by decide +kernel⟩, ⟨663, by decide +kernel⟩⟩
theorem kl_L_103 : KV RL 103 yX2_thrown := ⟨⟨657, by decide +kernel⟩, ⟨658, by decide +kernel⟩, ⟨659, by decide +kernel⟩⟩
theorem kl_L_107 : KS RL 107 yL_hand := ⟨⟨495, by decide +kernel⟩, ⟨496, by decide +kernel⟩⟩
theorem kl_L_110 : KV RL 110 yX2_hand := ⟨⟨678, by decide +kernel⟩, ⟨679, by decide +kernel⟩, ⟨680, by decide +kernel⟩⟩
theorem kl_L_111 : KS RL 111 yL_setSnow := ⟨⟨503, by decide +kernel⟩, ⟨504, by decide +kernel⟩⟩
theorem kl_L_114 : KV RL 114 yX2_setSnow := ⟨⟨686, by decide +kernel⟩, ⟨687, by decide +kernel⟩, ⟨688, by decide +kernel⟩⟩
theorem kl_L_115 : KS RL 115 yL_shout := ⟨⟨511, by decide +kernel⟩, ⟨512, by decide +kernel⟩⟩
theorem kl_L_118 : KV RL 118 yX2_shout := ⟨⟨690, by decide +kernel⟩, ⟨691, by decide +kernel⟩, ⟨692, by decide +kernel⟩⟩
theorem kl_L_119 : KS RL 119 yL_pass := ⟨⟨521, by decide +kernel⟩, ⟨522, by decide +kernel⟩⟩
theorem kl_L_121 : KV RL 121 yX2_pass := ⟨⟨706, by decide +kernel⟩, ⟨707, by decide +kernel⟩, ⟨708, by decide +kernel⟩⟩
theorem kl_L_122 : KV RL 122 yX1_beat := ⟨⟨165, by decide +kernel⟩, ⟨166, by decide +kernel⟩, ⟨167, by decide +kernel⟩⟩
theorem kl_L_125 : KV RL 125 yX2_beat := ⟨⟨743, by decide +kernel⟩, ⟨744, by decide +kernel⟩, ⟨745, by decide +kernel⟩⟩
theorem kl_L_126 : KV RL 126 yX1_walls := ⟨⟨169, by decide +kernel⟩, ⟨170, by decide +kernel⟩, ⟨171, by decide +kernel⟩⟩
theorem kl_L_129 : KV RL 129 yX2_walls := ⟨⟨751, by decide +kernel⟩, ⟨752, by decide +kernel⟩, ⟨753, by decide +kernel⟩⟩
theorem kl_L_130 : KV RL 130 yX1_shouts := ⟨⟨173, by decide +kernel⟩, ⟨174, by decide +kernel⟩, ⟨175, by decide +kernel⟩⟩
theorem kl_L_133 : KV RL 133 yX2_shouts := ⟨⟨755, by decide +kernel⟩, ⟨756, by decide +kernel⟩, ⟨757, by decide +kernel⟩⟩
theorem kl_L_134 : KV RL 134 yX1_underWay := ⟨⟨177, by decide +kernel⟩, ⟨178, by decide +kernel⟩, ⟨179, by decide +kernel⟩⟩
theorem kl_L_137 : KV RL 137 yX2_underWay := ⟨⟨759, by decide +kernel⟩, ⟨760, by decide +kernel⟩, ⟨761, by decide +kernel⟩⟩
theorem kl_L_138 : KV RL 138 yX1_overlaps := ⟨⟨181, by decide +kernel⟩, ⟨182, by decide +kernel⟩, ⟨183, by decide +kernel⟩⟩
theorem kl_L_141 : KV RL 141 yX2_overlaps := ⟨⟨763, by decide +kernel⟩, ⟨764, by decide +kernel⟩, ⟨765, by decide +kernel⟩⟩
theorem kl_L_142 : KS RL 142 yL_snowOn := ⟨⟨528, by decide +kernel⟩, ⟨529, by decide +kernel⟩⟩
theorem kl_L_144 : KV RL 144 yX2_snowOn := ⟨⟨767, by decide +kernel⟩, ⟨768, by decide +kernel⟩, ⟨769, by decide +kernel⟩⟩
theorem kl_L_145 : KS RL 145 yL_wallOn := ⟨⟨532, by decide +kernel⟩, ⟨533, by decide +kernel⟩⟩
theorem kl_L_147 : KV RL 147 yX2_wallOn := ⟨⟨775, by decide +kernel⟩, ⟨776, by decide +kernel⟩, ⟨777, by decide +kernel⟩⟩
theorem kl_L_148 : KS RL 148 yL_loudOn := ⟨⟨539, by decide +kernel⟩, ⟨540, by decide +kernel⟩⟩
theorem kl_L_150 : KV RL 150 yX2_loudOn := ⟨⟨779, by decide +kernel⟩, ⟨780, by decide +kernel⟩, ⟨781, by decide +kernel⟩⟩
theorem kl_L_151 : KS RL 151 yL_stoneOf := ⟨⟨543, by decide +kernel⟩, ⟨544, by decide +kernel⟩⟩
theorem kl_L_153 : KV RL 153 yX2_stoneOf := ⟨⟨787, by decide +kernel⟩, ⟨788, by decide +kernel⟩, ⟨789, by decide +kernel⟩⟩
theorem kl_L_154 : KS RL 154 yL_ownerOf := ⟨⟨547, by decide +kernel⟩, ⟨548, by decide +kernel⟩⟩
theorem kl_L_156 : KV RL 156 yX2_ownerOf := ⟨⟨791, by decide +kernel⟩, ⟨792, by decide +kernel⟩, ⟨793, by decide +kernel⟩⟩
theorem kl_L_157 : KS RL 157 yL_thrownBack := ⟨⟨551, by decide +kernel⟩, ⟨552, by decide +kernel⟩⟩
theorem kl_L_159 : KV RL 159 yX2_thrownBack := ⟨⟨795, by decide +kernel⟩, ⟨796, by decide +kernel⟩, ⟨797, by decide +kernel⟩⟩
theorem kl_L_160 : KS RL 160 yL_coinsOf := ⟨⟨555, by decide +kernel⟩, ⟨556, by decide +kernel⟩⟩
theorem kl_L_162 : KV RL 162 yX2_coinsOf := ⟨⟨799, by decide +kernel⟩, ⟨800, by decide +kernel⟩, ⟨801, by decide +kernel⟩⟩
theorem kl_L_163 : KS RL 163 yL_wallsOf := ⟨⟨559, by decide +kernel⟩, ⟨560, by decide +kernel⟩⟩
theorem kl_L_165 : KV RL 165 yX2_wallsOf := ⟨⟨803, by decide +kernel⟩, ⟨804, by decide +kernel⟩, ⟨805, by decide +kernel⟩⟩
theorem kl_L_166 : KS RL 166 yL_silentFor := ⟨⟨563, by decide +kernel⟩, ⟨564, by decide +kernel⟩⟩
theorem kl_L_168 : KV RL 168 yX2_silentFor := ⟨⟨811, by decide +kernel⟩, ⟨812, by decide +kernel⟩, ⟨813, by decide +kernel⟩⟩
theorem kl_L_169 : KV RL 169 yX1_inherited := ⟨⟨185, by decide +kernel⟩, ⟨186, by decide +kernel⟩, ⟨187, by decide +kernel⟩⟩
theorem kl_L_172 : KV RL 172 yX2_inherited := ⟨⟨815, by decide +kernel⟩, ⟨816, by decide +kernel⟩, ⟨817, by decide +kernel⟩⟩
theorem kl_L_173 : KS RL 173 yL_loudnessOf := ⟨⟨567, by decide +kernel⟩, ⟨568, by decide +kernel⟩⟩
theorem kl_L_175 : KV RL 175 yX2_loudnessOf := ⟨⟨819, by decide +kernel⟩, ⟨820, by decide +kernel⟩, ⟨821, by decide +kernel⟩⟩
theorem kl_L_176 : KS RL 176 yL_placeOf := ⟨⟨571, by decide +kernel⟩, ⟨572, by decide +kernel⟩⟩
theorem kl_L_178 : KV RL 178 yX2_placeOf := ⟨⟨827, by decide +kernel⟩, ⟨828, by decide +kernel⟩, ⟨829, by decide +kernel⟩⟩
theorem kl_L_179 : KS RL 179 yL_goesRight := ⟨⟨575, by decide +kernel⟩, ⟨576, by decide +kernel⟩⟩
theorem kl_L_181 : KV RL 181 yX2_goesRight := ⟨⟨835, by decide +kernel⟩, ⟨836, by decide +kernel⟩, ⟨837, by decide +kernel⟩⟩
theorem kl_L_182 : KS RL 182 yL_turnsOf := ⟨⟨579, by decide +kernel⟩, ⟨580, by decide +kernel⟩⟩
theorem kl_L_184 : KV RL 184 yX2_turnsOf := ⟨⟨843, by decide +kernel⟩, ⟨844, by decide +kernel⟩, ⟨845, by decide +kernel⟩⟩
theorem kl_L_185 : KS RL 185 yL_nextWall := ⟨⟨583, by decide +kernel⟩, ⟨584, by decide +kernel⟩⟩
theorem kl_L_188 : KV RL 188 yX2_nextWall := ⟨⟨847, by decide +kernel⟩, ⟨848, by decide +kernel⟩, ⟨849, by decide +kernel⟩⟩
theorem kl_L_189 : KS RL 189 yL_beatsUntilGone := ⟨⟨587, by decide +kernel⟩, ⟨588, by decide +kernel⟩⟩
theorem kl_L_191 : KV RL 191 yX2_beatsUntilGone := ⟨⟨855, by decide +kernel⟩, ⟨856, by decide +kernel⟩, ⟨857, by decide +kernel⟩⟩
theorem kl_L_192 : KV RL 192 yX1_beatsUntilQuiet := ⟨⟨189, by decide +kernel⟩, ⟨190, by decide +kernel⟩, ⟨191, by decide +kernel⟩⟩
theorem kl_L_195 : KV RL 195 yX2_beatsUntilQuiet := ⟨⟨872, by decide +kernel⟩, ⟨873, by decide +kernel⟩, ⟨874, by decide +kernel⟩⟩
theorem kl_L_196 : KS RL 196 yL_coinsIn := ⟨⟨594, by decide +kernel⟩, ⟨595, by decide +kernel⟩⟩
theorem kl_L_198 : KV RL 198 yX2_coinsIn := ⟨⟨880, by decide +kernel⟩, ⟨881, by decide +kernel⟩, ⟨882, by decide +kernel⟩⟩
theorem kl_L_199 : KS RL 199 yL_loudestOn := ⟨⟨598, by decide +kernel⟩, ⟨599, by decide +kernel⟩⟩
theorem kl_L_201 : KV RL 201 yX2_loudestOn := ⟨⟨888, by decide +kernel⟩, ⟨889, by decide +kernel⟩, ⟨890, by decide +kernel⟩⟩
theorem kl_L_202 : KS RL 202 yL_loudnessWanted := ⟨⟨608, by decide +kernel⟩, ⟨609, by decide +kernel⟩⟩
theorem kl_L_204 : KV RL 204 yX2_loudnessWanted := ⟨⟨892, by decide +kernel⟩, ⟨893, by decide +kernel⟩, ⟨894, by decide +kernel⟩⟩
theorem kl_L_205 : KS RL 205 yL_bestStone := ⟨⟨615, by decide +kernel⟩, ⟨616, by decide +kernel⟩⟩
theorem kl_L_207 : KV RL 207 yX2_bestStone := ⟨⟨900, by decide +kernel⟩, ⟨901, by decide +kernel⟩, ⟨902, by decide +kernel⟩⟩
theorem kl_L_208 : KV RL 208 yX1_meanLoudness := ⟨⟨238, by decide +kernel⟩, ⟨239, by decide +kernel⟩, ⟨240, by decide +kernel⟩⟩
theorem kl_L_212 : KV RL 212 yX2_meanLoudness := ⟨⟨912, by decide +kernel⟩, ⟨913, by decide +kernel⟩, ⟨914, by decide +kernel⟩⟩
theorem kl_L_213 : KV RL 213 yX1_digest := ⟨⟨242, by decide +kernel⟩, ⟨243, by decide +kernel⟩, ⟨244, by decide +kernel⟩⟩
theorem kl_L_217 : KV RL 217 yX2_digest := ⟨⟨916, by decide +kernel⟩, ⟨917, by decide +kernel⟩, ⟨918, by decide +kernel⟩⟩
theorem kl_X0_51 : KS RX0 51 yJ7_fill_53178 := ⟨⟨78, by decide +kernel⟩, ⟨79, by decide +kernel⟩⟩
theorem kl_X0_82 : KV RX0 82 yX0_start := ⟨⟨345, by decide +kernel⟩, ⟨347, by decide +kernel⟩, ⟨13, by decide +kernel⟩⟩
theorem kl_X0_86 : KV RX0 86 yX0_move := ⟨⟨204, by decide +kernel⟩, ⟨206, by decide +kernel⟩, ⟨2, by decide +kernel⟩⟩
theorem kl_X0_90 : KV RX0 90 yX0_meet := ⟨⟨219, by decide +kernel⟩, ⟨221, by decide +kernel⟩, ⟨5, by decide +kernel⟩⟩
theorem kl_X0_93 : KV RX0 93 yX0_listen := ⟨⟨227, by decide +kernel⟩, ⟨229, by decide +kernel⟩, ⟨7, by decide +kernel⟩⟩
theorem kl_X0_97 : KSN RX0 97 yX1_isStone := ⟨⟨208, _, (by decide +kernel : lw_tbl[208]? = some (.methodLinkNest RX0 97 yX1_isStone RX1))⟩, ⟨209, by decide +kernel⟩⟩
theorem kl_X0_101 : KV RX0 101 yX0_hush := ⟨⟨211, by decide +kernel⟩, ⟨213, by decide +kernel⟩, ⟨3, by decide +kernel⟩⟩
theorem kl_X0_104 : KV RX0 104 yX0_turnAt := ⟨⟨215, by decide +kernel⟩, ⟨217, by decide +kernel⟩, ⟨4, by decide +kernel⟩⟩
theorem kl_X0_108 : KV RX0 108 yX0_settle := ⟨⟨223, by decide +kernel⟩, ⟨225, by decide +kernel⟩, ⟨6, by decide +kernel⟩⟩
theorem kl_X0_111 : KV RX0 111 yX0_loseWall := ⟨⟨231, by decide +kernel⟩, ⟨233, by decide +kernel⟩, ⟨8, by decide +kernel⟩⟩
theorem kl_X0_114 : KSN RX0 114 yX1_otherEcho := ⟨⟨235, _, (by decide +kernel : lw_tbl[235]? = some (.methodLinkNest RX0 114 yX1_otherEcho RX1))⟩, ⟨236, by decide +kernel⟩⟩
theorem kl_X1_19 : KS RX1 19 yX1_needStone := ⟨⟨447, by decide +kernel⟩, ⟨448, by decide +kernel⟩⟩
theorem kl_X1_23 : KS RX1 23 yX1_needEcho := ⟨⟨358, by decide +kernel⟩, ⟨359, by decide +kernel⟩⟩
theorem kl_X1_46 : KVN RX1 46 yX0_build := ⟨⟨491, _, (by decide +kernel : lw_tbl[491]? = some (.methodLinkNest RX1 46 yX0_build RX1))⟩, ⟨493, by decide +kernel⟩, ⟨21, by decide +kernel⟩⟩
theorem kl_X1_50 : KV RX1 50 yX1_needWall := ⟨⟨401, by decide +kernel⟩, ⟨403, by decide +kernel⟩, ⟨16, by decide +kernel⟩⟩
theorem kl_X1_56 : KS RX1 56 yX1_otherEcho := ⟨⟨502, by decide +kernel⟩, ⟨236, by decide +kernel⟩⟩
theorem kl_X1_65 : KS RX1 65 yX1_needLoud := ⟨⟨266, by decide +kernel⟩, ⟨267, by decide +kernel⟩⟩
theorem kl_X1_81 : KVN RX1 81 yX0_start := ⟨⟨520, _, (by decide +kernel : lw_tbl[520]? = some (.methodLinkNest RX1 81 yX0_start RX1))⟩, ⟨347, by decide +kernel⟩, ⟨13, by decide +kernel⟩⟩
theorem kl_X1_85 : KS RX1 85 yX1_needBeats := ⟨⟨389, by decide +kernel⟩, ⟨390, by decide +kernel⟩⟩
theorem kl_X1_91 : KVN RX1 91 yX0_goOn := ⟨⟨200, _, (by decide +kernel : lw_tbl[200]? = some (.methodLinkNest RX1 91 yX0_goOn RX1))⟩, ⟨202, by decide +kernel⟩, ⟨1, by decide +kernel⟩⟩
theorem kl_X1_100 : KVN RX1 100 yX0_loudAt := ⟨⟨456, _, (by decide +kernel : lw_tbl[456]? = some (.methodLinkNest RX1 100 yX0_loudAt RX1))⟩, ⟨458, by decide +kernel⟩, ⟨20, by decide +kernel⟩⟩
theorem kl_X1_115 : KV RX1 115 yX1_needShout := ⟨⟨422, by decide +kernel⟩, ⟨424, by decide +kernel⟩, ⟨18, by decide +kernel⟩⟩
theorem kl_X1_130 : KVN RX1 130 yX0_copyFrom := ⟨⟨193, _, (by decide +kernel : lw_tbl[193]? = some (.methodLinkNest RX1 130 yX0_copyFrom RX1))⟩, ⟨195, by decide +kernel⟩, ⟨0, by decide +kernel⟩⟩
theorem kl_X1_140 : KVN RX1 140 yX0_startAlone := ⟨⟨341, _, (by decide +kernel : lw_tbl[341]? = some (.methodLinkNest RX1 140 yX0_startAlone RX1))⟩, ⟨343, by decide +kernel⟩, ⟨12, by decide +kernel⟩⟩
theorem kl_X1_144 : KVN RX1 144 yX0_move := ⟨⟨349, _, (by decide +kernel : lw_tbl[349]? = some (.methodLinkNest RX1 144 yX0_move RX1))⟩, ⟨206, by decide +kernel⟩, ⟨2, by decide +kernel⟩⟩
theorem kl_X1_147 : KV RX1 147 yX1_turnsAlone := ⟨⟨337, by decide +kernel⟩, ⟨339, by decide +kernel⟩, ⟨11, by decide +kernel⟩⟩
theorem kl_X1_152 : KV RX1 152 yX1_digestCounts := ⟨⟨247, by decide +kernel⟩, ⟨249, by decide +kernel⟩, ⟨9, by decide +kernel⟩⟩
theorem kl_X1_156 : KV RX1 156 yX1_digestEchoes := ⟨⟨350, by decide +kernel⟩, ⟨352, by decide +kernel⟩, ⟨14, by decide +kernel⟩⟩
theorem kl_X1_159 : KV RX1 159 yX1_digestWalls := ⟨⟨393, by decide +kernel⟩, ⟨395, by decide +kernel⟩, ⟨15, by decide +kernel⟩⟩
theorem kl_X1_162 : KV RX1 162 yX1_digestShouts := ⟨⟨414, by decide +kernel⟩, ⟨416, by decide +kernel⟩, ⟨17, by decide +kernel⟩⟩
theorem kl_X1_165 : KV RX1 165 yX1_digestStones := ⟨⟨439, by decide +kernel⟩, ⟨441, by decide +kernel⟩, ⟨19, by decide +kernel⟩⟩
theorem kl_X1_168 : KV RX1 168 yX1_beat := ⟨⟨251, by decide +kernel⟩, ⟨166, by decide +kernel⟩, ⟨167, by decide +kernel⟩⟩
theorem kl_X1_172 : KS RX1 172 yX1_mix := ⟨⟨252, by decide +kernel⟩, ⟨253, by decide +kernel⟩⟩
theorem kl_X1_176 : KV RX1 176 yX1_walls := ⟨⟨256, by decide +kernel⟩, ⟨170, by decide +kernel⟩, ⟨171, by decide +kernel⟩⟩
theorem kl_X1_179 : KV RX1 179 yX1_shouts := ⟨⟨257, by decide +kernel⟩, ⟨174, by decide +kernel⟩, ⟨175, by decide +kernel⟩⟩
theorem kl_X1_182 : KV RX1 182 yX1_underWay := ⟨⟨258, by decide +kernel⟩, ⟨178, by decide +kernel⟩, ⟨179, by decide +kernel⟩⟩
theorem kl_X1_185 : KV RX1 185 yX1_overlaps := ⟨⟨259, by decide +kernel⟩, ⟨182, by decide +kernel⟩, ⟨183, by decide +kernel⟩⟩
theorem kl_X1_188 : KV RX1 188 yX1_inherited := ⟨⟨260, by decide +kernel⟩, ⟨186, by decide +kernel⟩, ⟨187, by decide +kernel⟩⟩
theorem kl_X1_191 : KV RX1 191 yX1_beatsUntilQuiet := ⟨⟨261, by decide +kernel⟩, ⟨190, by decide +kernel⟩, ⟨191, by decide +kernel⟩⟩
theorem kl_X1_194 : KV RX1 194 yX1_bestStone := ⟨⟨262, by decide +kernel⟩, ⟨263, by decide +kernel⟩, ⟨264, by decide +kernel⟩⟩
theorem kl_X1_197 : KV RX1 197 yX1_coinsOf := ⟨⟨354, by decide +kernel⟩, ⟨355, by decide +kernel⟩, ⟨356, by decide +kernel⟩⟩
theorem kl_X1_200 : KV RX1 200 yX1_wallsOf := ⟨⟨377, by decide +kernel⟩, ⟨378, by decide +kernel⟩, ⟨379, by decide +kernel⟩⟩
theorem kl_X1_203 : KV RX1 203 yX1_silentFor := ⟨⟨381, by decide +kernel⟩, ⟨382, by decide +kernel⟩, ⟨383, by decide +kernel⟩⟩
theorem kl_X1_206 : KV RX1 206 yX1_coinsIn := ⟨⟨385, by decide +kernel⟩, ⟨386, by decide +kernel⟩, ⟨387, by decide +kernel⟩⟩
theorem kl_X1_209 : KV RX1 209 yX1_stoneOf := ⟨⟨397, by decide +kernel⟩, ⟨398, by decide +kernel⟩, ⟨399, by decide +kernel⟩⟩
theorem kl_X1_212 : KV RX1 212 yX1_ownerOf := ⟨⟨406, by decide +kernel⟩, ⟨407, by decide +kernel⟩, ⟨408, by decide +kernel⟩⟩
theorem kl_X1_215 : KV RX1 215 yX1_thrownBack := ⟨⟨410, by decide +kernel⟩, ⟨411, by decide +kernel⟩, ⟨412, by decide +kernel⟩⟩
theorem kl_X1_218 : KV RX1 218 yX1_loudnessOf := ⟨⟨418, by decide +kernel⟩, ⟨419, by decide +kernel⟩, ⟨420, by decide +kernel⟩⟩
theorem kl_X1_221 : KV RX1 221 yX1_placeOf := ⟨⟨427, by decide +kernel⟩, ⟨428, by decide +kernel⟩, ⟨429, by decide +kernel⟩⟩
theorem kl_X1_224 : KV RX1 224 yX1_goesRight := ⟨⟨431, by decide +kernel⟩, ⟨432, by decide +kernel⟩, ⟨433, by decide +kernel⟩⟩
theorem kl_X1_228 : KV RX1 228 yX1_turnsOf := ⟨⟨435, by decide +kernel⟩, ⟨436, by decide +kernel⟩, ⟨437, by decide +kernel⟩⟩
theorem kl_X1_231 : KV RX1 231 yX1_snowOn := ⟨⟨443, by decide +kernel⟩, ⟨444, by decide +kernel⟩, ⟨445, by decide +kernel⟩⟩
theorem kl_X1_234 : KV RX1 234 yX1_loudOn := ⟨⟨452, by decide +kernel⟩, ⟨453, by decide +kernel⟩, ⟨454, by decide +kernel⟩⟩
theorem kl_X1_237 : KV RX1 237 yX1_nextWall := ⟨⟨460, by decide +kernel⟩, ⟨461, by decide +kernel⟩, ⟨462, by decide +kernel⟩⟩
theorem kl_X1_243 : KS RX1 243 yX1_isStone := ⟨⟨450, by decide +kernel⟩, ⟨209, by decide +kernel⟩⟩
theorem kl_X2_36 : KS RX2 36 yX2_isIn := ⟨⟨668, by decide +kernel⟩, ⟨669, by decide +kernel⟩⟩
theorem kl_X2_58 : KS RX2 58 yX2_isStone := ⟨⟨665, by decide +kernel⟩, ⟨666, by decide +kernel⟩⟩
theorem kl_X2_62 : KV RX2 62 yX2_let := ⟨⟨726, by decide +kernel⟩, ⟨728, by decide +kernel⟩, ⟨31, by decide +kernel⟩⟩
theorem kl_X2_66 : KV RX2 66 yX2_goes := ⟨⟨698, by decide +kernel⟩, ⟨700, by decide +kernel⟩, ⟨25, by decide +kernel⟩⟩
theorem kl_X2_69 : KV RX2 69 yX2_loudest := ⟨⟨702, by decide +kernel⟩, ⟨704, by decide +kernel⟩, ⟨26, by decide +kernel⟩⟩
theorem kl_X2_73 : KV RX2 73 yX2_firstOf := ⟨⟨739, by decide +kernel⟩, ⟨741, by decide +kernel⟩, ⟨34, by decide +kernel⟩⟩
theorem kl_X2_76 : KV RX2 76 yX2_step := ⟨⟨722, by decide +kernel⟩, ⟨724, by decide +kernel⟩, ⟨30, by decide +kernel⟩⟩
theorem kl_X2_80 : KV RX2 80 yX2_meet := ⟨⟨731, by decide +kernel⟩, ⟨733, by decide +kernel⟩, ⟨32, by decide +kernel⟩⟩
theorem kl_X2_83 : KV RX2 83 yX2_hush := ⟨⟨735, by decide +kernel⟩, ⟨737, by decide +kernel⟩, ⟨33, by decide +kernel⟩⟩
theorem kl_X2_86 : KV RX2 86 yX2_beatOn := ⟨⟨718, by decide +kernel⟩, ⟨720, by decide +kernel⟩, ⟨29, by decide +kernel⟩⟩
theorem kl_X2_89 : KS RX2 89 yX2_isEcho := ⟨⟨671, by decide +kernel⟩, ⟨672, by decide +kernel⟩⟩
theorem kl_X2_92 : KV RX2 92 yX2_no := ⟨⟨674, by decide +kernel⟩, ⟨676, by decide +kernel⟩, ⟨22, by decide +kernel⟩⟩
theorem kl_X2_95 : KV RX2 95 yX2_isWall := ⟨⟨682, by decide +kernel⟩, ⟨684, by decide +kernel⟩, ⟨23, by decide +kernel⟩⟩
theorem kl_X2_98 : KV RX2 98 yX2_many := ⟨⟨694, by decide +kernel⟩, ⟨696, by decide +kernel⟩, ⟨24, by decide +kernel⟩⟩
theorem kl_X2_102 : KV RX2 102 yX2_coins := ⟨⟨710, by decide +kernel⟩, ⟨712, by decide +kernel⟩, ⟨27, by decide +kernel⟩⟩
theorem kl_X2_105 : KV RX2 105 yX2_beatsOn := ⟨⟨714, by decide +kernel⟩, ⟨716, by decide +kernel⟩, ⟨28, by decide +kernel⟩⟩
theorem kl_X2_108 : KV RX2 108 yX2_ok := ⟨⟨747, by decide +kernel⟩, ⟨749, by decide +kernel⟩, ⟨35, by decide +kernel⟩⟩
theorem kl_X2_111 : KV RX2 111 yX2_isKnown := ⟨⟨771, by decide +kernel⟩, ⟨773, by decide +kernel⟩, ⟨36, by decide +kernel⟩⟩
theorem kl_X2_115 : KV RX2 115 yX2_loudAt := ⟨⟨783, by decide +kernel⟩, ⟨785, by decide +kernel⟩, ⟨37, by decide +kernel⟩⟩
theorem kl_X2_118 : KV RX2 118 yX2_manyOf := ⟨⟨807, by decide +kernel⟩, ⟨809, by decide +kernel⟩, ⟨38, by decide +kernel⟩⟩
theorem kl_X2_121 : KV RX2 121 yX2_isShout := ⟨⟨823, by decide +kernel⟩, ⟨825, by decide +kernel⟩, ⟨39, by decide +kernel⟩⟩
theorem kl_X2_124 : KV RX2 124 yX2_place := ⟨⟨831, by decide +kernel⟩, ⟨833, by decide +kernel⟩, ⟨40, by decide +kernel⟩⟩
theorem kl_X2_127 : KV RX2 127 yX2_isRight := ⟨⟨839, by decide +kernel⟩, ⟨841, by decide +kernel⟩, ⟨41, by decide +kernel⟩⟩
theorem kl_X2_130 : KV RX2 130 yX2_next := ⟨⟨851, by decide +kernel⟩, ⟨853, by decide +kernel⟩, ⟨42, by decide +kernel⟩⟩
theorem kl_X2_133 : KV RX2 133 yX2_keep := ⟨⟨863, by decide +kernel⟩, ⟨865, by decide +kernel⟩, ⟨44, by decide +kernel⟩⟩
theorem kl_X2_136 : KV RX2 136 yX2_bringBack := ⟨⟨868, by decide +kernel⟩, ⟨870, by decide +kernel⟩, ⟨45, by decide +kernel⟩⟩
theorem kl_X2_139 : KV RX2 139 yX2_untilGone := ⟨⟨859, by decide +kernel⟩, ⟨861, by decide +kernel⟩, ⟨43, by decide +kernel⟩⟩
theorem kl_X2_142 : KV RX2 142 yX2_untilQuiet := ⟨⟨876, by decide +kernel⟩, ⟨878, by decide +kernel⟩, ⟨46, by decide +kernel⟩⟩
theorem kl_X2_145 : KV RX2 145 yX2_earns := ⟨⟨884, by decide +kernel⟩, ⟨886, by decide +kernel⟩, ⟨47, by decide +kernel⟩⟩
theorem kl_X2_148 : KV RX2 148 yX2_loses := ⟨⟨896, by decide +kernel⟩, ⟨898, by decide +kernel⟩, ⟨48, by decide +kernel⟩⟩
theorem kl_X2_152 : KV RX2 152 yX2_turns := ⟨⟨908, by decide +kernel⟩, ⟨910, by decide +kernel⟩, ⟨50, by decide +kernel⟩⟩
theorem kl_X2_155 : KV RX2 155 yX2_best := ⟨⟨904, by decide +kernel⟩, ⟨906, by decide +kernel⟩, ⟨49, by decide +kernel⟩⟩
theorem cd_X0_copyFrom : CD yX0_copyFrom cX0_copyFrom 2 none 1 := ⟨⟨196, by decide +kernel⟩, List.mem_of_getElem? (i := 53) (by decide +kernel), by decide +kernel, by decide +kernel, by decide +kernel⟩
theorem cd_X0_build : CD yX0_build cX0_build 5 (some .int) 3 := ⟨⟨494, by decide +kernel⟩, List.mem_of_getElem? (i := 53) (by decide +kernel), by decide +kernel, by decide +kernel, by decide +kernel⟩
theorem cd_X0_start : CD yX0_start cX0_start 5 (some .int) 3 := ⟨⟨348, by decide +kernel⟩, List.mem_of_getElem? (i := 53) (by decide +kernel), by decide +kernel, by decide +kernel, by decide +kernel⟩
theorem cd_X0_startAlone : CD yX0_startAlone cX0_startAlone 4 none 3 := ⟨⟨344, by decide +kernel⟩, List.mem_of_getElem? (i := 53) (by decide +kernel), by decide +kernel, by decide +kernel, by decide +kernel⟩
theorem cd_X0_loudAt : CD yX0_loudAt cX0_loudAt 3 (some .int) 1 := ⟨⟨459, by decide +kernel⟩, List.mem_of_getElem? (i := 53) (by decide +kernel), by decide +kernel, by decide +kernel, by decide +kernel⟩
theorem cd_X0_goOn : CD yX0_goOn cX0_goOn 4 none 0 := ⟨⟨203, by decide +kernel⟩, List.mem_of_getElem? (i := 53) (by decide +kernel), by decide +kernel, by decide +kernel, by decide +kernel⟩
theorem cd_X0_move : CD yX0_move cX0_move 4 none 1 := ⟨⟨207, by decide +kernel⟩, List.mem_of_getElem? (i := 53) (by decide +kernel), by decide +kernel, by decide +kernel, by decide +kernel⟩
theorem cd_X0_turnAt : CD yX0_turnAt cX0_turnAt 3 none 2 := ⟨⟨218, by decide +kernel⟩, List.mem_of_getElem? (i := 53) (by decide +kernel), by decide +kernel, by decide +kernel, by decide +kernel⟩
theorem cd_X0_hush : CD yX0_hush cX0_hush 2 none 1 := ⟨⟨214, by decide +kernel⟩, List.mem_of_getElem? (i := 53) (by decide +kernel), by decide +kernel, by decide +kernel, by decide +kernel⟩
theorem cd_X0_meet : CD yX0_meet cX0_meet 2 none 0 := ⟨⟨222, by decide +kernel⟩, List.mem_of_getElem? (i := 53) (by decide +kernel), by decide +kernel, by decide +kernel, by decide +kernel⟩
theorem cd_X0_settle : CD yX0_settle cX0_settle 4 none 1 := ⟨⟨226, by decide +kernel⟩, List.mem_of_getElem? (i := 53) (by decide +kernel), by decide +kernel, by decide +kernel, by decide +kernel⟩
theorem cd_X0_listen : CD yX0_listen cX0_listen 3 none 2 := ⟨⟨230, by decide +kernel⟩, List.mem_of_getElem? (i := 53) (by decide +kernel), by decide +kernel, by decide +kernel, by decide +kernel⟩
theorem cd_X0_loseWall : CD yX0_loseWall cX0_loseWall 3 none 1 := ⟨⟨234, by decide +kernel⟩, List.mem_of_getElem? (i := 53) (by decide +kernel), by decide +kernel, by decide +kernel, by decide +kernel⟩
theorem cd_X1_addWall : CD yX1_addWall cX1_addWall 4 (some .int) 3 := ⟨⟨473, by decide +kernel⟩, List.mem_of_getElem? (i := 52) (by decide +kernel), by decide +kernel, by decide +kernel, by decide +kernel⟩
theorem cd_X1_hand : CD yX1_hand cX1_hand 2 (some .int) 1 := ⟨⟨501, by decide +kernel⟩, List.mem_of_getElem? (i := 52) (by decide +kernel), by decide +kernel, by decide +kernel, by decide +kernel⟩
theorem cd_X1_setSnow : CD yX1_setSnow cX1_setSnow 4 (some .int) 2 := ⟨⟨509, by decide +kernel⟩, List.mem_of_getElem? (i := 52) (by decide +kernel), by decide +kernel, by decide +kernel, by decide +kernel⟩
theorem cd_X1_shout : CD yX1_shout cX1_shout 4 (some .int) 3 := ⟨⟨517, by decide +kernel⟩, List.mem_of_getElem? (i := 52) (by decide +kernel), by decide +kernel, by decide +kernel, by decide +kernel⟩
theorem cd_X1_pass : CD yX1_pass cX1_pass 4 (some .int) 1 := ⟨⟨527, by decide +kernel⟩, List.mem_of_getElem? (i := 52) (by decide +kernel), by decide +kernel, by decide +kernel, by decide +kernel⟩
theorem cd_X1_beat : CD yX1_beat cX1_beat 1 (some .int) 0 := ⟨⟨168, by decide +kernel⟩, List.mem_of_getElem? (i := 52) (by decide +kernel), by decide +kernel, by decide +kernel, by decide +kernel⟩
theorem cd_X1_walls : CD yX1_walls cX1_walls 1 (some .int) 0 := ⟨⟨172, by decide +kernel⟩, List.mem_of_getElem? (i := 52) (by decide +kernel), by decide +kernel, by decide +kernel, by decide +kernel⟩
theorem cd_X1_shouts : CD yX1_shouts cX1_shouts 1 (some .int) 0 := ⟨⟨176, by decide +kernel⟩, List.mem_of_getElem? (i := 52) (by decide +kernel), by decide +kernel, by decide +kernel, by decide +kernel⟩
theorem cd_X1_underWay : CD yX1_underWay cX1_underWay 1 (some .int) 0 := ⟨⟨180, by decide +kernel⟩, List.mem_of_getElem? (i := 52) (by decide +kernel), by decide +kernel, by decide +kernel, by decide +kernel⟩
theorem cd_X1_overlaps : CD yX1_overlaps cX1_overlaps 1 (some .int) 0 := ⟨⟨184, by decide +kernel⟩, List.mem_of_getElem? (i := 52) (by decide +kernel), by decide +kernel, by decide +kernel, by decide +kernel⟩
theorem cd_X1_snowOn : CD yX1_snowOn cX1_snowOn 2 (some .int) 1 := ⟨⟨446, by decide +kernel⟩, List.mem_of_getElem? (i := 52) (by decide +kernel), by decide +kernel, by decide +kernel, by decide +kernel⟩
theorem cd_X1_wallOn : CD yX1_wallOn cX1_wallOn 2 (some .int) 1 := ⟨⟨538, by decide +kernel⟩, List.mem_of_getElem? (i := 52) (by decide +kernel), by decide +kernel, by decide +kernel, by decide +kernel⟩
theorem cd_X1_loudOn : CD yX1_loudOn cX1_loudOn 2 (some .int) 1 := ⟨⟨455, by decide +kernel⟩, List.mem_of_getElem? (i := 52) (by decide +kernel), by decide +kernel, by decide +kernel, by decide +kernel⟩
theorem cd_X1_stoneOf : CD yX1_stoneOf cX1_stoneOf 2 (some .int) 1 := ⟨⟨400, by decide +kernel⟩, List.mem_of_getElem? (i := 52) (by decide +kernel), by decide +kernel, by decide +kernel, by decide +kernel⟩
theorem cd_X1_ownerOf : CD yX1_ownerOf cX1_ownerOf 2 (some .int) 1 := ⟨⟨409, by decide +kernel⟩, List.mem_of_getElem? (i := 52) (by decide +kernel), by decide +kernel, by decide +kernel, by decide +kernel⟩
theorem cd_X1_thrownBack : CD yX1_thrownBack cX1_thrownBack 2 (some .int) 1 := ⟨⟨413, by decide +kernel⟩, List.mem_of_getElem? (i := 52) (by decide +kernel), by decide +kernel, by decide +kernel, by decide +kernel⟩
theorem cd_X1_coinsOf : CD yX1_coinsOf cX1_coinsOf 2 (some .int) 1 := ⟨⟨357, by decide +kernel⟩, List.mem_of_getElem? (i := 52) (by decide +kernel), by decide +kernel, by decide +kernel, by decide +kernel⟩
theorem cd_X1_wallsOf : CD yX1_wallsOf cX1_wallsOf 4 (some .int) 1 := ⟨⟨380, by decide +kernel⟩, List.mem_of_getElem? (i := 52) (by decide +kernel), by decide +kernel, by decide +kernel, by decide +kernel⟩
theorem cd_X1_silentFor : CD yX1_silentFor cX1_silentFor 2 (some .int) 1 := ⟨⟨384, by decide +kernel⟩, List.mem_of_getElem? (i := 52) (by decide +kernel), by decide +kernel, by decide +kernel, by decide +kernel⟩
theorem cd_X1_inherited : CD yX1_inherited cX1_inherited 1 (some .int) 0 := ⟨⟨188, by decide +kernel⟩, List.mem_of_getElem? (i := 52) (by decide +kernel), by decide +kernel, by decide +kernel, by decide +kernel⟩
theorem cd_X1_loudnessOf : CD yX1_loudnessOf cX1_loudnessOf 2 (some .int) 1 := ⟨⟨421, by decide +kernel⟩, List.mem_of_getElem? (i := 52) (by decide +kernel), by decide +kernel, by decide +kernel, by decide +kernel⟩
theorem cd_X1_placeOf : CD yX1_placeOf cX1_placeOf 2 (some .int) 1 := ⟨⟨430, by decide +kernel⟩, List.mem_of_getElem? (i := 52) (by decide +kernel), by decide +kernel, by decide +kernel, by decide +kernel⟩
theorem cd_X1_goesRight : CD yX1_goesRight cX1_goesRight 2 (some .boolean) 1 := ⟨⟨434, by decide +kernel⟩, List.mem_of_getElem? (i := 52) (by decide +kernel), by decide +kernel, by decide +kernel, by decide +kernel⟩
theorem cd_X1_turnsOf : CD yX1_turnsOf cX1_turnsOf 2 (some .int) 1 := ⟨⟨438, by decide +kernel⟩, List.mem_of_getElem? (i := 52) (by decide +kernel), by decide +kernel, by decide +kernel, by decide +kernel⟩
theorem cd_X1_nextWall : CD yX1_nextWall cX1_nextWall 5 (some .int) 2 := ⟨⟨463, by decide +kernel⟩, List.mem_of_getElem? (i := 52) (by decide +kernel), by decide +kernel, by decide +kernel, by decide +kernel⟩
theorem cd_X1_beatsUntilGone : CD yX1_beatsUntilGone cX1_beatsUntilGone 3 (some .int) 1 := ⟨⟨593, by decide +kernel⟩, List.mem_of_getElem? (i := 52) (by decide +kernel), by decide +kernel, by decide +kernel, by decide +kernel⟩
theorem cd_X1_beatsUntilQuiet : CD yX1_beatsUntilQuiet cX1_beatsUntilQuiet 2 (some .int) 0 := ⟨⟨192, by decide +kernel⟩, List.mem_of_getElem? (i := 52) (by decide +kernel), by decide +kernel, by decide +kernel, by decide +kernel⟩
theorem cd_X1_coinsIn : CD yX1_coinsIn cX1_coinsIn 4 (some .int) 2 := ⟨⟨388, by decide +kernel⟩, List.mem_of_getElem? (i := 52) (by decide +kernel), by decide +kernel, by decide +kernel, by decide +kernel⟩
theorem cd_X1_loudestOn : CD yX1_loudestOn cX1_loudestOn 5 (some .int) 2 := ⟨⟨604, by decide +kernel⟩, List.mem_of_getElem? (i := 52) (by decide +kernel), by decide +kernel, by decide +kernel, by decide +kernel⟩
theorem cd_X1_loudnessWanted : CD yX1_loudnessWanted cX1_loudnessWanted 5 (some .int) 3 := ⟨⟨614, by decide +kernel⟩, List.mem_of_getElem? (i := 52) (by decide +kernel), by decide +kernel, by decide +kernel, by decide +kernel⟩
theorem cd_X1_bestStone : CD yX1_bestStone cX1_bestStone 6 (some .int) 1 := ⟨⟨265, by decide +kernel⟩, List.mem_of_getElem? (i := 52) (by decide +kernel), by decide +kernel, by decide +kernel, by decide +kernel⟩
theorem cd_X1_meanLoudness : CD yX1_meanLoudness cX1_meanLoudness 3 (some .double) 0 := ⟨⟨241, by decide +kernel⟩, List.mem_of_getElem? (i := 52) (by decide +kernel), by decide +kernel, by decide +kernel, by decide +kernel⟩
theorem cd_X1_digest : CD yX1_digest cX1_digest 3 (some .long) 0 := ⟨⟨245, by decide +kernel⟩, List.mem_of_getElem? (i := 52) (by decide +kernel), by decide +kernel, by decide +kernel, by decide +kernel⟩
theorem cd_X1_digestCounts : CD yX1_digestCounts cX1_digestCounts 5 (some .long) 1 := ⟨⟨250, by decide +kernel⟩, List.mem_of_getElem? (i := 52) (by decide +kernel), by decide +kernel, by decide +kernel, by decide +kernel⟩
theorem cd_X1_digestEchoes : CD yX1_digestEchoes cX1_digestEchoes 6 (some .long) 1 := ⟨⟨353, by decide +kernel⟩, List.mem_of_getElem? (i := 52) (by decide +kernel), by decide +kernel, by decide +kernel, by decide +kernel⟩
theorem cd_X1_digestWalls : CD yX1_digestWalls cX1_digestWalls 6 (some .long) 1 := ⟨⟨396, by decide +kernel⟩, List.mem_of_getElem? (i := 52) (by decide +kernel), by decide +kernel, by decide +kernel, by decide +kernel⟩
theorem cd_X1_digestShouts : CD yX1_digestShouts cX1_digestShouts 6 (some .long) 1 := ⟨⟨417, by decide +kernel⟩, List.mem_of_getElem? (i := 52) (by decide +kernel), by decide +kernel, by decide +kernel, by decide +kernel⟩
theorem cd_X1_digestStones : CD yX1_digestStones cX1_digestStones 6 (some .long) 1 := ⟨⟨442, by decide +kernel⟩, List.mem_of_getElem? (i := 52) (by decide +kernel), by decide +kernel, by decide +kernel, by decide +kernel⟩
theorem cd_X1_mix : CD yX1_mix cX1_mix 3 (some .long) 2 := ⟨⟨254, by decide +kernel⟩, List.mem_of_getElem? (i := 52) (by decide +kernel), by decide +kernel, by decide +kernel, by decide +kernel⟩
theorem cd_X1_turnsAlone : CD yX1_turnsAlone cX1_turnsAlone 4 (some .int) 2 := ⟨⟨340, by decide +kernel⟩, List.mem_of_getElem? (i := 52) (by decide +kernel), by decide +kernel, by decide +kernel, by decide +kernel⟩
theorem cd_X1_isStone : CD yX1_isStone cX1_isStone 1 (some .boolean) 1 := ⟨⟨210, by decide +kernel⟩, List.mem_of_getElem? (i := 52) (by decide +kernel), by decide +kernel, by decide +kernel, by decide +kernel⟩
theorem cd_X1_otherEcho : CD yX1_otherEcho cX1_otherEcho 1 (some .int) 1 := ⟨⟨237, by decide +kernel⟩, List.mem_of_getElem? (i := 52) (by decide +kernel), by decide +kernel, by decide +kernel, by decide +kernel⟩
theorem cd_X1_needStone : CD yX1_needStone cX1_needStone 1 none 1 := ⟨⟨449, by decide +kernel⟩, List.mem_of_getElem? (i := 52) (by decide +kernel), by decide +kernel, by decide +kernel, by decide +kernel⟩
theorem cd_X1_needEcho : CD yX1_needEcho cX1_needEcho 1 none 1 := ⟨⟨360, by decide +kernel⟩, List.mem_of_getElem? (i := 52) (by decide +kernel), by decide +kernel, by decide +kernel, by decide +kernel⟩
theorem cd_X1_needWall : CD yX1_needWall cX1_needWall 2 none 1 := ⟨⟨404, by decide +kernel⟩, List.mem_of_getElem? (i := 52) (by decide +kernel), by decide +kernel, by decide +kernel, by decide +kernel⟩
theorem cd_X1_needShout : CD yX1_needShout cX1_needShout 2 none 1 := ⟨⟨425, by decide +kernel⟩, List.mem_of_getElem? (i := 52) (by decide +kernel), by decide +kernel, by decide +kernel, by decide +kernel⟩
theorem cd_X1_needLoud : CD yX1_needLoud cX1_needLoud 1 none 1 := ⟨⟨268, by decide +kernel⟩, List.mem_of_getElem? (i := 52) (by decide +kernel), by decide +kernel, by decide +kernel, by decide +kernel⟩
theorem cd_X1_needBeats : CD yX1_needBeats cX1_needBeats 1 none 1 := ⟨⟨391, by decide +kernel⟩, List.mem_of_getElem? (i := 52) (by decide +kernel), by decide +kernel, by decide +kernel, by decide +kernel⟩
theorem cd_X2_thrown : CD yX2_thrown cX2_thrown 1 (some .int) 0 := ⟨⟨660, by decide +kernel⟩, List.mem_of_getElem? (i := 55) (by decide +kernel), by decide +kernel, by decide +kernel, by decide +kernel⟩
theorem cd_X2_no : CD yX2_no cX2_no 2 (some .int) 1 := ⟨⟨677, by decide +kernel⟩, List.mem_of_getElem? (i := 55) (by decide +kernel), by decide +kernel, by decide +kernel, by decide +kernel⟩
theorem cd_X2_ok : CD yX2_ok cX2_ok 2 (some .int) 1 := ⟨⟨750, by decide +kernel⟩, List.mem_of_getElem? (i := 55) (by decide +kernel), by decide +kernel, by decide +kernel, by decide +kernel⟩
theorem cd_X2_isIn : CD yX2_isIn cX2_isIn 3 (some .boolean) 3 := ⟨⟨670, by decide +kernel⟩, List.mem_of_getElem? (i := 55) (by decide +kernel), by decide +kernel, by decide +kernel, by decide +kernel⟩
theorem cd_X2_isStone : CD yX2_isStone cX2_isStone 1 (some .boolean) 1 := ⟨⟨667, by decide +kernel⟩, List.mem_of_getElem? (i := 55) (by decide +kernel), by decide +kernel, by decide +kernel, by decide +kernel⟩
theorem cd_X2_isEcho : CD yX2_isEcho cX2_isEcho 1 (some .boolean) 1 := ⟨⟨673, by decide +kernel⟩, List.mem_of_getElem? (i := 55) (by decide +kernel), by decide +kernel, by decide +kernel, by decide +kernel⟩
theorem cd_X2_isWall : CD yX2_isWall cX2_isWall 2 (some .boolean) 1 := ⟨⟨685, by decide +kernel⟩, List.mem_of_getElem? (i := 55) (by decide +kernel), by decide +kernel, by decide +kernel, by decide +kernel⟩
theorem cd_X2_isShout : CD yX2_isShout cX2_isShout 2 (some .boolean) 1 := ⟨⟨826, by decide +kernel⟩, List.mem_of_getElem? (i := 55) (by decide +kernel), by decide +kernel, by decide +kernel, by decide +kernel⟩
theorem cd_X2_keep : CD yX2_keep cX2_keep 1 none 0 := ⟨⟨866, by decide +kernel⟩, List.mem_of_getElem? (i := 55) (by decide +kernel), by decide +kernel, by decide +kernel, by decide +kernel⟩
theorem cd_X2_bringBack : CD yX2_bringBack cX2_bringBack 1 none 0 := ⟨⟨871, by decide +kernel⟩, List.mem_of_getElem? (i := 55) (by decide +kernel), by decide +kernel, by decide +kernel, by decide +kernel⟩
theorem cd_X2_goes : CD yX2_goes cX2_goes 2 (some .boolean) 1 := ⟨⟨701, by decide +kernel⟩, List.mem_of_getElem? (i := 55) (by decide +kernel), by decide +kernel, by decide +kernel, by decide +kernel⟩
theorem cd_X2_let : CD yX2_let cX2_let 3 none 2 := ⟨⟨729, by decide +kernel⟩, List.mem_of_getElem? (i := 55) (by decide +kernel), by decide +kernel, by decide +kernel, by decide +kernel⟩
theorem cd_X2_step : CD yX2_step cX2_step 5 none 1 := ⟨⟨725, by decide +kernel⟩, List.mem_of_getElem? (i := 55) (by decide +kernel), by decide +kernel, by decide +kernel, by decide +kernel⟩
theorem cd_X2_loudest : CD yX2_loudest cX2_loudest 4 (some .int) 1 := ⟨⟨705, by decide +kernel⟩, List.mem_of_getElem? (i := 55) (by decide +kernel), by decide +kernel, by decide +kernel, by decide +kernel⟩
theorem cd_X2_meet : CD yX2_meet cX2_meet 2 none 1 := ⟨⟨734, by decide +kernel⟩, List.mem_of_getElem? (i := 55) (by decide +kernel), by decide +kernel, by decide +kernel, by decide +kernel⟩
theorem cd_X2_firstOf : CD yX2_firstOf cX2_firstOf 3 (some .int) 1 := ⟨⟨742, by decide +kernel⟩, List.mem_of_getElem? (i := 55) (by decide +kernel), by decide +kernel, by decide +kernel, by decide +kernel⟩
theorem cd_X2_hush : CD yX2_hush cX2_hush 3 none 1 := ⟨⟨738, by decide +kernel⟩, List.mem_of_getElem? (i := 55) (by decide +kernel), by decide +kernel, by decide +kernel, by decide +kernel⟩
theorem cd_X2_beatOn : CD yX2_beatOn cX2_beatOn 2 none 0 := ⟨⟨721, by decide +kernel⟩, List.mem_of_getElem? (i := 55) (by decide +kernel), by decide +kernel, by decide +kernel, by decide +kernel⟩
theorem cd_X2_beatsOn : CD yX2_beatsOn cX2_beatsOn 3 none 1 := ⟨⟨717, by decide +kernel⟩, List.mem_of_getElem? (i := 55) (by decide +kernel), by decide +kernel, by decide +kernel, by decide +kernel⟩
theorem cd_X2_coins : CD yX2_coins cX2_coins 1 (some .int) 0 := ⟨⟨713, by decide +kernel⟩, List.mem_of_getElem? (i := 55) (by decide +kernel), by decide +kernel, by decide +kernel, by decide +kernel⟩
theorem cd_X2_many : CD yX2_many cX2_many 3 (some .int) 0 := ⟨⟨697, by decide +kernel⟩, List.mem_of_getElem? (i := 55) (by decide +kernel), by decide +kernel, by decide +kernel, by decide +kernel⟩
theorem cd_X2_addWall : CD yX2_addWall cX2_addWall 4 (some .int) 3 := ⟨⟨664, by decide +kernel⟩, List.mem_of_getElem? (i := 55) (by decide +kernel), by decide +kernel, by decide +kernel, by decide +kernel⟩
theorem cd_X2_hand : CD yX2_hand cX2_hand 2 (some .int) 1 := ⟨⟨681, by decide +kernel⟩, List.mem_of_getElem? (i := 55) (by decide +kernel), by decide +kernel, by decide +kernel, by decide +kernel⟩
theorem cd_X2_setSnow : CD yX2_setSnow cX2_setSnow 4 (some .int) 2 := ⟨⟨689, by decide +kernel⟩, List.mem_of_getElem? (i := 55) (by decide +kernel), by decide +kernel, by decide +kernel, by decide +kernel⟩
theorem cd_X2_shout : CD yX2_shout cX2_shout 4 (some .int) 3 := ⟨⟨693, by decide +kernel⟩, List.mem_of_getElem? (i := 55) (by decide +kernel), by decide +kernel, by decide +kernel, by decide +kernel⟩
theorem cd_X2_pass : CD yX2_pass cX2_pass 3 (some .int) 1 := ⟨⟨709, by decide +kernel⟩, List.mem_of_getElem? (i := 55) (by decide +kernel), by decide +kernel, by decide +kernel, by decide +kernel⟩
theorem cd_X2_beat : CD yX2_beat cX2_beat 1 (some .int) 0 := ⟨⟨746, by decide +kernel⟩, List.mem_of_getElem? (i := 55) (by decide +kernel), by decide +kernel, by decide +kernel, by decide +kernel⟩
theorem cd_X2_walls : CD yX2_walls cX2_walls 1 (some .int) 0 := ⟨⟨754, by decide +kernel⟩, List.mem_of_getElem? (i := 55) (by decide +kernel), by decide +kernel, by decide +kernel, by decide +kernel⟩
theorem cd_X2_shouts : CD yX2_shouts cX2_shouts 1 (some .int) 0 := ⟨⟨758, by decide +kernel⟩, List.mem_of_getElem? (i := 55) (by decide +kernel), by decide +kernel, by decide +kernel, by decide +kernel⟩
theorem cd_X2_underWay : CD yX2_underWay cX2_underWay 1 (some .int) 0 := ⟨⟨762, by decide +kernel⟩, List.mem_of_getElem? (i := 55) (by decide +kernel), by decide +kernel, by decide +kernel, by decide +kernel⟩
theorem cd_X2_overlaps : CD yX2_overlaps cX2_overlaps 1 (some .int) 0 := ⟨⟨766, by decide +kernel⟩, List.mem_of_getElem? (i := 55) (by decide +kernel), by decide +kernel, by decide +kernel, by decide +kernel⟩
theorem cd_X2_isKnown : CD yX2_isKnown cX2_isKnown 2 (some .boolean) 1 := ⟨⟨774, by decide +kernel⟩, List.mem_of_getElem? (i := 55) (by decide +kernel), by decide +kernel, by decide +kernel, by decide +kernel⟩
theorem cd_X2_snowOn : CD yX2_snowOn cX2_snowOn 2 (some .int) 1 := ⟨⟨770, by decide +kernel⟩, List.mem_of_getElem? (i := 55) (by decide +kernel), by decide +kernel, by decide +kernel, by decide +kernel⟩
theorem cd_X2_wallOn : CD yX2_wallOn cX2_wallOn 2 (some .int) 1 := ⟨⟨778, by decide +kernel⟩, List.mem_of_getElem? (i := 55) (by decide +kernel), by decide +kernel, by decide +kernel, by decide +kernel⟩
theorem cd_X2_loudAt : CD yX2_loudAt cX2_loudAt 2 (some .int) 1 := ⟨⟨786, by decide +kernel⟩, List.mem_of_getElem? (i := 55) (by decide +kernel), by decide +kernel, by decide +kernel, by decide +kernel⟩
theorem cd_X2_loudOn : CD yX2_loudOn cX2_loudOn 2 (some .int) 1 := ⟨⟨782, by decide +kernel⟩, List.mem_of_getElem? (i := 55) (by decide +kernel), by decide +kernel, by decide +kernel, by decide +kernel⟩
theorem cd_X2_stoneOf : CD yX2_stoneOf cX2_stoneOf 2 (some .int) 1 := ⟨⟨790, by decide +kernel⟩, List.mem_of_getElem? (i := 55) (by decide +kernel), by decide +kernel, by decide +kernel, by decide +kernel⟩
theorem cd_X2_ownerOf : CD yX2_ownerOf cX2_ownerOf 2 (some .int) 1 := ⟨⟨794, by decide +kernel⟩, List.mem_of_getElem? (i := 55) (by decide +kernel), by decide +kernel, by decide +kernel, by decide +kernel⟩
theorem cd_X2_thrownBack : CD yX2_thrownBack cX2_thrownBack 2 (some .int) 1 := ⟨⟨798, by decide +kernel⟩, List.mem_of_getElem? (i := 55) (by decide +kernel), by decide +kernel, by decide +kernel, by decide +kernel⟩
theorem cd_X2_coinsOf : CD yX2_coinsOf cX2_coinsOf 2 (some .int) 1 := ⟨⟨802, by decide +kernel⟩, List.mem_of_getElem? (i := 55) (by decide +kernel), by decide +kernel, by decide +kernel, by decide +kernel⟩
theorem cd_X2_manyOf : CD yX2_manyOf cX2_manyOf 4 (some .int) 1 := ⟨⟨810, by decide +kernel⟩, List.mem_of_getElem? (i := 55) (by decide +kernel), by decide +kernel, by decide +kernel, by decide +kernel⟩
theorem cd_X2_wallsOf : CD yX2_wallsOf cX2_wallsOf 2 (some .int) 1 := ⟨⟨806, by decide +kernel⟩, List.mem_of_getElem? (i := 55) (by decide +kernel), by decide +kernel, by decide +kernel, by decide +kernel⟩
theorem cd_X2_silentFor : CD yX2_silentFor cX2_silentFor 2 (some .int) 1 := ⟨⟨814, by decide +kernel⟩, List.mem_of_getElem? (i := 55) (by decide +kernel), by decide +kernel, by decide +kernel, by decide +kernel⟩
theorem cd_X2_inherited : CD yX2_inherited cX2_inherited 1 (some .int) 0 := ⟨⟨818, by decide +kernel⟩, List.mem_of_getElem? (i := 55) (by decide +kernel), by decide +kernel, by decide +kernel, by decide +kernel⟩
theorem cd_X2_loudnessOf : CD yX2_loudnessOf cX2_loudnessOf 2 (some .int) 1 := ⟨⟨822, by decide +kernel⟩, List.mem_of_getElem? (i := 55) (by decide +kernel), by decide +kernel, by decide +kernel, by decide +kernel⟩
theorem cd_X2_place : CD yX2_place cX2_place 2 (some .int) 1 := ⟨⟨834, by decide +kernel⟩, List.mem_of_getElem? (i := 55) (by decide +kernel), by decide +kernel, by decide +kernel, by decide +kernel⟩
theorem cd_X2_placeOf : CD yX2_placeOf cX2_placeOf 2 (some .int) 1 := ⟨⟨830, by decide +kernel⟩, List.mem_of_getElem? (i := 55) (by decide +kernel), by decide +kernel, by decide +kernel, by decide +kernel⟩
theorem cd_X2_isRight : CD yX2_isRight cX2_isRight 2 (some .boolean) 1 := ⟨⟨842, by decide +kernel⟩, List.mem_of_getElem? (i := 55) (by decide +kernel), by decide +kernel, by decide +kernel, by decide +kernel⟩
theorem cd_X2_goesRight : CD yX2_goesRight cX2_goesRight 2 (some .boolean) 1 := ⟨⟨838, by decide +kernel⟩, List.mem_of_getElem? (i := 55) (by decide +kernel), by decide +kernel, by decide +kernel, by decide +kernel⟩
theorem cd_X2_turnsOf : CD yX2_turnsOf cX2_turnsOf 2 (some .int) 1 := ⟨⟨846, by decide +kernel⟩, List.mem_of_getElem? (i := 55) (by decide +kernel), by decide +kernel, by decide +kernel, by decide +kernel⟩
theorem cd_X2_next : CD yX2_next cX2_next 4 (some .int) 2 := ⟨⟨854, by decide +kernel⟩, List.mem_of_getElem? (i := 55) (by decide +kernel), by decide +kernel, by decide +kernel, by decide +kernel⟩
theorem cd_X2_nextWall : CD yX2_nextWall cX2_nextWall 3 (some .int) 2 := ⟨⟨850, by decide +kernel⟩, List.mem_of_getElem? (i := 55) (by decide +kernel), by decide +kernel, by decide +kernel, by decide +kernel⟩
theorem cd_X2_untilGone : CD yX2_untilGone cX2_untilGone 3 (some .int) 1 := ⟨⟨862, by decide +kernel⟩, List.mem_of_getElem? (i := 55) (by decide +kernel), by decide +kernel, by decide +kernel, by decide +kernel⟩
theorem cd_X2_beatsUntilGone : CD yX2_beatsUntilGone cX2_beatsUntilGone 2 (some .int) 1 := ⟨⟨858, by decide +kernel⟩, List.mem_of_getElem? (i := 55) (by decide +kernel), by decide +kernel, by decide +kernel, by decide +kernel⟩
theorem cd_X2_untilQuiet : CD yX2_untilQuiet cX2_untilQuiet 2 (some .int) 0 := ⟨⟨879, by decide +kernel⟩, List.mem_of_getElem? (i := 55) (by decide +kernel), by decide +kernel, by decide +kernel, by decide +kernel⟩
theorem cd_X2_beatsUntilQuiet : CD yX2_beatsUntilQuiet cX2_beatsUntilQuiet 1 (some .int) 0 := ⟨⟨875, by decide +kernel⟩, List.mem_of_getElem? (i := 55) (by decide +kernel), by decide +kernel, by decide +kernel, by decide +kernel⟩
theorem cd_X2_earns : CD yX2_earns cX2_earns 4 (some .int) 2 := ⟨⟨887, by decide +kernel⟩, List.mem_of_getElem? (i := 55) (by decide +kernel), by decide +kernel, by decide +kernel, by decide +kernel⟩
theorem cd_X2_coinsIn : CD yX2_coinsIn cX2_coinsIn 3 (some .int) 2 := ⟨⟨883, by decide +kernel⟩, List.mem_of_getElem? (i := 55) (by decide +kernel), by decide +kernel, by decide +kernel, by decide +kernel⟩
theorem cd_X2_loudestOn : CD yX2_loudestOn cX2_loudestOn 5 (some .int) 2 := ⟨⟨891, by decide +kernel⟩, List.mem_of_getElem? (i := 55) (by decide +kernel), by decide +kernel, by decide +kernel, by decide +kernel⟩
theorem cd_X2_loses : CD yX2_loses cX2_loses 7 (some .int) 3 := ⟨⟨899, by decide +kernel⟩, List.mem_of_getElem? (i := 55) (by decide +kernel), by decide +kernel, by decide +kernel, by decide +kernel⟩
theorem cd_X2_loudnessWanted : CD yX2_loudnessWanted cX2_loudnessWanted 5 (some .int) 3 := ⟨⟨895, by decide +kernel⟩, List.mem_of_getElem? (i := 55) (by decide +kernel), by decide +kernel, by decide +kernel, by decide +kernel⟩
theorem cd_X2_turns : CD yX2_turns cX2_turns 7 (some .int) 2 := ⟨⟨911, by decide +kernel⟩, List.mem_of_getElem? (i := 55) (by decide +kernel), by decide +kernel, by decide +kernel, by decide +kernel⟩
theorem cd_X2_best : CD yX2_best cX2_best 4 (some .int) 1 := ⟨⟨907, by decide +kernel⟩, List.mem_of_getElem? (i := 55) (by decide +kernel), by decide +kernel, by decide +kernel, by decide +kernel⟩
theorem cd_X2_bestStone : CD yX2_bestStone cX2_bestStone 2 (some .int) 1 := ⟨⟨903, by decide +kernel⟩, List.mem_of_getElem? (i := 55) (by decide +kernel), by decide +kernel, by decide +kernel, by decide +kernel⟩
theorem cd_X2_meanLoudness : CD yX2_meanLoudness cX2_meanLoudness 3 (some .double) 0 := ⟨⟨915, by decide +kernel⟩, List.mem_of_getElem? (i := 55) (by decide +kernel), by decide +kernel, by decide +kernel, by decide +kernel⟩
theorem cd_X2_digest : CD yX2_digest cX2_digest 8 (some .long) 0 := ⟨⟨919, by decide +kernel⟩, List.mem_of_getElem? (i := 55) (by decide +kernel), by decide +kernel, by decide +kernel, by decide +kernel⟩
theorem cd_J9_max_7cf53 : CD yJ9_max_7cf53 cJ9_max_7cf53 2 (some .int) 2 := ⟨⟨607, by decide +kernel⟩, List.mem_of_getElem? (i := 62) (by decide +kernel), by decide +kernel, by decide +kernel, by decide +kernel⟩
theorem cd_J7_fill_53178 : CD yJ7_fill_53178 cJ7_fill_53178 4 none 2 := ⟨⟨80, by decide +kernel⟩, List.mem_of_getElem? (i := 54) (by decide +kernel), by decide +kernel, by decide +kernel, by decide +kernel⟩
theorem ll_X1_150 : lw_tbl[246]? = some (.constantLong RX1 150 2309) := by decide +kernel
theorem ll_X1_241 : lw_tbl[255]? = some (.constantLong RX1 241 31) := by decide +kernel
theorem ll_X2_158 : lw_tbl[920]? = some (.constantLong RX2 158 2309) := by decide +kernel
theorem ll_X2_160 : lw_tbl[921]? = some (.constantLong RX2 160 31) := by decide +kernel
