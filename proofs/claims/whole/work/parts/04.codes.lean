/-! the methods' code words, and their own facts -/
set_option maxRecDepth 100000 in
theorem mj_kc_0 : lw_tbl[289]? = some (.code yX0_init cX0_init 2 none) := rfl
set_option maxRecDepth 100000 in
theorem mj_kc_1 : lw_tbl[807]? = some (.code yX0_answerAnew cX0_answerAnew 3 (some .int)) := rfl
set_option maxRecDepth 100000 in
theorem mj_kc_2 : lw_tbl[811]? = some (.code yX0_answer cX0_answer 4 (some .int)) := rfl
set_option maxRecDepth 100000 in
theorem mj_kc_3 : lw_tbl[815]? = some (.code yX0_sizeAsked cX0_sizeAsked 3 (some .int)) := rfl
set_option maxRecDepth 100000 in
theorem mj_kc_4 : lw_tbl[832]? = some (.code yX0_markAsked cX0_markAsked 3 (some .int)) := rfl
set_option maxRecDepth 100000 in
theorem mj_kc_5 : lw_tbl[824]? = some (.code yX0_lentSize cX0_lentSize 2 (some .int)) := rfl
set_option maxRecDepth 100000 in
theorem mj_kc_6 : lw_tbl[836]? = some (.code yX0_lentMark cX0_lentMark 2 (some .int)) := rfl
set_option maxRecDepth 100000 in
theorem mj_kc_7 : lw_tbl[820]? = some (.code yX0_enter cX0_enter 2 none) := rfl
set_option maxRecDepth 100000 in
theorem mj_kc_8 : lw_tbl[252]? = some (.code yX1_init cX1_init 2 none) := rfl
set_option maxRecDepth 100000 in
theorem mj_kc_9 : lw_tbl[669]? = some (.code yX1_isColour cX1_isColour 1 (some .boolean)) := rfl
set_option maxRecDepth 100000 in
theorem mj_kc_10 : lw_tbl[363]? = some (.code yX1_clear cX1_clear 1 none) := rfl
set_option maxRecDepth 100000 in
theorem mj_kc_11 : lw_tbl[686]? = some (.code yX1_countClashes cX1_countClashes 5 (some .int)) := rfl
set_option maxRecDepth 100000 in
theorem mj_kc_12 : lw_tbl[703]? = some (.code yX1_countRows cX1_countRows 3 (some .int)) := rfl
set_option maxRecDepth 100000 in
theorem mj_kc_13 : lw_tbl[718]? = some (.code yX1_colourInFirstRow cX1_colourInFirstRow 5 (some .int)) := rfl
set_option maxRecDepth 100000 in
theorem mj_kc_14 : lw_tbl[707]? = some (.code yX1_prepare cX1_prepare 5 none) := rfl
set_option maxRecDepth 100000 in
theorem mj_kc_15 : lw_tbl[690]? = some (.code yX1_clash cX1_clash 3 (some .boolean)) := rfl
set_option maxRecDepth 100000 in
theorem mj_kc_16 : lw_tbl[710]? = some (.code yX1_countFrom cX1_countFrom 10 (some .int)) := rfl
set_option maxRecDepth 100000 in
theorem mj_kc_17 : lw_tbl[721]? = some (.code yX1_fillFrom cX1_fillFrom 6 (some .boolean)) := rfl
set_option maxRecDepth 100000 in
theorem mj_kc_18 : lw_tbl[110]? = some (.code yX2_init cX2_init 1 none) := rfl
set_option maxRecDepth 100000 in
theorem mj_kc_19 : lw_tbl[310]? = some (.code yX2_build cX2_build 4 none) := rfl
set_option maxRecDepth 100000 in
theorem mj_kc_20 : lw_tbl[484]? = some (.code yX2_has cX2_has 2 (some .boolean)) := rfl
set_option maxRecDepth 100000 in
theorem mj_kc_21 : lw_tbl[501]? = some (.code yX2_hasSide cX2_hasSide 3 (some .boolean)) := rfl
set_option maxRecDepth 100000 in
theorem mj_kc_22 : lw_tbl[752]? = some (.code yX2_hasRing cX2_hasRing 2 (some .boolean)) := rfl
set_option maxRecDepth 100000 in
theorem mj_kc_23 : lw_tbl[506]? = some (.code yX2_beyond cX2_beyond 5 (some .int)) := rfl
set_option maxRecDepth 100000 in
theorem mj_kc_24 : lw_tbl[514]? = some (.code yX2_sideTo cX2_sideTo 6 (some .int)) := rfl
set_option maxRecDepth 100000 in
theorem mj_kc_25 : lw_tbl[658]? = some (.code yX2_sideOn cX2_sideOn 4 (some .int)) := rfl
set_option maxRecDepth 100000 in
theorem mj_kc_26 : lw_tbl[331]? = some (.code yX2_parentsOf cX2_parentsOf 2 (some .int)) := rfl
set_option maxRecDepth 100000 in
theorem mj_kc_27 : lw_tbl[489]? = some (.code yX2_placeOf cX2_placeOf 2 (some .int)) := rfl
set_option maxRecDepth 100000 in
theorem mj_kc_28 : lw_tbl[493]? = some (.code yX2_besides cX2_besides 2 (some .int)) := rfl
set_option maxRecDepth 100000 in
theorem mj_kc_29 : lw_tbl[828]? = some (.code yX2_childrenOf cX2_childrenOf 4 (some .int)) := rfl
set_option maxRecDepth 100000 in
theorem mj_kc_30 : lw_tbl[795]? = some (.code yX2_toldKind cX2_toldKind 2 (some .int)) := rfl
set_option maxRecDepth 100000 in
theorem mj_kc_31 : lw_tbl[853]? = some (.code yX2_countTold cX2_countTold 4 (some .int)) := rfl
set_option maxRecDepth 100000 in
theorem mj_kc_32 : lw_tbl[769]? = some (.code yX2_partOf cX2_partOf 2 (some .int)) := rfl
set_option maxRecDepth 100000 in
theorem mj_kc_33 : lw_tbl[764]? = some (.code yX2_turn cX2_turn 6 (some .int)) := rfl
set_option maxRecDepth 100000 in
theorem mj_kc_34 : lw_tbl[773]? = some (.code yX2_sizeOf cX2_sizeOf 2 (some .int)) := rfl
set_option maxRecDepth 100000 in
theorem mj_kc_35 : lw_tbl[335]? = some (.code yX2_behind cX2_behind 3 (some .int)) := rfl
set_option maxRecDepth 100000 in
theorem mj_kc_36 : lw_tbl[355]? = some (.code yX2_ahead cX2_ahead 3 (some .int)) := rfl
set_option maxRecDepth 100000 in
theorem mj_kc_37 : lw_tbl[327]? = some (.code yX2_ownOf cX2_ownOf 2 (some .int)) := rfl
set_option maxRecDepth 100000 in
theorem mj_kc_38 : lw_tbl[315]? = some (.code yX2_addCell cX2_addCell 4 none) := rfl
set_option maxRecDepth 100000 in
theorem mj_kc_39 : lw_tbl[319]? = some (.code yX2_addFirstRing cX2_addFirstRing 2 none) := rfl
set_option maxRecDepth 100000 in
theorem mj_kc_40 : lw_tbl[323]? = some (.code yX2_addRing cX2_addRing 5 none) := rfl
set_option maxRecDepth 100000 in
theorem mj_kc_41 : lw_tbl[347]? = some (.code yX2_list cX2_list 2 none) := rfl
set_option maxRecDepth 100000 in
theorem mj_kc_42 : lw_tbl[339]? = some (.code yX2_listRound cX2_listRound 2 none) := rfl
set_option maxRecDepth 100000 in
theorem mj_kc_43 : lw_tbl[343]? = some (.code yX2_listRoundTheFirst cX2_listRoundTheFirst 2 none) := rfl
set_option maxRecDepth 100000 in
theorem mj_kc_44 : lw_tbl[351]? = some (.code yX2_listChildren cX2_listChildren 5 none) := rfl
set_option maxRecDepth 100000 in
theorem mj_kc_45 : lw_tbl[272]? = some (.code yX3_init cX3_init 2 none) := rfl
set_option maxRecDepth 100000 in
theorem mj_kc_46 : lw_tbl[368]? = some (.code yX3_clear cX3_clear 1 none) := rfl
set_option maxRecDepth 100000 in
theorem mj_kc_47 : lw_tbl[736]? = some (.code yX3_stepOn cX3_stepOn 5 none) := rfl
set_option maxRecDepth 100000 in
theorem mj_kc_48 : lw_tbl[744]? = some (.code yX3_countIn cX3_countIn 5 (some .int)) := rfl
set_option maxRecDepth 100000 in
theorem mj_kc_49 : lw_tbl[781]? = some (.code yX3_isSameTurned cX3_isSameTurned 3 (some .boolean)) := rfl
set_option maxRecDepth 100000 in
theorem mj_kc_50 : lw_tbl[740]? = some (.code yX3_livingBeside cX3_livingBeside 5 (some .int)) := rfl
set_option maxRecDepth 100000 in
theorem mj_kc_51 : lw_tbl[197]? = some (.code yX4_init cX4_init 2 none) := rfl
set_option maxRecDepth 100000 in
theorem mj_kc_52 : lw_tbl[359]? = some (.code yX4_place cX4_place 3 none) := rfl
set_option maxRecDepth 100000 in
theorem mj_kc_53 : lw_tbl[647]? = some (.code yX4_act cX4_act 2 none) := rfl
set_option maxRecDepth 100000 in
theorem mj_kc_54 : lw_tbl[651]? = some (.code yX4_forward cX4_forward 2 none) := rfl
set_option maxRecDepth 100000 in
theorem mj_kc_55 : lw_tbl[90]? = some (.code yX5_init cX5_init 1 none) := rfl
set_option maxRecDepth 100000 in
theorem mj_kc_56 : lw_tbl[408]? = some (.code yX5_has cX5_has 2 (some .boolean)) := rfl
set_option maxRecDepth 100000 in
theorem mj_kc_57 : lw_tbl[430]? = some (.code yX5_isMissing cX5_isMissing 2 (some .boolean)) := rfl
set_option maxRecDepth 100000 in
theorem mj_kc_58 : lw_tbl[449]? = some (.code yX5_areOfOneLane cX5_areOfOneLane 3 (some .boolean)) := rfl
set_option maxRecDepth 100000 in
theorem mj_kc_59 : lw_tbl[434]? = some (.code yX5_holds cX5_holds 4 (some .boolean)) := rfl
set_option maxRecDepth 100000 in
theorem mj_kc_60 : lw_tbl[418]? = some (.code yX5_lay cX5_lay 5 none) := rfl
set_option maxRecDepth 100000 in
theorem mj_kc_61 : lw_tbl[464]? = some (.code yX5_takeAway cX5_takeAway 2 (some .int)) := rfl
set_option maxRecDepth 100000 in
theorem mj_kc_62 : lw_tbl[678]? = some (.code yX5_read cX5_read 3 (some .int)) := rfl
set_option maxRecDepth 100000 in
theorem mj_kc_63 : lw_tbl[438]? = some (.code yX5_write cX5_write 5 (some .int)) := rfl
set_option maxRecDepth 100000 in
theorem mj_kc_64 : lw_tbl[453]? = some (.code yX5_bring cX5_bring 6 none) := rfl
set_option maxRecDepth 100000 in
theorem mj_kc_65 : lw_tbl[848]? = some (.code yX5_countLaid cX5_countLaid 3 (some .int)) := rfl
set_option maxRecDepth 100000 in
theorem mj_kc_66 : lw_tbl[441]? = some (.code yX5_narrowed cX5_narrowed 2 (some .int)) := rfl
set_option maxRecDepth 100000 in
theorem mj_kc_67 : lw_tbl[223]? = some (.code yX6_init cX6_init 1 none) := rfl
set_option maxRecDepth 100000 in
theorem mj_kc_68 : lw_tbl[582]? = some (.code yX6_take cX6_take 5 (some .boolean)) := rfl
set_option maxRecDepth 100000 in
theorem mj_kc_69 : lw_tbl[590]? = some (.code yX6_check cX6_check 5 (some .int)) := rfl
set_option maxRecDepth 100000 in
theorem mj_kc_70 : lw_tbl[626]? = some (.code yX6_unroll cX6_unroll 6 (some .int)) := rfl
set_option maxRecDepth 100000 in
theorem mj_kc_71 : lw_tbl[630]? = some (.code yX6_open cX6_open 4 none) := rfl
set_option maxRecDepth 100000 in
theorem mj_kc_72 : lw_tbl[634]? = some (.code yX6_close cX6_close 3 (some .int)) := rfl
set_option maxRecDepth 100000 in
theorem mj_kc_73 : lw_tbl[642]? = some (.code yX6_add cX6_add 4 (some .int)) := rfl
set_option maxRecDepth 100000 in
theorem mj_kc_74 : lw_tbl[638]? = some (.code yX6_repeat cX6_repeat 7 (some .int)) := rfl
set_option maxRecDepth 100000 in
theorem mj_kc_75 : lw_tbl[597]? = some (.code yX6_faultAt cX6_faultAt 5 (some .int)) := rfl
set_option maxRecDepth 100000 in
theorem mj_kc_76 : lw_tbl[604]? = some (.code yX6_numberFault cX6_numberFault 4 (some .int)) := rfl
set_option maxRecDepth 100000 in
theorem mj_kc_77 : lw_tbl[608]? = some (.code yX6_figuresFrom cX6_figuresFrom 3 (some .int)) := rfl
set_option maxRecDepth 100000 in
theorem mj_kc_78 : lw_tbl[612]? = some (.code yX6_numberAt cX6_numberAt 4 (some .int)) := rfl
set_option maxRecDepth 100000 in
theorem mj_kc_79 : lw_tbl[618]? = some (.code yX6_depthOf cX6_depthOf 1 (some .int)) := rfl
set_option maxRecDepth 100000 in
theorem mj_kc_80 : lw_tbl[593]? = some (.code yX6_isBlank cX6_isBlank 1 (some .boolean)) := rfl
set_option maxRecDepth 100000 in
theorem mj_kc_81 : lw_tbl[600]? = some (.code yX6_isFigure cX6_isFigure 1 (some .boolean)) := rfl
set_option maxRecDepth 100000 in
theorem mj_kc_82 : lw_tbl[615]? = some (.code yX6_isLetter cX6_isLetter 1 (some .boolean)) := rfl
set_option maxRecDepth 100000 in
theorem mj_kc_83 : lw_tbl[170]? = some (.code yX7_init cX7_init 2 none) := rfl
set_option maxRecDepth 100000 in
theorem mj_kc_84 : lw_tbl[526]? = some (.code yX7_measure cX7_measure 4 none) := rfl
set_option maxRecDepth 100000 in
theorem mj_kc_85 : lw_tbl[541]? = some (.code yX7_cellOnTheWay cX7_cellOnTheWay 6 (some .int)) := rfl
set_option maxRecDepth 100000 in
theorem mj_kc_86 : lw_tbl[554]? = some (.code yX7_countWalks cX7_countWalks 6 (some .int)) := rfl
set_option maxRecDepth 100000 in
theorem mj_kc_87 : lw_tbl[566]? = some (.code yX7_countAt cX7_countAt 5 (some .int)) := rfl
set_option maxRecDepth 100000 in
theorem mj_kc_88 : lw_tbl[532]? = some (.code yX7_reachFrom cX7_reachFrom 6 (some .int)) := rfl
set_option maxRecDepth 100000 in
theorem mj_kc_89 : lw_tbl[546]? = some (.code yX7_nearer cX7_nearer 4 (some .int)) := rfl
set_option maxRecDepth 100000 in
theorem mj_kc_90 : lw_tbl[558]? = some (.code yX7_walksInto cX7_walksInto 6 (some .int)) := rfl
set_option maxRecDepth 100000 in
theorem mj_kc_91 : lw_tbl[82]? = some (.code yX8_init cX8_init 1 none) := rfl
set_option maxRecDepth 100000 in
theorem mj_kc_92 : lw_tbl[404]? = some (.code yX8_sheet cX8_sheet 4 (some .int)) := rfl
set_option maxRecDepth 100000 in
theorem mj_kc_93 : lw_tbl[426]? = some (.code yX8_set cX8_set 4 (some .int)) := rfl
set_option maxRecDepth 100000 in
theorem mj_kc_94 : lw_tbl[445]? = some (.code yX8_copy cX8_copy 6 (some .int)) := rfl
set_option maxRecDepth 100000 in
theorem mj_kc_95 : lw_tbl[460]? = some (.code yX8_drop cX8_drop 2 (some .int)) := rfl
set_option maxRecDepth 100000 in
theorem mj_kc_96 : lw_tbl[468]? = some (.code yX8_board cX8_board 3 (some .int)) := rfl
set_option maxRecDepth 100000 in
theorem mj_kc_97 : lw_tbl[480]? = some (.code yX8_cell cX8_cell 3 (some .int)) := rfl
set_option maxRecDepth 100000 in
theorem mj_kc_98 : lw_tbl[497]? = some (.code yX8_side cX8_side 3 (some .int)) := rfl
set_option maxRecDepth 100000 in
theorem mj_kc_99 : lw_tbl[510]? = some (.code yX8_by cX8_by 3 (some .int)) := rfl
set_option maxRecDepth 100000 in
theorem mj_kc_100 : lw_tbl[518]? = some (.code yX8_grown cX8_grown 4 (some .int)) := rfl
set_option maxRecDepth 100000 in
theorem mj_kc_101 : lw_tbl[522]? = some (.code yX8_far cX8_far 4 (some .int)) := rfl
set_option maxRecDepth 100000 in
theorem mj_kc_102 : lw_tbl[537]? = some (.code yX8_way cX8_way 4 (some .int)) := rfl
set_option maxRecDepth 100000 in
theorem mj_kc_103 : lw_tbl[550]? = some (.code yX8_walks cX8_walks 4 (some .int)) := rfl
set_option maxRecDepth 100000 in
theorem mj_kc_104 : lw_tbl[562]? = some (.code yX8_around cX8_around 3 (some .int)) := rfl
set_option maxRecDepth 100000 in
theorem mj_kc_105 : lw_tbl[570]? = some (.code yX8_put cX8_put 3 (some .int)) := rfl
set_option maxRecDepth 100000 in
theorem mj_kc_106 : lw_tbl[574]? = some (.code yX8_mouse cX8_mouse 2 (some .int)) := rfl
set_option maxRecDepth 100000 in
theorem mj_kc_107 : lw_tbl[578]? = some (.code yX8_feed cX8_feed 4 (some .int)) := rfl
set_option maxRecDepth 100000 in
theorem mj_kc_108 : lw_tbl[586]? = some (.code yX8_run cX8_run 4 (some .int)) := rfl
set_option maxRecDepth 100000 in
theorem mj_kc_109 : lw_tbl[662]? = some (.code yX8_fault cX8_fault 1 (some .int)) := rfl
set_option maxRecDepth 100000 in
theorem mj_kc_110 : lw_tbl[666]? = some (.code yX8_paint cX8_paint 4 (some .int)) := rfl
set_option maxRecDepth 100000 in
theorem mj_kc_111 : lw_tbl[674]? = some (.code yX8_paints cX8_paints 6 (some .int)) := rfl
set_option maxRecDepth 100000 in
theorem mj_kc_112 : lw_tbl[682]? = some (.code yX8_clashes cX8_clashes 1 (some .int)) := rfl
set_option maxRecDepth 100000 in
theorem mj_kc_113 : lw_tbl[695]? = some (.code yX8_coloured cX8_coloured 3 (some .int)) := rfl
set_option maxRecDepth 100000 in
theorem mj_kc_114 : lw_tbl[714]? = some (.code yX8_found cX8_found 4 (some .int)) := rfl
set_option maxRecDepth 100000 in
theorem mj_kc_115 : lw_tbl[725]? = some (.code yX8_live cX8_live 4 (some .int)) := rfl
set_option maxRecDepth 100000 in
theorem mj_kc_116 : lw_tbl[729]? = some (.code yX8_steps cX8_steps 5 (some .int)) := rfl
set_option maxRecDepth 100000 in
theorem mj_kc_117 : lw_tbl[748]? = some (.code yX8_living cX8_living 2 (some .int)) := rfl
set_option maxRecDepth 100000 in
theorem mj_kc_118 : lw_tbl[756]? = some (.code yX8_turned cX8_turned 3 (some .int)) := rfl
set_option maxRecDepth 100000 in
theorem mj_kc_119 : lw_tbl[777]? = some (.code yX8_alike cX8_alike 2 (some .int)) := rfl
set_option maxRecDepth 100000 in
theorem mj_kc_120 : lw_tbl[786]? = some (.code yX8_orbits cX8_orbits 4 (some .int)) := rfl
set_option maxRecDepth 100000 in
theorem mj_kc_121 : lw_tbl[791]? = some (.code yX8_kind cX8_kind 2 (some .int)) := rfl
set_option maxRecDepth 100000 in
theorem mj_kc_122 : lw_tbl[799]? = some (.code yX8_as cX8_as 3 (some .int)) := rfl
set_option maxRecDepth 100000 in
theorem mj_kc_123 : lw_tbl[803]? = some (.code yX8_ask cX8_ask 3 (some .int)) := rfl
set_option maxRecDepth 100000 in
theorem mj_kc_124 : lw_tbl[840]? = some (.code yX8_trace cX8_trace 2 (some .int)) := rfl
set_option maxRecDepth 100000 in
theorem mj_kc_125 : lw_tbl[844]? = some (.code yX8_count cX8_count 2 (some .int)) := rfl
set_option maxRecDepth 100000 in
theorem mj_kc_126 : lw_tbl[858]? = some (.code yX8_status cX8_status 1 (some .int)) := rfl
set_option maxRecDepth 100000 in
theorem mj_kc_127 : lw_tbl[306]? = some (.code yX8_begin cX8_begin 3 none) := rfl
set_option maxRecDepth 100000 in
theorem mj_kc_128 : lw_tbl[413]? = some (.code yX8_finding cX8_finding 2 (some .int)) := rfl
set_option maxRecDepth 100000 in
theorem mj_kc_129 : lw_tbl[422]? = some (.code yX8_sound cX8_sound 2 (some .int)) := rfl
set_option maxRecDepth 100000 in
theorem mj_kc_130 : lw_tbl[760]? = some (.code yX8_isTurn cX8_isTurn 2 (some .boolean)) := rfl
set_option maxRecDepth 100000 in
theorem mj_kc_131 : lw_tbl[699]? = some (.code yX8_isCountable cX8_isCountable 3 (some .boolean)) := rfl
set_option maxRecDepth 100000 in
theorem mj_kc_132 : lw_tbl[732]? = some (.code yX8_isRule cX8_isRule 1 (some .boolean)) := rfl
set_option maxRecDepth 100000 in
theorem mj_kc_133 : lw_tbl[471]? = some (.code yX8_isSideNumber cX8_isSideNumber 1 (some .boolean)) := rfl
set_option maxRecDepth 100000 in
theorem mj_kc_134 : lw_tbl[474]? = some (.code yX8_growth cX8_growth 14 (some .int)) := rfl
set_option maxRecDepth 100000 in
theorem mj_kc_135 : lw_tbl[1027]? = some (.code yX9_in cX9_in 6 (some .boolean)) := rfl
set_option maxRecDepth 100000 in
theorem mj_kc_136 : lw_tbl[1033]? = some (.code yX9_finding cX9_finding 2 (some .int)) := rfl
set_option maxRecDepth 100000 in
theorem mj_kc_137 : lw_tbl[863]? = some (.code yX9_init cX9_init 1 none) := rfl
set_option maxRecDepth 100000 in
theorem mj_kc_138 : lw_tbl[1023]? = some (.code yX9_isSheet cX9_isSheet 1 (some .boolean)) := rfl
set_option maxRecDepth 100000 in
theorem mj_kc_139 : lw_tbl[1020]? = some (.code yX9_sheet cX9_sheet 5 (some .int)) := rfl
set_option maxRecDepth 100000 in
theorem mj_kc_140 : lw_tbl[1038]? = some (.code yX9_set cX9_set 4 (some .int)) := rfl
set_option maxRecDepth 100000 in
theorem mj_kc_141 : lw_tbl[1042]? = some (.code yX9_copy cX9_copy 9 (some .int)) := rfl
set_option maxRecDepth 100000 in
theorem mj_kc_142 : lw_tbl[1046]? = some (.code yX9_drop cX9_drop 2 (some .int)) := rfl
set_option maxRecDepth 100000 in
theorem mj_kc_143 : lw_tbl[1057]? = some (.code yX9_sizeOf cX9_sizeOf 12 (some .long)) := rfl
set_option maxRecDepth 100000 in
theorem mj_kc_144 : lw_tbl[889]? = some (.code yX9_ringEnd cX9_ringEnd 2 (some .int)) := rfl
set_option maxRecDepth 100000 in
theorem mj_kc_145 : lw_tbl[868]? = some (.code yX9_build cX9_build 9 none) := rfl
set_option maxRecDepth 100000 in
theorem mj_kc_146 : lw_tbl[873]? = some (.code yX9_add cX9_add 4 none) := rfl
set_option maxRecDepth 100000 in
theorem mj_kc_147 : lw_tbl[877]? = some (.code yX9_parents cX9_parents 2 (some .int)) := rfl
set_option maxRecDepth 100000 in
theorem mj_kc_148 : lw_tbl[885]? = some (.code yX9_round cX9_round 5 (some .int)) := rfl
set_option maxRecDepth 100000 in
theorem mj_kc_149 : lw_tbl[881]? = some (.code yX9_lay cX9_lay 8 none) := rfl
set_option maxRecDepth 100000 in
theorem mj_kc_150 : lw_tbl[893]? = some (.code yX9_lastChild cX9_lastChild 4 (some .int)) := rfl
set_option maxRecDepth 100000 in
theorem mj_kc_151 : lw_tbl[1050]? = some (.code yX9_board cX9_board 3 (some .int)) := rfl
set_option maxRecDepth 100000 in
theorem mj_kc_152 : lw_tbl[1067]? = some (.code yX9_isCell cX9_isCell 2 (some .boolean)) := rfl
set_option maxRecDepth 100000 in
theorem mj_kc_153 : lw_tbl[1075]? = some (.code yX9_isSide cX9_isSide 2 (some .boolean)) := rfl
set_option maxRecDepth 100000 in
theorem mj_kc_154 : lw_tbl[1063]? = some (.code yX9_cell cX9_cell 5 (some .int)) := rfl
set_option maxRecDepth 100000 in
theorem mj_kc_155 : lw_tbl[1071]? = some (.code yX9_side cX9_side 3 (some .int)) := rfl
set_option maxRecDepth 100000 in
theorem mj_kc_156 : lw_tbl[1083]? = some (.code yX9_byOf cX9_byOf 4 (some .int)) := rfl
set_option maxRecDepth 100000 in
theorem mj_kc_157 : lw_tbl[1079]? = some (.code yX9_by cX9_by 3 (some .int)) := rfl
set_option maxRecDepth 100000 in
theorem mj_kc_158 : lw_tbl[1087]? = some (.code yX9_grown cX9_grown 15 (some .int)) := rfl
set_option maxRecDepth 100000 in
theorem mj_kc_159 : lw_tbl[1098]? = some (.code yX9_spread cX9_spread 7 none) := rfl
set_option maxRecDepth 100000 in
theorem mj_kc_160 : lw_tbl[1094]? = some (.code yX9_far cX9_far 4 (some .int)) := rfl
set_option maxRecDepth 100000 in
theorem mj_kc_161 : lw_tbl[1102]? = some (.code yX9_way cX9_way 9 (some .int)) := rfl
set_option maxRecDepth 100000 in
theorem mj_kc_162 : lw_tbl[1106]? = some (.code yX9_walks cX9_walks 10 (some .int)) := rfl
set_option maxRecDepth 100000 in
theorem mj_kc_163 : lw_tbl[1111]? = some (.code yX9_around cX9_around 5 (some .int)) := rfl
set_option maxRecDepth 100000 in
theorem mj_kc_164 : lw_tbl[1116]? = some (.code yX9_put cX9_put 3 (some .int)) := rfl
set_option maxRecDepth 100000 in
theorem mj_kc_165 : lw_tbl[1120]? = some (.code yX9_mouse cX9_mouse 2 (some .int)) := rfl
set_option maxRecDepth 100000 in
theorem mj_kc_166 : lw_tbl[1156]? = some (.code yX9_act cX9_act 3 none) := rfl
set_option maxRecDepth 100000 in
theorem mj_kc_167 : lw_tbl[1124]? = some (.code yX9_feed cX9_feed 5 (some .int)) := rfl
set_option maxRecDepth 100000 in
theorem mj_kc_168 : lw_tbl[1142]? = some (.code yX9_byteAt cX9_byteAt 2 (some .int)) := rfl
set_option maxRecDepth 100000 in
theorem mj_kc_169 : lw_tbl[1145]? = some (.code yX9_isFigure cX9_isFigure 1 (some .boolean)) := rfl
set_option maxRecDepth 100000 in
theorem mj_kc_170 : lw_tbl[1138]? = some (.code yX9_step cX9_step 2 none) := rfl
set_option maxRecDepth 100000 in
theorem mj_kc_171 : lw_tbl[1134]? = some (.code yX9_check cX9_check 6 (some .int)) := rfl
set_option maxRecDepth 100000 in
theorem mj_kc_172 : lw_tbl[1152]? = some (.code yX9_runAll cX9_runAll 4 none) := rfl
set_option maxRecDepth 100000 in
theorem mj_kc_173 : lw_tbl[1130]? = some (.code yX9_run cX9_run 2 (some .int)) := rfl
set_option maxRecDepth 100000 in
theorem mj_kc_174 : lw_tbl[1160]? = some (.code yX9_fault cX9_fault 1 (some .int)) := rfl
set_option maxRecDepth 100000 in
theorem mj_kc_175 : lw_tbl[1164]? = some (.code yX9_paint cX9_paint 4 (some .int)) := rfl
set_option maxRecDepth 100000 in
theorem mj_kc_176 : lw_tbl[1168]? = some (.code yX9_paints cX9_paints 6 (some .int)) := rfl
set_option maxRecDepth 100000 in
theorem mj_kc_177 : lw_tbl[1172]? = some (.code yX9_clashes cX9_clashes 5 (some .int)) := rfl
set_option maxRecDepth 100000 in
theorem mj_kc_178 : lw_tbl[1186]? = some (.code yX9_colourings cX9_colourings 8 (some .int)) := rfl
set_option maxRecDepth 100000 in
theorem mj_kc_179 : lw_tbl[1180]? = some (.code yX9_isSome cX9_isSome 3 (some .boolean)) := rfl
set_option maxRecDepth 100000 in
theorem mj_kc_180 : lw_tbl[1176]? = some (.code yX9_coloured cX9_coloured 3 (some .int)) := rfl
set_option maxRecDepth 100000 in
theorem mj_kc_181 : lw_tbl[1190]? = some (.code yX9_found cX9_found 4 (some .int)) := rfl
set_option maxRecDepth 100000 in
theorem mj_kc_182 : lw_tbl[1194]? = some (.code yX9_live cX9_live 4 (some .int)) := rfl
set_option maxRecDepth 100000 in
theorem mj_kc_183 : lw_tbl[1204]? = some (.code yX9_livingIn cX9_livingIn 4 (some .int)) := rfl
set_option maxRecDepth 100000 in
theorem mj_kc_184 : lw_tbl[1198]? = some (.code yX9_steps cX9_steps 9 (some .int)) := rfl
set_option maxRecDepth 100000 in
theorem mj_kc_185 : lw_tbl[1208]? = some (.code yX9_living cX9_living 2 (some .int)) := rfl
set_option maxRecDepth 100000 in
theorem mj_kc_186 : lw_tbl[1216]? = some (.code yX9_turnedOf cX9_turnedOf 4 (some .int)) := rfl
set_option maxRecDepth 100000 in
theorem mj_kc_187 : lw_tbl[1212]? = some (.code yX9_turned cX9_turned 3 (some .int)) := rfl
set_option maxRecDepth 100000 in
theorem mj_kc_188 : lw_tbl[1220]? = some (.code yX9_alike cX9_alike 4 (some .int)) := rfl
set_option maxRecDepth 100000 in
theorem mj_kc_189 : lw_tbl[1224]? = some (.code yX9_orbits cX9_orbits 6 (some .int)) := rfl
set_option maxRecDepth 100000 in
theorem mj_kc_190 : lw_tbl[1232]? = some (.code yX9_kindOf cX9_kindOf 2 (some .int)) := rfl
set_option maxRecDepth 100000 in
theorem mj_kc_191 : lw_tbl[1228]? = some (.code yX9_kind cX9_kind 2 (some .int)) := rfl
set_option maxRecDepth 100000 in
theorem mj_kc_192 : lw_tbl[1236]? = some (.code yX9_as cX9_as 3 (some .int)) := rfl
set_option maxRecDepth 100000 in
theorem mj_kc_193 : lw_tbl[1252]? = some (.code yX9_begins cX9_begins 2 none) := rfl
set_option maxRecDepth 100000 in
theorem mj_kc_194 : lw_tbl[1248]? = some (.code yX9_pairedSize cX9_pairedSize 2 (some .int)) := rfl
set_option maxRecDepth 100000 in
theorem mj_kc_195 : lw_tbl[1256]? = some (.code yX9_markOf cX9_markOf 3 (some .int)) := rfl
set_option maxRecDepth 100000 in
theorem mj_kc_196 : lw_tbl[1244]? = some (.code yX9_sizeBy cX9_sizeBy 3 (some .int)) := rfl
set_option maxRecDepth 100000 in
theorem mj_kc_197 : lw_tbl[1240]? = some (.code yX9_ask cX9_ask 3 (some .int)) := rfl
set_option maxRecDepth 100000 in
theorem mj_kc_198 : lw_tbl[1260]? = some (.code yX9_trace cX9_trace 2 (some .int)) := rfl
set_option maxRecDepth 100000 in
theorem mj_kc_199 : lw_tbl[1264]? = some (.code yX9_count cX9_count 4 (some .int)) := rfl
set_option maxRecDepth 100000 in
theorem mj_kc_200 : lw_tbl[1268]? = some (.code yX9_status cX9_status 1 (some .int)) := rfl
set_option maxRecDepth 100000 in
theorem mj_kc_201 : lw_tbl[94]? = some (.code yJ7_fill_53178 cJ7_fill_53178 4 none) := rfl
def mj_kcP (y : Nat) : Prop := match mj_nth mj_yb y, mj_nth mj_tab y with
  | some q, some t => Cond.code q.1 q.2.1 t.2.1 t.2.2.2.1 ∈ mj_T
  | _, _ => False
theorem mj_kcG {i : Nat} {y : MethodName} {c : ByteArray} {n : Nat} {r : Option FieldType} (h : lw_tbl[i]? = some (.code y c n r)) : Cond.code y c n r ∈ mj_T := List.mem_filter.mpr ⟨List.mem_of_getElem? h, rfl⟩
theorem mj_kcR_0 : ∀ y ∈ [0, 1, 2, 3, 4, 5, 6, 7, 8, 9, 10, 11, 12, 13, 14, 15, 16, 17, 18, 19, 20, 21, 22, 23, 24, 25], mj_kcP y := List.forall_mem_cons.mpr ⟨mj_kcG mj_kc_0, List.forall_mem_cons.mpr ⟨mj_kcG mj_kc_1, List.forall_mem_cons.mpr ⟨mj_kcG mj_kc_2, List.forall_mem_cons.mpr ⟨mj_kcG mj_kc_3, List.forall_mem_cons.mpr ⟨mj_kcG mj_kc_4, List.forall_mem_cons.mpr ⟨mj_kcG mj_kc_5, List.forall_mem_cons.mpr ⟨mj_kcG mj_kc_6, List.forall_mem_cons.mpr ⟨mj_kcG mj_kc_7, List.forall_mem_cons.mpr ⟨mj_kcG mj_kc_8, List.forall_mem_cons.mpr ⟨mj_kcG mj_kc_9, List.forall_mem_cons.mpr ⟨mj_kcG mj_kc_10, List.forall_mem_cons.mpr ⟨mj_kcG mj_kc_11, List.forall_mem_cons.mpr ⟨mj_kcG mj_kc_12, List.forall_mem_cons.mpr ⟨mj_kcG mj_kc_13, List.forall_mem_cons.mpr ⟨mj_kcG mj_kc_14, List.forall_mem_cons.mpr ⟨mj_kcG mj_kc_15, List.forall_mem_cons.mpr ⟨mj_kcG mj_kc_16, List.forall_mem_cons.mpr ⟨mj_kcG mj_kc_17, List.forall_mem_cons.mpr ⟨mj_kcG mj_kc_18, List.forall_mem_cons.mpr ⟨mj_kcG mj_kc_19, List.forall_mem_cons.mpr ⟨mj_kcG mj_kc_20, List.forall_mem_cons.mpr ⟨mj_kcG mj_kc_21, List.forall_mem_cons.mpr ⟨mj_kcG mj_kc_22, List.forall_mem_cons.mpr ⟨mj_kcG mj_kc_23, List.forall_mem_cons.mpr ⟨mj_kcG mj_kc_24, List.forall_mem_cons.mpr ⟨mj_kcG mj_kc_25, fun _ h => absurd h List.not_mem_nil⟩⟩⟩⟩⟩⟩⟩⟩⟩⟩⟩⟩⟩⟩⟩⟩⟩⟩⟩⟩⟩⟩⟩⟩⟩⟩
theorem mj_kcR_26 : ∀ y ∈ [26, 27, 28, 29, 30, 31, 32, 33, 34, 35, 36, 37, 38, 39, 40, 41, 42, 43, 44, 45, 46, 47, 48, 49, 50, 51], mj_kcP y := List.forall_mem_cons.mpr ⟨mj_kcG mj_kc_26, List.forall_mem_cons.mpr ⟨mj_kcG mj_kc_27, List.forall_mem_cons.mpr ⟨mj_kcG mj_kc_28, List.forall_mem_cons.mpr ⟨mj_kcG mj_kc_29, List.forall_mem_cons.mpr ⟨mj_kcG mj_kc_30, List.forall_mem_cons.mpr ⟨mj_kcG mj_kc_31, List.forall_mem_cons.mpr ⟨mj_kcG mj_kc_32, List.forall_mem_cons.mpr ⟨mj_kcG mj_kc_33, List.forall_mem_cons.mpr ⟨mj_kcG mj_kc_34, List.forall_mem_cons.mpr ⟨mj_kcG mj_kc_35, List.forall_mem_cons.mpr ⟨mj_kcG mj_kc_36, List.forall_mem_cons.mpr ⟨mj_kcG mj_kc_37, List.forall_mem_cons.mpr ⟨mj_kcG mj_kc_38, List.forall_mem_cons.mpr ⟨mj_kcG mj_kc_39, List.forall_mem_cons.mpr ⟨mj_kcG mj_kc_40, List.forall_mem_cons.mpr ⟨mj_kcG mj_kc_41, List.forall_mem_cons.mpr ⟨mj_kcG mj_kc_42, List.forall_mem_cons.mpr ⟨mj_kcG mj_kc_43, List.forall_mem_cons.mpr ⟨mj_kcG mj_kc_44, List.forall_mem_cons.mpr ⟨mj_kcG mj_kc_45, List.forall_mem_cons.mpr ⟨mj_kcG mj_kc_46, List.forall_mem_cons.mpr ⟨mj_kcG mj_kc_47, List.forall_mem_cons.mpr ⟨mj_kcG mj_kc_48, List.forall_mem_cons.mpr ⟨mj_kcG mj_kc_49, List.forall_mem_cons.mpr ⟨mj_kcG mj_kc_50, List.forall_mem_cons.mpr ⟨mj_kcG mj_kc_51, fun _ h => absurd h List.not_mem_nil⟩⟩⟩⟩⟩⟩⟩⟩⟩⟩⟩⟩⟩⟩⟩⟩⟩⟩⟩⟩⟩⟩⟩⟩⟩⟩
theorem mj_kcR_52 : ∀ y ∈ [52, 53, 54, 55, 56, 57, 58, 59, 60, 61, 62, 63, 64, 65, 66, 67, 68, 69, 70, 71, 72, 73, 74, 75, 76, 77], mj_kcP y := List.forall_mem_cons.mpr ⟨mj_kcG mj_kc_52, List.forall_mem_cons.mpr ⟨mj_kcG mj_kc_53, List.forall_mem_cons.mpr ⟨mj_kcG mj_kc_54, List.forall_mem_cons.mpr ⟨mj_kcG mj_kc_55, List.forall_mem_cons.mpr ⟨mj_kcG mj_kc_56, List.forall_mem_cons.mpr ⟨mj_kcG mj_kc_57, List.forall_mem_cons.mpr ⟨mj_kcG mj_kc_58, List.forall_mem_cons.mpr ⟨mj_kcG mj_kc_59, List.forall_mem_cons.mpr ⟨mj_kcG mj_kc_60, List.forall_mem_cons.mpr ⟨mj_kcG mj_kc_61, List.forall_mem_cons.mpr ⟨mj_kcG mj_kc_62, List.forall_mem_cons.mpr ⟨mj_kcG mj_kc_63, List.forall_mem_cons.mpr ⟨mj_kcG mj_kc_64, List.forall_mem_cons.mpr ⟨mj_kcG mj_kc_65, List.forall_mem_cons.mpr ⟨mj_kcG mj_kc_66, List.forall_mem_cons.mpr ⟨mj_kcG mj_kc_67, List.forall_mem_cons.mpr ⟨mj_kcG mj_kc_68, List.forall_mem_cons.mpr ⟨mj_kcG mj_kc_69, List.forall_mem_cons.mpr ⟨mj_kcG mj_kc_70, List.forall_mem_cons.mpr ⟨mj_kcG mj_kc_71, List.forall_mem_cons.mpr ⟨mj_kcG mj_kc_72, List.forall_mem_cons.mpr ⟨mj_kcG mj_kc_73, List.forall_mem_cons.mpr ⟨mj_kcG mj_kc_74, List.forall_mem_cons.mpr ⟨mj_kcG mj_kc_75, List.forall_mem_cons.mpr ⟨mj_kcG mj_kc_76, List.forall_mem_cons.mpr ⟨mj_kcG mj_kc_77, fun _ h => absurd h List.not_mem_nil⟩⟩⟩⟩⟩⟩⟩⟩⟩⟩⟩⟩⟩⟩⟩⟩⟩⟩⟩⟩⟩⟩⟩⟩⟩⟩
theorem mj_kcR_78 : ∀ y ∈ [78, 79, 80, 81, 82, 83, 84, 85, 86, 87, 88, 89, 90, 91, 92, 93, 94, 95, 96, 97, 98, 99, 100, 101, 102, 103], mj_kcP y := List.forall_mem_cons.mpr ⟨mj_kcG mj_kc_78, List.forall_mem_cons.mpr ⟨mj_kcG mj_kc_79, List.forall_mem_cons.mpr ⟨mj_kcG mj_kc_80, List.forall_mem_cons.mpr ⟨mj_kcG mj_kc_81, List.forall_mem_cons.mpr ⟨mj_kcG mj_kc_82, List.forall_mem_cons.mpr ⟨mj_kcG mj_kc_83, List.forall_mem_cons.mpr ⟨mj_kcG mj_kc_84, List.forall_mem_cons.mpr ⟨mj_kcG mj_kc_85, List.forall_mem_cons.mpr ⟨mj_kcG mj_kc_86, List.forall_mem_cons.mpr ⟨mj_kcG mj_kc_87, List.forall_mem_cons.mpr ⟨mj_kcG mj_kc_88, List.forall_mem_cons.mpr ⟨mj_kcG mj_kc_89, List.forall_mem_cons.mpr ⟨mj_kcG mj_kc_90, List.forall_mem_cons.mpr ⟨mj_kcG mj_kc_91, List.forall_mem_cons.mpr ⟨mj_kcG mj_kc_92, List.forall_mem_cons.mpr ⟨mj_kcG mj_kc_93, List.forall_mem_cons.mpr ⟨mj_kcG mj_kc_94, List.forall_mem_cons.mpr ⟨mj_kcG mj_kc_95, List.forall_mem_cons.mpr ⟨mj_kcG mj_kc_96, List.forall_mem_cons.mpr ⟨mj_kcG mj_kc_97, List.forall_mem_cons.mpr ⟨mj_kcG mj_kc_98, List.forall_mem_cons.mpr ⟨mj_kcG mj_kc_99, List.forall_mem_cons.mpr ⟨mj_kcG mj_kc_100, List.forall_mem_cons.mpr ⟨mj_kcG mj_kc_101, List.forall_mem_cons.mpr ⟨mj_kcG mj_kc_102, List.forall_mem_cons.mpr ⟨mj_kcG mj_kc_103, fun _ h => absurd h List.not_mem_nil⟩⟩⟩⟩⟩⟩⟩⟩⟩⟩⟩⟩⟩⟩⟩⟩⟩⟩⟩⟩⟩⟩⟩⟩⟩⟩
theorem mj_kcR_104 : ∀ y ∈ [104, 105, 106, 107, 108, 109, 110, 111, 112, 113, 114, 115, 116, 117, 118, 119, 120, 121, 122, 123, 124, 125, 126, 127, 128, 129], mj_kcP y := List.forall_mem_cons.mpr ⟨mj_kcG mj_kc_104, List.forall_mem_cons.mpr ⟨mj_kcG mj_kc_105, List.forall_mem_cons.mpr ⟨mj_kcG mj_kc_106, List.forall_mem_cons.mpr ⟨mj_kcG mj_kc_107, List.forall_mem_cons.mpr ⟨mj_kcG mj_kc_108, List.forall_mem_cons.mpr ⟨mj_kcG mj_kc_109, List.forall_mem_cons.mpr ⟨mj_kcG mj_kc_110, List.forall_mem_cons.mpr ⟨mj_kcG mj_kc_111, List.forall_mem_cons.mpr ⟨mj_kcG mj_kc_112, List.forall_mem_cons.mpr ⟨mj_kcG mj_kc_113, List.forall_mem_cons.mpr ⟨mj_kcG mj_kc_114, List.forall_mem_cons.mpr ⟨mj_kcG mj_kc_115, List.forall_mem_cons.mpr ⟨mj_kcG mj_kc_116, List.forall_mem_cons.mpr ⟨mj_kcG mj_kc_117, List.forall_mem_cons.mpr ⟨mj_kcG mj_kc_118, List.forall_mem_cons.mpr ⟨mj_kcG mj_kc_119, List.forall_mem_cons.mpr ⟨mj_kcG mj_kc_120, List.forall_mem_cons.mpr ⟨mj_kcG mj_kc_121, List.forall_mem_cons.mpr ⟨mj_kcG mj_kc_122, List.forall_mem_cons.mpr ⟨mj_kcG mj_kc_123, List.forall_mem_cons.mpr ⟨mj_kcG mj_kc_124, List.forall_mem_cons.mpr ⟨mj_kcG mj_kc_125, List.forall_mem_cons.mpr ⟨mj_kcG mj_kc_126, List.forall_mem_cons.mpr ⟨mj_kcG mj_kc_127, List.forall_mem_cons.mpr ⟨mj_kcG mj_kc_128, List.forall_mem_cons.mpr ⟨mj_kcG mj_kc_129, fun _ h => absurd h List.not_mem_nil⟩⟩⟩⟩⟩⟩⟩⟩⟩⟩⟩⟩⟩⟩⟩⟩⟩⟩⟩⟩⟩⟩⟩⟩⟩⟩
theorem mj_kcR_130 : ∀ y ∈ [130, 131, 132, 133, 134, 135, 136, 137, 138, 139, 140, 141, 142, 143, 144, 145, 146, 147, 148, 149, 150, 151, 152, 153, 154, 155], mj_kcP y := List.forall_mem_cons.mpr ⟨mj_kcG mj_kc_130, List.forall_mem_cons.mpr ⟨mj_kcG mj_kc_131, List.forall_mem_cons.mpr ⟨mj_kcG mj_kc_132, List.forall_mem_cons.mpr ⟨mj_kcG mj_kc_133, List.forall_mem_cons.mpr ⟨mj_kcG mj_kc_134, List.forall_mem_cons.mpr ⟨mj_kcG mj_kc_135, List.forall_mem_cons.mpr ⟨mj_kcG mj_kc_136, List.forall_mem_cons.mpr ⟨mj_kcG mj_kc_137, List.forall_mem_cons.mpr ⟨mj_kcG mj_kc_138, List.forall_mem_cons.mpr ⟨mj_kcG mj_kc_139, List.forall_mem_cons.mpr ⟨mj_kcG mj_kc_140, List.forall_mem_cons.mpr ⟨mj_kcG mj_kc_141, List.forall_mem_cons.mpr ⟨mj_kcG mj_kc_142, List.forall_mem_cons.mpr ⟨mj_kcG mj_kc_143, List.forall_mem_cons.mpr ⟨mj_kcG mj_kc_144, List.forall_mem_cons.mpr ⟨mj_kcG mj_kc_145, List.forall_mem_cons.mpr ⟨mj_kcG mj_kc_146, List.forall_mem_cons.mpr ⟨mj_kcG mj_kc_147, List.forall_mem_cons.mpr ⟨mj_kcG mj_kc_148, List.forall_mem_cons.mpr ⟨mj_kcG mj_kc_149, List.forall_mem_cons.mpr ⟨mj_kcG mj_kc_150, List.forall_mem_cons.mpr ⟨mj_kcG mj_kc_151, List.forall_mem_cons.mpr ⟨mj_kcG mj_kc_152, List.forall_mem_cons.mpr ⟨mj_kcG mj_kc_153, List.forall_mem_cons.mpr ⟨mj_kcG mj_kc_154, List.forall_mem_cons.mpr ⟨mj_kcG mj_kc_155, fun _ h => absurd h List.not_mem_nil⟩⟩⟩⟩⟩⟩⟩⟩⟩⟩⟩⟩⟩⟩⟩⟩⟩⟩⟩⟩⟩⟩⟩⟩⟩⟩
theorem mj_kcR_156 : ∀ y ∈ [156, 157, 158, 159, 160, 161, 162, 163, 164, 165, 166, 167, 168, 169, 170, 171, 172, 173, 174, 175, 176, 177, 178, 179, 180, 181], mj_kcP y := List.forall_mem_cons.mpr ⟨mj_kcG mj_kc_156, List.forall_mem_cons.mpr ⟨mj_kcG mj_kc_157, List.forall_mem_cons.mpr ⟨mj_kcG mj_kc_158, List.forall_mem_cons.mpr ⟨mj_kcG mj_kc_159, List.forall_mem_cons.mpr ⟨mj_kcG mj_kc_160, List.forall_mem_cons.mpr ⟨mj_kcG mj_kc_161, List.forall_mem_cons.mpr ⟨mj_kcG mj_kc_162, List.forall_mem_cons.mpr ⟨mj_kcG mj_kc_163, List.forall_mem_cons.mpr ⟨mj_kcG mj_kc_164, List.forall_mem_cons.mpr ⟨mj_kcG mj_kc_165, List.forall_mem_cons.mpr ⟨mj_kcG mj_kc_166, List.forall_mem_cons.mpr ⟨mj_kcG mj_kc_167, List.forall_mem_cons.mpr ⟨mj_kcG mj_kc_168, List.forall_mem_cons.mpr ⟨mj_kcG mj_kc_169, List.forall_mem_cons.mpr ⟨mj_kcG mj_kc_170, List.forall_mem_cons.mpr ⟨mj_kcG mj_kc_171, List.forall_mem_cons.mpr ⟨mj_kcG mj_kc_172, List.forall_mem_cons.mpr ⟨mj_kcG mj_kc_173, List.forall_mem_cons.mpr ⟨mj_kcG mj_kc_174, List.forall_mem_cons.mpr ⟨mj_kcG mj_kc_175, List.forall_mem_cons.mpr ⟨mj_kcG mj_kc_176, List.forall_mem_cons.mpr ⟨mj_kcG mj_kc_177, List.forall_mem_cons.mpr ⟨mj_kcG mj_kc_178, List.forall_mem_cons.mpr ⟨mj_kcG mj_kc_179, List.forall_mem_cons.mpr ⟨mj_kcG mj_kc_180, List.forall_mem_cons.mpr ⟨mj_kcG mj_kc_181, fun _ h => absurd h List.not_mem_nil⟩⟩⟩⟩⟩⟩⟩⟩⟩⟩⟩⟩⟩⟩⟩⟩⟩⟩⟩⟩⟩⟩⟩⟩⟩⟩
theorem mj_kcR_182 : ∀ y ∈ [182, 183, 184, 185, 186, 187, 188, 189, 190, 191, 192, 193, 194, 195, 196, 197, 198, 199, 200, 201], mj_kcP y := List.forall_mem_cons.mpr ⟨mj_kcG mj_kc_182, List.forall_mem_cons.mpr ⟨mj_kcG mj_kc_183, List.forall_mem_cons.mpr ⟨mj_kcG mj_kc_184, List.forall_mem_cons.mpr ⟨mj_kcG mj_kc_185, List.forall_mem_cons.mpr ⟨mj_kcG mj_kc_186, List.forall_mem_cons.mpr ⟨mj_kcG mj_kc_187, List.forall_mem_cons.mpr ⟨mj_kcG mj_kc_188, List.forall_mem_cons.mpr ⟨mj_kcG mj_kc_189, List.forall_mem_cons.mpr ⟨mj_kcG mj_kc_190, List.forall_mem_cons.mpr ⟨mj_kcG mj_kc_191, List.forall_mem_cons.mpr ⟨mj_kcG mj_kc_192, List.forall_mem_cons.mpr ⟨mj_kcG mj_kc_193, List.forall_mem_cons.mpr ⟨mj_kcG mj_kc_194, List.forall_mem_cons.mpr ⟨mj_kcG mj_kc_195, List.forall_mem_cons.mpr ⟨mj_kcG mj_kc_196, List.forall_mem_cons.mpr ⟨mj_kcG mj_kc_197, List.forall_mem_cons.mpr ⟨mj_kcG mj_kc_198, List.forall_mem_cons.mpr ⟨mj_kcG mj_kc_199, List.forall_mem_cons.mpr ⟨mj_kcG mj_kc_200, List.forall_mem_cons.mpr ⟨mj_kcG mj_kc_201, fun _ h => absurd h List.not_mem_nil⟩⟩⟩⟩⟩⟩⟩⟩⟩⟩⟩⟩⟩⟩⟩⟩⟩⟩⟩⟩
theorem mj_kc_ok {y : Nat} (hy : y < nL_law) : mj_kcP y := by
  have hy : y < 202 := hy
  by_cases h0 : y < 26
  · exact mj_kcR_0 y (by
      have k : ∀ z, z < 26 → z + 0 ∈ [0, 1, 2, 3, 4, 5, 6, 7, 8, 9, 10, 11, 12, 13, 14, 15, 16, 17, 18, 19, 20, 21, 22, 23, 24, 25] := by decide
      have := k (y - 0) (by omega)
      rwa [show y - 0 + 0 = y by omega] at this)
  by_cases h26 : y < 52
  · exact mj_kcR_26 y (by
      have k : ∀ z, z < 26 → z + 26 ∈ [26, 27, 28, 29, 30, 31, 32, 33, 34, 35, 36, 37, 38, 39, 40, 41, 42, 43, 44, 45, 46, 47, 48, 49, 50, 51] := by decide
      have := k (y - 26) (by omega)
      rwa [show y - 26 + 26 = y by omega] at this)
  by_cases h52 : y < 78
  · exact mj_kcR_52 y (by
      have k : ∀ z, z < 26 → z + 52 ∈ [52, 53, 54, 55, 56, 57, 58, 59, 60, 61, 62, 63, 64, 65, 66, 67, 68, 69, 70, 71, 72, 73, 74, 75, 76, 77] := by decide
      have := k (y - 52) (by omega)
      rwa [show y - 52 + 52 = y by omega] at this)
  by_cases h78 : y < 104
  · exact mj_kcR_78 y (by
      have k : ∀ z, z < 26 → z + 78 ∈ [78, 79, 80, 81, 82, 83, 84, 85, 86, 87, 88, 89, 90, 91, 92, 93, 94, 95, 96, 97, 98, 99, 100, 101, 102, 103] := by decide
      have := k (y - 78) (by omega)
      rwa [show y - 78 + 78 = y by omega] at this)
  by_cases h104 : y < 130
  · exact mj_kcR_104 y (by
      have k : ∀ z, z < 26 → z + 104 ∈ [104, 105, 106, 107, 108, 109, 110, 111, 112, 113, 114, 115, 116, 117, 118, 119, 120, 121, 122, 123, 124, 125, 126, 127, 128, 129] := by decide
      have := k (y - 104) (by omega)
      rwa [show y - 104 + 104 = y by omega] at this)
  by_cases h130 : y < 156
  · exact mj_kcR_130 y (by
      have k : ∀ z, z < 26 → z + 130 ∈ [130, 131, 132, 133, 134, 135, 136, 137, 138, 139, 140, 141, 142, 143, 144, 145, 146, 147, 148, 149, 150, 151, 152, 153, 154, 155] := by decide
      have := k (y - 130) (by omega)
      rwa [show y - 130 + 130 = y by omega] at this)
  by_cases h156 : y < 182
  · exact mj_kcR_156 y (by
      have k : ∀ z, z < 26 → z + 156 ∈ [156, 157, 158, 159, 160, 161, 162, 163, 164, 165, 166, 167, 168, 169, 170, 171, 172, 173, 174, 175, 176, 177, 178, 179, 180, 181] := by decide
      have := k (y - 156) (by omega)
      rwa [show y - 156 + 156 = y by omega] at this)
  by_cases h182 : y < 202
  · exact mj_kcR_182 y (by
      have k : ∀ z, z < 20 → z + 182 ∈ [182, 183, 184, 185, 186, 187, 188, 189, 190, 191, 192, 193, 194, 195, 196, 197, 198, 199, 200, 201] := by decide
      have := k (y - 182) (by omega)
      rwa [show y - 182 + 182 = y by omega] at this)
  omega
def mj_kmet (y : Nat) : Bool := match mj_nth mj_yb y, mj_nth mj_tab y with
  | some q, some t => Jvm.plainName q.1.cls && (decide (q.1.cls = mj_nm t.1) && (decide (t.2.1 ≤ 20) && ((!t.2.2.1 || decide (q.1.name = "<init>")) && (decide (q.1.cls ≠ "java/lang/invoke/MethodHandle") && decide (q.1.cls ≠ "java/lang/invoke/VarHandle")))))
  | _, _ => false
set_option maxRecDepth 100000 in
theorem mj_kmet_all : ((List.range nL_law).all fun y => mj_kmet y) = true := by decide +kernel
