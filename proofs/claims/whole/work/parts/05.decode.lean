/-! the code tables are what the bytes decode to -/
def mj_dc1 (bytes : ByteArray) (pc : Nat) (o : Option Instr) : Bool := match o with
  | none => true
  | some ins => match decode bytes pc with
    | .ok q => decide (q.1 = ins) && (Nat.beq (mj_len ins) 0 || Nat.beq q.2 (mj_len ins))
    | .error _ => false
def mj_dc (bytes : ByteArray) : Nat → List (Option Instr) → Bool
  | _, [] => true
  | pc, o :: t => mj_dc1 bytes pc o && mj_dc bytes (pc + 1) t
set_option maxRecDepth 100000 in
theorem mj_dk_0 : mj_dc cX0_init 0 iX0_init = true := by decide +kernel
set_option maxRecDepth 100000 in
theorem mj_dk_1 : mj_dc cX0_answerAnew 0 iX0_answerAnew = true := by decide +kernel
set_option maxRecDepth 100000 in
theorem mj_dk_2 : mj_dc cX0_answer 0 iX0_answer = true := by decide +kernel
set_option maxRecDepth 100000 in
theorem mj_dk_3 : mj_dc cX0_sizeAsked 0 iX0_sizeAsked = true := by decide +kernel
set_option maxRecDepth 100000 in
theorem mj_dk_4 : mj_dc cX0_markAsked 0 iX0_markAsked = true := by decide +kernel
set_option maxRecDepth 100000 in
theorem mj_dk_5 : mj_dc cX0_lentSize 0 iX0_lentSize = true := by decide +kernel
set_option maxRecDepth 100000 in
theorem mj_dk_6 : mj_dc cX0_lentMark 0 iX0_lentMark = true := by decide +kernel
set_option maxRecDepth 100000 in
theorem mj_dk_7 : mj_dc cX0_enter 0 iX0_enter = true := by decide +kernel
set_option maxRecDepth 100000 in
theorem mj_dk_8 : mj_dc cX1_init 0 iX1_init = true := by decide +kernel
set_option maxRecDepth 100000 in
theorem mj_dk_9 : mj_dc cX1_isColour 0 iX1_isColour = true := by decide +kernel
set_option maxRecDepth 100000 in
theorem mj_dk_10 : mj_dc cX1_clear 0 iX1_clear = true := by decide +kernel
set_option maxRecDepth 100000 in
theorem mj_dk_11 : mj_dc cX1_countClashes 0 iX1_countClashes = true := by decide +kernel
set_option maxRecDepth 100000 in
theorem mj_dk_12 : mj_dc cX1_countRows 0 iX1_countRows = true := by decide +kernel
set_option maxRecDepth 100000 in
theorem mj_dk_13 : mj_dc cX1_colourInFirstRow 0 iX1_colourInFirstRow = true := by decide +kernel
set_option maxRecDepth 100000 in
theorem mj_dk_14 : mj_dc cX1_prepare 0 iX1_prepare = true := by decide +kernel
set_option maxRecDepth 100000 in
theorem mj_dk_15 : mj_dc cX1_clash 0 iX1_clash = true := by decide +kernel
set_option maxRecDepth 100000 in
theorem mj_dk_16 : mj_dc cX1_countFrom 0 iX1_countFrom = true := by decide +kernel
set_option maxRecDepth 100000 in
theorem mj_dk_17 : mj_dc cX1_fillFrom 0 iX1_fillFrom = true := by decide +kernel
set_option maxRecDepth 100000 in
theorem mj_dk_18 : mj_dc cX2_init 0 iX2_init = true := by decide +kernel
set_option maxRecDepth 100000 in
theorem mj_dk_19 : mj_dc cX2_build 0 iX2_build = true := by decide +kernel
set_option maxRecDepth 100000 in
theorem mj_dk_20 : mj_dc cX2_has 0 iX2_has = true := by decide +kernel
set_option maxRecDepth 100000 in
theorem mj_dk_21 : mj_dc cX2_hasSide 0 iX2_hasSide = true := by decide +kernel
set_option maxRecDepth 100000 in
theorem mj_dk_22 : mj_dc cX2_hasRing 0 iX2_hasRing = true := by decide +kernel
set_option maxRecDepth 100000 in
theorem mj_dk_23 : mj_dc cX2_beyond 0 iX2_beyond = true := by decide +kernel
set_option maxRecDepth 100000 in
theorem mj_dk_24 : mj_dc cX2_sideTo 0 iX2_sideTo = true := by decide +kernel
set_option maxRecDepth 100000 in
theorem mj_dk_25 : mj_dc cX2_sideOn 0 iX2_sideOn = true := by decide +kernel
set_option maxRecDepth 100000 in
theorem mj_dk_26 : mj_dc cX2_parentsOf 0 iX2_parentsOf = true := by decide +kernel
set_option maxRecDepth 100000 in
theorem mj_dk_27 : mj_dc cX2_placeOf 0 iX2_placeOf = true := by decide +kernel
set_option maxRecDepth 100000 in
theorem mj_dk_28 : mj_dc cX2_besides 0 iX2_besides = true := by decide +kernel
set_option maxRecDepth 100000 in
theorem mj_dk_29 : mj_dc cX2_childrenOf 0 iX2_childrenOf = true := by decide +kernel
set_option maxRecDepth 100000 in
theorem mj_dk_30 : mj_dc cX2_toldKind 0 iX2_toldKind = true := by decide +kernel
set_option maxRecDepth 100000 in
theorem mj_dk_31 : mj_dc cX2_countTold 0 iX2_countTold = true := by decide +kernel
set_option maxRecDepth 100000 in
theorem mj_dk_32 : mj_dc cX2_partOf 0 iX2_partOf = true := by decide +kernel
set_option maxRecDepth 100000 in
theorem mj_dk_33 : mj_dc cX2_turn 0 iX2_turn = true := by decide +kernel
set_option maxRecDepth 100000 in
theorem mj_dk_34 : mj_dc cX2_sizeOf 0 iX2_sizeOf = true := by decide +kernel
set_option maxRecDepth 100000 in
theorem mj_dk_35 : mj_dc cX2_behind 0 iX2_behind = true := by decide +kernel
set_option maxRecDepth 100000 in
theorem mj_dk_36 : mj_dc cX2_ahead 0 iX2_ahead = true := by decide +kernel
set_option maxRecDepth 100000 in
theorem mj_dk_37 : mj_dc cX2_ownOf 0 iX2_ownOf = true := by decide +kernel
set_option maxRecDepth 100000 in
theorem mj_dk_38 : mj_dc cX2_addCell 0 iX2_addCell = true := by decide +kernel
set_option maxRecDepth 100000 in
theorem mj_dk_39 : mj_dc cX2_addFirstRing 0 iX2_addFirstRing = true := by decide +kernel
set_option maxRecDepth 100000 in
theorem mj_dk_40 : mj_dc cX2_addRing 0 iX2_addRing = true := by decide +kernel
set_option maxRecDepth 100000 in
theorem mj_dk_41 : mj_dc cX2_list 0 iX2_list = true := by decide +kernel
set_option maxRecDepth 100000 in
theorem mj_dk_42 : mj_dc cX2_listRound 0 iX2_listRound = true := by decide +kernel
set_option maxRecDepth 100000 in
theorem mj_dk_43 : mj_dc cX2_listRoundTheFirst 0 iX2_listRoundTheFirst = true := by decide +kernel
set_option maxRecDepth 100000 in
theorem mj_dk_44 : mj_dc cX2_listChildren 0 iX2_listChildren = true := by decide +kernel
set_option maxRecDepth 100000 in
theorem mj_dk_45 : mj_dc cX3_init 0 iX3_init = true := by decide +kernel
set_option maxRecDepth 100000 in
theorem mj_dk_46 : mj_dc cX3_clear 0 iX3_clear = true := by decide +kernel
set_option maxRecDepth 100000 in
theorem mj_dk_47 : mj_dc cX3_stepOn 0 iX3_stepOn = true := by decide +kernel
set_option maxRecDepth 100000 in
theorem mj_dk_48 : mj_dc cX3_countIn 0 iX3_countIn = true := by decide +kernel
set_option maxRecDepth 100000 in
theorem mj_dk_49 : mj_dc cX3_isSameTurned 0 iX3_isSameTurned = true := by decide +kernel
set_option maxRecDepth 100000 in
theorem mj_dk_50 : mj_dc cX3_livingBeside 0 iX3_livingBeside = true := by decide +kernel
set_option maxRecDepth 100000 in
theorem mj_dk_51 : mj_dc cX4_init 0 iX4_init = true := by decide +kernel
set_option maxRecDepth 100000 in
theorem mj_dk_52 : mj_dc cX4_place 0 iX4_place = true := by decide +kernel
set_option maxRecDepth 100000 in
theorem mj_dk_53 : mj_dc cX4_act 0 iX4_act = true := by decide +kernel
set_option maxRecDepth 100000 in
theorem mj_dk_54 : mj_dc cX4_forward 0 iX4_forward = true := by decide +kernel
set_option maxRecDepth 100000 in
theorem mj_dk_55 : mj_dc cX5_init 0 iX5_init = true := by decide +kernel
set_option maxRecDepth 100000 in
theorem mj_dk_56 : mj_dc cX5_has 0 iX5_has = true := by decide +kernel
set_option maxRecDepth 100000 in
theorem mj_dk_57 : mj_dc cX5_isMissing 0 iX5_isMissing = true := by decide +kernel
set_option maxRecDepth 100000 in
theorem mj_dk_58 : mj_dc cX5_areOfOneLane 0 iX5_areOfOneLane = true := by decide +kernel
set_option maxRecDepth 100000 in
theorem mj_dk_59 : mj_dc cX5_holds 0 iX5_holds = true := by decide +kernel
set_option maxRecDepth 100000 in
theorem mj_dk_60 : mj_dc cX5_lay 0 iX5_lay = true := by decide +kernel
set_option maxRecDepth 100000 in
theorem mj_dk_61 : mj_dc cX5_takeAway 0 iX5_takeAway = true := by decide +kernel
set_option maxRecDepth 100000 in
theorem mj_dk_62 : mj_dc cX5_read 0 iX5_read = true := by decide +kernel
set_option maxRecDepth 100000 in
theorem mj_dk_63 : mj_dc cX5_write 0 iX5_write = true := by decide +kernel
set_option maxRecDepth 100000 in
theorem mj_dk_64 : mj_dc cX5_bring 0 iX5_bring = true := by decide +kernel
set_option maxRecDepth 100000 in
theorem mj_dk_65 : mj_dc cX5_countLaid 0 iX5_countLaid = true := by decide +kernel
set_option maxRecDepth 100000 in
theorem mj_dk_66 : mj_dc cX5_narrowed 0 iX5_narrowed = true := by decide +kernel
set_option maxRecDepth 100000 in
theorem mj_dk_67 : mj_dc cX6_init 0 iX6_init = true := by decide +kernel
set_option maxRecDepth 100000 in
theorem mj_dk_68 : mj_dc cX6_take 0 iX6_take = true := by decide +kernel
set_option maxRecDepth 100000 in
theorem mj_dk_69 : mj_dc cX6_check 0 iX6_check = true := by decide +kernel
set_option maxRecDepth 100000 in
theorem mj_dk_70 : mj_dc cX6_unroll 0 iX6_unroll = true := by decide +kernel
set_option maxRecDepth 100000 in
theorem mj_dk_71 : mj_dc cX6_open 0 iX6_open = true := by decide +kernel
set_option maxRecDepth 100000 in
theorem mj_dk_72 : mj_dc cX6_close 0 iX6_close = true := by decide +kernel
set_option maxRecDepth 100000 in
theorem mj_dk_73 : mj_dc cX6_add 0 iX6_add = true := by decide +kernel
set_option maxRecDepth 100000 in
theorem mj_dk_74 : mj_dc cX6_repeat 0 iX6_repeat = true := by decide +kernel
set_option maxRecDepth 100000 in
theorem mj_dk_75 : mj_dc cX6_faultAt 0 iX6_faultAt = true := by decide +kernel
set_option maxRecDepth 100000 in
theorem mj_dk_76 : mj_dc cX6_numberFault 0 iX6_numberFault = true := by decide +kernel
set_option maxRecDepth 100000 in
theorem mj_dk_77 : mj_dc cX6_figuresFrom 0 iX6_figuresFrom = true := by decide +kernel
set_option maxRecDepth 100000 in
theorem mj_dk_78 : mj_dc cX6_numberAt 0 iX6_numberAt = true := by decide +kernel
set_option maxRecDepth 100000 in
theorem mj_dk_79 : mj_dc cX6_depthOf 0 iX6_depthOf = true := by decide +kernel
set_option maxRecDepth 100000 in
theorem mj_dk_80 : mj_dc cX6_isBlank 0 iX6_isBlank = true := by decide +kernel
set_option maxRecDepth 100000 in
theorem mj_dk_81 : mj_dc cX6_isFigure 0 iX6_isFigure = true := by decide +kernel
set_option maxRecDepth 100000 in
theorem mj_dk_82 : mj_dc cX6_isLetter 0 iX6_isLetter = true := by decide +kernel
set_option maxRecDepth 100000 in
theorem mj_dk_83 : mj_dc cX7_init 0 iX7_init = true := by decide +kernel
set_option maxRecDepth 100000 in
theorem mj_dk_84 : mj_dc cX7_measure 0 iX7_measure = true := by decide +kernel
set_option maxRecDepth 100000 in
theorem mj_dk_85 : mj_dc cX7_cellOnTheWay 0 iX7_cellOnTheWay = true := by decide +kernel
set_option maxRecDepth 100000 in
theorem mj_dk_86 : mj_dc cX7_countWalks 0 iX7_countWalks = true := by decide +kernel
set_option maxRecDepth 100000 in
theorem mj_dk_87 : mj_dc cX7_countAt 0 iX7_countAt = true := by decide +kernel
set_option maxRecDepth 100000 in
theorem mj_dk_88 : mj_dc cX7_reachFrom 0 iX7_reachFrom = true := by decide +kernel
set_option maxRecDepth 100000 in
theorem mj_dk_89 : mj_dc cX7_nearer 0 iX7_nearer = true := by decide +kernel
set_option maxRecDepth 100000 in
theorem mj_dk_90 : mj_dc cX7_walksInto 0 iX7_walksInto = true := by decide +kernel
set_option maxRecDepth 100000 in
theorem mj_dk_91 : mj_dc cX8_init 0 iX8_init = true := by decide +kernel
set_option maxRecDepth 100000 in
theorem mj_dk_92 : mj_dc cX8_sheet 0 iX8_sheet = true := by decide +kernel
set_option maxRecDepth 100000 in
theorem mj_dk_93 : mj_dc cX8_set 0 iX8_set = true := by decide +kernel
set_option maxRecDepth 100000 in
theorem mj_dk_94 : mj_dc cX8_copy 0 iX8_copy = true := by decide +kernel
set_option maxRecDepth 100000 in
theorem mj_dk_95 : mj_dc cX8_drop 0 iX8_drop = true := by decide +kernel
set_option maxRecDepth 100000 in
theorem mj_dk_96 : mj_dc cX8_board 0 iX8_board = true := by decide +kernel
set_option maxRecDepth 100000 in
theorem mj_dk_97 : mj_dc cX8_cell 0 iX8_cell = true := by decide +kernel
set_option maxRecDepth 100000 in
theorem mj_dk_98 : mj_dc cX8_side 0 iX8_side = true := by decide +kernel
set_option maxRecDepth 100000 in
theorem mj_dk_99 : mj_dc cX8_by 0 iX8_by = true := by decide +kernel
set_option maxRecDepth 100000 in
theorem mj_dk_100 : mj_dc cX8_grown 0 iX8_grown = true := by decide +kernel
set_option maxRecDepth 100000 in
theorem mj_dk_101 : mj_dc cX8_far 0 iX8_far = true := by decide +kernel
set_option maxRecDepth 100000 in
theorem mj_dk_102 : mj_dc cX8_way 0 iX8_way = true := by decide +kernel
set_option maxRecDepth 100000 in
theorem mj_dk_103 : mj_dc cX8_walks 0 iX8_walks = true := by decide +kernel
set_option maxRecDepth 100000 in
theorem mj_dk_104 : mj_dc cX8_around 0 iX8_around = true := by decide +kernel
set_option maxRecDepth 100000 in
theorem mj_dk_105 : mj_dc cX8_put 0 iX8_put = true := by decide +kernel
set_option maxRecDepth 100000 in
theorem mj_dk_106 : mj_dc cX8_mouse 0 iX8_mouse = true := by decide +kernel
set_option maxRecDepth 100000 in
theorem mj_dk_107 : mj_dc cX8_feed 0 iX8_feed = true := by decide +kernel
set_option maxRecDepth 100000 in
theorem mj_dk_108 : mj_dc cX8_run 0 iX8_run = true := by decide +kernel
set_option maxRecDepth 100000 in
theorem mj_dk_109 : mj_dc cX8_fault 0 iX8_fault = true := by decide +kernel
set_option maxRecDepth 100000 in
theorem mj_dk_110 : mj_dc cX8_paint 0 iX8_paint = true := by decide +kernel
set_option maxRecDepth 100000 in
theorem mj_dk_111 : mj_dc cX8_paints 0 iX8_paints = true := by decide +kernel
set_option maxRecDepth 100000 in
theorem mj_dk_112 : mj_dc cX8_clashes 0 iX8_clashes = true := by decide +kernel
set_option maxRecDepth 100000 in
theorem mj_dk_113 : mj_dc cX8_coloured 0 iX8_coloured = true := by decide +kernel
set_option maxRecDepth 100000 in
theorem mj_dk_114 : mj_dc cX8_found 0 iX8_found = true := by decide +kernel
set_option maxRecDepth 100000 in
theorem mj_dk_115 : mj_dc cX8_live 0 iX8_live = true := by decide +kernel
set_option maxRecDepth 100000 in
theorem mj_dk_116 : mj_dc cX8_steps 0 iX8_steps = true := by decide +kernel
set_option maxRecDepth 100000 in
theorem mj_dk_117 : mj_dc cX8_living 0 iX8_living = true := by decide +kernel
set_option maxRecDepth 100000 in
theorem mj_dk_118 : mj_dc cX8_turned 0 iX8_turned = true := by decide +kernel
set_option maxRecDepth 100000 in
theorem mj_dk_119 : mj_dc cX8_alike 0 iX8_alike = true := by decide +kernel
set_option maxRecDepth 100000 in
theorem mj_dk_120 : mj_dc cX8_orbits 0 iX8_orbits = true := by decide +kernel
set_option maxRecDepth 100000 in
theorem mj_dk_121 : mj_dc cX8_kind 0 iX8_kind = true := by decide +kernel
set_option maxRecDepth 100000 in
theorem mj_dk_122 : mj_dc cX8_as 0 iX8_as = true := by decide +kernel
set_option maxRecDepth 100000 in
theorem mj_dk_123 : mj_dc cX8_ask 0 iX8_ask = true := by decide +kernel
set_option maxRecDepth 100000 in
theorem mj_dk_124 : mj_dc cX8_trace 0 iX8_trace = true := by decide +kernel
set_option maxRecDepth 100000 in
theorem mj_dk_125 : mj_dc cX8_count 0 iX8_count = true := by decide +kernel
set_option maxRecDepth 100000 in
theorem mj_dk_126 : mj_dc cX8_status 0 iX8_status = true := by decide +kernel
set_option maxRecDepth 100000 in
theorem mj_dk_127 : mj_dc cX8_begin 0 iX8_begin = true := by decide +kernel
set_option maxRecDepth 100000 in
theorem mj_dk_128 : mj_dc cX8_finding 0 iX8_finding = true := by decide +kernel
set_option maxRecDepth 100000 in
theorem mj_dk_129 : mj_dc cX8_sound 0 iX8_sound = true := by decide +kernel
set_option maxRecDepth 100000 in
theorem mj_dk_130 : mj_dc cX8_isTurn 0 iX8_isTurn = true := by decide +kernel
set_option maxRecDepth 100000 in
theorem mj_dk_131 : mj_dc cX8_isCountable 0 iX8_isCountable = true := by decide +kernel
set_option maxRecDepth 100000 in
theorem mj_dk_132 : mj_dc cX8_isRule 0 iX8_isRule = true := by decide +kernel
set_option maxRecDepth 100000 in
theorem mj_dk_133 : mj_dc cX8_isSideNumber 0 iX8_isSideNumber = true := by decide +kernel
set_option maxRecDepth 100000 in
theorem mj_dk_134 : mj_dc cX8_growth 0 iX8_growth = true := by decide +kernel
set_option maxRecDepth 100000 in
theorem mj_dk_135 : mj_dc cX9_in 0 iX9_in = true := by decide +kernel
set_option maxRecDepth 100000 in
theorem mj_dk_136 : mj_dc cX9_finding 0 iX9_finding = true := by decide +kernel
set_option maxRecDepth 100000 in
theorem mj_dk_137 : mj_dc cX9_init 0 iX9_init = true := by decide +kernel
set_option maxRecDepth 100000 in
theorem mj_dk_138 : mj_dc cX9_isSheet 0 iX9_isSheet = true := by decide +kernel
set_option maxRecDepth 100000 in
theorem mj_dk_139 : mj_dc cX9_sheet 0 iX9_sheet = true := by decide +kernel
set_option maxRecDepth 100000 in
theorem mj_dk_140 : mj_dc cX9_set 0 iX9_set = true := by decide +kernel
set_option maxRecDepth 100000 in
theorem mj_dk_141 : mj_dc cX9_copy 0 iX9_copy = true := by decide +kernel
set_option maxRecDepth 100000 in
theorem mj_dk_142 : mj_dc cX9_drop 0 iX9_drop = true := by decide +kernel
set_option maxRecDepth 100000 in
theorem mj_dk_143 : mj_dc cX9_sizeOf 0 iX9_sizeOf = true := by decide +kernel
set_option maxRecDepth 100000 in
theorem mj_dk_144 : mj_dc cX9_ringEnd 0 iX9_ringEnd = true := by decide +kernel
set_option maxRecDepth 100000 in
theorem mj_dk_145 : mj_dc cX9_build 0 iX9_build = true := by decide +kernel
set_option maxRecDepth 100000 in
theorem mj_dk_146 : mj_dc cX9_add 0 iX9_add = true := by decide +kernel
set_option maxRecDepth 100000 in
theorem mj_dk_147 : mj_dc cX9_parents 0 iX9_parents = true := by decide +kernel
set_option maxRecDepth 100000 in
theorem mj_dk_148 : mj_dc cX9_round 0 iX9_round = true := by decide +kernel
set_option maxRecDepth 100000 in
theorem mj_dk_149 : mj_dc cX9_lay 0 iX9_lay = true := by decide +kernel
set_option maxRecDepth 100000 in
theorem mj_dk_150 : mj_dc cX9_lastChild 0 iX9_lastChild = true := by decide +kernel
set_option maxRecDepth 100000 in
theorem mj_dk_151 : mj_dc cX9_board 0 iX9_board = true := by decide +kernel
set_option maxRecDepth 100000 in
theorem mj_dk_152 : mj_dc cX9_isCell 0 iX9_isCell = true := by decide +kernel
set_option maxRecDepth 100000 in
theorem mj_dk_153 : mj_dc cX9_isSide 0 iX9_isSide = true := by decide +kernel
set_option maxRecDepth 100000 in
theorem mj_dk_154 : mj_dc cX9_cell 0 iX9_cell = true := by decide +kernel
set_option maxRecDepth 100000 in
theorem mj_dk_155 : mj_dc cX9_side 0 iX9_side = true := by decide +kernel
set_option maxRecDepth 100000 in
theorem mj_dk_156 : mj_dc cX9_byOf 0 iX9_byOf = true := by decide +kernel
set_option maxRecDepth 100000 in
theorem mj_dk_157 : mj_dc cX9_by 0 iX9_by = true := by decide +kernel
set_option maxRecDepth 100000 in
theorem mj_dk_158 : mj_dc cX9_grown 0 iX9_grown = true := by decide +kernel
set_option maxRecDepth 100000 in
theorem mj_dk_159 : mj_dc cX9_spread 0 iX9_spread = true := by decide +kernel
set_option maxRecDepth 100000 in
theorem mj_dk_160 : mj_dc cX9_far 0 iX9_far = true := by decide +kernel
set_option maxRecDepth 100000 in
theorem mj_dk_161 : mj_dc cX9_way 0 iX9_way = true := by decide +kernel
set_option maxRecDepth 100000 in
theorem mj_dk_162 : mj_dc cX9_walks 0 iX9_walks = true := by decide +kernel
set_option maxRecDepth 100000 in
theorem mj_dk_163 : mj_dc cX9_around 0 iX9_around = true := by decide +kernel
set_option maxRecDepth 100000 in
theorem mj_dk_164 : mj_dc cX9_put 0 iX9_put = true := by decide +kernel
set_option maxRecDepth 100000 in
theorem mj_dk_165 : mj_dc cX9_mouse 0 iX9_mouse = true := by decide +kernel
set_option maxRecDepth 100000 in
theorem mj_dk_166 : mj_dc cX9_act 0 iX9_act = true := by decide +kernel
set_option maxRecDepth 100000 in
theorem mj_dk_167 : mj_dc cX9_feed 0 iX9_feed = true := by decide +kernel
set_option maxRecDepth 100000 in
theorem mj_dk_168 : mj_dc cX9_byteAt 0 iX9_byteAt = true := by decide +kernel
set_option maxRecDepth 100000 in
theorem mj_dk_169 : mj_dc cX9_isFigure 0 iX9_isFigure = true := by decide +kernel
set_option maxRecDepth 100000 in
theorem mj_dk_170 : mj_dc cX9_step 0 iX9_step = true := by decide +kernel
set_option maxRecDepth 100000 in
theorem mj_dk_171 : mj_dc cX9_check 0 iX9_check = true := by decide +kernel
set_option maxRecDepth 100000 in
theorem mj_dk_172 : mj_dc cX9_runAll 0 iX9_runAll = true := by decide +kernel
set_option maxRecDepth 100000 in
theorem mj_dk_173 : mj_dc cX9_run 0 iX9_run = true := by decide +kernel
set_option maxRecDepth 100000 in
theorem mj_dk_174 : mj_dc cX9_fault 0 iX9_fault = true := by decide +kernel
set_option maxRecDepth 100000 in
theorem mj_dk_175 : mj_dc cX9_paint 0 iX9_paint = true := by decide +kernel
set_option maxRecDepth 100000 in
theorem mj_dk_176 : mj_dc cX9_paints 0 iX9_paints = true := by decide +kernel
set_option maxRecDepth 100000 in
theorem mj_dk_177 : mj_dc cX9_clashes 0 iX9_clashes = true := by decide +kernel
set_option maxRecDepth 100000 in
theorem mj_dk_178 : mj_dc cX9_colourings 0 iX9_colourings = true := by decide +kernel
set_option maxRecDepth 100000 in
theorem mj_dk_179 : mj_dc cX9_isSome 0 iX9_isSome = true := by decide +kernel
set_option maxRecDepth 100000 in
theorem mj_dk_180 : mj_dc cX9_coloured 0 iX9_coloured = true := by decide +kernel
set_option maxRecDepth 100000 in
theorem mj_dk_181 : mj_dc cX9_found 0 iX9_found = true := by decide +kernel
set_option maxRecDepth 100000 in
theorem mj_dk_182 : mj_dc cX9_live 0 iX9_live = true := by decide +kernel
set_option maxRecDepth 100000 in
theorem mj_dk_183 : mj_dc cX9_livingIn 0 iX9_livingIn = true := by decide +kernel
set_option maxRecDepth 100000 in
theorem mj_dk_184 : mj_dc cX9_steps 0 iX9_steps = true := by decide +kernel
set_option maxRecDepth 100000 in
theorem mj_dk_185 : mj_dc cX9_living 0 iX9_living = true := by decide +kernel
set_option maxRecDepth 100000 in
theorem mj_dk_186 : mj_dc cX9_turnedOf 0 iX9_turnedOf = true := by decide +kernel
set_option maxRecDepth 100000 in
theorem mj_dk_187 : mj_dc cX9_turned 0 iX9_turned = true := by decide +kernel
set_option maxRecDepth 100000 in
theorem mj_dk_188 : mj_dc cX9_alike 0 iX9_alike = true := by decide +kernel
set_option maxRecDepth 100000 in
theorem mj_dk_189 : mj_dc cX9_orbits 0 iX9_orbits = true := by decide +kernel
set_option maxRecDepth 100000 in
theorem mj_dk_190 : mj_dc cX9_kindOf 0 iX9_kindOf = true := by decide +kernel
set_option maxRecDepth 100000 in
theorem mj_dk_191 : mj_dc cX9_kind 0 iX9_kind = true := by decide +kernel
set_option maxRecDepth 100000 in
theorem mj_dk_192 : mj_dc cX9_as 0 iX9_as = true := by decide +kernel
set_option maxRecDepth 100000 in
theorem mj_dk_193 : mj_dc cX9_begins 0 iX9_begins = true := by decide +kernel
set_option maxRecDepth 100000 in
theorem mj_dk_194 : mj_dc cX9_pairedSize 0 iX9_pairedSize = true := by decide +kernel
set_option maxRecDepth 100000 in
theorem mj_dk_195 : mj_dc cX9_markOf 0 iX9_markOf = true := by decide +kernel
set_option maxRecDepth 100000 in
theorem mj_dk_196 : mj_dc cX9_sizeBy 0 iX9_sizeBy = true := by decide +kernel
set_option maxRecDepth 100000 in
theorem mj_dk_197 : mj_dc cX9_ask 0 iX9_ask = true := by decide +kernel
set_option maxRecDepth 100000 in
theorem mj_dk_198 : mj_dc cX9_trace 0 iX9_trace = true := by decide +kernel
set_option maxRecDepth 100000 in
theorem mj_dk_199 : mj_dc cX9_count 0 iX9_count = true := by decide +kernel
set_option maxRecDepth 100000 in
theorem mj_dk_200 : mj_dc cX9_status 0 iX9_status = true := by decide +kernel
set_option maxRecDepth 100000 in
theorem mj_dk_201 : mj_dc cJ7_fill_53178 0 iJ7_fill_53178 = true := by decide +kernel
def mj_dP (y : Nat) : Prop := match mj_nth mj_yb y, mj_nth mj_tab y with
  | some q, some t => mj_dc q.2.1 0 t.2.2.2.2 = true
  | _, _ => False
theorem mj_dR_0 : ∀ y ∈ [0, 1, 2, 3, 4, 5, 6, 7, 8, 9, 10, 11, 12, 13, 14, 15, 16, 17, 18, 19, 20, 21, 22, 23, 24, 25], mj_dP y := List.forall_mem_cons.mpr ⟨mj_dk_0, List.forall_mem_cons.mpr ⟨mj_dk_1, List.forall_mem_cons.mpr ⟨mj_dk_2, List.forall_mem_cons.mpr ⟨mj_dk_3, List.forall_mem_cons.mpr ⟨mj_dk_4, List.forall_mem_cons.mpr ⟨mj_dk_5, List.forall_mem_cons.mpr ⟨mj_dk_6, List.forall_mem_cons.mpr ⟨mj_dk_7, List.forall_mem_cons.mpr ⟨mj_dk_8, List.forall_mem_cons.mpr ⟨mj_dk_9, List.forall_mem_cons.mpr ⟨mj_dk_10, List.forall_mem_cons.mpr ⟨mj_dk_11, List.forall_mem_cons.mpr ⟨mj_dk_12, List.forall_mem_cons.mpr ⟨mj_dk_13, List.forall_mem_cons.mpr ⟨mj_dk_14, List.forall_mem_cons.mpr ⟨mj_dk_15, List.forall_mem_cons.mpr ⟨mj_dk_16, List.forall_mem_cons.mpr ⟨mj_dk_17, List.forall_mem_cons.mpr ⟨mj_dk_18, List.forall_mem_cons.mpr ⟨mj_dk_19, List.forall_mem_cons.mpr ⟨mj_dk_20, List.forall_mem_cons.mpr ⟨mj_dk_21, List.forall_mem_cons.mpr ⟨mj_dk_22, List.forall_mem_cons.mpr ⟨mj_dk_23, List.forall_mem_cons.mpr ⟨mj_dk_24, List.forall_mem_cons.mpr ⟨mj_dk_25, fun _ h => absurd h List.not_mem_nil⟩⟩⟩⟩⟩⟩⟩⟩⟩⟩⟩⟩⟩⟩⟩⟩⟩⟩⟩⟩⟩⟩⟩⟩⟩⟩
theorem mj_dR_26 : ∀ y ∈ [26, 27, 28, 29, 30, 31, 32, 33, 34, 35, 36, 37, 38, 39, 40, 41, 42, 43, 44, 45, 46, 47, 48, 49, 50, 51], mj_dP y := List.forall_mem_cons.mpr ⟨mj_dk_26, List.forall_mem_cons.mpr ⟨mj_dk_27, List.forall_mem_cons.mpr ⟨mj_dk_28, List.forall_mem_cons.mpr ⟨mj_dk_29, List.forall_mem_cons.mpr ⟨mj_dk_30, List.forall_mem_cons.mpr ⟨mj_dk_31, List.forall_mem_cons.mpr ⟨mj_dk_32, List.forall_mem_cons.mpr ⟨mj_dk_33, List.forall_mem_cons.mpr ⟨mj_dk_34, List.forall_mem_cons.mpr ⟨mj_dk_35, List.forall_mem_cons.mpr ⟨mj_dk_36, List.forall_mem_cons.mpr ⟨mj_dk_37, List.forall_mem_cons.mpr ⟨mj_dk_38, List.forall_mem_cons.mpr ⟨mj_dk_39, List.forall_mem_cons.mpr ⟨mj_dk_40, List.forall_mem_cons.mpr ⟨mj_dk_41, List.forall_mem_cons.mpr ⟨mj_dk_42, List.forall_mem_cons.mpr ⟨mj_dk_43, List.forall_mem_cons.mpr ⟨mj_dk_44, List.forall_mem_cons.mpr ⟨mj_dk_45, List.forall_mem_cons.mpr ⟨mj_dk_46, List.forall_mem_cons.mpr ⟨mj_dk_47, List.forall_mem_cons.mpr ⟨mj_dk_48, List.forall_mem_cons.mpr ⟨mj_dk_49, List.forall_mem_cons.mpr ⟨mj_dk_50, List.forall_mem_cons.mpr ⟨mj_dk_51, fun _ h => absurd h List.not_mem_nil⟩⟩⟩⟩⟩⟩⟩⟩⟩⟩⟩⟩⟩⟩⟩⟩⟩⟩⟩⟩⟩⟩⟩⟩⟩⟩
theorem mj_dR_52 : ∀ y ∈ [52, 53, 54, 55, 56, 57, 58, 59, 60, 61, 62, 63, 64, 65, 66, 67, 68, 69, 70, 71, 72, 73, 74, 75, 76, 77], mj_dP y := List.forall_mem_cons.mpr ⟨mj_dk_52, List.forall_mem_cons.mpr ⟨mj_dk_53, List.forall_mem_cons.mpr ⟨mj_dk_54, List.forall_mem_cons.mpr ⟨mj_dk_55, List.forall_mem_cons.mpr ⟨mj_dk_56, List.forall_mem_cons.mpr ⟨mj_dk_57, List.forall_mem_cons.mpr ⟨mj_dk_58, List.forall_mem_cons.mpr ⟨mj_dk_59, List.forall_mem_cons.mpr ⟨mj_dk_60, List.forall_mem_cons.mpr ⟨mj_dk_61, List.forall_mem_cons.mpr ⟨mj_dk_62, List.forall_mem_cons.mpr ⟨mj_dk_63, List.forall_mem_cons.mpr ⟨mj_dk_64, List.forall_mem_cons.mpr ⟨mj_dk_65, List.forall_mem_cons.mpr ⟨mj_dk_66, List.forall_mem_cons.mpr ⟨mj_dk_67, List.forall_mem_cons.mpr ⟨mj_dk_68, List.forall_mem_cons.mpr ⟨mj_dk_69, List.forall_mem_cons.mpr ⟨mj_dk_70, List.forall_mem_cons.mpr ⟨mj_dk_71, List.forall_mem_cons.mpr ⟨mj_dk_72, List.forall_mem_cons.mpr ⟨mj_dk_73, List.forall_mem_cons.mpr ⟨mj_dk_74, List.forall_mem_cons.mpr ⟨mj_dk_75, List.forall_mem_cons.mpr ⟨mj_dk_76, List.forall_mem_cons.mpr ⟨mj_dk_77, fun _ h => absurd h List.not_mem_nil⟩⟩⟩⟩⟩⟩⟩⟩⟩⟩⟩⟩⟩⟩⟩⟩⟩⟩⟩⟩⟩⟩⟩⟩⟩⟩
theorem mj_dR_78 : ∀ y ∈ [78, 79, 80, 81, 82, 83, 84, 85, 86, 87, 88, 89, 90, 91, 92, 93, 94, 95, 96, 97, 98, 99, 100, 101, 102, 103], mj_dP y := List.forall_mem_cons.mpr ⟨mj_dk_78, List.forall_mem_cons.mpr ⟨mj_dk_79, List.forall_mem_cons.mpr ⟨mj_dk_80, List.forall_mem_cons.mpr ⟨mj_dk_81, List.forall_mem_cons.mpr ⟨mj_dk_82, List.forall_mem_cons.mpr ⟨mj_dk_83, List.forall_mem_cons.mpr ⟨mj_dk_84, List.forall_mem_cons.mpr ⟨mj_dk_85, List.forall_mem_cons.mpr ⟨mj_dk_86, List.forall_mem_cons.mpr ⟨mj_dk_87, List.forall_mem_cons.mpr ⟨mj_dk_88, List.forall_mem_cons.mpr ⟨mj_dk_89, List.forall_mem_cons.mpr ⟨mj_dk_90, List.forall_mem_cons.mpr ⟨mj_dk_91, List.forall_mem_cons.mpr ⟨mj_dk_92, List.forall_mem_cons.mpr ⟨mj_dk_93, List.forall_mem_cons.mpr ⟨mj_dk_94, List.forall_mem_cons.mpr ⟨mj_dk_95, List.forall_mem_cons.mpr ⟨mj_dk_96, List.forall_mem_cons.mpr ⟨mj_dk_97, List.forall_mem_cons.mpr ⟨mj_dk_98, List.forall_mem_cons.mpr ⟨mj_dk_99, List.forall_mem_cons.mpr ⟨mj_dk_100, List.forall_mem_cons.mpr ⟨mj_dk_101, List.forall_mem_cons.mpr ⟨mj_dk_102, List.forall_mem_cons.mpr ⟨mj_dk_103, fun _ h => absurd h List.not_mem_nil⟩⟩⟩⟩⟩⟩⟩⟩⟩⟩⟩⟩⟩⟩⟩⟩⟩⟩⟩⟩⟩⟩⟩⟩⟩⟩
theorem mj_dR_104 : ∀ y ∈ [104, 105, 106, 107, 108, 109, 110, 111, 112, 113, 114, 115, 116, 117, 118, 119, 120, 121, 122, 123, 124, 125, 126, 127, 128, 129], mj_dP y := List.forall_mem_cons.mpr ⟨mj_dk_104, List.forall_mem_cons.mpr ⟨mj_dk_105, List.forall_mem_cons.mpr ⟨mj_dk_106, List.forall_mem_cons.mpr ⟨mj_dk_107, List.forall_mem_cons.mpr ⟨mj_dk_108, List.forall_mem_cons.mpr ⟨mj_dk_109, List.forall_mem_cons.mpr ⟨mj_dk_110, List.forall_mem_cons.mpr ⟨mj_dk_111, List.forall_mem_cons.mpr ⟨mj_dk_112, List.forall_mem_cons.mpr ⟨mj_dk_113, List.forall_mem_cons.mpr ⟨mj_dk_114, List.forall_mem_cons.mpr ⟨mj_dk_115, List.forall_mem_cons.mpr ⟨mj_dk_116, List.forall_mem_cons.mpr ⟨mj_dk_117, List.forall_mem_cons.mpr ⟨mj_dk_118, List.forall_mem_cons.mpr ⟨mj_dk_119, List.forall_mem_cons.mpr ⟨mj_dk_120, List.forall_mem_cons.mpr ⟨mj_dk_121, List.forall_mem_cons.mpr ⟨mj_dk_122, List.forall_mem_cons.mpr ⟨mj_dk_123, List.forall_mem_cons.mpr ⟨mj_dk_124, List.forall_mem_cons.mpr ⟨mj_dk_125, List.forall_mem_cons.mpr ⟨mj_dk_126, List.forall_mem_cons.mpr ⟨mj_dk_127, List.forall_mem_cons.mpr ⟨mj_dk_128, List.forall_mem_cons.mpr ⟨mj_dk_129, fun _ h => absurd h List.not_mem_nil⟩⟩⟩⟩⟩⟩⟩⟩⟩⟩⟩⟩⟩⟩⟩⟩⟩⟩⟩⟩⟩⟩⟩⟩⟩⟩
theorem mj_dR_130 : ∀ y ∈ [130, 131, 132, 133, 134, 135, 136, 137, 138, 139, 140, 141, 142, 143, 144, 145, 146, 147, 148, 149, 150, 151, 152, 153, 154, 155], mj_dP y := List.forall_mem_cons.mpr ⟨mj_dk_130, List.forall_mem_cons.mpr ⟨mj_dk_131, List.forall_mem_cons.mpr ⟨mj_dk_132, List.forall_mem_cons.mpr ⟨mj_dk_133, List.forall_mem_cons.mpr ⟨mj_dk_134, List.forall_mem_cons.mpr ⟨mj_dk_135, List.forall_mem_cons.mpr ⟨mj_dk_136, List.forall_mem_cons.mpr ⟨mj_dk_137, List.forall_mem_cons.mpr ⟨mj_dk_138, List.forall_mem_cons.mpr ⟨mj_dk_139, List.forall_mem_cons.mpr ⟨mj_dk_140, List.forall_mem_cons.mpr ⟨mj_dk_141, List.forall_mem_cons.mpr ⟨mj_dk_142, List.forall_mem_cons.mpr ⟨mj_dk_143, List.forall_mem_cons.mpr ⟨mj_dk_144, List.forall_mem_cons.mpr ⟨mj_dk_145, List.forall_mem_cons.mpr ⟨mj_dk_146, List.forall_mem_cons.mpr ⟨mj_dk_147, List.forall_mem_cons.mpr ⟨mj_dk_148, List.forall_mem_cons.mpr ⟨mj_dk_149, List.forall_mem_cons.mpr ⟨mj_dk_150, List.forall_mem_cons.mpr ⟨mj_dk_151, List.forall_mem_cons.mpr ⟨mj_dk_152, List.forall_mem_cons.mpr ⟨mj_dk_153, List.forall_mem_cons.mpr ⟨mj_dk_154, List.forall_mem_cons.mpr ⟨mj_dk_155, fun _ h => absurd h List.not_mem_nil⟩⟩⟩⟩⟩⟩⟩⟩⟩⟩⟩⟩⟩⟩⟩⟩⟩⟩⟩⟩⟩⟩⟩⟩⟩⟩
theorem mj_dR_156 : ∀ y ∈ [156, 157, 158, 159, 160, 161, 162, 163, 164, 165, 166, 167, 168, 169, 170, 171, 172, 173, 174, 175, 176, 177, 178, 179, 180, 181], mj_dP y := List.forall_mem_cons.mpr ⟨mj_dk_156, List.forall_mem_cons.mpr ⟨mj_dk_157, List.forall_mem_cons.mpr ⟨mj_dk_158, List.forall_mem_cons.mpr ⟨mj_dk_159, List.forall_mem_cons.mpr ⟨mj_dk_160, List.forall_mem_cons.mpr ⟨mj_dk_161, List.forall_mem_cons.mpr ⟨mj_dk_162, List.forall_mem_cons.mpr ⟨mj_dk_163, List.forall_mem_cons.mpr ⟨mj_dk_164, List.forall_mem_cons.mpr ⟨mj_dk_165, List.forall_mem_cons.mpr ⟨mj_dk_166, List.forall_mem_cons.mpr ⟨mj_dk_167, List.forall_mem_cons.mpr ⟨mj_dk_168, List.forall_mem_cons.mpr ⟨mj_dk_169, List.forall_mem_cons.mpr ⟨mj_dk_170, List.forall_mem_cons.mpr ⟨mj_dk_171, List.forall_mem_cons.mpr ⟨mj_dk_172, List.forall_mem_cons.mpr ⟨mj_dk_173, List.forall_mem_cons.mpr ⟨mj_dk_174, List.forall_mem_cons.mpr ⟨mj_dk_175, List.forall_mem_cons.mpr ⟨mj_dk_176, List.forall_mem_cons.mpr ⟨mj_dk_177, List.forall_mem_cons.mpr ⟨mj_dk_178, List.forall_mem_cons.mpr ⟨mj_dk_179, List.forall_mem_cons.mpr ⟨mj_dk_180, List.forall_mem_cons.mpr ⟨mj_dk_181, fun _ h => absurd h List.not_mem_nil⟩⟩⟩⟩⟩⟩⟩⟩⟩⟩⟩⟩⟩⟩⟩⟩⟩⟩⟩⟩⟩⟩⟩⟩⟩⟩
theorem mj_dR_182 : ∀ y ∈ [182, 183, 184, 185, 186, 187, 188, 189, 190, 191, 192, 193, 194, 195, 196, 197, 198, 199, 200, 201], mj_dP y := List.forall_mem_cons.mpr ⟨mj_dk_182, List.forall_mem_cons.mpr ⟨mj_dk_183, List.forall_mem_cons.mpr ⟨mj_dk_184, List.forall_mem_cons.mpr ⟨mj_dk_185, List.forall_mem_cons.mpr ⟨mj_dk_186, List.forall_mem_cons.mpr ⟨mj_dk_187, List.forall_mem_cons.mpr ⟨mj_dk_188, List.forall_mem_cons.mpr ⟨mj_dk_189, List.forall_mem_cons.mpr ⟨mj_dk_190, List.forall_mem_cons.mpr ⟨mj_dk_191, List.forall_mem_cons.mpr ⟨mj_dk_192, List.forall_mem_cons.mpr ⟨mj_dk_193, List.forall_mem_cons.mpr ⟨mj_dk_194, List.forall_mem_cons.mpr ⟨mj_dk_195, List.forall_mem_cons.mpr ⟨mj_dk_196, List.forall_mem_cons.mpr ⟨mj_dk_197, List.forall_mem_cons.mpr ⟨mj_dk_198, List.forall_mem_cons.mpr ⟨mj_dk_199, List.forall_mem_cons.mpr ⟨mj_dk_200, List.forall_mem_cons.mpr ⟨mj_dk_201, fun _ h => absurd h List.not_mem_nil⟩⟩⟩⟩⟩⟩⟩⟩⟩⟩⟩⟩⟩⟩⟩⟩⟩⟩⟩⟩
theorem mj_d_ok {y : Nat} (hy : y < nL_law) : mj_dP y := by
  have hy : y < 202 := hy
  by_cases h0 : y < 26
  · exact mj_dR_0 y (by
      have k : ∀ z, z < 26 → z + 0 ∈ [0, 1, 2, 3, 4, 5, 6, 7, 8, 9, 10, 11, 12, 13, 14, 15, 16, 17, 18, 19, 20, 21, 22, 23, 24, 25] := by decide
      have := k (y - 0) (by omega)
      rwa [show y - 0 + 0 = y by omega] at this)
  by_cases h26 : y < 52
  · exact mj_dR_26 y (by
      have k : ∀ z, z < 26 → z + 26 ∈ [26, 27, 28, 29, 30, 31, 32, 33, 34, 35, 36, 37, 38, 39, 40, 41, 42, 43, 44, 45, 46, 47, 48, 49, 50, 51] := by decide
      have := k (y - 26) (by omega)
      rwa [show y - 26 + 26 = y by omega] at this)
  by_cases h52 : y < 78
  · exact mj_dR_52 y (by
      have k : ∀ z, z < 26 → z + 52 ∈ [52, 53, 54, 55, 56, 57, 58, 59, 60, 61, 62, 63, 64, 65, 66, 67, 68, 69, 70, 71, 72, 73, 74, 75, 76, 77] := by decide
      have := k (y - 52) (by omega)
      rwa [show y - 52 + 52 = y by omega] at this)
  by_cases h78 : y < 104
  · exact mj_dR_78 y (by
      have k : ∀ z, z < 26 → z + 78 ∈ [78, 79, 80, 81, 82, 83, 84, 85, 86, 87, 88, 89, 90, 91, 92, 93, 94, 95, 96, 97, 98, 99, 100, 101, 102, 103] := by decide
      have := k (y - 78) (by omega)
      rwa [show y - 78 + 78 = y by omega] at this)
  by_cases h104 : y < 130
  · exact mj_dR_104 y (by
      have k : ∀ z, z < 26 → z + 104 ∈ [104, 105, 106, 107, 108, 109, 110, 111, 112, 113, 114, 115, 116, 117, 118, 119, 120, 121, 122, 123, 124, 125, 126, 127, 128, 129] := by decide
      have := k (y - 104) (by omega)
      rwa [show y - 104 + 104 = y by omega] at this)
  by_cases h130 : y < 156
  · exact mj_dR_130 y (by
      have k : ∀ z, z < 26 → z + 130 ∈ [130, 131, 132, 133, 134, 135, 136, 137, 138, 139, 140, 141, 142, 143, 144, 145, 146, 147, 148, 149, 150, 151, 152, 153, 154, 155] := by decide
      have := k (y - 130) (by omega)
      rwa [show y - 130 + 130 = y by omega] at this)
  by_cases h156 : y < 182
  · exact mj_dR_156 y (by
      have k : ∀ z, z < 26 → z + 156 ∈ [156, 157, 158, 159, 160, 161, 162, 163, 164, 165, 166, 167, 168, 169, 170, 171, 172, 173, 174, 175, 176, 177, 178, 179, 180, 181] := by decide
      have := k (y - 156) (by omega)
      rwa [show y - 156 + 156 = y by omega] at this)
  by_cases h182 : y < 202
  · exact mj_dR_182 y (by
      have k : ∀ z, z < 20 → z + 182 ∈ [182, 183, 184, 185, 186, 187, 188, 189, 190, 191, 192, 193, 194, 195, 196, 197, 198, 199, 200, 201] := by decide
      have := k (y - 182) (by omega)
      rwa [show y - 182 + 182 = y by omega] at this)
  omega
