/-! the methods of this claim (printed by program) -/
def tq_0 : tM := (11, yJ6_compare_7cf53, cJ6_compare_7cf53, 2, some .int, [], 2, true, 0, 0)
def tq_1 : tM := (11, yJ6_bitCount_0f7a4, cJ6_bitCount_0f7a4, 1, some .int, [], 1, true, 0, 0)
def tq_2 : tM := (0, yX0_one, cX0_one, 1, some .int, [], 1, true, 0, 0)
def tq_3 : tM := (0, yX0_firstOnes, cX0_firstOnes, 1, some .int, [], 1, true, 0, 0)
def tq_4 : tM := (0, yX0_has, cX0_has, 2, some .boolean, [], 2, true, 1, 0)
def tq_5 : tM := (0, yX0_lowest, cX0_lowest, 2, some .int, [], 1, true, 2, 0)
def tq_6 : tM := (1, yX1_get, cX1_get, 2, some .int, [], 2, true, 0, 0)
def tq_7 : tM := (1, yX1_set, cX1_set, 3, none, [], 3, true, 0, 0)
def tq_8 : tM := (1, yX1_exchange, cX1_exchange, 4, none, [], 3, true, 1, 0)
def tq_9 : tM := (2, yX2_giveNumbers, cX2_giveNumbers, 3, none, [], 2, false, 2, 0)
def tq_10 : tM := (2, yX2_hasEdge, cX2_hasEdge, 3, some .boolean, [], 3, false, 2, 0)
def tq_11 : tM := (2, yX2_isCorner, cX2_isCorner, 5, some .boolean, [], 5, false, 4, 0)
def tq_12 : tM := (3, yX3_after, cX3_after, 4, some .int, [], 3, true, 3, 0)
def tq_13 : tM := (3, yX3_isSide, cX3_isSide, 5, some .boolean, [], 4, true, 2, 0)
def tq_14 : tM := (3, yX3_of, cX3_of, 5, some .int, [], 2, true, 4, 0)
def tq_15 : tM := (4, yX4_leastNumber, cX4_leastNumber, 3, some .long, [], 3, false, 36, 0)
def tq_16 : tM := (4, yX4_bit, cX4_bit, 5, some .int, [], 4, false, 2, 0)
def tq_17 : tM := (4, yX4_count, cX4_count, 1, some .int, [], 1, false, 0, 0)
def tq_18 : tM := (4, yX4_isTooGreat, cX4_isTooGreat, 4, some .boolean, [], 3, false, 0, 0)
def tq_19 : tM := (4, yX4_nameOn, cX4_nameOn, 11, none, [], 4, true, 4, 2)
def tq_20 : tM := (4, yX4_finish, cX4_finish, 10, none, [], 2, false, 3, 0)
def tq_21 : tM := (5, yX5_index, cX5_index, 4, some .int, [], 2, true, 0, 0)
def tq_22 : tM := (5, yX5_bit, cX5_bit, 2, some .int, [], 2, true, 1, 0)
def tq_23 : tM := (5, yX5_read, cX5_read, 6, none, [], 2, false, 4, 0)
def tq_24 : tM := (5, yX5_note, cX5_note, 8, none, [], 6, false, 3, 0)
def tq_25 : tM := (5, yX5_crossesNone, cX5_crossesNone, 4, some .boolean, [], 4, false, 1, 0)
def tq_26 : tM := (5, yX5_pairsCrossing, cX5_pairsCrossing, 3, some .int, [], 1, false, 1, 0)
def tq_27 : tM := (5, yX5_waysToMatch, cX5_waysToMatch, 8, some .int, [], 4, true, 3, 4)
def tq_28 : tM := (5, yX5_waysToWalk, cX5_waysToWalk, 7, some .int, [], 5, true, 2, 5)
def tq_29 : tM := (5, yX5_firstTriangulation, cX5_firstTriangulation, 4, some .int, [], 1, false, 2, 0)
def tq_30 : tM := (5, yX5_waysToFill, cX5_waysToFill, 8, some .int, [], 4, true, 1, 2)
def tq_31 : tM := (6, yX6_takes, cX6_takes, 5, some .boolean, [], 3, false, 3, 0)
def tq_32 : tM := (6, yX6_put, cX6_put, 3, none, [], 3, false, 1, 0)
def tq_33 : tM := (6, yX6_xOf, cX6_xOf, 2, some .int, [], 2, false, 1, 0)
def tq_34 : tM := (6, yX6_yOf, cX6_yOf, 2, some .int, [], 2, false, 1, 0)
def tq_35 : tM := (6, yX6_turn, cX6_turn, 6, some .int, [], 5, false, 2, 0)
def tq_36 : tM := (6, yX6_turnOf, cX6_turnOf, 4, some .int, [], 4, false, 3, 0)
def tq_37 : tM := (6, yX6_tell, cX6_tell, 5, none, [], 2, false, 4, 0)
def tq_38 : tM := (6, yX6_turnsAs, cX6_turnsAs, 5, some .boolean, [], 2, false, 4, 0)
def tq_39 : tM := (7, yX7_of, cX7_of, 4, some .int, [], 4, false, 1, 0)
def tq_40 : tM := (7, yX7_cell, cX7_cell, 3, some .int, [], 3, true, 0, 0)
def tq_41 : tM := (7, yX7_put, cX7_put, 5, none, [], 5, false, 1, 0)
def tq_42 : tM := (7, yX7_take, cX7_take, 6, none, [], 3, false, 2, 0)
def tq_43 : tM := (7, yX7_takeWithOneMore, cX7_takeWithOneMore, 4, none, [], 2, false, 3, 0)
def tq_44 : tM := (7, yX7_exchange, cX7_exchange, 6, none, [], 3, false, 2, 0)
def tq_45 : tM := (7, yX7_turnOver, cX7_turnOver, 5, some .boolean, [], 4, false, 5, 0)
def tq_46 : tM := (7, yX7_fits, cX7_fits, 6, some .boolean, [], 4, false, 4, 0)
def tq_47 : tM := (7, yX7_fourHold, cX7_fourHold, 6, some .boolean, [], 5, false, 2, 0)
def tq_48 : tM := (7, yX7_fiveHoldAround, cX7_fiveHoldAround, 6, some .boolean, [], 6, false, 3, 0)
def tq_49 : tM := (7, yX7_fiveHold, cX7_fiveHold, 7, some .boolean, [], 6, false, 2, 0)
def tq_50 : tM := (7, yX7_waysToSign, cX7_waysToSign, 9, some .int, [], 4, true, 5, 4)
def tq_51 : tM := (7, yX7_crosses, cX7_crosses, 5, some .boolean, [], 5, false, 2, 0)
def tq_52 : tM := (7, yX7_noneWithin, cX7_noneWithin, 5, some .boolean, [], 4, false, 3, 0)
def tq_53 : tM := (7, yX7_isWithin, cX7_isWithin, 6, some .boolean, [], 5, false, 2, 0)
def tq_54 : tM := (7, yX7_lesserSide, cX7_lesserSide, 5, some .int, [], 3, false, 2, 0)
def tq_55 : tM := (8, yX8_put, cX8_put, 2, none, [], 2, false, 1, 0)
def tq_56 : tM := (8, yX8_wrongAt, cX8_wrongAt, 4, some .int, [], 2, false, 3, 0)
def tq_57 : tM := (8, yX8_startLines, cX8_startLines, 2, none, [], 1, false, 0, 0)
def tq_58 : tM := (8, yX8_pairAt, cX8_pairAt, 4, some .int, [], 2, false, 1, 0)
def tq_59 : tM := (8, yX8_pair, cX8_pair, 2, some .int, [], 2, true, 0, 0)
def tq_60 : tM := (8, yX8_crossingOf, cX8_crossingOf, 2, some .int, [], 2, false, 2, 0)
def tq_61 : tM := (8, yX8_tell, cX8_tell, 8, none, [], 3, false, 2, 0)
def tq_62 : tM := (9, yX9_place, cX9_place, 3, some .int, [], 3, false, 4, 0)
def tq_63 : tM := (9, yX9_clear, cX9_clear, 2, some .int, [], 1, false, 0, 0)
def tq_64 : tM := (9, yX9_letter, cX9_letter, 2, some .int, [], 2, false, 2, 0)
def tq_65 : tM := (9, yX9_wipe, cX9_wipe, 2, some .int, [], 1, false, 0, 0)
def tq_66 : tM := (9, yX9_fault, cX9_fault, 2, some .int, [], 2, false, 4, 0)
def tq_67 : tM := (9, yX9_checkLines, cX9_checkLines, 1, none, [], 1, true, 0, 0)
def tq_68 : tM := (9, yX9_draw, cX9_draw, 2, some .int, [], 1, false, 5, 0)
def tq_69 : tM := (9, yX9_wire, cX9_wire, 3, some .int, [], 2, false, 4, 0)
def tq_70 : tM := (9, yX9_copy, cX9_copy, 5, some .int, [], 3, false, 3, 0)
def tq_71 : tM := (9, yX9_flip, cX9_flip, 6, some .boolean, [], 5, false, 6, 0)
def tq_72 : tM := (9, yX9_rename, cX9_rename, 5, none, [], 4, false, 3, 0)
def tq_73 : tM := (9, yX9_realize, cX9_realize, 3, some .boolean, [], 2, false, 5, 0)
def tq_74 : tM := (9, yX9_slot, cX9_slot, 2, some (.object "TurnsHall$Drawing"), [], 2, false, 0, 0)
def tq_75 : tM := (9, yX9_known, cX9_known, 3, some (.object "TurnsHall$Drawing"), [], 2, false, 1, 0)
def tq_76 : tM := (9, yX9_checkPoint, cX9_checkPoint, 2, none, [], 2, true, 0, 0)
def tq_77 : tM := (9, yX9_unused, cX9_unused, 2, some (.object "TurnsHall$Drawing"), [], 1, false, 1, 0)
def tq_78 : tM := (9, yX9_finished, cX9_finished, 1, some .int, [], 1, false, 0, 0)
def tq_79 : tM := (9, yX9_drawings, cX9_drawings, 1, some .int, [], 1, false, 0, 0)
def tq_80 : tM := (9, yX9_points, cX9_points, 2, some .int, [], 2, false, 2, 0)
def tq_81 : tM := (9, yX9_hasNumbers, cX9_hasNumbers, 2, some .boolean, [], 2, false, 2, 0)
def tq_82 : tM := (9, yX9_number, cX9_number, 5, some .int, [], 4, false, 2, 0)
def tq_83 : tM := (9, yX9_sign, cX9_sign, 6, some .int, [], 5, false, 2, 0)
def tq_84 : tM := (9, yX9_flips, cX9_flips, 7, some .int, [], 2, false, 6, 0)
def tq_85 : tM := (9, yX9_hull, cX9_hull, 8, some .int, [], 3, false, 5, 0)
def tq_86 : tM := (9, yX9_layer, cX9_layer, 8, some .int, [], 3, false, 5, 0)
def tq_87 : tM := (9, yX9_cross, cX9_cross, 7, some .boolean, [], 6, false, 3, 0)
def tq_88 : tM := (9, yX9_crossings, cX9_crossings, 2, some .int, [], 2, false, 5, 0)
def tq_89 : tM := (9, yX9_empties, cX9_empties, 7, some .int, [], 2, false, 4, 0)
def tq_90 : tM := (9, yX9_level, cX9_level, 7, some .int, [], 3, false, 3, 0)
def tq_91 : tM := (9, yX9_matchings, cX9_matchings, 4, some .int, [], 3, false, 35, 0)
def tq_92 : tM := (9, yX9_paths, cX9_paths, 6, some .int, [], 2, false, 34, 0)
def tq_93 : tM := (9, yX9_extensions, cX9_extensions, 3, some .int, [], 2, false, 37, 0)
def tq_94 : tM := (9, yX9_canonical, cX9_canonical, 3, some .long, [], 3, false, 37, 0)
def tq_95 : tM := (9, yX9_triangulate, cX9_triangulate, 3, some .int, [], 2, false, 5, 0)
def tq_96 : tM := (9, yX9_flipEdge, cX9_flipEdge, 7, some .int, [], 4, false, 5, 0)
def tq_97 : tM := (9, yX9_edge, cX9_edge, 5, some .boolean, [], 4, false, 3, 0)
def tq_98 : tM := (9, yX9_triangulations, cX9_triangulations, 3, some .int, [], 2, false, 33, 0)
def tq_99 : tM := (10, yX10_thrown, cX10_thrown, 1, some .int, [], 1, false, 0, 0)
def tq_100 : tM := (10, yX10_isIn, cX10_isIn, 3, some .boolean, [], 3, true, 0, 0)
def tq_101 : tM := (10, yX10_isDrawing, cX10_isDrawing, 2, some .boolean, [], 2, false, 1, 0)
def tq_102 : tM := (10, yX10_isPoint, cX10_isPoint, 3, some .boolean, [], 3, false, 1, 0)
def tq_103 : tM := (10, yX10_at, cX10_at, 4, some .int, [], 4, true, 0, 0)
def tq_104 : tM := (10, yX10_signOf, cX10_signOf, 5, some .int, [], 5, false, 1, 0)
def tq_105 : tM := (10, yX10_sets, cX10_sets, 6, none, [], 6, false, 1, 0)
def tq_106 : tM := (10, yX10_areSame, cX10_areSame, 3, some .boolean, [], 3, true, 0, 0)
def tq_107 : tM := (10, yX10_holdsFour, cX10_holdsFour, 7, some .boolean, [], 6, false, 2, 0)
def tq_108 : tM := (10, yX10_holdsFive, cX10_holdsFive, 10, some .boolean, [], 7, false, 2, 0)
def tq_109 : tM := (10, yX10_holdsAbout, cX10_holdsAbout, 9, some .boolean, [], 6, false, 3, 0)
def tq_110 : tM := (10, yX10_hold, cX10_hold, 8, some .boolean, [], 2, false, 4, 0)
def tq_111 : tM := (10, yX10_turn, cX10_turn, 6, some .int, [], 4, true, 0, 0)
def tq_112 : tM := (10, yX10_shelfSign, cX10_shelfSign, 4, some .int, [], 4, false, 1, 0)
def tq_113 : tM := (10, yX10_isFree, cX10_isFree, 6, some .boolean, [], 3, false, 1, 0)
def tq_114 : tM := (10, yX10_place, cX10_place, 3, some .int, [], 3, false, 2, 0)
def tq_115 : tM := (10, yX10_clear, cX10_clear, 2, some .int, [], 1, false, 0, 0)
def tq_116 : tM := (10, yX10_letter, cX10_letter, 2, some .int, [], 2, false, 1, 0)
def tq_117 : tM := (10, yX10_wipe, cX10_wipe, 2, some .int, [], 1, false, 0, 0)
def tq_118 : tM := (10, yX10_faultOf, cX10_faultOf, 7, some .int, [], 2, false, 0, 0)
def tq_119 : tM := (10, yX10_fault, cX10_fault, 2, some .int, [], 2, false, 1, 0)
def tq_120 : tM := (10, yX10_adds, cX10_adds, 3, some .int, [], 2, false, 0, 0)
def tq_121 : tM := (10, yX10_numbers, cX10_numbers, 3, none, [], 2, false, 0, 0)
def tq_122 : tM := (10, yX10_draw, cX10_draw, 5, some .int, [], 1, false, 2, 0)
def tq_123 : tM := (10, yX10_wire, cX10_wire, 6, some .int, [], 2, false, 2, 0)
def tq_124 : tM := (10, yX10_copy, cX10_copy, 5, some .int, [], 3, false, 2, 0)
def tq_125 : tM := (10, yX10_flipped, cX10_flipped, 7, some .boolean, [], 5, false, 5, 0)
def tq_126 : tM := (10, yX10_flip, cX10_flip, 6, some .boolean, [], 5, false, 6, 0)
def tq_127 : tM := (10, yX10_other, cX10_other, 3, some .int, [], 3, true, 0, 0)
def tq_128 : tM := (10, yX10_rename, cX10_rename, 8, none, [], 4, false, 2, 0)
def tq_129 : tM := (10, yX10_realize, cX10_realize, 5, some .boolean, [], 2, false, 2, 0)
def tq_130 : tM := (10, yX10_drawings, cX10_drawings, 1, some .int, [], 1, false, 0, 0)
def tq_131 : tM := (10, yX10_points, cX10_points, 2, some .int, [], 2, false, 2, 0)
def tq_132 : tM := (10, yX10_hasNumbers, cX10_hasNumbers, 2, some .boolean, [], 2, false, 2, 0)
def tq_133 : tM := (10, yX10_number, cX10_number, 5, some .int, [], 4, false, 2, 0)
def tq_134 : tM := (10, yX10_sign, cX10_sign, 6, some .int, [], 5, false, 2, 0)
def tq_135 : tM := (10, yX10_flips, cX10_flips, 6, some .int, [], 2, false, 6, 0)
def tq_136 : tM := (10, yX10_follows, cX10_follows, 8, some .int, [], 4, false, 2, 0)
def tq_137 : tM := (10, yX10_hullOf, cX10_hullOf, 5, some .int, [], 3, false, 3, 0)
def tq_138 : tM := (10, yX10_bits, cX10_bits, 3, some .int, [], 1, true, 0, 0)
def tq_139 : tM := (10, yX10_all, cX10_all, 2, some .int, [], 2, false, 0, 0)
def tq_140 : tM := (10, yX10_hull, cX10_hull, 6, some .int, [], 3, false, 4, 0)
def tq_141 : tM := (10, yX10_layer, cX10_layer, 6, some .int, [], 3, false, 4, 0)
def tq_142 : tM := (10, yX10_crosses, cX10_crosses, 7, some .boolean, [], 6, false, 2, 0)
def tq_143 : tM := (10, yX10_cross, cX10_cross, 8, some .boolean, [], 6, false, 3, 0)
def tq_144 : tM := (10, yX10_segments, cX10_segments, 5, some .int, [], 2, false, 3, 0)
def tq_145 : tM := (10, yX10_crossings, cX10_crossings, 8, some .int, [], 2, false, 3, 0)
def tq_146 : tM := (10, yX10_isEmpty, cX10_isEmpty, 8, some .boolean, [], 5, false, 2, 0)
def tq_147 : tM := (10, yX10_empties, cX10_empties, 7, some .int, [], 2, false, 3, 0)
def tq_148 : tM := (10, yX10_levelOf, cX10_levelOf, 7, some .int, [], 4, false, 2, 0)
def tq_149 : tM := (10, yX10_level, cX10_level, 7, some .int, [], 3, false, 3, 0)
def tq_150 : tM := (10, yX10_takes, cX10_takes, 4, some .int, [], 2, false, 0, 0)
def tq_151 : tM := (10, yX10_leaves, cX10_leaves, 3, none, [], 2, false, 0, 0)
def tq_152 : tM := (10, yX10_crossesAhead, cX10_crossesAhead, 5, some .boolean, [], 3, false, 3, 0)
def tq_153 : tM := (10, yX10_isPlaneMatching, cX10_isPlaneMatching, 9, some .boolean, [], 4, false, 4, 0)
def tq_154 : tM := (10, yX10_matchings, cX10_matchings, 7, some .int, [], 3, false, 5, 0)
def tq_155 : tM := (10, yX10_factorial, cX10_factorial, 3, some .int, [], 1, true, 0, 0)
def tq_156 : tM := (10, yX10_orders, cX10_orders, 6, none, [], 3, false, 1, 0)
def tq_157 : tM := (10, yX10_isPlanePath, cX10_isPlanePath, 4, some .boolean, [], 2, false, 4, 0)
def tq_158 : tM := (10, yX10_paths, cX10_paths, 5, some .int, [], 2, false, 5, 0)
def tq_159 : tM := (10, yX10_extensions, cX10_extensions, 9, some .int, [], 2, false, 5, 0)
def tq_160 : tM := (10, yX10_numberOfOrder, cX10_numberOfOrder, 8, some .long, [], 3, false, 2, 0)
def tq_161 : tM := (10, yX10_canonical, cX10_canonical, 9, some .long, [], 3, false, 3, 0)
def tq_162 : tM := (10, yX10_hasEdge, cX10_hasEdge, 4, some .boolean, [], 4, false, 0, 0)
def tq_163 : tM := (10, yX10_setEdge, cX10_setEdge, 5, none, [], 5, false, 0, 0)
def tq_164 : tM := (10, yX10_crossesEdge, cX10_crossesEdge, 7, some .boolean, [], 4, false, 3, 0)
def tq_165 : tM := (10, yX10_triangulate, cX10_triangulate, 5, some .int, [], 2, false, 4, 0)
def tq_166 : tM := (10, yX10_beyond, cX10_beyond, 7, some .int, [], 5, false, 3, 0)
def tq_167 : tM := (10, yX10_canFlipEdge, cX10_canFlipEdge, 6, some .boolean, [], 4, false, 4, 0)
def tq_168 : tM := (10, yX10_flipEdge, cX10_flipEdge, 7, some .int, [], 4, false, 5, 0)
def tq_169 : tM := (10, yX10_edge, cX10_edge, 5, some .boolean, [], 4, false, 2, 0)
def tq_170 : tM := (10, yX10_isWhole, cX10_isWhole, 5, some .boolean, [], 3, false, 0, 0)
def tq_171 : tM := (10, yX10_triangulations, cX10_triangulations, 6, some .int, [], 2, false, 4, 0)
def tq_172 : tM := (13, yL_place, cL_place, 5, some .int, [(0, 10, 13, 13), (0, 10, 17, 15)], 4, true, 5, 0)
def tq_173 : tM := (13, yL_letter, cL_letter, 4, some .int, [(0, 9, 12, 13), (0, 9, 15, 15)], 3, true, 3, 0)
def tq_174 : tM := (13, yL_fault, cL_fault, 4, some .int, [(0, 9, 12, 13)], 3, true, 5, 0)
def tq_175 : tM := (13, yL_draw, cL_draw, 3, some .int, [(0, 8, 11, 15)], 2, true, 6, 0)
def tq_176 : tM := (13, yL_wire, cL_wire, 4, some .int, [(0, 9, 12, 13), (0, 9, 15, 15)], 3, true, 5, 0)
def tq_177 : tM := (13, yL_copy, cL_copy, 5, some .int, [(0, 10, 13, 35), (0, 10, 17, 15)], 4, true, 4, 0)
def tq_178 : tM := (13, yL_flip, cL_flip, 7, some .int, [(0, 21, 24, 35), (0, 21, 28, 13)], 6, true, 7, 0)
def tq_179 : tM := (13, yL_rename, cL_rename, 5, some .int, [(0, 7, 10, 35), (0, 7, 14, 13)], 4, true, 4, 0)
def tq_180 : tM := (13, yL_realize, cL_realize, 4, some .int, [(0, 16, 19, 35)], 3, true, 6, 0)
def tq_181 : tM := (13, yL_points, cL_points, 4, some .int, [(0, 9, 12, 35)], 3, true, 3, 0)
def tq_182 : tM := (13, yL_hasNumbers, cL_hasNumbers, 4, some .int, [(0, 16, 19, 35)], 3, true, 3, 0)
def tq_183 : tM := (13, yL_number, cL_number, 6, some .int, [(0, 12, 15, 35), (0, 12, 19, 15)], 5, true, 3, 0)
def tq_184 : tM := (13, yL_sign, cL_sign, 7, some .int, [(0, 14, 17, 35)], 6, true, 3, 0)
def tq_185 : tM := (13, yL_flips, cL_flips, 4, some .int, [(0, 9, 12, 35)], 3, true, 7, 0)
def tq_186 : tM := (13, yL_hull, cL_hull, 5, some .int, [(0, 10, 13, 35)], 4, true, 6, 0)
def tq_187 : tM := (13, yL_layer, cL_layer, 5, some .int, [(0, 10, 13, 35)], 4, true, 6, 0)
def tq_188 : tM := (13, yL_cross, cL_cross, 8, some .int, [(0, 23, 26, 35), (0, 23, 30, 13)], 7, true, 4, 0)
def tq_189 : tM := (13, yL_crossings, cL_crossings, 4, some .int, [(0, 9, 12, 35)], 3, true, 6, 0)
def tq_190 : tM := (13, yL_empties, cL_empties, 4, some .int, [(0, 9, 12, 35)], 3, true, 5, 0)
def tq_191 : tM := (13, yL_level, cL_level, 5, some .int, [(0, 10, 13, 35), (0, 10, 17, 13)], 4, true, 4, 0)
def tq_192 : tM := (13, yL_matchings, cL_matchings, 5, some .int, [(0, 10, 13, 35), (0, 10, 17, 13)], 4, true, 36, 0)
def tq_193 : tM := (13, yL_paths, cL_paths, 4, some .int, [(0, 9, 12, 35)], 3, true, 35, 0)
def tq_194 : tM := (13, yL_extensions, cL_extensions, 4, some .int, [(0, 9, 12, 35), (0, 9, 15, 15)], 3, true, 38, 0)
def tq_195 : tM := (13, yL_canonical, cL_canonical, 5, some .int, [(0, 9, 12, 35)], 4, true, 38, 0)
def tq_196 : tM := (13, yL_triangulate, cL_triangulate, 4, some .int, [(0, 9, 12, 35)], 3, true, 6, 0)
def tq_197 : tM := (13, yL_flipEdge, cL_flipEdge, 6, some .int, [(0, 12, 15, 35), (0, 12, 19, 15)], 5, true, 6, 0)
def tq_198 : tM := (13, yL_edge, cL_edge, 6, some .int, [(0, 19, 22, 35)], 5, true, 4, 0)
def tq_199 : tM := (13, yL_triangulations, cL_triangulations, 4, some .int, [(0, 9, 12, 35), (0, 9, 15, 15)], 3, true, 34, 0)
def tq_200 : tM := (13, x, code, 8, some .boolean, [], 1, true, 39, 0)
def t_M : List tM := [tq_0, tq_1, tq_2, tq_3, tq_4, tq_5, tq_6, tq_7, tq_8, tq_9, tq_10, tq_11, tq_12, tq_13, tq_14, tq_15, tq_16, tq_17, tq_18, tq_19, tq_20, tq_21, tq_22, tq_23, tq_24, tq_25, tq_26, tq_27, tq_28, tq_29, tq_30, tq_31, tq_32, tq_33, tq_34, tq_35, tq_36, tq_37, tq_38, tq_39, tq_40, tq_41, tq_42, tq_43, tq_44, tq_45, tq_46, tq_47, tq_48, tq_49, tq_50, tq_51, tq_52, tq_53, tq_54, tq_55, tq_56, tq_57, tq_58, tq_59, tq_60, tq_61, tq_62, tq_63, tq_64, tq_65, tq_66, tq_67, tq_68, tq_69, tq_70, tq_71, tq_72, tq_73, tq_74, tq_75, tq_76, tq_77, tq_78, tq_79, tq_80, tq_81, tq_82, tq_83, tq_84, tq_85, tq_86, tq_87, tq_88, tq_89, tq_90, tq_91, tq_92, tq_93, tq_94, tq_95, tq_96, tq_97, tq_98, tq_99, tq_100, tq_101, tq_102, tq_103, tq_104, tq_105, tq_106, tq_107, tq_108, tq_109, tq_110, tq_111, tq_112, tq_113, tq_114, tq_115, tq_116, tq_117, tq_118, tq_119, tq_120, tq_121, tq_122, tq_123, tq_124, tq_125, tq_126, tq_127, tq_128, tq_129, tq_130, tq_131, tq_132, tq_133, tq_134, tq_135, tq_136, tq_137, tq_138, tq_139, tq_140, tq_141, tq_142, tq_143, tq_144, tq_145, tq_146, tq_147, tq_148, tq_149, tq_150, tq_151, tq_152, tq_153, tq_154, tq_155, tq_156, tq_157, tq_158, tq_159, tq_160, tq_161, tq_162, tq_163, tq_164, tq_165, tq_166, tq_167, tq_168, tq_169, tq_170, tq_171, tq_172, tq_173, tq_174, tq_175, tq_176, tq_177, tq_178, tq_179, tq_180, tq_181, tq_182, tq_183, tq_184, tq_185, tq_186, tq_187, tq_188, tq_189, tq_190, tq_191, tq_192, tq_193, tq_194, tq_195, tq_196, tq_197, tq_198, tq_199, tq_200]
theorem ta_0 : t_M[0]? = some tq_0 := rfl
theorem ta_1 : t_M[1]? = some tq_1 := rfl
theorem ta_2 : t_M[2]? = some tq_2 := rfl
theorem ta_3 : t_M[3]? = some tq_3 := rfl
theorem ta_4 : t_M[4]? = some tq_4 := rfl
theorem ta_5 : t_M[5]? = some tq_5 := rfl
theorem ta_6 : t_M[6]? = some tq_6 := rfl
theorem ta_7 : t_M[7]? = some tq_7 := rfl
theorem ta_8 : t_M[8]? = some tq_8 := rfl
theorem ta_9 : t_M[9]? = some tq_9 := rfl
theorem ta_10 : t_M[10]? = some tq_10 := rfl
theorem ta_11 : t_M[11]? = some tq_11 := rfl
theorem ta_12 : t_M[12]? = some tq_12 := rfl
theorem ta_13 : t_M[13]? = some tq_13 := rfl
theorem ta_14 : t_M[14]? = some tq_14 := rfl
theorem ta_15 : t_M[15]? = some tq_15 := rfl
theorem ta_16 : t_M[16]? = some tq_16 := rfl
theorem ta_17 : t_M[17]? = some tq_17 := rfl
theorem ta_18 : t_M[18]? = some tq_18 := rfl
theorem ta_19 : t_M[19]? = some tq_19 := rfl
theorem ta_20 : t_M[20]? = some tq_20 := rfl
theorem ta_21 : t_M[21]? = some tq_21 := rfl
theorem ta_22 : t_M[22]? = some tq_22 := rfl
theorem ta_23 : t_M[23]? = some tq_23 := rfl
theorem ta_24 : t_M[24]? = some tq_24 := rfl
theorem ta_25 : t_M[25]? = some tq_25 := rfl
theorem ta_26 : t_M[26]? = some tq_26 := rfl
theorem ta_27 : t_M[27]? = some tq_27 := rfl
theorem ta_28 : t_M[28]? = some tq_28 := rfl
theorem ta_29 : t_M[29]? = some tq_29 := rfl
theorem ta_30 : t_M[30]? = some tq_30 := rfl
theorem ta_31 : t_M[31]? = some tq_31 := rfl
theorem ta_32 : t_M[32]? = some tq_32 := rfl
theorem ta_33 : t_M[33]? = some tq_33 := rfl
theorem ta_34 : t_M[34]? = some tq_34 := rfl
theorem ta_35 : t_M[35]? = some tq_35 := rfl
theorem ta_36 : t_M[36]? = some tq_36 := rfl
theorem ta_37 : t_M[37]? = some tq_37 := rfl
theorem ta_38 : t_M[38]? = some tq_38 := rfl
theorem ta_39 : t_M[39]? = some tq_39 := rfl
theorem ta_40 : t_M[40]? = some tq_40 := rfl
theorem ta_41 : t_M[41]? = some tq_41 := rfl
theorem ta_42 : t_M[42]? = some tq_42 := rfl
theorem ta_43 : t_M[43]? = some tq_43 := rfl
theorem ta_44 : t_M[44]? = some tq_44 := rfl
theorem ta_45 : t_M[45]? = some tq_45 := rfl
theorem ta_46 : t_M[46]? = some tq_46 := rfl
theorem ta_47 : t_M[47]? = some tq_47 := rfl
theorem ta_48 : t_M[48]? = some tq_48 := rfl
theorem ta_49 : t_M[49]? = some tq_49 := rfl
theorem ta_50 : t_M[50]? = some tq_50 := rfl
theorem ta_51 : t_M[51]? = some tq_51 := rfl
theorem ta_52 : t_M[52]? = some tq_52 := rfl
theorem ta_53 : t_M[53]? = some tq_53 := rfl
theorem ta_54 : t_M[54]? = some tq_54 := rfl
theorem ta_55 : t_M[55]? = some tq_55 := rfl
theorem ta_56 : t_M[56]? = some tq_56 := rfl
theorem ta_57 : t_M[57]? = some tq_57 := rfl
theorem ta_58 : t_M[58]? = some tq_58 := rfl
theorem ta_59 : t_M[59]? = some tq_59 := rfl
theorem ta_60 : t_M[60]? = some tq_60 := rfl
theorem ta_61 : t_M[61]? = some tq_61 := rfl
theorem ta_62 : t_M[62]? = some tq_62 := rfl
theorem ta_63 : t_M[63]? = some tq_63 := rfl
theorem ta_64 : t_M[64]? = some tq_64 := rfl
theorem ta_65 : t_M[65]? = some tq_65 := rfl
theorem ta_66 : t_M[66]? = some tq_66 := rfl
theorem ta_67 : t_M[67]? = some tq_67 := rfl
theorem ta_68 : t_M[68]? = some tq_68 := rfl
theorem ta_69 : t_M[69]? = some tq_69 := rfl
theorem ta_70 : t_M[70]? = some tq_70 := rfl
theorem ta_71 : t_M[71]? = some tq_71 := rfl
theorem ta_72 : t_M[72]? = some tq_72 := rfl
theorem ta_73 : t_M[73]? = some tq_73 := rfl
theorem ta_74 : t_M[74]? = some tq_74 := rfl
theorem ta_75 : t_M[75]? = some tq_75 := rfl
theorem ta_76 : t_M[76]? = some tq_76 := rfl
theorem ta_77 : t_M[77]? = some tq_77 := rfl
theorem ta_78 : t_M[78]? = some tq_78 := rfl
theorem ta_79 : t_M[79]? = some tq_79 := rfl
theorem ta_80 : t_M[80]? = some tq_80 := rfl
theorem ta_81 : t_M[81]? = some tq_81 := rfl
theorem ta_82 : t_M[82]? = some tq_82 := rfl
theorem ta_83 : t_M[83]? = some tq_83 := rfl
theorem ta_84 : t_M[84]? = some tq_84 := rfl
theorem ta_85 : t_M[85]? = some tq_85 := rfl
theorem ta_86 : t_M[86]? = some tq_86 := rfl
theorem ta_87 : t_M[87]? = some tq_87 := rfl
theorem ta_88 : t_M[88]? = some tq_88 := rfl
theorem ta_89 : t_M[89]? = some tq_89 := rfl
theorem ta_90 : t_M[90]? = some tq_90 := rfl
theorem ta_91 : t_M[91]? = some tq_91 := rfl
theorem ta_92 : t_M[92]? = some tq_92 := rfl
theorem ta_93 : t_M[93]? = some tq_93 := rfl
theorem ta_94 : t_M[94]? = some tq_94 := rfl
theorem ta_95 : t_M[95]? = some tq_95 := rfl
theorem ta_96 : t_M[96]? = some tq_96 := rfl
theorem ta_97 : t_M[97]? = some tq_97 := rfl
theorem ta_98 : t_M[98]? = some tq_98 := rfl
theorem ta_99 : t_M[99]? = some tq_99 := rfl
theorem ta_100 : t_M[100]? = some tq_100 := rfl
theorem ta_101 : t_M[101]? = some tq_101 := rfl
theorem ta_102 : t_M[102]? = some tq_102 := rfl
theorem ta_103 : t_M[103]? = some tq_103 := rfl
theorem ta_104 : t_M[104]? = some tq_104 := rfl
theorem ta_105 : t_M[105]? = some tq_105 := rfl
theorem ta_106 : t_M[106]? = some tq_106 := rfl
theorem ta_107 : t_M[107]? = some tq_107 := rfl
theorem ta_108 : t_M[108]? = some tq_108 := rfl
theorem ta_109 : t_M[109]? = some tq_109 := rfl
theorem ta_110 : t_M[110]? = some tq_110 := rfl
theorem ta_111 : t_M[111]? = some tq_111 := rfl
theorem ta_112 : t_M[112]? = some tq_112 := rfl
theorem ta_113 : t_M[113]? = some tq_113 := rfl
theorem ta_114 : t_M[114]? = some tq_114 := rfl
theorem ta_115 : t_M[115]? = some tq_115 := rfl
theorem ta_116 : t_M[116]? = some tq_116 := rfl
theorem ta_117 : t_M[117]? = some tq_117 := rfl
theorem ta_118 : t_M[118]? = some tq_118 := rfl
theorem ta_119 : t_M[119]? = some tq_119 := rfl
theorem ta_120 : t_M[120]? = some tq_120 := rfl
theorem ta_121 : t_M[121]? = some tq_121 := rfl
theorem ta_122 : t_M[122]? = some tq_122 := rfl
theorem ta_123 : t_M[123]? = some tq_123 := rfl
theorem ta_124 : t_M[124]? = some tq_124 := rfl
theorem ta_125 : t_M[125]? = some tq_125 := rfl
theorem ta_126 : t_M[126]? = some tq_126 := rfl
theorem ta_127 : t_M[127]? = some tq_127 := rfl
theorem ta_128 : t_M[128]? = some tq_128 := rfl
theorem ta_129 : t_M[129]? = some tq_129 := rfl
theorem ta_130 : t_M[130]? = some tq_130 := rfl
theorem ta_131 : t_M[131]? = some tq_131 := rfl
theorem ta_132 : t_M[132]? = some tq_132 := rfl
theorem ta_133 : t_M[133]? = some tq_133 := rfl
theorem ta_134 : t_M[134]? = some tq_134 := rfl
theorem ta_135 : t_M[135]? = some tq_135 := rfl
theorem ta_136 : t_M[136]? = some tq_136 := rfl
theorem ta_137 : t_M[137]? = some tq_137 := rfl
theorem ta_138 : t_M[138]? = some tq_138 := rfl
theorem ta_139 : t_M[139]? = some tq_139 := rfl
theorem ta_140 : t_M[140]? = some tq_140 := rfl
theorem ta_141 : t_M[141]? = some tq_141 := rfl
theorem ta_142 : t_M[142]? = some tq_142 := rfl
theorem ta_143 : t_M[143]? = some tq_143 := rfl
theorem ta_144 : t_M[144]? = some tq_144 := rfl
theorem ta_145 : t_M[145]? = some tq_145 := rfl
theorem ta_146 : t_M[146]? = some tq_146 := rfl
theorem ta_147 : t_M[147]? = some tq_147 := rfl
theorem ta_148 : t_M[148]? = some tq_148 := rfl
theorem ta_149 : t_M[149]? = some tq_149 := rfl
theorem ta_150 : t_M[150]? = some tq_150 := rfl
theorem ta_151 : t_M[151]? = some tq_151 := rfl
theorem ta_152 : t_M[152]? = some tq_152 := rfl
theorem ta_153 : t_M[153]? = some tq_153 := rfl
theorem ta_154 : t_M[154]? = some tq_154 := rfl
theorem ta_155 : t_M[155]? = some tq_155 := rfl
theorem ta_156 : t_M[156]? = some tq_156 := rfl
theorem ta_157 : t_M[157]? = some tq_157 := rfl
theorem ta_158 : t_M[158]? = some tq_158 := rfl
theorem ta_159 : t_M[159]? = some tq_159 := rfl
theorem ta_160 : t_M[160]? = some tq_160 := rfl
theorem ta_161 : t_M[161]? = some tq_161 := rfl
theorem ta_162 : t_M[162]? = some tq_162 := rfl
theorem ta_163 : t_M[163]? = some tq_163 := rfl
theorem ta_164 : t_M[164]? = some tq_164 := rfl
theorem ta_165 : t_M[165]? = some tq_165 := rfl
theorem ta_166 : t_M[166]? = some tq_166 := rfl
theorem ta_167 : t_M[167]? = some tq_167 := rfl
theorem ta_168 : t_M[168]? = some tq_168 := rfl
theorem ta_169 : t_M[169]? = some tq_169 := rfl
theorem ta_170 : t_M[170]? = some tq_170 := rfl
theorem ta_171 : t_M[171]? = some tq_171 := rfl
theorem ta_172 : t_M[172]? = some tq_172 := rfl
theorem ta_173 : t_M[173]? = some tq_173 := rfl
theorem ta_174 : t_M[174]? = some tq_174 := rfl
theorem ta_175 : t_M[175]? = some tq_175 := rfl
theorem ta_176 : t_M[176]? = some tq_176 := rfl
theorem ta_177 : t_M[177]? = some tq_177 := rfl
theorem ta_178 : t_M[178]? = some tq_178 := rfl
theorem ta_179 : t_M[179]? = some tq_179 := rfl
theorem ta_180 : t_M[180]? = some tq_180 := rfl
theorem ta_181 : t_M[181]? = some tq_181 := rfl
theorem ta_182 : t_M[182]? = some tq_182 := rfl
theorem ta_183 : t_M[183]? = some tq_183 := rfl
theorem ta_184 : t_M[184]? = some tq_184 := rfl
theorem ta_185 : t_M[185]? = some tq_185 := rfl
theorem ta_186 : t_M[186]? = some tq_186 := rfl
theorem ta_187 : t_M[187]? = some tq_187 := rfl
theorem ta_188 : t_M[188]? = some tq_188 := rfl
theorem ta_189 : t_M[189]? = some tq_189 := rfl
theorem ta_190 : t_M[190]? = some tq_190 := rfl
theorem ta_191 : t_M[191]? = some tq_191 := rfl
theorem ta_192 : t_M[192]? = some tq_192 := rfl
theorem ta_193 : t_M[193]? = some tq_193 := rfl
theorem ta_194 : t_M[194]? = some tq_194 := rfl
theorem ta_195 : t_M[195]? = some tq_195 := rfl
theorem ta_196 : t_M[196]? = some tq_196 := rfl
theorem ta_197 : t_M[197]? = some tq_197 := rfl
theorem ta_198 : t_M[198]? = some tq_198 := rfl
theorem ta_199 : t_M[199]? = some tq_199 := rfl
theorem ta_200 : t_M[200]? = some tq_200 := rfl
def t_flt : List (Nat × Nat × Nat × Nat × Nat × Bool) := [(2, 12, 5, 0, 3, true), (2, 18, 5, 1, 3, true), (2, 22, 5, 2, 3, true), (2, 25, 6, 1, 0, false), (2, 44, 5, 3, 1, false), (2, 48, 5, 5, 1, false), (2, 51, 5, 4, 0, false), (3, 9, 6, 1, 0, false), (4, 9, 4, 0, 3, true), (4, 15, 4, 1, 4, false), (4, 19, 4, 2, 0, false), (4, 25, 4, 3, 2, false), (4, 45, 6, 1, 0, false), (5, 9, 3, 0, 3, true), (5, 27, 6, 1, 0, false), (5, 33, 3, 1, 0, false), (6, 9, 1, 0, 3, true), (6, 15, 1, 1, 3, true), (6, 18, 1, 2, 0, false), (6, 49, 6, 1, 0, false), (7, 9, 6, 0, 3, true), (7, 29, 6, 1, 0, false), (8, 9, 2, 0, 3, true), (8, 15, 2, 1, 3, true), (8, 18, 2, 2, 3, true), (8, 21, 2, 3, 0, false), (8, 60, 6, 1, 0, false), (9, 10, 0, 0, 3, true), (9, 19, 0, 1, 3, true), (9, 25, 0, 2, 3, true), (9, 32, 0, 4, 3, true), (9, 39, 0, 5, 3, true), (9, 46, 0, 6, 3, true), (9, 71, 1, 2, 0, false), (9, 77, 2, 3, 0, false), (9, 98, 5, 0, 3, true), (9, 135, 5, 3, 1, false), (9, 139, 5, 5, 1, false), (9, 147, 5, 1, 3, true), (9, 156, 5, 2, 3, true), (9, 163, 0, 3, 0, false), (9, 174, 6, 1, 0, false), (9, 267, 5, 4, 0, false), (10, 7, 7, 2, 3, true), (10, 13, 7, 3, 3, true), (10, 16, 7, 5, 3, true), (10, 19, 7, 6, 3, true), (10, 22, 7, 7, 3, true), (10, 25, 7, 9, 3, true), (10, 28, 7, 10, 3, true), (10, 31, 7, 11, 3, true), (10, 35, 7, 12, 3, true), (10, 38, 7, 13, 3, true), (10, 41, 7, 14, 3, true), (10, 44, 7, 15, 3, true), (10, 47, 7, 16, 3, true), (10, 50, 7, 17, 3, true), (10, 53, 7, 18, 3, true), (10, 56, 7, 19, 3, true), (10, 59, 7, 20, 3, true), (10, 62, 7, 21, 3, true), (10, 65, 7, 0, 0, false), (10, 69, 7, 8, 0, false), (10, 100, 7, 1, 0, false), (10, 107, 7, 4, 0, false)]
def t_ct : List (Nat × Nat × Nat) := [(0, 9, 2), (0, 15, 4), (1, 7, 6), (1, 13, 7), (2, 29, 33), (2, 35, 7), (2, 41, 34), (2, 54, 22), (2, 60, 39), (2, 64, 10), (2, 68, 52), (3, 15, 4), (3, 21, 13), (3, 27, 39), (3, 31, 2), (3, 35, 12), (4, 29, 19), (4, 33, 6), (4, 39, 39), (4, 48, 17), (4, 51, 20), (4, 61, 4), (4, 67, 7), (4, 71, 16), (4, 74, 18), (4, 78, 2), (5, 24, 21), (5, 36, 24), (5, 40, 51), (5, 44, 6), (5, 50, 22), (5, 53, 7), (5, 57, 1), (5, 63, 5), (5, 68, 4), (5, 72, 25), (5, 76, 2), (5, 79, 27), (5, 83, 28), (5, 87, 3), (5, 90, 30), (6, 22, 33), (6, 26, 34), (6, 29, 35), (6, 33, 7), (6, 39, 6), (6, 43, 0), (6, 52, 36), (6, 56, 41), (6, 60, 39), (7, 15, 40), (7, 19, 6), (7, 25, 7), (7, 33, 39), (7, 36, 41), (7, 40, 42), (7, 44, 46), (7, 48, 47), (7, 52, 48), (7, 56, 49), (7, 59, 50), (7, 63, 53), (8, 25, 7), (8, 31, 57), (8, 34, 6), (8, 38, 60), (8, 42, 58), (8, 45, 8), (8, 57, 59), (8, 63, 41), (9, 58, 31), (9, 67, 32), (9, 80, 55), (9, 83, 67), (9, 86, 56), (9, 94, 77), (9, 101, 37), (9, 105, 9), (9, 109, 78), (9, 115, 61), (9, 118, 75), (9, 122, 42), (9, 125, 76), (9, 131, 45), (9, 144, 44), (9, 151, 8), (9, 159, 38), (9, 166, 74), (9, 181, 6), (9, 185, 39), (9, 189, 41), (9, 194, 3), (9, 199, 14), (9, 204, 1), (9, 209, 5), (9, 212, 12), (9, 216, 4), (9, 219, 51), (9, 223, 23), (9, 226, 26), (9, 229, 52), (9, 234, 54), (9, 240, 27), (9, 244, 2), (9, 247, 28), (9, 253, 43), (9, 256, 50), (9, 260, 15), (9, 264, 29), (9, 270, 10), (9, 275, 11), (9, 278, 22), (9, 291, 30), (10, 72, 100), (10, 76, 103), (10, 80, 104), (10, 83, 106), (10, 86, 107), (10, 90, 108), (10, 94, 109), (10, 97, 111), (10, 103, 113), (10, 110, 118), (10, 114, 120), (10, 117, 112), (10, 121, 105), (10, 125, 121), (10, 129, 101), (10, 133, 110), (10, 136, 102), (10, 139, 125), (10, 143, 127), (10, 146, 136), (10, 149, 139), (10, 152, 137), (10, 156, 138), (10, 159, 142), (10, 162, 146), (10, 165, 148), (10, 168, 151), (10, 171, 150), (10, 174, 152), (10, 177, 153), (10, 180, 155), (10, 183, 156), (10, 187, 157), (10, 192, 160), (10, 196, 162), (10, 199, 164), (10, 202, 163), (10, 206, 166), (10, 209, 167), (10, 212, 144), (10, 215, 170), (13, 7, 62), (13, 17, 64), (13, 21, 66), (13, 24, 68), (13, 28, 69), (13, 31, 70), (13, 37, 71), (13, 41, 72), (13, 45, 73), (13, 49, 80), (13, 52, 81), (13, 55, 82), (13, 59, 83), (13, 63, 84), (13, 66, 85), (13, 69, 86), (13, 72, 87), (13, 76, 88), (13, 79, 89), (13, 82, 90), (13, 85, 91), (13, 88, 92), (13, 91, 93), (13, 94, 94), (13, 98, 95), (13, 101, 96), (13, 105, 97), (13, 109, 98), (13, 116, 172), (13, 121, 114), (13, 122, 99), (13, 125, 63), (13, 128, 115), (13, 129, 173), (13, 132, 116), (13, 133, 65), (13, 136, 117), (13, 137, 174), (13, 139, 119), (13, 140, 175), (13, 143, 122), (13, 144, 176), (13, 146, 123), (13, 147, 177), (13, 150, 124), (13, 151, 178), (13, 154, 126), (13, 155, 179), (13, 158, 128), (13, 159, 180), (13, 161, 129), (13, 162, 79), (13, 165, 130), (13, 166, 181), (13, 168, 131), (13, 169, 182), (13, 171, 132), (13, 172, 183), (13, 175, 133), (13, 176, 184), (13, 178, 134), (13, 179, 185), (13, 181, 135), (13, 182, 186), (13, 184, 140), (13, 185, 187), (13, 187, 141), (13, 188, 188), (13, 191, 143), (13, 192, 189), (13, 194, 145), (13, 195, 190), (13, 197, 147), (13, 198, 191), (13, 200, 149), (13, 201, 192), (13, 203, 154), (13, 204, 193), (13, 206, 158), (13, 207, 194), (13, 209, 159), (13, 210, 195), (13, 212, 161), (13, 213, 196), (13, 215, 165), (13, 216, 197), (13, 219, 168), (13, 220, 198), (13, 222, 169), (13, 223, 199), (13, 225, 171)]
def t_mt : List (Nat × Nat × Bool) := [(4, 55, true), (5, 15, false), (5, 21, true), (7, 66, false), (8, 48, false), (8, 54, true), (9, 281, false), (9, 286, true)]
def t_tt : List (Nat × Nat × Nat) := [(62, 28, 0), (62, 50, 1), (64, 9, 0), (64, 31, 1), (67, 11, 0), (68, 11, 1), (69, 21, 1), (71, 43, 0), (72, 24, 0), (75, 22, 2), (76, 15, 2), (77, 13, 1), (82, 21, 1), (85, 13, 2), (87, 69, 0), (90, 18, 0), (91, 24, 0), (93, 17, 1), (96, 29, 1), (96, 172, 1), (98, 18, 1)]
def t_xt : List (Nat × Nat × Nat) := [(9, 51, 0), (9, 62, 1), (9, 169, 2), (13, 13, 0), (13, 15, 1), (13, 35, 2)]
def t_kc : List (Nat × Nat × Option Int32 × Option Int64) := [(4, 23, none, some 34359738368), (10, 190, none, some 2), (11, 265, some 1431655765, none), (11, 266, some 858993459, none), (11, 267, some 252645135, none)]
def t_oci (oc : Nat) : Option Nat := match oc with
  | 2 => some 5
  | 4 => some 4
  | 5 => some 3
  | 6 => some 1
  | 7 => some 6
  | 8 => some 2
  | 9 => some 0
  | 10 => some 7
  | _ => none
