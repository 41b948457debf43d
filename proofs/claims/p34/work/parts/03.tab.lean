/-! the methods of this claim (printed by program) -/
def tq_0 : tM := (11, yJ6_compare_7cf53, cJ6_compare_7cf53, 2, some .int, [], 2, true, 0, 0)
def tq_1 : tM := (11, yJ6_bitCount_0f7a4, cJ6_bitCount_0f7a4, 1, some .int, [], 1, true, 0, 0)
def tq_2 : tM := (0, yX0_one, cX0_one, 1, some .int, [], 1, true, 0, 0)
def tq_3 : tM := (0, yX0_firstOnes, cX0_firstOnes, 1, some .int, [], 1, true, 0, 0)
def tq_4 : tM := (0, yX0_has, cX0_has, 2, some .boolean, [], 2, true, 1, 0)
def tq_5 : tM := (0, yX0_lowest, cX0_lowest, 2, some .int, [], 1, true, 2, 0)
def tq_6 : tM := (1, yX1_get, cX1_get, 2, some .int, [], 2, true, 0, 0)
def tq_7 : tM := (1, yX1_set, cX1_set, 3, none, [], 3, true, 0, 0)
def tq_8 : tM := (1, yX1_exchange, cX1_exchange, 4, none, [], 3, true, 1, 0)
def tq_9 : tM := (2, yX2_giveNumbers, cX2_giveNumbers, 3, none, [], 2, false, 2, 0)
def tq_10 : tM := (2, yX2_hasEdge, cX2_hasEdge, 3, some .boolean, [], 3, false, 2, 0)
def tq_11 : tM := (2, yX2_isCorner, cX2_isCorner, 5, some .boolean, [], 5, false, 4, 0)
def tq_12 : tM := (3, yX3_after, cX3_after, 4, some .int, [], 3, true, 3, 0)
def tq_13 : tM := (3, yX3_isSide, cX3_isSide, 5, some .boolean, [], 4, true, 2, 0)
def tq_14 : tM := (3, yX3_of, cX3_of, 5, some .int, [], 2, true, 4, 0)
def tq_21 : tM := (5, yX5_index, cX5_index, 4, some .int, [], 2, true, 0, 0)
def tq_22 : tM := (5, yX5_bit, cX5_bit, 2, some .int, [], 2, true, 1, 0)
def tq_23 : tM := (5, yX5_read, cX5_read, 6, none, [], 2, false, 4, 0)
def tq_24 : tM := (5, yX5_note, cX5_note, 8, none, [], 6, false, 3, 0)
def tq_25 : tM := (5, yX5_crossesNone, cX5_crossesNone, 4, some .boolean, [], 4, false, 1, 0)
def tq_26 : tM := (5, yX5_pairsCrossing, cX5_pairsCrossing, 3, some .int, [], 1, false, 1, 0)
def tq_27 : tM := (5, yX5_waysToMatch, cX5_waysToMatch, 8, some .int, [], 4, true, 3, 4)
def tq_29 : tM := (5, yX5_firstTriangulation, cX5_firstTriangulation, 4, some .int, [], 1, false, 2, 0)
def tq_31 : tM := (6, yX6_takes, cX6_takes, 5, some .boolean, [], 3, false, 3, 0)
def tq_32 : tM := (6, yX6_put, cX6_put, 3, none, [], 3, false, 1, 0)
def tq_33 : tM := (6, yX6_xOf, cX6_xOf, 2, some .int, [], 2, false, 1, 0)
def tq_34 : tM := (6, yX6_yOf, cX6_yOf, 2, some .int, [], 2, false, 1, 0)
def tq_35 : tM := (6, yX6_turn, cX6_turn, 6, some .int, [], 5, false, 2, 0)
def tq_36 : tM := (6, yX6_turnOf, cX6_turnOf, 4, some .int, [], 4, false, 3, 0)
def tq_37 : tM := (6, yX6_tell, cX6_tell, 5, none, [], 2, false, 4, 0)
def tq_39 : tM := (7, yX7_of, cX7_of, 4, some .int, [], 4, false, 1, 0)
def tq_40 : tM := (7, yX7_cell, cX7_cell, 3, some .int, [], 3, true, 0, 0)
def tq_41 : tM := (7, yX7_put, cX7_put, 5, none, [], 5, false, 1, 0)
def tq_42 : tM := (7, yX7_take, cX7_take, 6, none, [], 3, false, 2, 0)
def tq_44 : tM := (7, yX7_exchange, cX7_exchange, 6, none, [], 3, false, 2, 0)
def tq_45 : tM := (7, yX7_turnOver, cX7_turnOver, 5, some .boolean, [], 4, false, 5, 0)
def tq_46 : tM := (7, yX7_fits, cX7_fits, 6, some .boolean, [], 4, false, 4, 0)
def tq_47 : tM := (7, yX7_fourHold, cX7_fourHold, 6, some .boolean, [], 5, false, 2, 0)
def tq_48 : tM := (7, yX7_fiveHoldAround, cX7_fiveHoldAround, 6, some .boolean, [], 6, false, 3, 0)
def tq_49 : tM := (7, yX7_fiveHold, cX7_fiveHold, 7, some .boolean, [], 6, false, 2, 0)
def tq_51 : tM := (7, yX7_crosses, cX7_crosses, 5, some .boolean, [], 5, false, 2, 0)
def tq_52 : tM := (7, yX7_noneWithin, cX7_noneWithin, 5, some .boolean, [], 4, false, 3, 0)
def tq_53 : tM := (7, yX7_isWithin, cX7_isWithin, 6, some .boolean, [], 5, false, 2, 0)
def tq_54 : tM := (7, yX7_lesserSide, cX7_lesserSide, 5, some .int, [], 3, false, 2, 0)
def tq_62 : tM := (9, yX9_place, cX9_place, 3, some .int, [], 3, false, 4, 0)
def tq_63 : tM := (9, yX9_clear, cX9_clear, 2, some .int, [], 1, false, 0, 0)
def tq_68 : tM := (9, yX9_draw, cX9_draw, 2, some .int, [], 1, false, 5, 0)
def tq_70 : tM := (9, yX9_copy, cX9_copy, 5, some .int, [], 3, false, 3, 0)
def tq_71 : tM := (9, yX9_flip, cX9_flip, 6, some .boolean, [], 5, false, 6, 0)
def tq_72 : tM := (9, yX9_rename, cX9_rename, 5, none, [], 4, false, 3, 0)
def tq_74 : tM := (9, yX9_slot, cX9_slot, 2, some (.object "TurnsHall$Drawing"), [], 2, false, 0, 0)
def tq_75 : tM := (9, yX9_known, cX9_known, 3, some (.object "TurnsHall$Drawing"), [], 2, false, 1, 0)
def tq_76 : tM := (9, yX9_checkPoint, cX9_checkPoint, 2, none, [], 2, true, 0, 0)
def tq_77 : tM := (9, yX9_unused, cX9_unused, 2, some (.object "TurnsHall$Drawing"), [], 1, false, 1, 0)
def tq_78 : tM := (9, yX9_finished, cX9_finished, 1, some .int, [], 1, false, 0, 0)
def tq_79 : tM := (9, yX9_drawings, cX9_drawings, 1, some .int, [], 1, false, 0, 0)
def tq_80 : tM := (9, yX9_points, cX9_points, 2, some .int, [], 2, false, 2, 0)
def tq_81 : tM := (9, yX9_hasNumbers, cX9_hasNumbers, 2, some .boolean, [], 2, false, 2, 0)
def tq_82 : tM := (9, yX9_number, cX9_number, 5, some .int, [], 4, false, 2, 0)
def tq_83 : tM := (9, yX9_sign, cX9_sign, 6, some .int, [], 5, false, 2, 0)
def tq_84 : tM := (9, yX9_flips, cX9_flips, 7, some .int, [], 2, false, 6, 0)
def tq_85 : tM := (9, yX9_hull, cX9_hull, 8, some .int, [], 3, false, 5, 0)
def tq_86 : tM := (9, yX9_layer, cX9_layer, 8, some .int, [], 3, false, 5, 0)
def tq_87 : tM := (9, yX9_cross, cX9_cross, 7, some .boolean, [], 6, false, 3, 0)
def tq_88 : tM := (9, yX9_crossings, cX9_crossings, 2, some .int, [], 2, false, 5, 0)
def tq_89 : tM := (9, yX9_empties, cX9_empties, 7, some .int, [], 2, false, 4, 0)
def tq_90 : tM := (9, yX9_level, cX9_level, 7, some .int, [], 3, false, 3, 0)
def tq_91 : tM := (9, yX9_matchings, cX9_matchings, 4, some .int, [], 3, false, 35, 0)
def tq_95 : tM := (9, yX9_triangulate, cX9_triangulate, 3, some .int, [], 2, false, 5, 0)
def tq_96 : tM := (9, yX9_flipEdge, cX9_flipEdge, 7, some .int, [], 4, false, 5, 0)
def tq_97 : tM := (9, yX9_edge, cX9_edge, 5, some .boolean, [], 4, false, 3, 0)
def tq_99 : tM := (13, yL_cell, cL_cell, 2, some .int, [], 2, true, 0, 0)
def tq_100 : tM := (13, yL_low, cL_low, 2, some .int, [], 2, true, 0, 0)
def tq_101 : tM := (13, yL_placed, cL_placed, 4, some .int, [(0, 6, 7, 16)], 3, true, 5, 0)
def tq_102 : tM := (13, yL_flippedEdge, cL_flippedEdge, 4, some .int, [(0, 7, 8, 16)], 3, true, 6, 0)
def tq_103 : tM := (13, yL_copied, cL_copied, 3, some .int, [(0, 6, 7, 16)], 2, true, 4, 0)
def tq_104 : tM := (13, yL_bit, cL_bit, 9, some .long, [], 3, true, 0, 0)
def tq_105 : tM := (13, yL_sign, cL_sign, 6, some .int, [], 4, true, 1, 0)
def tq_106 : tM := (13, yL_holds, cL_holds, 10, some .boolean, [], 2, true, 2, 0)
def tq_107 : tM := (13, yL_crosses, cL_crosses, 6, some .boolean, [], 5, true, 2, 0)
def tq_108 : tM := (13, yL_isIn, cL_isIn, 7, some .boolean, [], 5, true, 2, 0)
def tq_109 : tM := (13, yL_follows, cL_follows, 8, some .int, [], 4, true, 2, 0)
def tq_110 : tM := (13, yL_hull, cL_hull, 7, some .int, [], 3, true, 3, 0)
def tq_111 : tM := (13, yL_renamedSign, cL_renamedSign, 10, some .boolean, [], 6, true, 2, 0)
def tq_112 : tM := (13, yL_shapes, cL_shapes, 21, some .boolean, [], 3, true, 36, 0)
def tq_113 : tM := (13, yL_other, cL_other, 11, some .int, [], 5, true, 3, 0)
def tq_114 : tM := (13, x, code, 25, some .boolean, [], 1, true, 37, 0)
def t_M : List tM := [tq_0, tq_1, tq_2, tq_3, tq_4, tq_5, tq_6, tq_7, tq_8, tq_9, tq_10, tq_11, tq_12, tq_13, tq_14, tq_0, tq_0, tq_0, tq_0, tq_0, tq_0, tq_21, tq_22, tq_23, tq_24, tq_25, tq_26, tq_27, tq_0, tq_29, tq_0, tq_31, tq_32, tq_33, tq_34, tq_35, tq_36, tq_37, tq_0, tq_39, tq_40, tq_41, tq_42, tq_0, tq_44, tq_45, tq_46, tq_47, tq_48, tq_49, tq_0, tq_51, tq_52, tq_53, tq_54, tq_0, tq_0, tq_0, tq_0, tq_0, tq_0, tq_0, tq_62, tq_63, tq_0, tq_0, tq_0, tq_0, tq_68, tq_0, tq_70, tq_71, tq_72, tq_0, tq_74, tq_75, tq_76, tq_77, tq_78, tq_79, tq_80, tq_81, tq_82, tq_83, tq_84, tq_85, tq_86, tq_87, tq_88, tq_89, tq_90, tq_91, tq_0, tq_0, tq_0, tq_95, tq_96, tq_97, tq_0, tq_99, tq_100, tq_101, tq_102, tq_103, tq_104, tq_105, tq_106, tq_107, tq_108, tq_109, tq_110, tq_111, tq_112, tq_113, tq_114]
theorem ta_0 : t_M[0]? = some tq_0 := rfl
theorem ta_1 : t_M[1]? = some tq_1 := rfl
theorem ta_2 : t_M[2]? = some tq_2 := rfl
theorem ta_3 : t_M[3]? = some tq_3 := rfl
theorem ta_4 : t_M[4]? = some tq_4 := rfl
theorem ta_5 : t_M[5]? = some tq_5 := rfl
theorem ta_6 : t_M[6]? = some tq_6 := rfl
theorem ta_7 : t_M[7]? = some tq_7 := rfl
theorem ta_8 : t_M[8]? = some tq_8 := rfl
theorem ta_9 : t_M[9]? = some tq_9 := rfl
theorem ta_10 : t_M[10]? = some tq_10 := rfl
theorem ta_11 : t_M[11]? = some tq_11 := rfl
theorem ta_12 : t_M[12]? = some tq_12 := rfl
theorem ta_13 : t_M[13]? = some tq_13 := rfl
theorem ta_14 : t_M[14]? = some tq_14 := rfl
theorem ta_21 : t_M[21]? = some tq_21 := rfl
theorem ta_22 : t_M[22]? = some tq_22 := rfl
theorem ta_23 : t_M[23]? = some tq_23 := rfl
theorem ta_24 : t_M[24]? = some tq_24 := rfl
theorem ta_25 : t_M[25]? = some tq_25 := rfl
theorem ta_26 : t_M[26]? = some tq_26 := rfl
theorem ta_27 : t_M[27]? = some tq_27 := rfl
theorem ta_29 : t_M[29]? = some tq_29 := rfl
theorem ta_31 : t_M[31]? = some tq_31 := rfl
theorem ta_32 : t_M[32]? = some tq_32 := rfl
theorem ta_33 : t_M[33]? = some tq_33 := rfl
theorem ta_34 : t_M[34]? = some tq_34 := rfl
theorem ta_35 : t_M[35]? = some tq_35 := rfl
theorem ta_36 : t_M[36]? = some tq_36 := rfl
theorem ta_37 : t_M[37]? = some tq_37 := rfl
theorem ta_39 : t_M[39]? = some tq_39 := rfl
theorem ta_40 : t_M[40]? = some tq_40 := rfl
theorem ta_41 : t_M[41]? = some tq_41 := rfl
theorem ta_42 : t_M[42]? = some tq_42 := rfl
theorem ta_44 : t_M[44]? = some tq_44 := rfl
theorem ta_45 : t_M[45]? = some tq_45 := rfl
theorem ta_46 : t_M[46]? = some tq_46 := rfl
theorem ta_47 : t_M[47]? = some tq_47 := rfl
theorem ta_48 : t_M[48]? = some tq_48 := rfl
theorem ta_49 : t_M[49]? = some tq_49 := rfl
theorem ta_51 : t_M[51]? = some tq_51 := rfl
theorem ta_52 : t_M[52]? = some tq_52 := rfl
theorem ta_53 : t_M[53]? = some tq_53 := rfl
theorem ta_54 : t_M[54]? = some tq_54 := rfl
theorem ta_62 : t_M[62]? = some tq_62 := rfl
theorem ta_63 : t_M[63]? = some tq_63 := rfl
theorem ta_68 : t_M[68]? = some tq_68 := rfl
theorem ta_70 : t_M[70]? = some tq_70 := rfl
theorem ta_71 : t_M[71]? = some tq_71 := rfl
theorem ta_72 : t_M[72]? = some tq_72 := rfl
theorem ta_74 : t_M[74]? = some tq_74 := rfl
theorem ta_75 : t_M[75]? = some tq_75 := rfl
theorem ta_76 : t_M[76]? = some tq_76 := rfl
theorem ta_77 : t_M[77]? = some tq_77 := rfl
theorem ta_78 : t_M[78]? = some tq_78 := rfl
theorem ta_79 : t_M[79]? = some tq_79 := rfl
theorem ta_80 : t_M[80]? = some tq_80 := rfl
theorem ta_81 : t_M[81]? = some tq_81 := rfl
theorem ta_82 : t_M[82]? = some tq_82 := rfl
theorem ta_83 : t_M[83]? = some tq_83 := rfl
theorem ta_84 : t_M[84]? = some tq_84 := rfl
theorem ta_85 : t_M[85]? = some tq_85 := rfl
theorem ta_86 : t_M[86]? = some tq_86 := rfl
theorem ta_87 : t_M[87]? = some tq_87 := rfl
theorem ta_88 : t_M[88]? = some tq_88 := rfl
theorem ta_89 : t_M[89]? = some tq_89 := rfl
theorem ta_90 : t_M[90]? = some tq_90 := rfl
theorem ta_91 : t_M[91]? = some tq_91 := rfl
theorem ta_95 : t_M[95]? = some tq_95 := rfl
theorem ta_96 : t_M[96]? = some tq_96 := rfl
theorem ta_97 : t_M[97]? = some tq_97 := rfl
theorem ta_99 : t_M[99]? = some tq_99 := rfl
theorem ta_100 : t_M[100]? = some tq_100 := rfl
theorem ta_101 : t_M[101]? = some tq_101 := rfl
theorem ta_102 : t_M[102]? = some tq_102 := rfl
theorem ta_103 : t_M[103]? = some tq_103 := rfl
theorem ta_104 : t_M[104]? = some tq_104 := rfl
theorem ta_105 : t_M[105]? = some tq_105 := rfl
theorem ta_106 : t_M[106]? = some tq_106 := rfl
theorem ta_107 : t_M[107]? = some tq_107 := rfl
theorem ta_108 : t_M[108]? = some tq_108 := rfl
theorem ta_109 : t_M[109]? = some tq_109 := rfl
theorem ta_110 : t_M[110]? = some tq_110 := rfl
theorem ta_111 : t_M[111]? = some tq_111 := rfl
theorem ta_112 : t_M[112]? = some tq_112 := rfl
theorem ta_113 : t_M[113]? = some tq_113 := rfl
theorem ta_114 : t_M[114]? = some tq_114 := rfl
def t_flt : List (Nat × Nat × Nat × Nat × Nat × Bool) := [(2, 12, 5, 0, 3, true), (2, 18, 5, 1, 3, true), (2, 22, 5, 2, 3, true), (2, 25, 6, 1, 0, false), (2, 44, 5, 3, 1, false), (2, 48, 5, 5, 1, false), (2, 51, 5, 4, 0, false), (3, 9, 6, 1, 0, false), (4, 9, 4, 0, 3, true), (5, 9, 3, 0, 3, true), (5, 27, 6, 1, 0, false), (5, 33, 3, 1, 0, false), (6, 9, 1, 0, 3, true), (6, 15, 1, 1, 3, true), (6, 18, 1, 2, 0, false), (6, 49, 6, 1, 0, false), (7, 9, 6, 0, 3, true), (7, 29, 6, 1, 0, false), (8, 9, 2, 0, 3, true), (8, 15, 2, 1, 3, true), (8, 18, 2, 2, 3, true), (9, 10, 0, 0, 3, true), (9, 19, 0, 1, 3, true), (9, 25, 0, 2, 3, true), (9, 32, 0, 4, 3, true), (9, 39, 0, 5, 3, true), (9, 46, 0, 6, 3, true), (9, 71, 1, 2, 0, false), (9, 98, 5, 0, 3, true), (9, 135, 5, 3, 1, false), (9, 139, 5, 5, 1, false), (9, 147, 5, 1, 3, true), (9, 156, 5, 2, 3, true), (9, 163, 0, 3, 0, false), (9, 174, 6, 1, 0, false), (9, 267, 5, 4, 0, false)]
def t_ct : List (Nat × Nat × Nat) := [(0, 9, 2), (0, 15, 4), (1, 7, 6), (1, 13, 7), (2, 29, 33), (2, 35, 7), (2, 41, 34), (2, 54, 22), (2, 60, 39), (2, 64, 10), (2, 68, 52), (3, 15, 4), (3, 21, 13), (3, 27, 39), (3, 31, 2), (3, 35, 12), (5, 24, 21), (5, 36, 24), (5, 40, 51), (5, 44, 6), (5, 50, 22), (5, 53, 7), (5, 57, 1), (5, 63, 5), (5, 68, 4), (5, 72, 25), (5, 76, 2), (5, 79, 27), (6, 22, 33), (6, 26, 34), (6, 29, 35), (6, 33, 7), (6, 39, 6), (6, 43, 0), (6, 52, 36), (6, 56, 41), (7, 15, 40), (7, 19, 6), (7, 25, 7), (7, 33, 39), (7, 36, 41), (7, 44, 46), (7, 48, 47), (7, 52, 48), (7, 56, 49), (7, 63, 53), (9, 58, 31), (9, 67, 32), (9, 94, 77), (9, 101, 37), (9, 105, 9), (9, 109, 78), (9, 118, 75), (9, 122, 42), (9, 125, 76), (9, 131, 45), (9, 144, 44), (9, 151, 8), (9, 166, 74), (9, 181, 6), (9, 185, 39), (9, 189, 41), (9, 194, 3), (9, 199, 14), (9, 204, 1), (9, 209, 5), (9, 212, 12), (9, 216, 4), (9, 219, 51), (9, 223, 23), (9, 226, 26), (9, 229, 52), (9, 234, 54), (9, 240, 27), (9, 264, 29), (9, 270, 10), (9, 275, 11), (9, 278, 22), (13, 10, 62), (13, 18, 96), (13, 22, 70), (13, 26, 104), (13, 32, 105), (13, 36, 109), (13, 39, 110), (13, 43, 85), (13, 45, 86), (13, 48, 108), (13, 52, 106), (13, 56, 83), (13, 59, 107), (13, 62, 87), (13, 66, 91), (13, 69, 88), (13, 73, 89), (13, 76, 84), (13, 79, 90), (13, 83, 99), (13, 87, 100), (13, 90, 101), (13, 94, 63), (13, 98, 79), (13, 101, 68), (13, 104, 80), (13, 107, 112), (13, 111, 71), (13, 115, 72), (13, 119, 111), (13, 123, 95), (13, 126, 113), (13, 130, 102), (13, 133, 103), (13, 137, 81), (13, 141, 97), (13, 145, 82)]
def t_mt : List (Nat × Nat × Bool) := [(5, 15, false), (5, 21, true), (7, 66, false), (9, 281, false), (9, 286, true)]
def t_tt : List (Nat × Nat × Nat) := [(62, 28, 0), (62, 50, 1), (68, 11, 1), (71, 43, 0), (72, 24, 0), (75, 22, 2), (76, 15, 2), (77, 13, 1), (82, 21, 1), (85, 13, 2), (87, 69, 0), (90, 18, 0), (91, 24, 0), (96, 29, 1), (96, 172, 1)]
def t_xt : List (Nat × Nat × Nat) := [(9, 51, 0), (9, 62, 1), (9, 169, 2), (13, 16, 1)]
def t_kc : List (Nat × Nat × Option Int32 × Option Int64) := [(11, 265, some 1431655765, none), (11, 266, some 858993459, none), (11, 267, some 252645135, none), (13, 7, some 1000308325, none), (13, 8, some 751363499, none), (13, 9, some 2147483647, none)]
def t_oci (oc : Nat) : Option Nat := match oc with
  | 2 => some 5
  | 4 => some 4
  | 5 => some 3
  | 6 => some 1
  | 7 => some 6
  | 8 => some 2
  | 9 => some 0
  | _ => none
