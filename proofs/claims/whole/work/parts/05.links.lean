def mX0_init : MI := (RX0, cX0_init, 4, none)
def rmX0_init : Room := { frames := 2, cells := 0, slots := 0, locals := 42 }
def mX0_rebuild : MI := (RX0, cX0_rebuild, 3, none)
def rmX0_rebuild : Room := { frames := 3, cells := 0, slots := 0, locals := 65 }
def mX0_unite : MI := (RX0, cX0_unite, 5, none)
def rmX0_unite : Room := { frames := 1, cells := 0, slots := 0, locals := 23 }
def mX0_numberMembers : MI := (RX0, cX0_numberMembers, 3, none)
def rmX0_numberMembers : Room := { frames := 1, cells := 0, slots := 0, locals := 23 }
def mX0_fillWithin : MI := (RX0, cX0_fillWithin, 2, none)
def rmX0_fillWithin : Room := { frames := 1, cells := 0, slots := 0, locals := 24 }
def mX0_unionBelow : MI := (RX0, cX0_unionBelow, 5, some .int)
def rmX0_unionBelow : Room := { frames := 0, cells := 0, slots := 0, locals := 0 }
def mX0_pickBase : MI := (RX0, cX0_pickBase, 3, none)
def rmX0_pickBase : Room := { frames := 1, cells := 0, slots := 0, locals := 24 }
def mX0_countPoints : MI := (RX0, cX0_countPoints, 2, none)
def rmX0_countPoints : Room := { frames := 2, cells := 0, slots := 0, locals := 44 }
def mX0_numberOf : MI := (RX0, cX0_numberOf, 2, some .int)
def rmX0_numberOf : Room := { frames := 0, cells := 0, slots := 0, locals := 0 }
def mX0_innerOf : MI := (RX0, cX0_innerOf, 2, some .int)
def rmX0_innerOf : Room := { frames := 0, cells := 0, slots := 0, locals := 0 }
def mX0_fewestFor : MI := (RX0, cX0_fewestFor, 2, some .int)
def rmX0_fewestFor : Room := { frames := 0, cells := 0, slots := 0, locals := 0 }
def mX0_oftenOf : MI := (RX0, cX0_oftenOf, 2, some .int)
def rmX0_oftenOf : Room := { frames := 0, cells := 0, slots := 0, locals := 0 }
def mX0_orderedSet : MI := (RX0, cX0_orderedSet, 2, some .int)
def rmX0_orderedSet : Room := { frames := 0, cells := 0, slots := 0, locals := 0 }
def mX0_allPoints : MI := (RX0, cX0_allPoints, 1, some .int)
def rmX0_allPoints : Room := { frames := 0, cells := 0, slots := 0, locals := 0 }
def mX0_top : MI := (RX0, cX0_top, 1, some .int)
def rmX0_top : Room := { frames := 1, cells := 0, slots := 0, locals := 21 }
def mX0_isFrequent : MI := (RX0, cX0_isFrequent, 2, some .boolean)
def rmX0_isFrequent : Room := { frames := 1, cells := 0, slots := 0, locals := 21 }
def mX0_frequentPoints : MI := (RX0, cX0_frequentPoints, 3, some .int)
def rmX0_frequentPoints : Room := { frames := 2, cells := 0, slots := 0, locals := 42 }
def mX0_pointRanked : MI := (RX0, cX0_pointRanked, 3, some .int)
def rmX0_pointRanked : Room := { frames := 2, cells := 0, slots := 0, locals := 45 }
def mX0_rankOf : MI := (RX0, cX0_rankOf, 5, some .int)
def rmX0_rankOf : Room := { frames := 1, cells := 0, slots := 0, locals := 21 }
def mX0_firstTwin : MI := (RX0, cX0_firstTwin, 4, some .int)
def rmX0_firstTwin : Room := { frames := 2, cells := 0, slots := 0, locals := 44 }
def mX0_leastSizeWith : MI := (RX0, cX0_leastSizeWith, 3, some .int)
def rmX0_leastSizeWith : Room := { frames := 1, cells := 0, slots := 0, locals := 21 }
def mX0_sizeOfAll : MI := (RX0, cX0_sizeOfAll, 3, some .int)
def rmX0_sizeOfAll : Room := { frames := 1, cells := 0, slots := 0, locals := 21 }
def mX0_massOfAll : MI := (RX0, cX0_massOfAll, 4, some .int)
def rmX0_massOfAll : Room := { frames := 1, cells := 0, slots := 0, locals := 21 }
def mX0_isProof : MI := (RX0, cX0_isProof, 4, some .boolean)
def rmX0_isProof : Room := { frames := 2, cells := 0, slots := 0, locals := 44 }
def mX0_hullOf : MI := (RX0, cX0_hullOf, 5, some .int)
def rmX0_hullOf : Room := { frames := 1, cells := 0, slots := 0, locals := 21 }
def mX0_countAround : MI := (RX0, cX0_countAround, 4, some .int)
def rmX0_countAround : Room := { frames := 1, cells := 0, slots := 0, locals := 21 }
def mX0_countWithin : MI := (RX0, cX0_countWithin, 4, some .int)
def rmX0_countWithin : Room := { frames := 1, cells := 0, slots := 0, locals := 21 }
def mX0_isInPart : MI := (RX0, cX0_isInPart, 4, some .boolean)
def rmX0_isInPart : Room := { frames := 1, cells := 0, slots := 0, locals := 21 }
def mX0_countPart : MI := (RX0, cX0_countPart, 3, some .int)
def rmX0_countPart : Room := { frames := 1, cells := 0, slots := 0, locals := 21 }
def mX0_unionOfPart : MI := (RX0, cX0_unionOfPart, 5, some .int)
def rmX0_unionOfPart : Room := { frames := 2, cells := 0, slots := 0, locals := 44 }
def mX0_commonOfPart : MI := (RX0, cX0_commonOfPart, 5, some .int)
def rmX0_commonOfPart : Room := { frames := 2, cells := 0, slots := 0, locals := 44 }
def mX0_isPartClosed : MI := (RX0, cX0_isPartClosed, 6, some .boolean)
def rmX0_isPartClosed : Room := { frames := 2, cells := 0, slots := 0, locals := 44 }
def mX0_isCover : MI := (RX0, cX0_isCover, 6, some .boolean)
def rmX0_isCover : Room := { frames := 1, cells := 0, slots := 0, locals := 21 }
def mX0_sharesOut : MI := (RX0, cX0_sharesOut, 4, some .boolean)
def rmX0_sharesOut : Room := { frames := 1, cells := 0, slots := 0, locals := 21 }
def mX0_hasAllIntersections : MI := (RX0, cX0_hasAllIntersections, 3, some .boolean)
def rmX0_hasAllIntersections : Room := { frames := 1, cells := 0, slots := 0, locals := 21 }
def mX0_countParts : MI := (RX0, cX0_countParts, 4, some .int)
def rmX0_countParts : Room := { frames := 2, cells := 0, slots := 0, locals := 45 }
def mX0_partOf : MI := (RX0, cX0_partOf, 5, some .int)
def rmX0_partOf : Room := { frames := 1, cells := 0, slots := 0, locals := 21 }
def mX1_init : MI := (RX1, cX1_init, 2, none)
def rmX1_init : Room := { frames := 3, cells := 0, slots := 0, locals := 62 }
def mX1_clear : MI := (RX1, cX1_clear, 1, none)
def rmX1_clear : Room := { frames := 0, cells := 0, slots := 0, locals := 0 }
def mX1_push : MI := (RX1, cX1_push, 3, none)
def rmX1_push : Room := { frames := 3, cells := 0, slots := 0, locals := 65 }
def mX1_pop : MI := (RX1, cX1_pop, 3, none)
def rmX1_pop : Room := { frames := 3, cells := 0, slots := 0, locals := 65 }
def mX2_init : MI := (RX2, cX2_init, 2, none)
def rmX2_init : Room := { frames := 0, cells := 0, slots := 0, locals := 0 }
def mX2_forget : MI := (RX2, cX2_forget, 1, none)
def rmX2_forget : Room := { frames := 0, cells := 0, slots := 0, locals := 0 }
def mX2_make : MI := (RX2, cX2_make, 4, none)
def rmX2_make : Room := { frames := 2, cells := 0, slots := 0, locals := 46 }
def mX2_coversOf : MI := (RX2, cX2_coversOf, 3, some .int)
def rmX2_coversOf : Room := { frames := 3, cells := 0, slots := 0, locals := 69 }
def mX2_riseOf : MI := (RX2, cX2_riseOf, 2, some .int)
def rmX2_riseOf : Room := { frames := 0, cells := 0, slots := 0, locals := 0 }
def mX2_height : MI := (RX2, cX2_height, 1, some .int)
def rmX2_height : Room := { frames := 3, cells := 0, slots := 0, locals := 69 }
def mX2_pairs : MI := (RX2, cX2_pairs, 3, some .int)
def rmX2_pairs : Room := { frames := 3, cells := 0, slots := 0, locals := 69 }
def mX2_coveredOnce : MI := (RX2, cX2_coveredOnce, 3, some .int)
def rmX2_coveredOnce : Room := { frames := 3, cells := 0, slots := 0, locals := 69 }
def mX2_stepOfLongest : MI := (RX2, cX2_stepOfLongest, 4, some .int)
def rmX2_stepOfLongest : Room := { frames := 3, cells := 0, slots := 0, locals := 69 }
def mX2_firstStepUp : MI := (RX2, cX2_firstStepUp, 4, some .int)
def rmX2_firstStepUp : Room := { frames := 2, cells := 0, slots := 0, locals := 46 }
def mX3_init : MI := (RX3, cX3_init, 3, none)
def rmX3_init : Room := { frames := 0, cells := 0, slots := 0, locals := 0 }
def mX3_read : MI := (RX3, cX3_read, 3, some .int)
def rmX3_read : Room := { frames := 7, cells := 0, slots := 0, locals := 153 }
def mX3_readClause : MI := (RX3, cX3_readClause, 4, none)
def rmX3_readClause : Room := { frames := 6, cells := 0, slots := 0, locals := 130 }
def mX3_readPoints : MI := (RX3, cX3_readPoints, 1, none)
def rmX3_readPoints : Room := { frames := 3, cells := 0, slots := 0, locals := 61 }
def mX3_readWeight : MI := (RX3, cX3_readWeight, 4, none)
def rmX3_readWeight : Room := { frames := 3, cells := 0, slots := 0, locals := 61 }
def mX3_readSet : MI := (RX3, cX3_readSet, 6, none)
def rmX3_readSet : Room := { frames := 3, cells := 0, slots := 0, locals := 61 }
def mX3_readDigit : MI := (RX3, cX3_readDigit, 4, some .int)
def rmX3_readDigit : Room := { frames := 1, cells := 0, slots := 0, locals := 21 }
def mX3_expectGap : MI := (RX3, cX3_expectGap, 1, none)
def rmX3_expectGap : Room := { frames := 2, cells := 0, slots := 0, locals := 41 }
def mX3_expectEnd : MI := (RX3, cX3_expectEnd, 1, none)
def rmX3_expectEnd : Room := { frames := 2, cells := 0, slots := 0, locals := 41 }
def mX3_skipGap : MI := (RX3, cX3_skipGap, 1, none)
def rmX3_skipGap : Room := { frames := 1, cells := 0, slots := 0, locals := 21 }
def mX3_lettersEnd : MI := (RX3, cX3_lettersEnd, 3, some .int)
def rmX3_lettersEnd : Room := { frames := 1, cells := 0, slots := 0, locals := 21 }
def mX3_isWord : MI := (RX3, cX3_isWord, 5, some .boolean)
def rmX3_isWord : Room := { frames := 5, cells := 0, slots := 0, locals := 106 }
def mX3_fail : MI := (RX3, cX3_fail, 2, none)
def rmX3_fail : Room := { frames := 0, cells := 0, slots := 0, locals := 0 }
def mX3_isLetter : MI := (RX3, cX3_isLetter, 1, some .boolean)
def rmX3_isLetter : Room := { frames := 0, cells := 0, slots := 0, locals := 0 }
def mX3_isBlank : MI := (RX3, cX3_isBlank, 1, some .boolean)
def rmX3_isBlank : Room := { frames := 0, cells := 0, slots := 0, locals := 0 }
def mX4_init : MI := (RX4, cX4_init, 2, none)
def rmX4_init : Room := { frames := 1, cells := 0, slots := 0, locals := 21 }
def mX4_at : MI := (RX4, cX4_at, 2, some .int)
def rmX4_at : Room := { frames := 0, cells := 0, slots := 0, locals := 0 }
def mX4_find : MI := (RX4, cX4_find, 3, some .int)
def rmX4_find : Room := { frames := 0, cells := 0, slots := 0, locals := 0 }
def mX4_append : MI := (RX4, cX4_append, 2, none)
def rmX4_append : Room := { frames := 0, cells := 0, slots := 0, locals := 0 }
def mX4_appendBytes : MI := (RX4, cX4_appendBytes, 3, none)
def rmX4_appendBytes : Room := { frames := 1, cells := 0, slots := 0, locals := 21 }
def mX4_replace : MI := (RX4, cX4_replace, 3, none)
def rmX4_replace : Room := { frames := 0, cells := 0, slots := 0, locals := 0 }
def mX4_cutOut : MI := (RX4, cX4_cutOut, 3, none)
def rmX4_cutOut : Room := { frames := 1, cells := 0, slots := 0, locals := 22 }
def mX4_clear : MI := (RX4, cX4_clear, 1, none)
def rmX4_clear : Room := { frames := 0, cells := 0, slots := 0, locals := 0 }
def mX4_copy : MI := (RX4, cX4_copy, 3, none)
def rmX4_copy : Room := { frames := 1, cells := 0, slots := 0, locals := 21 }
def mX4_isSame : MI := (RX4, cX4_isSame, 3, some .boolean)
def rmX4_isSame : Room := { frames := 1, cells := 0, slots := 0, locals := 21 }
def mX5_init : MI := (RX5, cX5_init, 1, none)
def rmX5_init : Room := { frames := 2, cells := 0, slots := 0, locals := 42 }
def mX5_write : MI := (RX5, cX5_write, 3, none)
def rmX5_write : Room := { frames := 6, cells := 0, slots := 0, locals := 128 }
def mX5_putWord : MI := (RX5, cX5_putWord, 3, none)
def rmX5_putWord : Room := { frames := 5, cells := 0, slots := 0, locals := 106 }
def mX5_putDigit : MI := (RX5, cX5_putDigit, 2, none)
def rmX5_putDigit : Room := { frames := 1, cells := 0, slots := 0, locals := 21 }
def mX5_putLetters : MI := (RX5, cX5_putLetters, 3, none)
def rmX5_putLetters : Room := { frames := 1, cells := 0, slots := 0, locals := 21 }
def mX6_init : MI := (RX6, cX6_init, 2, none)
def rmX6_init : Room := { frames := 0, cells := 0, slots := 0, locals := 0 }
def mX6_forget : MI := (RX6, cX6_forget, 1, none)
def rmX6_forget : Room := { frames := 0, cells := 0, slots := 0, locals := 0 }
def mX6_most : MI := (RX6, cX6_most, 1, some .int)
def rmX6_most : Room := { frames := 4, cells := 0, slots := 0, locals := 91 }
def mX6_matchAll : MI := (RX6, cX6_matchAll, 4, some .int)
def rmX6_matchAll : Room := { frames := 3, cells := 0, slots := 0, locals := 68 }
def mX6_searchFrom : MI := (RX6, cX6_searchFrom, 6, some .int)
def rmX6_searchFrom : Room := { frames := 2, cells := 0, slots := 0, locals := 43 }
def mX6_isInside : MI := (RX6, cX6_isInside, 3, some .boolean)
def rmX6_isInside : Room := { frames := 1, cells := 0, slots := 0, locals := 21 }
def mX6_turnPath : MI := (RX6, cX6_turnPath, 6, none)
def rmX6_turnPath : Room := { frames := 0, cells := 0, slots := 0, locals := 0 }
def mX7_init : MI := (RX7, cX7_init, 1, none)
def rmX7_init : Room := { frames := 2, cells := 0, slots := 0, locals := 42 }
def mX7_reset : MI := (RX7, cX7_reset, 1, none)
def rmX7_reset : Room := { frames := 1, cells := 0, slots := 0, locals := 23 }
def mX7_copy : MI := (RX7, cX7_copy, 3, none)
def rmX7_copy : Room := { frames := 2, cells := 0, slots := 0, locals := 43 }
def mX7_keepList : MI := (RX7, cX7_keepList, 3, none)
def rmX7_keepList : Room := { frames := 2, cells := 0, slots := 0, locals := 43 }
def mX7_weightOf : MI := (RX7, cX7_weightOf, 2, some .int)
def rmX7_weightOf : Room := { frames := 0, cells := 0, slots := 0, locals := 0 }
def mX7_setWeight : MI := (RX7, cX7_setWeight, 3, none)
def rmX7_setWeight : Room := { frames := 0, cells := 0, slots := 0, locals := 0 }
def mX7_massOf : MI := (RX7, cX7_massOf, 4, some .int)
def rmX7_massOf : Room := { frames := 0, cells := 0, slots := 0, locals := 0 }
def mX8_init : MI := (RX8, cX8_init, 2, none)
def rmX8_init : Room := { frames := 2, cells := 0, slots := 0, locals := 42 }
def mX8_mark : MI := (RX8, cX8_mark, 5, some .int)
def rmX8_mark : Room := { frames := 1, cells := 0, slots := 0, locals := 23 }
def mX8_take : MI := (RX8, cX8_take, 4, none)
def rmX8_take : Room := { frames := 2, cells := 0, slots := 0, locals := 47 }
def mX8_isShattered : MI := (RX8, cX8_isShattered, 2, some .boolean)
def rmX8_isShattered : Room := { frames := 2, cells := 0, slots := 0, locals := 47 }
def mX8_depth : MI := (RX8, cX8_depth, 4, some .int)
def rmX8_depth : Room := { frames := 3, cells := 0, slots := 0, locals := 68 }
def mX9_init : MI := (RX9, cX9_init, 2, none)
def rmX9_init : Room := { frames := 0, cells := 0, slots := 0, locals := 0 }
def mX9_countUnions : MI := (RX9, cX9_countUnions, 7, some .int)
def rmX9_countUnions : Room := { frames := 1, cells := 0, slots := 0, locals := 23 }
def mX9_gain : MI := (RX9, cX9_gain, 6, some .int)
def rmX9_gain : Room := { frames := 1, cells := 0, slots := 0, locals := 23 }
def mX9_addPoints : MI := (RX9, cX9_addPoints, 3, none)
def rmX9_addPoints : Room := { frames := 0, cells := 0, slots := 0, locals := 0 }
def mX9_leastGain : MI := (RX9, cX9_leastGain, 6, some .int)
def rmX9_leastGain : Room := { frames := 2, cells := 0, slots := 0, locals := 48 }
def mX9_leastFrequent : MI := (RX9, cX9_leastFrequent, 6, some .int)
def rmX9_leastFrequent : Room := { frames := 3, cells := 0, slots := 0, locals := 72 }
def mX9_countFrequentWith : MI := (RX9, cX9_countFrequentWith, 5, some .int)
def rmX9_countFrequentWith : Room := { frames := 2, cells := 0, slots := 0, locals := 48 }
def mX10_init : MI := (RX10, cX10_init, 1, none)
def rmX10_init : Room := { frames := 5, cells := 0, slots := 0, locals := 107 }
def mX10_feed : MI := (RX10, cX10_feed, 6, some .int)
def rmX10_feed : Room := { frames := 2, cells := 0, slots := 0, locals := 43 }
def mX10_back : MI := (RX10, cX10_back, 2, some .int)
def rmX10_back : Room := { frames := 0, cells := 0, slots := 0, locals := 0 }
def mX10_text : MI := (RX10, cX10_text, 2, some .int)
def rmX10_text : Room := { frames := 8, cells := 0, slots := 0, locals := 175 }
def mX10_generate : MI := (RX10, cX10_generate, 2, some .int)
def rmX10_generate : Room := { frames := 6, cells := 0, slots := 0, locals := 127 }
def mX10_drop : MI := (RX10, cX10_drop, 2, some .boolean)
def rmX10_drop : Room := { frames := 6, cells := 0, slots := 0, locals := 127 }
def mX10_change : MI := (RX10, cX10_change, 4, some .int)
def rmX10_change : Room := { frames := 6, cells := 0, slots := 0, locals := 127 }
def mX10_weigh : MI := (RX10, cX10_weigh, 4, some .int)
def rmX10_weigh : Room := { frames := 6, cells := 0, slots := 0, locals := 127 }
def mX10_swap : MI := (RX10, cX10_swap, 7, some .int)
def rmX10_swap : Room := { frames := 7, cells := 0, slots := 0, locals := 148 }
def mX10_turn : MI := (RX10, cX10_turn, 5, some .int)
def rmX10_turn : Room := { frames := 7, cells := 0, slots := 0, locals := 148 }
def mX10_without : MI := (RX10, cX10_without, 4, some .int)
def rmX10_without : Room := { frames := 6, cells := 0, slots := 0, locals := 127 }
def mX10_lean : MI := (RX10, cX10_lean, 2, some .int)
def rmX10_lean : Room := { frames := 7, cells := 0, slots := 0, locals := 148 }
def mX10_basis : MI := (RX10, cX10_basis, 1, some .int)
def rmX10_basis : Room := { frames := 7, cells := 0, slots := 0, locals := 148 }
def mX10_list : MI := (RX10, cX10_list, 2, some .int)
def rmX10_list : Room := { frames := 6, cells := 0, slots := 0, locals := 127 }
def mX10_strike : MI := (RX10, cX10_strike, 2, some .int)
def rmX10_strike : Room := { frames := 6, cells := 0, slots := 0, locals := 127 }
def mX10_adopt : MI := (RX10, cX10_adopt, 1, some .int)
def rmX10_adopt : Room := { frames := 7, cells := 0, slots := 0, locals := 148 }
def mX10_undo : MI := (RX10, cX10_undo, 1, some .int)
def rmX10_undo : Room := { frames := 5, cells := 0, slots := 0, locals := 107 }
def mX10_generator : MI := (RX10, cX10_generator, 3, some .int)
def rmX10_generator : Room := { frames := 2, cells := 0, slots := 0, locals := 43 }
def mX10_member : MI := (RX10, cX10_member, 2, some .int)
def rmX10_member : Room := { frames := 1, cells := 0, slots := 0, locals := 21 }
def mX10_place : MI := (RX10, cX10_place, 2, some .int)
def rmX10_place : Room := { frames := 1, cells := 0, slots := 0, locals := 21 }
def mX10_based : MI := (RX10, cX10_based, 2, some .int)
def rmX10_based : Room := { frames := 1, cells := 0, slots := 0, locals := 21 }
def mX10_point : MI := (RX10, cX10_point, 3, some .int)
def rmX10_point : Room := { frames := 3, cells := 0, slots := 0, locals := 67 }
def mX10_family : MI := (RX10, cX10_family, 2, some .int)
def rmX10_family : Room := { frames := 5, cells := 0, slots := 0, locals := 111 }
def mX10_sized : MI := (RX10, cX10_sized, 4, some .int)
def rmX10_sized : Room := { frames := 1, cells := 0, slots := 0, locals := 21 }
def mX10_mean : MI := (RX10, cX10_mean, 5, some .int)
def rmX10_mean : Room := { frames := 2, cells := 0, slots := 0, locals := 44 }
def mX10_mass : MI := (RX10, cX10_mass, 2, some .int)
def rmX10_mass : Room := { frames := 1, cells := 0, slots := 0, locals := 23 }
def mX10_inner : MI := (RX10, cX10_inner, 2, some .int)
def rmX10_inner : Room := { frames := 1, cells := 0, slots := 0, locals := 21 }
def mX10_hull : MI := (RX10, cX10_hull, 2, some .int)
def rmX10_hull : Room := { frames := 2, cells := 0, slots := 0, locals := 45 }
def mX10_trace : MI := (RX10, cX10_trace, 3, some .int)
def rmX10_trace : Room := { frames := 3, cells := 0, slots := 0, locals := 70 }
def mX10_part : MI := (RX10, cX10_part, 4, some .int)
def rmX10_part : Room := { frames := 3, cells := 0, slots := 0, locals := 69 }
def mX10_covers : MI := (RX10, cX10_covers, 3, some .int)
def rmX10_covers : Room := { frames := 2, cells := 0, slots := 0, locals := 46 }
def mX10_degree : MI := (RX10, cX10_degree, 3, some .int)
def rmX10_degree : Room := { frames := 4, cells := 0, slots := 0, locals := 91 }
def mX10_single : MI := (RX10, cX10_single, 1, some .int)
def rmX10_single : Room := { frames := 4, cells := 0, slots := 0, locals := 91 }
def mX10_both : MI := (RX10, cX10_both, 6, some .int)
def rmX10_both : Room := { frames := 1, cells := 0, slots := 0, locals := 21 }
def mX10_unshared : MI := (RX10, cX10_unshared, 5, some .int)
def rmX10_unshared : Room := { frames := 2, cells := 0, slots := 0, locals := 44 }
def mX10_chain : MI := (RX10, cX10_chain, 2, some .int)
def rmX10_chain : Room := { frames := 4, cells := 0, slots := 0, locals := 92 }
def mX10_common : MI := (RX10, cX10_common, 3, some .int)
def rmX10_common : Room := { frames := 2, cells := 0, slots := 0, locals := 44 }
def mX10_ranked : MI := (RX10, cX10_ranked, 2, some .int)
def rmX10_ranked : Room := { frames := 3, cells := 0, slots := 0, locals := 67 }
def mX10_nested : MI := (RX10, cX10_nested, 3, some .int)
def rmX10_nested : Room := { frames := 2, cells := 0, slots := 0, locals := 44 }
def mX10_crossing : MI := (RX10, cX10_crossing, 1, some .int)
def rmX10_crossing : Room := { frames := 2, cells := 0, slots := 0, locals := 43 }
def mX10_parts : MI := (RX10, cX10_parts, 1, some .int)
def rmX10_parts : Room := { frames := 3, cells := 0, slots := 0, locals := 68 }
def mX10_shattered : MI := (RX10, cX10_shattered, 2, some .int)
def rmX10_shattered : Room := { frames := 3, cells := 0, slots := 0, locals := 68 }
def mX10_fewest : MI := (RX10, cX10_fewest, 2, some .int)
def rmX10_fewest : Room := { frames := 1, cells := 0, slots := 0, locals := 21 }
def mX10_withSet : MI := (RX10, cX10_withSet, 2, some .int)
def rmX10_withSet : Room := { frames := 2, cells := 0, slots := 0, locals := 48 }
def mX10_withoutGenerator : MI := (RX10, cX10_withoutGenerator, 2, some .int)
def rmX10_withoutGenerator : Room := { frames := 2, cells := 0, slots := 0, locals := 49 }
def mX10_gentlest : MI := (RX10, cX10_gentlest, 1, some .int)
def rmX10_gentlest : Room := { frames := 3, cells := 0, slots := 0, locals := 73 }
def mX10_spoiler : MI := (RX10, cX10_spoiler, 1, some .int)
def rmX10_spoiler : Room := { frames := 4, cells := 0, slots := 0, locals := 97 }
def mX10_proof : MI := (RX10, cX10_proof, 6, some .int)
def rmX10_proof : Room := { frames := 3, cells := 0, slots := 0, locals := 67 }
def mX10_listed : MI := (RX10, cX10_listed, 2, some .int)
def rmX10_listed : Room := { frames := 1, cells := 0, slots := 0, locals := 21 }
def mX10_refused : MI := (RX10, cX10_refused, 5, some .int)
def rmX10_refused : Room := { frames := 1, cells := 0, slots := 0, locals := 22 }
def mX10_needs : MI := (RX10, cX10_needs, 1, some .int)
def rmX10_needs : Room := { frames := 2, cells := 0, slots := 0, locals := 49 }
def mX10_spell : MI := (RX10, cX10_spell, 2, some .int)
def rmX10_spell : Room := { frames := 7, cells := 0, slots := 0, locals := 150 }
def mX10_count : MI := (RX10, cX10_count, 2, some .int)
def rmX10_count : Room := { frames := 3, cells := 0, slots := 0, locals := 65 }
def mX10_isSet : MI := (RX10, cX10_isSet, 2, some .boolean)
def rmX10_isSet : Room := { frames := 0, cells := 0, slots := 0, locals := 0 }
def mX10_isFilledSet : MI := (RX10, cX10_isFilledSet, 2, some .boolean)
def rmX10_isFilledSet : Room := { frames := 1, cells := 0, slots := 0, locals := 21 }
def mX10_isPoint : MI := (RX10, cX10_isPoint, 2, some .boolean)
def rmX10_isPoint : Room := { frames := 0, cells := 0, slots := 0, locals := 0 }
def mX10_isGenerator : MI := (RX10, cX10_isGenerator, 2, some .boolean)
def rmX10_isGenerator : Room := { frames := 0, cells := 0, slots := 0, locals := 0 }
def mX10_isMember : MI := (RX10, cX10_isMember, 2, some .boolean)
def rmX10_isMember : Room := { frames := 0, cells := 0, slots := 0, locals := 0 }
def mX10_isIdle : MI := (RX10, cX10_isIdle, 2, some .boolean)
def rmX10_isIdle : Room := { frames := 1, cells := 0, slots := 0, locals := 22 }
def mX10_idleGenerators : MI := (RX10, cX10_idleGenerators, 3, some .int)
def rmX10_idleGenerators : Room := { frames := 2, cells := 0, slots := 0, locals := 43 }
def mX10_generatorsWith : MI := (RX10, cX10_generatorsWith, 4, some .int)
def rmX10_generatorsWith : Room := { frames := 1, cells := 0, slots := 0, locals := 21 }
def mX10_settle : MI := (RX10, cX10_settle, 1, none)
def rmX10_settle : Room := { frames := 5, cells := 0, slots := 0, locals := 107 }
def mX10_settleChanged : MI := (RX10, cX10_settleChanged, 2, some .int)
def rmX10_settleChanged : Room := { frames := 6, cells := 0, slots := 0, locals := 127 }
def mX10_replaceGenerators : MI := (RX10, cX10_replaceGenerators, 2, some .int)
def rmX10_replaceGenerators : Room := { frames := 6, cells := 0, slots := 0, locals := 127 }
def mX10_refresh : MI := (RX10, cX10_refresh, 1, none)
def rmX10_refresh : Room := { frames := 4, cells := 0, slots := 0, locals := 87 }
def mX10_fillTrial : MI := (RX10, cX10_fillTrial, 5, some .int)
def rmX10_fillTrial : Room := { frames := 1, cells := 0, slots := 0, locals := 21 }
def mX10_trialDigits : MI := (RX10, cX10_trialDigits, 3, some .int)
def rmX10_trialDigits : Room := { frames := 0, cells := 0, slots := 0, locals := 0 }
def mX10_bit : MI := (RX10, cX10_bit, 1, some .int)
def rmX10_bit : Room := { frames := 0, cells := 0, slots := 0, locals := 0 }
def mX10_exchanged : MI := (RX10, cX10_exchanged, 4, some .int)
def rmX10_exchanged : Room := { frames := 0, cells := 0, slots := 0, locals := 0 }
def mX10_rotated : MI := (RX10, cX10_rotated, 3, some .int)
def rmX10_rotated : Room := { frames := 0, cells := 0, slots := 0, locals := 0 }
def mX10_commonDivisor : MI := (RX10, cX10_commonDivisor, 6, some .int)
def rmX10_commonDivisor : Room := { frames := 0, cells := 0, slots := 0, locals := 0 }
def mX11_init : MI := (RX11, cX11_init, 1, none)
def rmX11_init : Room := { frames := 1, cells := 0, slots := 0, locals := 21 }
def mX11_in : MI := (RX11, cX11_in, 3, some .boolean)
def rmX11_in : Room := { frames := 0, cells := 0, slots := 0, locals := 0 }
def mX11_has : MI := (RX11, cX11_has, 2, some .boolean)
def rmX11_has : Room := { frames := 0, cells := 0, slots := 0, locals := 0 }
def mX11_isWithin : MI := (RX11, cX11_isWithin, 2, some .boolean)
def rmX11_isWithin : Room := { frames := 0, cells := 0, slots := 0, locals := 0 }
def mX11_ones : MI := (RX11, cX11_ones, 3, some .int)
def rmX11_ones : Room := { frames := 0, cells := 0, slots := 0, locals := 0 }
def mX11_starts : MI := (RX11, cX11_starts, 2, none)
def rmX11_starts : Room := { frames := 0, cells := 0, slots := 0, locals := 0 }
def mX11_keeps : MI := (RX11, cX11_keeps, 2, none)
def rmX11_keeps : Room := { frames := 0, cells := 0, slots := 0, locals := 0 }
def mX11_many : MI := (RX11, cX11_many, 1, some .int)
def rmX11_many : Room := { frames := 0, cells := 0, slots := 0, locals := 0 }
def mX11_gen : MI := (RX11, cX11_gen, 2, some .int)
def rmX11_gen : Room := { frames := 0, cells := 0, slots := 0, locals := 0 }
def mX11_isGenerator : MI := (RX11, cX11_isGenerator, 2, some .boolean)
def rmX11_isGenerator : Room := { frames := 1, cells := 0, slots := 0, locals := 22 }
def mX11_isPoint : MI := (RX11, cX11_isPoint, 2, some .boolean)
def rmX11_isPoint : Room := { frames := 1, cells := 0, slots := 0, locals := 22 }
def mX11_allPoints : MI := (RX11, cX11_allPoints, 1, some .int)
def rmX11_allPoints : Room := { frames := 0, cells := 0, slots := 0, locals := 0 }
def mX11_isSet : MI := (RX11, cX11_isSet, 2, some .boolean)
def rmX11_isSet : Room := { frames := 1, cells := 0, slots := 0, locals := 22 }
def mX11_isThere : MI := (RX11, cX11_isThere, 5, some .boolean)
def rmX11_isThere : Room := { frames := 0, cells := 0, slots := 0, locals := 0 }
def mX11_isTold : MI := (RX11, cX11_isTold, 2, some .boolean)
def rmX11_isTold : Room := { frames := 1, cells := 0, slots := 0, locals := 24 }
def mX11_generate : MI := (RX11, cX11_generate, 2, some .int)
def rmX11_generate : Room := { frames := 2, cells := 0, slots := 0, locals := 45 }
def mX11_takesOut : MI := (RX11, cX11_takesOut, 3, none)
def rmX11_takesOut : Room := { frames := 1, cells := 0, slots := 0, locals := 20 }
def mX11_drop : MI := (RX11, cX11_drop, 2, some .boolean)
def rmX11_drop : Room := { frames := 2, cells := 0, slots := 0, locals := 43 }
def mX11_change : MI := (RX11, cX11_change, 4, some .int)
def rmX11_change : Room := { frames := 2, cells := 0, slots := 0, locals := 45 }
def mX11_weigh : MI := (RX11, cX11_weigh, 4, some .int)
def rmX11_weigh : Room := { frames := 2, cells := 0, slots := 0, locals := 43 }
def mX11_unlike : MI := (RX11, cX11_unlike, 3, some .int)
def rmX11_unlike : Room := { frames := 1, cells := 0, slots := 0, locals := 21 }
def mX11_becomes : MI := (RX11, cX11_becomes, 2, none)
def rmX11_becomes : Room := { frames := 1, cells := 0, slots := 0, locals := 21 }
def mX11_changes : MI := (RX11, cX11_changes, 2, some .int)
def rmX11_changes : Room := { frames := 2, cells := 0, slots := 0, locals := 43 }
def mX11_swap : MI := (RX11, cX11_swap, 5, some .int)
def rmX11_swap : Room := { frames := 3, cells := 0, slots := 0, locals := 64 }
def mX11_turn : MI := (RX11, cX11_turn, 3, some .int)
def rmX11_turn : Room := { frames := 3, cells := 0, slots := 0, locals := 64 }
def mX11_without : MI := (RX11, cX11_without, 5, some .int)
def rmX11_without : Room := { frames := 2, cells := 0, slots := 0, locals := 43 }
def mX11_lean : MI := (RX11, cX11_lean, 3, some .int)
def rmX11_lean : Room := { frames := 3, cells := 0, slots := 0, locals := 69 }
def mX11_replaces : MI := (RX11, cX11_replaces, 1, some .int)
def rmX11_replaces : Room := { frames := 2, cells := 0, slots := 0, locals := 43 }
def mX11_basis : MI := (RX11, cX11_basis, 2, some .int)
def rmX11_basis : Room := { frames := 3, cells := 0, slots := 0, locals := 69 }
def mX11_listMany : MI := (RX11, cX11_listMany, 1, some .int)
def rmX11_listMany : Room := { frames := 0, cells := 0, slots := 0, locals := 0 }
def mX11_isListed : MI := (RX11, cX11_isListed, 2, some .boolean)
def rmX11_isListed : Room := { frames := 1, cells := 0, slots := 0, locals := 24 }
def mX11_list : MI := (RX11, cX11_list, 2, some .int)
def rmX11_list : Room := { frames := 2, cells := 0, slots := 0, locals := 45 }
def mX11_strike : MI := (RX11, cX11_strike, 3, some .int)
def rmX11_strike : Room := { frames := 1, cells := 0, slots := 0, locals := 22 }
def mX11_adopt : MI := (RX11, cX11_adopt, 2, some .int)
def rmX11_adopt : Room := { frames := 3, cells := 0, slots := 0, locals := 63 }
def mX11_undo : MI := (RX11, cX11_undo, 2, some .int)
def rmX11_undo : Room := { frames := 0, cells := 0, slots := 0, locals := 0 }
def mX11_spans : MI := (RX11, cX11_spans, 7, none)
def rmX11_spans : Room := { frames := 1, cells := 0, slots := 0, locals := 21 }
def mX11_manyOf : MI := (RX11, cX11_manyOf, 3, some .int)
def rmX11_manyOf : Room := { frames := 0, cells := 0, slots := 0, locals := 0 }
def mX11_lays : MI := (RX11, cX11_lays, 3, none)
def rmX11_lays : Room := { frames := 2, cells := 0, slots := 0, locals := 47 }
def mX11_isMember : MI := (RX11, cX11_isMember, 2, some .boolean)
def rmX11_isMember : Room := { frames := 1, cells := 0, slots := 0, locals := 22 }
def mX11_top : MI := (RX11, cX11_top, 1, some .int)
def rmX11_top : Room := { frames := 0, cells := 0, slots := 0, locals := 0 }
def mX11_innerOf : MI := (RX11, cX11_innerOf, 5, some .int)
def rmX11_innerOf : Room := { frames := 1, cells := 0, slots := 0, locals := 21 }
def mX11_isBased : MI := (RX11, cX11_isBased, 2, some .boolean)
def rmX11_isBased : Room := { frames := 2, cells := 0, slots := 0, locals := 45 }
def mX11_frequencyIn : MI := (RX11, cX11_frequencyIn, 4, some .int)
def rmX11_frequencyIn : Room := { frames := 1, cells := 0, slots := 0, locals := 21 }
def mX11_frequentIn : MI := (RX11, cX11_frequentIn, 5, some .int)
def rmX11_frequentIn : Room := { frames := 2, cells := 0, slots := 0, locals := 44 }
def mX11_massOf : MI := (RX11, cX11_massOf, 4, some .int)
def rmX11_massOf : Room := { frames := 1, cells := 0, slots := 0, locals := 21 }
def mX11_isCovered : MI := (RX11, cX11_isCovered, 5, some .boolean)
def rmX11_isCovered : Room := { frames := 1, cells := 0, slots := 0, locals := 21 }
def mX11_degreeOf : MI := (RX11, cX11_degreeOf, 5, some .int)
def rmX11_degreeOf : Room := { frames := 2, cells := 0, slots := 0, locals := 45 }
def mX11_generator : MI := (RX11, cX11_generator, 4, some .int)
def rmX11_generator : Room := { frames := 3, cells := 0, slots := 0, locals := 69 }
def mX11_member : MI := (RX11, cX11_member, 2, some .int)
def rmX11_member : Room := { frames := 3, cells := 0, slots := 0, locals := 69 }
def mX11_place : MI := (RX11, cX11_place, 2, some .int)
def rmX11_place : Room := { frames := 3, cells := 0, slots := 0, locals := 69 }
def mX11_based : MI := (RX11, cX11_based, 4, some .int)
def rmX11_based : Room := { frames := 3, cells := 0, slots := 0, locals := 69 }
def mX11_together : MI := (RX11, cX11_together, 5, some .int)
def rmX11_together : Room := { frames := 1, cells := 0, slots := 0, locals := 21 }
def mX11_twinOf : MI := (RX11, cX11_twinOf, 4, some .int)
def rmX11_twinOf : Room := { frames := 2, cells := 0, slots := 0, locals := 45 }
def mX11_leastWith : MI := (RX11, cX11_leastWith, 3, some .int)
def rmX11_leastWith : Room := { frames := 1, cells := 0, slots := 0, locals := 22 }
def mX11_point : MI := (RX11, cX11_point, 5, some .int)
def rmX11_point : Room := { frames := 3, cells := 0, slots := 0, locals := 69 }
def mX11_measures : MI := (RX11, cX11_measures, 6, none)
def rmX11_measures : Room := { frames := 1, cells := 0, slots := 0, locals := 21 }
def mX11_couples : MI := (RX11, cX11_couples, 6, some .boolean)
def rmX11_couples : Room := { frames := 1, cells := 0, slots := 0, locals := 24 }
def mX11_turnsOver : MI := (RX11, cX11_turnsOver, 5, none)
def rmX11_turnsOver : Room := { frames := 0, cells := 0, slots := 0, locals := 0 }
def mX11_spread : MI := (RX11, cX11_spread, 3, some .int)
def rmX11_spread : Room := { frames := 2, cells := 0, slots := 0, locals := 49 }
def mX11_traces : MI := (RX11, cX11_traces, 3, some .int)
def rmX11_traces : Room := { frames := 1, cells := 0, slots := 0, locals := 22 }
def mX11_isShattered : MI := (RX11, cX11_isShattered, 2, some .boolean)
def rmX11_isShattered : Room := { frames := 2, cells := 0, slots := 0, locals := 44 }
def mX11_depth : MI := (RX11, cX11_depth, 3, some .int)
def rmX11_depth : Room := { frames := 3, cells := 0, slots := 0, locals := 65 }
def mX11_coverMany : MI := (RX11, cX11_coverMany, 3, some .int)
def rmX11_coverMany : Room := { frames := 3, cells := 0, slots := 0, locals := 69 }
def mX11_basedMany : MI := (RX11, cX11_basedMany, 3, some .int)
def rmX11_basedMany : Room := { frames := 3, cells := 0, slots := 0, locals := 66 }
def mX11_massOfAll : MI := (RX11, cX11_massOfAll, 3, some .int)
def rmX11_massOfAll : Room := { frames := 2, cells := 0, slots := 0, locals := 44 }
def mX11_byFrequency : MI := (RX11, cX11_byFrequency, 7, some .int)
def rmX11_byFrequency : Room := { frames := 2, cells := 0, slots := 0, locals := 44 }
def mX11_family : MI := (RX11, cX11_family, 2, some .int)
def rmX11_family : Room := { frames := 4, cells := 0, slots := 0, locals := 91 }
def mX11_sizedMany : MI := (RX11, cX11_sizedMany, 4, some .int)
def rmX11_sizedMany : Room := { frames := 1, cells := 0, slots := 0, locals := 22 }
def mX11_sized : MI := (RX11, cX11_sized, 2, some .int)
def rmX11_sized : Room := { frames := 3, cells := 0, slots := 0, locals := 69 }
def mX11_mean : MI := (RX11, cX11_mean, 7, some .int)
def rmX11_mean : Room := { frames := 3, cells := 0, slots := 0, locals := 69 }
def mX11_mass : MI := (RX11, cX11_mass, 2, some .int)
def rmX11_mass : Room := { frames := 2, cells := 0, slots := 0, locals := 44 }
def mX11_inner : MI := (RX11, cX11_inner, 2, some .int)
def rmX11_inner : Room := { frames := 3, cells := 0, slots := 0, locals := 69 }
def mX11_hull : MI := (RX11, cX11_hull, 4, some .int)
def rmX11_hull : Room := { frames := 3, cells := 0, slots := 0, locals := 69 }
def mX11_trace : MI := (RX11, cX11_trace, 7, some .int)
def rmX11_trace : Room := { frames := 3, cells := 0, slots := 0, locals := 69 }
def mX11_isClosed : MI := (RX11, cX11_isClosed, 6, some .boolean)
def rmX11_isClosed : Room := { frames := 1, cells := 0, slots := 0, locals := 21 }
def mX11_part : MI := (RX11, cX11_part, 8, some .int)
def rmX11_part : Room := { frames := 3, cells := 0, slots := 0, locals := 69 }
def mX11_covers : MI := (RX11, cX11_covers, 3, some .int)
def rmX11_covers : Room := { frames := 3, cells := 0, slots := 0, locals := 69 }
def mX11_degree : MI := (RX11, cX11_degree, 3, some .int)
def rmX11_degree : Room := { frames := 3, cells := 0, slots := 0, locals := 69 }
def mX11_single : MI := (RX11, cX11_single, 3, some .int)
def rmX11_single : Room := { frames := 3, cells := 0, slots := 0, locals := 69 }
def mX11_both : MI := (RX11, cX11_both, 4, some .int)
def rmX11_both : Room := { frames := 3, cells := 0, slots := 0, locals := 69 }
def mX11_unshared : MI := (RX11, cX11_unshared, 6, some .int)
def rmX11_unshared : Room := { frames := 3, cells := 0, slots := 0, locals := 69 }
def mX11_chain : MI := (RX11, cX11_chain, 5, some .int)
def rmX11_chain : Room := { frames := 3, cells := 0, slots := 0, locals := 69 }
def mX11_common : MI := (RX11, cX11_common, 3, some .int)
def rmX11_common : Room := { frames := 3, cells := 0, slots := 0, locals := 69 }
def mX11_ranked : MI := (RX11, cX11_ranked, 2, some .int)
def rmX11_ranked : Room := { frames := 3, cells := 0, slots := 0, locals := 70 }
def mX11_nested : MI := (RX11, cX11_nested, 5, some .int)
def rmX11_nested : Room := { frames := 3, cells := 0, slots := 0, locals := 69 }
def mX11_crossing : MI := (RX11, cX11_crossing, 3, some .int)
def rmX11_crossing : Room := { frames := 3, cells := 0, slots := 0, locals := 69 }
def mX11_parts : MI := (RX11, cX11_parts, 7, some .int)
def rmX11_parts : Room := { frames := 3, cells := 0, slots := 0, locals := 69 }
def mX11_shattered : MI := (RX11, cX11_shattered, 2, some .int)
def rmX11_shattered : Room := { frames := 3, cells := 0, slots := 0, locals := 69 }
def mX11_fewest : MI := (RX11, cX11_fewest, 5, some .int)
def rmX11_fewest : Room := { frames := 2, cells := 0, slots := 0, locals := 43 }
def mX11_withOne : MI := (RX11, cX11_withOne, 2, some .int)
def rmX11_withOne : Room := { frames := 2, cells := 0, slots := 0, locals := 47 }
def mX11_withSet : MI := (RX11, cX11_withSet, 2, some .int)
def rmX11_withSet : Room := { frames := 3, cells := 0, slots := 0, locals := 68 }
def mX11_withoutGenerator : MI := (RX11, cX11_withoutGenerator, 2, some .int)
def rmX11_withoutGenerator : Room := { frames := 2, cells := 0, slots := 0, locals := 47 }
def mX11_gentlest : MI := (RX11, cX11_gentlest, 6, some .int)
def rmX11_gentlest : Room := { frames := 3, cells := 0, slots := 0, locals := 69 }
def mX11_spoiler : MI := (RX11, cX11_spoiler, 6, some .int)
def rmX11_spoiler : Room := { frames := 3, cells := 0, slots := 0, locals := 68 }
def mX11_sumOf : MI := (RX11, cX11_sumOf, 5, some .int)
def rmX11_sumOf : Room := { frames := 0, cells := 0, slots := 0, locals := 0 }
def mX11_isProved : MI := (RX11, cX11_isProved, 4, some .boolean)
def rmX11_isProved : Room := { frames := 2, cells := 0, slots := 0, locals := 44 }
def mX11_proof : MI := (RX11, cX11_proof, 7, some .int)
def rmX11_proof : Room := { frames := 3, cells := 0, slots := 0, locals := 69 }
def mX11_listed : MI := (RX11, cX11_listed, 2, some .int)
def rmX11_listed : Room := { frames := 1, cells := 0, slots := 0, locals := 22 }
def mX11_refused : MI := (RX11, cX11_refused, 5, some .int)
def rmX11_refused : Room := { frames := 2, cells := 0, slots := 0, locals := 45 }
def mX11_needs : MI := (RX11, cX11_needs, 3, some .int)
def rmX11_needs : Room := { frames := 1, cells := 0, slots := 0, locals := 22 }
def mX11_writes : MI := (RX11, cX11_writes, 2, none)
def rmX11_writes : Room := { frames := 0, cells := 0, slots := 0, locals := 0 }
def mX11_writesWord : MI := (RX11, cX11_writesWord, 3, none)
def rmX11_writesWord : Room := { frames := 1, cells := 0, slots := 0, locals := 23 }
def mX11_spell : MI := (RX11, cX11_spell, 4, some .int)
def rmX11_spell : Room := { frames := 2, cells := 0, slots := 0, locals := 45 }
def mX11_idle : MI := (RX11, cX11_idle, 3, some .int)
def rmX11_idle : Room := { frames := 3, cells := 0, slots := 0, locals := 69 }
def mX11_count : MI := (RX11, cX11_count, 2, some .int)
def rmX11_count : Room := { frames := 4, cells := 0, slots := 0, locals := 91 }
def mX11_feed : MI := (RX11, cX11_feed, 8, some .int)
def rmX11_feed : Room := { frames := 0, cells := 0, slots := 0, locals := 0 }
def mX11_back : MI := (RX11, cX11_back, 2, some .int)
def rmX11_back : Room := { frames := 1, cells := 0, slots := 0, locals := 22 }
def mX11_wordFrom : MI := (RX11, cX11_wordFrom, 4, some .int)
def rmX11_wordFrom : Room := { frames := 0, cells := 0, slots := 0, locals := 0 }
def mX11_here : MI := (RX11, cX11_here, 1, some .int)
def rmX11_here : Room := { frames := 0, cells := 0, slots := 0, locals := 0 }
def mX11_goesOn : MI := (RX11, cX11_goesOn, 5, none)
def rmX11_goesOn : Room := { frames := 1, cells := 0, slots := 0, locals := 22 }
def mX11_takesWord : MI := (RX11, cX11_takesWord, 4, some .boolean)
def rmX11_takesWord : Room := { frames := 2, cells := 0, slots := 0, locals := 46 }
def mX11_needsNumber : MI := (RX11, cX11_needsNumber, 4, some .int)
def rmX11_needsNumber : Room := { frames := 2, cells := 0, slots := 0, locals := 46 }
def mX11_needsLetters : MI := (RX11, cX11_needsLetters, 4, some .int)
def rmX11_needsLetters : Room := { frames := 1, cells := 0, slots := 0, locals := 21 }
def mX11_readsWeight : MI := (RX11, cX11_readsWeight, 4, none)
def rmX11_readsWeight : Room := { frames := 3, cells := 0, slots := 0, locals := 69 }
def mX11_readsSet : MI := (RX11, cX11_readsSet, 3, none)
def rmX11_readsSet : Room := { frames := 2, cells := 0, slots := 0, locals := 46 }
def mX11_readsOne : MI := (RX11, cX11_readsOne, 3, none)
def rmX11_readsOne : Room := { frames := 4, cells := 0, slots := 0, locals := 92 }
def mX11_keepsList : MI := (RX11, cX11_keepsList, 3, none)
def rmX11_keepsList : Room := { frames := 1, cells := 0, slots := 0, locals := 20 }
def mX11_text : MI := (RX11, cX11_text, 3, some .int)
def rmX11_text : Room := { frames := 5, cells := 0, slots := 0, locals := 114 }
def mJ6_bitCount_0f7a4 : MI := (RJ6, cJ6_bitCount_0f7a4, 1, some .int)
def rmJ6_bitCount_0f7a4 : Room := { frames := 0, cells := 0, slots := 0, locals := 0 }
def mJ9_floorMod_7cf53 : MI := (RJ9, cJ9_floorMod_7cf53, 3, some .int)
def rmJ9_floorMod_7cf53 : Room := { frames := 0, cells := 0, slots := 0, locals := 0 }
def mJ9_max_7cf53 : MI := (RJ9, cJ9_max_7cf53, 2, some .int)
def rmJ9_max_7cf53 : Room := { frames := 0, cells := 0, slots := 0, locals := 0 }
def mJ9_min_7cf53 : MI := (RJ9, cJ9_min_7cf53, 2, some .int)
def rmJ9_min_7cf53 : Room := { frames := 0, cells := 0, slots := 0, locals := 0 }
def mJ0_length_8abf5 : MI := (RJ0, cJ0_length_8abf5, 1, some .int)
def rmJ0_length_8abf5 : Room := { frames := 1, cells := 0, slots := 0, locals := 20 }
def mJ0_charAt_5068e : MI := (RJ0, cJ0_charAt_5068e, 2, some .char)
def rmJ0_charAt_5068e : Room := { frames := 4, cells := 0, slots := 0, locals := 85 }
def mJ0_coder_7d493 : MI := (RJ0, cJ0_coder_7d493, 1, some .byte)
def rmJ0_coder_7d493 : Room := { frames := 0, cells := 0, slots := 0, locals := 0 }
def mJ0_isLatin1_aae02 : MI := (RJ0, cJ0_isLatin1_aae02, 1, some .boolean)
def rmJ0_isLatin1_aae02 : Room := { frames := 0, cells := 0, slots := 0, locals := 0 }
def mJ0_checkIndex_df160 : MI := (RJ0, cJ0_checkIndex_df160, 2, none)
def rmJ0_checkIndex_df160 : Room := { frames := 1, cells := 0, slots := 0, locals := 22 }
def mJ1_charAt_3b067 : MI := (RJ1, cJ1_charAt_3b067, 2, some .char)
def rmJ1_charAt_3b067 : Room := { frames := 2, cells := 0, slots := 0, locals := 43 }
def mJ2_getChar_3b067 : MI := (RJ2, cJ2_getChar_3b067, 2, some .char)
def rmJ2_getChar_3b067 : Room := { frames := 1, cells := 0, slots := 0, locals := 20 }
def mJ2_length_9d52b : MI := (RJ2, cJ2_length_9d52b, 1, some .int)
def rmJ2_length_9d52b : Room := { frames := 0, cells := 0, slots := 0, locals := 0 }
def mJ2_charAt_3b067 : MI := (RJ2, cJ2_charAt_3b067, 2, some .char)
def rmJ2_charAt_3b067 : Room := { frames := 3, cells := 0, slots := 0, locals := 64 }
def mJ2_checkIndex_2214a : MI := (RJ2, cJ2_checkIndex_2214a, 2, none)
def rmJ2_checkIndex_2214a : Room := { frames := 2, cells := 0, slots := 0, locals := 43 }
def mJ7_fill_53178 : MI := (RJ7, cJ7_fill_53178, 4, none)
def rmJ7_fill_53178 : Room := { frames := 0, cells := 0, slots := 0, locals := 0 }
def mJ3_checkIndex_8e157 : MI := (RJ3, cJ3_checkIndex_8e157, 3, some .int)
def rmJ3_checkIndex_8e157 : Room := { frames := 0, cells := 0, slots := 0, locals := 0 }
theorem f_RX10_10 : kFL RX10 10 10 0 false := ⟨_, _, _, rfl, by decide, kMem 401 (by decide +kernel) rfl, inX10, rfl, by decide⟩
theorem f_RX10_16 : kFL RX10 16 10 1 false := ⟨_, _, _, rfl, by decide, kMem 402 (by decide +kernel) rfl, inX10, rfl, by decide⟩
theorem f_RX10_22 : kFL RX10 22 10 2 false := ⟨_, _, _, rfl, by decide, kMem 403 (by decide +kernel) rfl, inX10, rfl, by decide⟩
theorem f_RX10_31 : kFL RX10 31 10 3 false := ⟨_, _, _, rfl, by decide, kMem 404 (by decide +kernel) rfl, inX10, rfl, by decide⟩
theorem f_RX10_40 : kFL RX10 40 10 4 false := ⟨_, _, _, rfl, by decide, kMem 405 (by decide +kernel) rfl, inX10, rfl, by decide⟩
theorem f_RX10_47 : kFL RX10 47 10 5 false := ⟨_, _, _, rfl, by decide, kMem 406 (by decide +kernel) rfl, inX10, rfl, by decide⟩
theorem f_RX10_54 : kFL RX10 54 10 6 false := ⟨_, _, _, rfl, by decide, kMem 407 (by decide +kernel) rfl, inX10, rfl, by decide⟩
theorem f_RX10_63 : kFL RX10 63 10 7 false := ⟨_, _, _, rfl, by decide, kMem 408 (by decide +kernel) rfl, inX10, rfl, by decide⟩
theorem f_RX10_69 : kFL RX10 69 0 1 false := ⟨_, _, _, rfl, by decide, kMem 225 (by decide +kernel) rfl, inX0, rfl, by decide⟩
theorem f_RX10_75 : kFL RX10 75 10 8 false := ⟨_, _, _, rfl, by decide, kMem 409 (by decide +kernel) rfl, inX10, rfl, by decide⟩
theorem f_RX10_82 : kFL RX10 82 10 9 false := ⟨_, _, _, rfl, by decide, kMem 410 (by decide +kernel) rfl, inX10, rfl, by decide⟩
theorem f_RX10_89 : kFL RX10 89 10 10 false := ⟨_, _, _, rfl, by decide, kMem 411 (by decide +kernel) rfl, inX10, rfl, by decide⟩
theorem f_RX10_93 : kFL RX10 93 10 11 false := ⟨_, _, _, rfl, by decide, kMem 412 (by decide +kernel) rfl, inX10, rfl, by decide⟩
theorem f_RX10_100 : kFL RX10 100 4 1 true := ⟨_, _, _, rfl, by decide, kMem 116 (by decide +kernel) rfl, inX4, rfl, by decide⟩
theorem f_RX10_114 : kFL RX10 114 7 1 false := ⟨_, _, _, rfl, by decide, kMem 139 (by decide +kernel) rfl, inX7, rfl, by decide⟩
theorem f_RX10_125 : kFL RX10 125 7 0 false := ⟨_, _, _, rfl, by decide, kMem 137 (by decide +kernel) rfl, inX7, rfl, by decide⟩
theorem f_RX10_171 : kFL RX10 171 7 3 true := ⟨_, _, _, rfl, by decide, kMem 145 (by decide +kernel) rfl, inX7, rfl, by decide⟩
theorem f_RX10_184 : kFL RX10 184 0 2 false := ⟨_, _, _, rfl, by decide, kMem 230 (by decide +kernel) rfl, inX0, rfl, by decide⟩
theorem f_RX10_191 : kFL RX10 191 1 2 true := ⟨_, _, _, rfl, by decide, kMem 167 (by decide +kernel) rfl, inX1, rfl, by decide⟩
theorem f_RX10_238 : kFL RX10 238 7 2 false := ⟨_, _, _, rfl, by decide, kMem 141 (by decide +kernel) rfl, inX7, rfl, by decide⟩
theorem f_RX10_276 : kFL RX10 276 8 1 false := ⟨_, _, _, rfl, by decide, kMem 311 (by decide +kernel) rfl, inX8, rfl, by decide⟩
theorem f_RX10_351 : kFL RX10 351 5 0 false := ⟨_, _, _, rfl, by decide, kMem 205 (by decide +kernel) rfl, inX5, rfl, by decide⟩
theorem f_RX0_9 : kFL RX0 9 0 0 false := ⟨_, _, _, rfl, by decide, kMem 223 (by decide +kernel) rfl, inX0, rfl, by decide⟩
theorem f_RX0_20 : kFL RX0 20 0 1 false := ⟨_, _, _, rfl, by decide, kMem 224 (by decide +kernel) rfl, inX0, rfl, by decide⟩
theorem f_RX0_24 : kFL RX0 24 0 2 false := ⟨_, _, _, rfl, by decide, kMem 229 (by decide +kernel) rfl, inX0, rfl, by decide⟩
theorem f_RX0_27 : kFL RX0 27 0 3 false := ⟨_, _, _, rfl, by decide, kMem 231 (by decide +kernel) rfl, inX0, rfl, by decide⟩
theorem f_RX0_30 : kFL RX0 30 0 4 false := ⟨_, _, _, rfl, by decide, kMem 232 (by decide +kernel) rfl, inX0, rfl, by decide⟩
theorem f_RX0_33 : kFL RX0 33 0 5 false := ⟨_, _, _, rfl, by decide, kMem 233 (by decide +kernel) rfl, inX0, rfl, by decide⟩
theorem f_RX0_36 : kFL RX0 36 0 6 false := ⟨_, _, _, rfl, by decide, kMem 234 (by decide +kernel) rfl, inX0, rfl, by decide⟩
theorem f_RX0_39 : kFL RX0 39 0 7 true := ⟨_, _, _, rfl, by decide, kMem 235 (by decide +kernel) rfl, inX0, rfl, by decide⟩
theorem f_RX0_71 : kFL RX0 71 4 1 true := ⟨_, _, _, rfl, by decide, kMem 122 (by decide +kernel) rfl, inX4, rfl, by decide⟩
theorem f_RX1_11 : kFL RX1 11 1 0 false := ⟨_, _, _, rfl, by decide, kMem 164 (by decide +kernel) rfl, inX1, rfl, by decide⟩
theorem f_RX1_18 : kFL RX1 18 1 1 true := ⟨_, _, _, rfl, by decide, kMem 165 (by decide +kernel) rfl, inX1, rfl, by decide⟩
theorem f_RX1_22 : kFL RX1 22 1 2 true := ⟨_, _, _, rfl, by decide, kMem 166 (by decide +kernel) rfl, inX1, rfl, by decide⟩
theorem f_RX2_9 : kFL RX2 9 2 0 false := ⟨_, _, _, rfl, by decide, kMem 260 (by decide +kernel) rfl, inX2, rfl, by decide⟩
theorem f_RX2_15 : kFL RX2 15 2 1 false := ⟨_, _, _, rfl, by decide, kMem 261 (by decide +kernel) rfl, inX2, rfl, by decide⟩
theorem f_RX2_19 : kFL RX2 19 2 2 false := ⟨_, _, _, rfl, by decide, kMem 262 (by decide +kernel) rfl, inX2, rfl, by decide⟩
theorem f_RX2_22 : kFL RX2 22 2 3 false := ⟨_, _, _, rfl, by decide, kMem 263 (by decide +kernel) rfl, inX2, rfl, by decide⟩
theorem f_RX2_25 : kFL RX2 25 2 4 true := ⟨_, _, _, rfl, by decide, kMem 264 (by decide +kernel) rfl, inX2, rfl, by decide⟩
theorem f_RX2_35 : kFL RX2 35 0 1 false := ⟨_, _, _, rfl, by decide, kMem 228 (by decide +kernel) rfl, inX0, rfl, by decide⟩
theorem f_RX2_41 : kFL RX2 41 4 1 true := ⟨_, _, _, rfl, by decide, kMem 123 (by decide +kernel) rfl, inX4, rfl, by decide⟩
theorem f_RX3_9 : kFL RX3 9 3 0 false := ⟨_, _, _, rfl, by decide, kMem 183 (by decide +kernel) rfl, inX3, rfl, by decide⟩
theorem f_RX3_15 : kFL RX3 15 3 1 false := ⟨_, _, _, rfl, by decide, kMem 184 (by decide +kernel) rfl, inX3, rfl, by decide⟩
theorem f_RX3_19 : kFL RX3 19 3 2 true := ⟨_, _, _, rfl, by decide, kMem 185 (by decide +kernel) rfl, inX3, rfl, by decide⟩
theorem f_RX3_23 : kFL RX3 23 3 3 true := ⟨_, _, _, rfl, by decide, kMem 186 (by decide +kernel) rfl, inX3, rfl, by decide⟩
theorem f_RX3_34 : kFL RX3 34 4 1 true := ⟨_, _, _, rfl, by decide, kMem 119 (by decide +kernel) rfl, inX4, rfl, by decide⟩
theorem f_RX3_63 : kFL RX3 63 7 0 false := ⟨_, _, _, rfl, by decide, kMem 136 (by decide +kernel) rfl, inX7, rfl, by decide⟩
theorem f_RX3_83 : kFL RX3 83 7 3 true := ⟨_, _, _, rfl, by decide, kMem 144 (by decide +kernel) rfl, inX7, rfl, by decide⟩
theorem f_RX4_15 : kFL RX4 15 4 0 false := ⟨_, _, _, rfl, by decide, kMem 114 (by decide +kernel) rfl, inX4, rfl, by decide⟩
theorem f_RX4_21 : kFL RX4 21 4 1 true := ⟨_, _, _, rfl, by decide, kMem 115 (by decide +kernel) rfl, inX4, rfl, by decide⟩
theorem f_RX5_14 : kFL RX5 14 5 0 false := ⟨_, _, _, rfl, by decide, kMem 204 (by decide +kernel) rfl, inX5, rfl, by decide⟩
theorem f_RX5_29 : kFL RX5 29 7 3 true := ⟨_, _, _, rfl, by decide, kMem 143 (by decide +kernel) rfl, inX7, rfl, by decide⟩
theorem f_RX5_46 : kFL RX5 46 7 0 false := ⟨_, _, _, rfl, by decide, kMem 135 (by decide +kernel) rfl, inX7, rfl, by decide⟩
theorem f_RX5_49 : kFL RX5 49 4 1 true := ⟨_, _, _, rfl, by decide, kMem 120 (by decide +kernel) rfl, inX4, rfl, by decide⟩
theorem f_RX6_9 : kFL RX6 9 6 0 false := ⟨_, _, _, rfl, by decide, kMem 282 (by decide +kernel) rfl, inX6, rfl, by decide⟩
theorem f_RX6_15 : kFL RX6 15 6 1 false := ⟨_, _, _, rfl, by decide, kMem 283 (by decide +kernel) rfl, inX6, rfl, by decide⟩
theorem f_RX6_19 : kFL RX6 19 6 2 false := ⟨_, _, _, rfl, by decide, kMem 284 (by decide +kernel) rfl, inX6, rfl, by decide⟩
theorem f_RX6_22 : kFL RX6 22 6 3 false := ⟨_, _, _, rfl, by decide, kMem 285 (by decide +kernel) rfl, inX6, rfl, by decide⟩
theorem f_RX6_25 : kFL RX6 25 6 4 false := ⟨_, _, _, rfl, by decide, kMem 286 (by decide +kernel) rfl, inX6, rfl, by decide⟩
theorem f_RX6_28 : kFL RX6 28 6 5 true := ⟨_, _, _, rfl, by decide, kMem 287 (by decide +kernel) rfl, inX6, rfl, by decide⟩
theorem f_RX6_32 : kFL RX6 32 4 1 true := ⟨_, _, _, rfl, by decide, kMem 121 (by decide +kernel) rfl, inX4, rfl, by decide⟩
theorem f_RX7_14 : kFL RX7 14 7 0 false := ⟨_, _, _, rfl, by decide, kMem 134 (by decide +kernel) rfl, inX7, rfl, by decide⟩
theorem f_RX7_20 : kFL RX7 20 7 1 false := ⟨_, _, _, rfl, by decide, kMem 138 (by decide +kernel) rfl, inX7, rfl, by decide⟩
theorem f_RX7_23 : kFL RX7 23 7 2 false := ⟨_, _, _, rfl, by decide, kMem 140 (by decide +kernel) rfl, inX7, rfl, by decide⟩
theorem f_RX7_33 : kFL RX7 33 7 3 true := ⟨_, _, _, rfl, by decide, kMem 142 (by decide +kernel) rfl, inX7, rfl, by decide⟩
theorem f_RX7_48 : kFL RX7 48 4 1 true := ⟨_, _, _, rfl, by decide, kMem 124 (by decide +kernel) rfl, inX4, rfl, by decide⟩
theorem f_RX8_9 : kFL RX8 9 8 0 false := ⟨_, _, _, rfl, by decide, kMem 309 (by decide +kernel) rfl, inX8, rfl, by decide⟩
theorem f_RX8_20 : kFL RX8 20 8 1 false := ⟨_, _, _, rfl, by decide, kMem 310 (by decide +kernel) rfl, inX8, rfl, by decide⟩
theorem f_RX8_24 : kFL RX8 24 8 2 false := ⟨_, _, _, rfl, by decide, kMem 312 (by decide +kernel) rfl, inX8, rfl, by decide⟩
theorem f_RX8_34 : kFL RX8 34 0 1 false := ⟨_, _, _, rfl, by decide, kMem 226 (by decide +kernel) rfl, inX0, rfl, by decide⟩
theorem f_RX8_39 : kFL RX8 39 4 1 true := ⟨_, _, _, rfl, by decide, kMem 117 (by decide +kernel) rfl, inX4, rfl, by decide⟩
theorem f_RX9_9 : kFL RX9 9 9 0 false := ⟨_, _, _, rfl, by decide, kMem 326 (by decide +kernel) rfl, inX9, rfl, by decide⟩
theorem f_RX9_15 : kFL RX9 15 9 1 false := ⟨_, _, _, rfl, by decide, kMem 327 (by decide +kernel) rfl, inX9, rfl, by decide⟩
theorem f_RX9_19 : kFL RX9 19 9 2 false := ⟨_, _, _, rfl, by decide, kMem 328 (by decide +kernel) rfl, inX9, rfl, by decide⟩
theorem f_RX9_28 : kFL RX9 28 4 1 true := ⟨_, _, _, rfl, by decide, kMem 118 (by decide +kernel) rfl, inX4, rfl, by decide⟩
theorem f_RX9_38 : kFL RX9 38 0 1 false := ⟨_, _, _, rfl, by decide, kMem 227 (by decide +kernel) rfl, inX0, rfl, by decide⟩
theorem f_RX9_65 : kFL RX9 65 0 7 true := ⟨_, _, _, rfl, by decide, kMem 236 (by decide +kernel) rfl, inX0, rfl, by decide⟩
theorem f_RX11_13 : kFL RX11 13 11 1 false := ⟨_, _, _, rfl, by decide, kMem 1160 (by decide +kernel) rfl, inX11, rfl, by decide⟩
theorem f_RX11_17 : kFL RX11 17 11 2 false := ⟨_, _, _, rfl, by decide, kMem 1161 (by decide +kernel) rfl, inX11, rfl, by decide⟩
theorem f_RX11_20 : kFL RX11 20 11 3 false := ⟨_, _, _, rfl, by decide, kMem 1162 (by decide +kernel) rfl, inX11, rfl, by decide⟩
theorem f_RX11_23 : kFL RX11 23 11 5 false := ⟨_, _, _, rfl, by decide, kMem 1164 (by decide +kernel) rfl, inX11, rfl, by decide⟩
theorem f_RX11_26 : kFL RX11 26 11 7 false := ⟨_, _, _, rfl, by decide, kMem 1166 (by decide +kernel) rfl, inX11, rfl, by decide⟩
theorem f_RX11_30 : kFL RX11 30 11 8 false := ⟨_, _, _, rfl, by decide, kMem 1167 (by decide +kernel) rfl, inX11, rfl, by decide⟩
theorem f_RX11_33 : kFL RX11 33 11 9 false := ⟨_, _, _, rfl, by decide, kMem 1168 (by decide +kernel) rfl, inX11, rfl, by decide⟩
theorem f_RX11_36 : kFL RX11 36 11 11 false := ⟨_, _, _, rfl, by decide, kMem 1170 (by decide +kernel) rfl, inX11, rfl, by decide⟩
theorem f_RX11_39 : kFL RX11 39 11 12 false := ⟨_, _, _, rfl, by decide, kMem 1171 (by decide +kernel) rfl, inX11, rfl, by decide⟩
theorem f_RX11_42 : kFL RX11 42 11 13 false := ⟨_, _, _, rfl, by decide, kMem 1172 (by decide +kernel) rfl, inX11, rfl, by decide⟩
theorem f_RX11_45 : kFL RX11 45 11 14 false := ⟨_, _, _, rfl, by decide, kMem 1173 (by decide +kernel) rfl, inX11, rfl, by decide⟩
theorem f_RX11_48 : kFL RX11 48 11 15 false := ⟨_, _, _, rfl, by decide, kMem 1174 (by decide +kernel) rfl, inX11, rfl, by decide⟩
theorem f_RX11_51 : kFL RX11 51 11 16 false := ⟨_, _, _, rfl, by decide, kMem 1175 (by decide +kernel) rfl, inX11, rfl, by decide⟩
theorem f_RX11_54 : kFL RX11 54 11 17 false := ⟨_, _, _, rfl, by decide, kMem 1176 (by decide +kernel) rfl, inX11, rfl, by decide⟩
theorem f_RX11_57 : kFL RX11 57 11 18 false := ⟨_, _, _, rfl, by decide, kMem 1177 (by decide +kernel) rfl, inX11, rfl, by decide⟩
theorem f_RX11_60 : kFL RX11 60 11 19 false := ⟨_, _, _, rfl, by decide, kMem 1178 (by decide +kernel) rfl, inX11, rfl, by decide⟩
theorem f_RX11_63 : kFL RX11 63 11 20 false := ⟨_, _, _, rfl, by decide, kMem 1179 (by decide +kernel) rfl, inX11, rfl, by decide⟩
theorem f_RX11_66 : kFL RX11 66 11 22 false := ⟨_, _, _, rfl, by decide, kMem 1181 (by decide +kernel) rfl, inX11, rfl, by decide⟩
theorem f_RX11_69 : kFL RX11 69 11 24 false := ⟨_, _, _, rfl, by decide, kMem 1183 (by decide +kernel) rfl, inX11, rfl, by decide⟩
theorem f_RX11_77 : kFL RX11 77 11 4 true := ⟨_, _, _, rfl, by decide, kMem 1163 (by decide +kernel) rfl, inX11, rfl, by decide⟩
theorem f_RX11_119 : kFL RX11 119 11 6 true := ⟨_, _, _, rfl, by decide, kMem 1165 (by decide +kernel) rfl, inX11, rfl, by decide⟩
theorem f_RX11_141 : kFL RX11 141 11 10 true := ⟨_, _, _, rfl, by decide, kMem 1169 (by decide +kernel) rfl, inX11, rfl, by decide⟩
theorem f_RX11_254 : kFL RX11 254 11 21 true := ⟨_, _, _, rfl, by decide, kMem 1180 (by decide +kernel) rfl, inX11, rfl, by decide⟩
theorem f_RX11_266 : kFL RX11 266 11 23 true := ⟨_, _, _, rfl, by decide, kMem 1182 (by decide +kernel) rfl, inX11, rfl, by decide⟩
theorem f_RX11_272 : kFL RX11 272 11 25 true := ⟨_, _, _, rfl, by decide, kMem 1184 (by decide +kernel) rfl, inX11, rfl, by decide⟩
theorem f_RX11_275 : kFL RX11 275 11 26 true := ⟨_, _, _, rfl, by decide, kMem 1185 (by decide +kernel) rfl, inX11, rfl, by decide⟩
theorem f_RX11_281 : kFL RX11 281 11 27 true := ⟨_, _, _, rfl, by decide, kMem 1186 (by decide +kernel) rfl, inX11, rfl, by decide⟩
theorem f_RX11_284 : kFL RX11 284 11 28 true := ⟨_, _, _, rfl, by decide, kMem 1187 (by decide +kernel) rfl, inX11, rfl, by decide⟩
theorem f_RX11_287 : kFL RX11 287 11 29 true := ⟨_, _, _, rfl, by decide, kMem 1188 (by decide +kernel) rfl, inX11, rfl, by decide⟩
theorem p_RX10_100 : kFP RX10 100 4 1 .int := ⟨_, _, _, tyX4, rfl, by decide, kMem 116 (by decide +kernel) rfl, inX4, rfl, by decide, tyX4_ok, nmX4, rfl, by decide +kernel⟩
theorem p_RX0_39 : kFP RX0 39 0 7 .int := ⟨_, _, _, tyX0, rfl, by decide, kMem 235 (by decide +kernel) rfl, inX0, rfl, by decide, tyX0_ok, nmX0, rfl, by decide +kernel⟩
theorem p_RX1_18 : kFP RX1 18 1 1 .int := ⟨_, _, _, tyX1, rfl, by decide, kMem 165 (by decide +kernel) rfl, inX1, rfl, by decide, tyX1_ok, nmX1, rfl, by decide +kernel⟩
theorem p_RX1_22 : kFP RX1 22 1 2 .int := ⟨_, _, _, tyX1, rfl, by decide, kMem 166 (by decide +kernel) rfl, inX1, rfl, by decide, tyX1_ok, nmX1, rfl, by decide +kernel⟩
theorem p_RX2_25 : kFP RX2 25 2 4 .boolean := ⟨_, _, _, tyX2, rfl, by decide, kMem 264 (by decide +kernel) rfl, inX2, rfl, by decide, tyX2_ok, nmX2, rfl, by decide +kernel⟩
theorem p_RX3_19 : kFP RX3 19 3 2 .int := ⟨_, _, _, tyX3, rfl, by decide, kMem 185 (by decide +kernel) rfl, inX3, rfl, by decide, tyX3_ok, nmX3, rfl, by decide +kernel⟩
theorem p_RX3_23 : kFP RX3 23 3 3 .int := ⟨_, _, _, tyX3, rfl, by decide, kMem 186 (by decide +kernel) rfl, inX3, rfl, by decide, tyX3_ok, nmX3, rfl, by decide +kernel⟩
theorem p_RX3_83 : kFP RX3 83 7 3 .int := ⟨_, _, _, tyX7, rfl, by decide, kMem 144 (by decide +kernel) rfl, inX7, rfl, by decide, tyX7_ok, nmX7, rfl, by decide +kernel⟩
theorem p_RX4_21 : kFP RX4 21 4 1 .int := ⟨_, _, _, tyX4, rfl, by decide, kMem 115 (by decide +kernel) rfl, inX4, rfl, by decide, tyX4_ok, nmX4, rfl, by decide +kernel⟩
theorem p_RX6_28 : kFP RX6 28 6 5 .int := ⟨_, _, _, tyX6, rfl, by decide, kMem 287 (by decide +kernel) rfl, inX6, rfl, by decide, tyX6_ok, nmX6, rfl, by decide +kernel⟩
theorem p_RX7_33 : kFP RX7 33 7 3 .int := ⟨_, _, _, tyX7, rfl, by decide, kMem 142 (by decide +kernel) rfl, inX7, rfl, by decide, tyX7_ok, nmX7, rfl, by decide +kernel⟩
theorem p_RX11_77 : kFP RX11 77 11 4 .int := ⟨_, _, _, tyX11, rfl, by decide, kMem 1163 (by decide +kernel) rfl, inX11, rfl, by decide, tyX11_ok, nmX11, rfl, by decide +kernel⟩
theorem p_RX11_119 : kFP RX11 119 11 6 .int := ⟨_, _, _, tyX11, rfl, by decide, kMem 1165 (by decide +kernel) rfl, inX11, rfl, by decide, tyX11_ok, nmX11, rfl, by decide +kernel⟩
theorem p_RX11_141 : kFP RX11 141 11 10 .int := ⟨_, _, _, tyX11, rfl, by decide, kMem 1169 (by decide +kernel) rfl, inX11, rfl, by decide, tyX11_ok, nmX11, rfl, by decide +kernel⟩
theorem p_RX11_254 : kFP RX11 254 11 21 .int := ⟨_, _, _, tyX11, rfl, by decide, kMem 1180 (by decide +kernel) rfl, inX11, rfl, by decide, tyX11_ok, nmX11, rfl, by decide +kernel⟩
theorem p_RX11_266 : kFP RX11 266 11 23 .int := ⟨_, _, _, tyX11, rfl, by decide, kMem 1182 (by decide +kernel) rfl, inX11, rfl, by decide, tyX11_ok, nmX11, rfl, by decide +kernel⟩
theorem p_RX11_272 : kFP RX11 272 11 25 .int := ⟨_, _, _, tyX11, rfl, by decide, kMem 1184 (by decide +kernel) rfl, inX11, rfl, by decide, tyX11_ok, nmX11, rfl, by decide +kernel⟩
theorem p_RX11_275 : kFP RX11 275 11 26 .int := ⟨_, _, _, tyX11, rfl, by decide, kMem 1185 (by decide +kernel) rfl, inX11, rfl, by decide, tyX11_ok, nmX11, rfl, by decide +kernel⟩
theorem p_RX11_281 : kFP RX11 281 11 27 .int := ⟨_, _, _, tyX11, rfl, by decide, kMem 1186 (by decide +kernel) rfl, inX11, rfl, by decide, tyX11_ok, nmX11, rfl, by decide +kernel⟩
theorem p_RX11_284 : kFP RX11 284 11 28 .int := ⟨_, _, _, tyX11, rfl, by decide, kMem 1187 (by decide +kernel) rfl, inX11, rfl, by decide, tyX11_ok, nmX11, rfl, by decide +kernel⟩
theorem p_RX11_287 : kFP RX11 287 11 29 .boolean := ⟨_, _, _, tyX11, rfl, by decide, kMem 1188 (by decide +kernel) rfl, inX11, rfl, by decide, tyX11_ok, nmX11, rfl, by decide +kernel⟩
theorem l_RX10_97 : kVL RX10 97 yX10_refresh mX10_refresh 0 10 := ⟨kMemL [336, 338, 0, 72, 339] (by decide +kernel) (by decide +kernel), by decide +kernel, ⟨_, rfl, rfl⟩, by decide⟩
theorem l_RX10_104 : kVL RX10 104 yX4_appendBytes mX4_appendBytes 1 4 := ⟨kMemL [442, 443, 444, 74, 445] (by decide +kernel) (by decide +kernel), by decide +kernel, ⟨_, rfl, rfl⟩, by decide⟩
theorem l_RX10_107 : kVL RX10 107 yX3_read mX3_read 0 3 := ⟨kMemL [455, 456, 457, 78, 458] (by decide +kernel) (by decide +kernel), by decide +kernel, ⟨_, rfl, rfl⟩, by decide⟩
theorem l_RX10_111 : kVL RX10 111 yX4_clear mX4_clear 0 4 := ⟨kMemL [575, 358, 359, 74, 360] (by decide +kernel) (by decide +kernel), by decide +kernel, ⟨_, rfl, rfl⟩, by decide⟩
theorem l_RX10_117 : kVL RX10 117 yX7_keepList mX7_keepList 1 7 := ⟨kMemL [576, 577, 578, 73, 579] (by decide +kernel) (by decide +kernel), by decide +kernel, ⟨_, rfl, rfl⟩, by decide⟩
theorem l_RX10_120 : kVL RX10 120 yX7_copy mX7_copy 1 7 := ⟨kMemL [586, 587, 588, 73, 589] (by decide +kernel) (by decide +kernel), by decide +kernel, ⟨_, rfl, rfl⟩, by decide⟩
theorem l_RX10_124 : kVL RX10 124 yX1_clear mX1_clear 0 1 := ⟨kMemL [594, 595, 596, 77, 597] (by decide +kernel) (by decide +kernel), by decide +kernel, ⟨_, rfl, rfl⟩, by decide⟩
theorem l_RX10_128 : kVL RX10 128 yX10_isFilledSet mX10_isFilledSet 1 10 := ⟨kMemL [603, 605, 1, 72, 606] (by decide +kernel) (by decide +kernel), by decide +kernel, ⟨_, rfl, rfl⟩, by decide⟩
theorem l_RX10_132 : kVL RX10 132 yX4_find mX4_find 1 4 := ⟨kMemL [611, 567, 568, 74, 569] (by decide +kernel) (by decide +kernel), by decide +kernel, ⟨_, rfl, rfl⟩, by decide⟩
theorem l_RX10_136 : kVL RX10 136 yX4_append mX4_append 1 4 := ⟨kMemL [612, 366, 367, 74, 368] (by decide +kernel) (by decide +kernel), by decide +kernel, ⟨_, rfl, rfl⟩, by decide⟩
theorem l_RX10_139 : kVL RX10 139 yX10_settle mX10_settle 0 10 := ⟨kMemL [613, 615, 3, 72, 616] (by decide +kernel) (by decide +kernel), by decide +kernel, ⟨_, rfl, rfl⟩, by decide⟩
theorem l_RX10_142 : kVL RX10 142 yX10_isGenerator mX10_isGenerator 1 10 := ⟨kMemL [629, 631, 4, 72, 632] (by decide +kernel) (by decide +kernel), by decide +kernel, ⟨_, rfl, rfl⟩, by decide⟩
theorem l_RX10_145 : kVL RX10 145 yX4_cutOut mX4_cutOut 1 4 := ⟨kMemL [633, 634, 635, 74, 636] (by decide +kernel) (by decide +kernel), by decide +kernel, ⟨_, rfl, rfl⟩, by decide⟩
theorem l_RX10_148 : kVL RX10 148 yX4_at mX4_at 1 4 := ⟨kMemL [645, 350, 351, 74, 352] (by decide +kernel) (by decide +kernel), by decide +kernel, ⟨_, rfl, rfl⟩, by decide⟩
theorem l_RX10_151 : kVL RX10 151 yX4_replace mX4_replace 2 4 := ⟨kMemL [646, 638, 639, 74, 640] (by decide +kernel) (by decide +kernel), by decide +kernel, ⟨_, rfl, rfl⟩, by decide⟩
theorem l_RX10_155 : kVL RX10 155 yX10_isPoint mX10_isPoint 1 10 := ⟨kMemL [651, 653, 5, 72, 654] (by decide +kernel) (by decide +kernel), by decide +kernel, ⟨_, rfl, rfl⟩, by decide⟩
theorem l_RX10_158 : kVL RX10 158 yX7_weightOf mX7_weightOf 1 7 := ⟨kMemL [655, 591, 592, 73, 593] (by decide +kernel) (by decide +kernel), by decide +kernel, ⟨_, rfl, rfl⟩, by decide⟩
theorem l_RX10_161 : kVL RX10 161 yX7_setWeight mX7_setWeight 2 7 := ⟨kMemL [656, 558, 559, 73, 560] (by decide +kernel) (by decide +kernel), by decide +kernel, ⟨_, rfl, rfl⟩, by decide⟩
theorem l_RX10_164 : kSL RX10 164 yX10_exchanged mX10_exchanged 3 := ⟨kMemL [661, 662, 72, 663] (by decide +kernel) (by decide +kernel), by decide +kernel⟩
theorem l_RX10_168 : kVL RX10 168 yX10_settleChanged mX10_settleChanged 1 10 := ⟨kMemL [664, 666, 6, 72, 667] (by decide +kernel) (by decide +kernel), by decide +kernel, ⟨_, rfl, rfl⟩, by decide⟩
theorem l_RX10_174 : kSL RX10 174 yX10_rotated mX10_rotated 2 := ⟨kMemL [672, 673, 72, 674] (by decide +kernel) (by decide +kernel), by decide +kernel⟩
theorem l_RX10_178 : kVL RX10 178 yX10_generatorsWith mX10_generatorsWith 1 10 := ⟨kMemL [679, 681, 7, 72, 682] (by decide +kernel) (by decide +kernel), by decide +kernel, ⟨_, rfl, rfl⟩, by decide⟩
theorem l_RX10_181 : kVL RX10 181 yX10_isIdle mX10_isIdle 1 10 := ⟨kMemL [687, 689, 8, 72, 690] (by decide +kernel) (by decide +kernel), by decide +kernel, ⟨_, rfl, rfl⟩, by decide⟩
theorem l_RX10_187 : kVL RX10 187 yX10_replaceGenerators mX10_replaceGenerators 1 10 := ⟨kMemL [695, 697, 9, 72, 698] (by decide +kernel) (by decide +kernel), by decide +kernel, ⟨_, rfl, rfl⟩, by decide⟩
theorem l_RX10_192 : kVL RX10 192 yX1_pop mX1_pop 1 1 := ⟨kMemL [720, 721, 722, 77, 723] (by decide +kernel) (by decide +kernel), by decide +kernel, ⟨_, rfl, rfl⟩, by decide⟩
theorem l_RX10_195 : kSL RX10 195 yX10_bit mX10_bit 1 := ⟨kMemL [728, 729, 72, 730] (by decide +kernel) (by decide +kernel), by decide +kernel⟩
theorem l_RX10_199 : kVL RX10 199 yX0_numberOf mX0_numberOf 1 0 := ⟨kMemL [731, 374, 375, 80, 376] (by decide +kernel) (by decide +kernel), by decide +kernel, ⟨_, rfl, rfl⟩, by decide⟩
theorem l_RX10_202 : kVL RX10 202 yX10_isSet mX10_isSet 1 10 := ⟨kMemL [607, 609, 2, 72, 610] (by decide +kernel) (by decide +kernel), by decide +kernel, ⟨_, rfl, rfl⟩, by decide⟩
theorem l_RX10_205 : kVL RX10 205 yX0_oftenOf mX0_oftenOf 1 0 := ⟨kMemL [748, 749, 750, 80, 751] (by decide +kernel) (by decide +kernel), by decide +kernel, ⟨_, rfl, rfl⟩, by decide⟩
theorem l_RX10_208 : kVL RX10 208 yX0_isFrequent mX0_isFrequent 1 0 := ⟨kMemL [752, 753, 754, 80, 755] (by decide +kernel) (by decide +kernel), by decide +kernel, ⟨_, rfl, rfl⟩, by decide⟩
theorem l_RX10_211 : kVL RX10 211 yX0_firstTwin mX0_firstTwin 1 0 := ⟨kMemL [757, 758, 759, 80, 760] (by decide +kernel) (by decide +kernel), by decide +kernel, ⟨_, rfl, rfl⟩, by decide⟩
theorem l_RX10_214 : kVL RX10 214 yX0_leastSizeWith mX0_leastSizeWith 1 0 := ⟨kMemL [761, 762, 763, 80, 764] (by decide +kernel) (by decide +kernel), by decide +kernel, ⟨_, rfl, rfl⟩, by decide⟩
theorem l_RX10_217 : kVL RX10 217 yX0_top mX0_top 0 0 := ⟨kMemL [769, 770, 771, 80, 772] (by decide +kernel) (by decide +kernel), by decide +kernel, ⟨_, rfl, rfl⟩, by decide⟩
theorem l_RX10_220 : kVL RX10 220 yX0_frequentPoints mX0_frequentPoints 0 0 := ⟨kMemL [773, 774, 775, 80, 776] (by decide +kernel) (by decide +kernel), by decide +kernel, ⟨_, rfl, rfl⟩, by decide⟩
theorem l_RX10_223 : kVL RX10 223 yX0_pointRanked mX0_pointRanked 1 0 := ⟨kMemL [778, 779, 780, 80, 781] (by decide +kernel) (by decide +kernel), by decide +kernel, ⟨_, rfl, rfl⟩, by decide⟩
theorem l_RX10_226 : kVL RX10 226 yX2_height mX2_height 0 2 := ⟨kMemL [786, 787, 788, 82, 789] (by decide +kernel) (by decide +kernel), by decide +kernel, ⟨_, rfl, rfl⟩, by decide⟩
theorem l_RX10_229 : kVL RX10 229 yX6_most mX6_most 0 6 := ⟨kMemL [808, 809, 810, 83, 811] (by decide +kernel) (by decide +kernel), by decide +kernel, ⟨_, rfl, rfl⟩, by decide⟩
theorem l_RX10_232 : kVL RX10 232 yX2_pairs mX2_pairs 0 2 := ⟨kMemL [830, 831, 832, 82, 833] (by decide +kernel) (by decide +kernel), by decide +kernel, ⟨_, rfl, rfl⟩, by decide⟩
theorem l_RX10_235 : kVL RX10 235 yX8_depth mX8_depth 0 8 := ⟨kMemL [834, 835, 836, 84, 837] (by decide +kernel) (by decide +kernel), by decide +kernel, ⟨_, rfl, rfl⟩, by decide⟩
theorem l_RX10_241 : kVL RX10 241 yX0_isProof mX0_isProof 1 0 := ⟨kMemL [853, 854, 855, 80, 856] (by decide +kernel) (by decide +kernel), by decide +kernel, ⟨_, rfl, rfl⟩, by decide⟩
theorem l_RX10_245 : kVL RX10 245 yX0_massOfAll mX0_massOfAll 1 0 := ⟨kMemL [862, 859, 860, 80, 861] (by decide +kernel) (by decide +kernel), by decide +kernel, ⟨_, rfl, rfl⟩, by decide⟩
theorem l_RX10_249 : kVL RX10 249 yX2_coversOf mX2_coversOf 2 2 := ⟨kMemL [863, 864, 865, 82, 866] (by decide +kernel) (by decide +kernel), by decide +kernel, ⟨_, rfl, rfl⟩, by decide⟩
theorem l_RX10_253 : kSL RX10 253 yJ6_bitCount_0f7a4 mJ6_bitCount_0f7a4 1 := ⟨kMemL [871, 218, 81, 219] (by decide +kernel) (by decide +kernel), by decide +kernel⟩
theorem l_RX10_258 : kVL RX10 258 yX0_sizeOfAll mX0_sizeOfAll 0 0 := ⟨kMemL [876, 877, 878, 80, 879] (by decide +kernel) (by decide +kernel), by decide +kernel, ⟨_, rfl, rfl⟩, by decide⟩
theorem l_RX10_261 : kSL RX10 261 yX10_commonDivisor mX10_commonDivisor 2 := ⟨kMemL [880, 881, 72, 882] (by decide +kernel) (by decide +kernel), by decide +kernel⟩
theorem l_RX10_264 : kVL RX10 264 yX7_massOf mX7_massOf 1 7 := ⟨kMemL [887, 888, 889, 73, 890] (by decide +kernel) (by decide +kernel), by decide +kernel, ⟨_, rfl, rfl⟩, by decide⟩
theorem l_RX10_267 : kVL RX10 267 yX0_innerOf mX0_innerOf 1 0 := ⟨kMemL [895, 896, 897, 80, 898] (by decide +kernel) (by decide +kernel), by decide +kernel, ⟨_, rfl, rfl⟩, by decide⟩
theorem l_RX10_270 : kVL RX10 270 yX0_hullOf mX0_hullOf 1 0 := ⟨kMemL [903, 904, 905, 80, 906] (by decide +kernel) (by decide +kernel), by decide +kernel, ⟨_, rfl, rfl⟩, by decide⟩
theorem l_RX10_273 : kVL RX10 273 yX8_take mX8_take 1 8 := ⟨kMemL [912, 913, 914, 84, 915] (by decide +kernel) (by decide +kernel), by decide +kernel, ⟨_, rfl, rfl⟩, by decide⟩
theorem l_RX10_279 : kVL RX10 279 yX0_countPart mX0_countPart 2 0 := ⟨kMemL [926, 927, 928, 80, 929] (by decide +kernel) (by decide +kernel), by decide +kernel, ⟨_, rfl, rfl⟩, by decide⟩
theorem l_RX10_282 : kVL RX10 282 yX0_unionOfPart mX0_unionOfPart 2 0 := ⟨kMemL [930, 931, 932, 80, 933] (by decide +kernel) (by decide +kernel), by decide +kernel, ⟨_, rfl, rfl⟩, by decide⟩
theorem l_RX10_285 : kVL RX10 285 yX0_commonOfPart mX0_commonOfPart 2 0 := ⟨kMemL [939, 940, 941, 80, 942] (by decide +kernel) (by decide +kernel), by decide +kernel, ⟨_, rfl, rfl⟩, by decide⟩
theorem l_RX10_288 : kVL RX10 288 yX0_isPartClosed mX0_isPartClosed 2 0 := ⟨kMemL [943, 944, 945, 80, 946] (by decide +kernel) (by decide +kernel), by decide +kernel, ⟨_, rfl, rfl⟩, by decide⟩
theorem l_RX10_292 : kVL RX10 292 yX10_isMember mX10_isMember 1 10 := ⟨kMemL [951, 953, 10, 72, 954] (by decide +kernel) (by decide +kernel), by decide +kernel, ⟨_, rfl, rfl⟩, by decide⟩
theorem l_RX10_295 : kVL RX10 295 yX0_isCover mX0_isCover 2 0 := ⟨kMemL [955, 800, 801, 80, 802] (by decide +kernel) (by decide +kernel), by decide +kernel, ⟨_, rfl, rfl⟩, by decide⟩
theorem l_RX10_299 : kVL RX10 299 yX2_coveredOnce mX2_coveredOnce 0 2 := ⟨kMemL [964, 965, 966, 82, 967] (by decide +kernel) (by decide +kernel), by decide +kernel, ⟨_, rfl, rfl⟩, by decide⟩
theorem l_RX10_302 : kVL RX10 302 yX0_sharesOut mX0_sharesOut 3 0 := ⟨kMemL [976, 977, 978, 80, 979] (by decide +kernel) (by decide +kernel), by decide +kernel, ⟨_, rfl, rfl⟩, by decide⟩
theorem l_RX10_306 : kVL RX10 306 yX2_stepOfLongest mX2_stepOfLongest 1 2 := ⟨kMemL [985, 986, 987, 82, 988] (by decide +kernel) (by decide +kernel), by decide +kernel, ⟨_, rfl, rfl⟩, by decide⟩
theorem l_RX10_309 : kVL RX10 309 yX0_countAround mX0_countAround 1 0 := ⟨kMemL [997, 390, 391, 80, 392] (by decide +kernel) (by decide +kernel), by decide +kernel, ⟨_, rfl, rfl⟩, by decide⟩
theorem l_RX10_312 : kVL RX10 312 yX0_countWithin mX0_countWithin 1 0 := ⟨kMemL [1006, 1007, 1008, 80, 1009] (by decide +kernel) (by decide +kernel), by decide +kernel, ⟨_, rfl, rfl⟩, by decide⟩
theorem l_RX10_315 : kVL RX10 315 yX0_hasAllIntersections mX0_hasAllIntersections 0 0 := ⟨kMemL [1014, 1015, 1016, 80, 1017] (by decide +kernel) (by decide +kernel), by decide +kernel, ⟨_, rfl, rfl⟩, by decide⟩
theorem l_RX10_319 : kVL RX10 319 yX0_countParts mX0_countParts 0 0 := ⟨kMemL [1022, 1023, 1024, 80, 1025] (by decide +kernel) (by decide +kernel), by decide +kernel, ⟨_, rfl, rfl⟩, by decide⟩
theorem l_RX10_322 : kVL RX10 322 yX8_isShattered mX8_isShattered 1 8 := ⟨kMemL [1034, 844, 845, 84, 846] (by decide +kernel) (by decide +kernel), by decide +kernel, ⟨_, rfl, rfl⟩, by decide⟩
theorem l_RX10_325 : kVL RX10 325 yX0_fewestFor mX0_fewestFor 1 0 := ⟨kMemL [1039, 362, 363, 80, 364] (by decide +kernel) (by decide +kernel), by decide +kernel, ⟨_, rfl, rfl⟩, by decide⟩
theorem l_RX10_328 : kVL RX10 328 yX9_gain mX9_gain 1 9 := ⟨kMemL [1044, 1045, 1046, 85, 1047] (by decide +kernel) (by decide +kernel), by decide +kernel, ⟨_, rfl, rfl⟩, by decide⟩
theorem l_RX10_331 : kVL RX10 331 yX9_countUnions mX9_countUnions 2 9 := ⟨kMemL [1059, 1060, 1061, 85, 1062] (by decide +kernel) (by decide +kernel), by decide +kernel, ⟨_, rfl, rfl⟩, by decide⟩
theorem l_RX10_335 : kVL RX10 335 yX9_leastGain mX9_leastGain 0 9 := ⟨kMemL [1067, 1068, 1069, 85, 1070] (by decide +kernel) (by decide +kernel), by decide +kernel, ⟨_, rfl, rfl⟩, by decide⟩
theorem l_RX10_338 : kVL RX10 338 yX9_leastFrequent mX9_leastFrequent 0 9 := ⟨kMemL [1079, 1080, 1081, 85, 1082] (by decide +kernel) (by decide +kernel), by decide +kernel, ⟨_, rfl, rfl⟩, by decide⟩
theorem l_RX10_342 : kVL RX10 342 yX10_fillTrial mX10_fillTrial 1 10 := ⟨kMemL [1093, 1095, 11, 72, 1096] (by decide +kernel) (by decide +kernel), by decide +kernel, ⟨_, rfl, rfl⟩, by decide⟩
theorem l_RX10_345 : kVL RX10 345 yX10_trialDigits mX10_trialDigits 0 10 := ⟨kMemL [1098, 1100, 12, 72, 1101] (by decide +kernel) (by decide +kernel), by decide +kernel, ⟨_, rfl, rfl⟩, by decide⟩
theorem l_RX10_348 : kVL RX10 348 yX5_write mX5_write 1 5 := ⟨kMemL [1118, 1119, 1120, 79, 1121] (by decide +kernel) (by decide +kernel), by decide +kernel, ⟨_, rfl, rfl⟩, by decide⟩
theorem l_RX10_354 : kVL RX10 354 yX10_idleGenerators mX10_idleGenerators 0 10 := ⟨kMemL [1147, 1149, 13, 72, 1150] (by decide +kernel) (by decide +kernel), by decide +kernel, ⟨_, rfl, rfl⟩, by decide⟩
theorem l_RX10_357 : kVL RX10 357 yX1_push mX1_push 1 1 := ⟨kMemL [617, 618, 619, 77, 620] (by decide +kernel) (by decide +kernel), by decide +kernel, ⟨_, rfl, rfl⟩, by decide⟩
theorem l_RX10_360 : kVL RX10 360 yX4_isSame mX4_isSame 1 4 := ⟨kMemL [699, 700, 701, 74, 702] (by decide +kernel) (by decide +kernel), by decide +kernel, ⟨_, rfl, rfl⟩, by decide⟩
theorem l_RX10_364 : kVL RX10 364 yX4_copy mX4_copy 1 4 := ⟨kMemL [703, 582, 583, 74, 584] (by decide +kernel) (by decide +kernel), by decide +kernel, ⟨_, rfl, rfl⟩, by decide⟩
theorem l_RX10_366 : kVL RX10 366 yX0_rebuild mX0_rebuild 2 0 := ⟨kMemL [340, 341, 342, 80, 343] (by decide +kernel) (by decide +kernel), by decide +kernel, ⟨_, rfl, rfl⟩, by decide⟩
theorem l_RX10_370 : kVL RX10 370 yX2_forget mX2_forget 0 2 := ⟨kMemL [393, 394, 395, 82, 396] (by decide +kernel) (by decide +kernel), by decide +kernel, ⟨_, rfl, rfl⟩, by decide⟩
theorem l_RX10_373 : kVL RX10 373 yX6_forget mX6_forget 0 6 := ⟨kMemL [397, 398, 399, 83, 400] (by decide +kernel) (by decide +kernel), by decide +kernel, ⟨_, rfl, rfl⟩, by decide⟩
theorem l_RX10_374 : kSL RX10 374 yJ9_min_7cf53 mJ9_min_7cf53 2 := ⟨kMemL [1097, 796, 75, 797] (by decide +kernel) (by decide +kernel), by decide +kernel⟩
theorem l_RX0_43 : kSL RX0 43 yJ6_bitCount_0f7a4 mJ6_bitCount_0f7a4 1 := ⟨kMemL [217, 218, 81, 219] (by decide +kernel) (by decide +kernel), by decide +kernel⟩
theorem l_RX0_49 : kVL RX0 49 yX0_unite mX0_unite 1 0 := ⟨kMemL [344, 345, 346, 80, 347] (by decide +kernel) (by decide +kernel), by decide +kernel, ⟨_, rfl, rfl⟩, by decide⟩
theorem l_RX0_53 : kVL RX0 53 yX0_numberMembers mX0_numberMembers 0 0 := ⟨kMemL [353, 354, 355, 80, 356] (by decide +kernel) (by decide +kernel), by decide +kernel, ⟨_, rfl, rfl⟩, by decide⟩
theorem l_RX0_56 : kVL RX0 56 yX0_fillWithin mX0_fillWithin 0 0 := ⟨kMemL [369, 370, 371, 80, 372] (by decide +kernel) (by decide +kernel), by decide +kernel, ⟨_, rfl, rfl⟩, by decide⟩
theorem l_RX0_59 : kVL RX0 59 yX0_pickBase mX0_pickBase 0 0 := ⟨kMemL [381, 382, 383, 80, 384] (by decide +kernel) (by decide +kernel), by decide +kernel, ⟨_, rfl, rfl⟩, by decide⟩
theorem l_RX0_62 : kVL RX0 62 yX0_countPoints mX0_countPoints 0 0 := ⟨kMemL [385, 386, 387, 80, 388] (by decide +kernel) (by decide +kernel), by decide +kernel, ⟨_, rfl, rfl⟩, by decide⟩
theorem l_RX0_65 : kSL RX0 65 yJ7_fill_53178 mJ7_fill_53178 2 := ⟨kMemL [348, 132, 76, 133] (by decide +kernel) (by decide +kernel), by decide +kernel⟩
theorem l_RX0_74 : kVL RX0 74 yX4_at mX4_at 1 4 := ⟨kMemL [349, 350, 351, 74, 352] (by decide +kernel) (by decide +kernel), by decide +kernel, ⟨_, rfl, rfl⟩, by decide⟩
theorem l_RX0_77 : kVL RX0 77 yX4_clear mX4_clear 0 4 := ⟨kMemL [357, 358, 359, 74, 360] (by decide +kernel) (by decide +kernel), by decide +kernel, ⟨_, rfl, rfl⟩, by decide⟩
theorem l_RX0_80 : kVL RX0 80 yX0_fewestFor mX0_fewestFor 1 0 := ⟨kMemL [361, 362, 363, 80, 364] (by decide +kernel) (by decide +kernel), by decide +kernel, ⟨_, rfl, rfl⟩, by decide⟩
theorem l_RX0_83 : kVL RX0 83 yX4_append mX4_append 1 4 := ⟨kMemL [365, 366, 367, 74, 368] (by decide +kernel) (by decide +kernel), by decide +kernel, ⟨_, rfl, rfl⟩, by decide⟩
theorem l_RX0_86 : kVL RX0 86 yX0_numberOf mX0_numberOf 1 0 := ⟨kMemL [373, 374, 375, 80, 376] (by decide +kernel) (by decide +kernel), by decide +kernel, ⟨_, rfl, rfl⟩, by decide⟩
theorem l_RX0_89 : kVL RX0 89 yX0_unionBelow mX0_unionBelow 1 0 := ⟨kMemL [377, 378, 379, 80, 380] (by decide +kernel) (by decide +kernel), by decide +kernel, ⟨_, rfl, rfl⟩, by decide⟩
theorem l_RX0_92 : kVL RX0 92 yX0_countAround mX0_countAround 1 0 := ⟨kMemL [389, 390, 391, 80, 392] (by decide +kernel) (by decide +kernel), by decide +kernel, ⟨_, rfl, rfl⟩, by decide⟩
theorem l_RX0_95 : kVL RX0 95 yX0_oftenOf mX0_oftenOf 1 0 := ⟨kMemL [756, 749, 750, 80, 751] (by decide +kernel) (by decide +kernel), by decide +kernel, ⟨_, rfl, rfl⟩, by decide⟩
theorem l_RX0_98 : kVL RX0 98 yX0_isFrequent mX0_isFrequent 1 0 := ⟨kMemL [777, 753, 754, 80, 755] (by decide +kernel) (by decide +kernel), by decide +kernel, ⟨_, rfl, rfl⟩, by decide⟩
theorem l_RX0_102 : kVL RX0 102 yX0_rankOf mX0_rankOf 1 0 := ⟨kMemL [782, 783, 784, 80, 785] (by decide +kernel) (by decide +kernel), by decide +kernel, ⟨_, rfl, rfl⟩, by decide⟩
theorem l_RX0_105 : kVL RX0 105 yX0_top mX0_top 0 0 := ⟨kMemL [857, 770, 771, 80, 772] (by decide +kernel) (by decide +kernel), by decide +kernel, ⟨_, rfl, rfl⟩, by decide⟩
theorem l_RX0_109 : kVL RX0 109 yX0_massOfAll mX0_massOfAll 1 0 := ⟨kMemL [858, 859, 860, 80, 861] (by decide +kernel) (by decide +kernel), by decide +kernel, ⟨_, rfl, rfl⟩, by decide⟩
theorem l_RX0_113 : kVL RX0 113 yX0_allPoints mX0_allPoints 0 0 := ⟨kMemL [907, 839, 840, 80, 841] (by decide +kernel) (by decide +kernel), by decide +kernel, ⟨_, rfl, rfl⟩, by decide⟩
theorem l_RX0_116 : kVL RX0 116 yX0_isInPart mX0_isInPart 3 0 := ⟨kMemL [934, 935, 936, 80, 937] (by decide +kernel) (by decide +kernel), by decide +kernel, ⟨_, rfl, rfl⟩, by decide⟩
theorem l_RX0_120 : kVL RX0 120 yX0_countPart mX0_countPart 2 0 := ⟨kMemL [938, 927, 928, 80, 929] (by decide +kernel) (by decide +kernel), by decide +kernel, ⟨_, rfl, rfl⟩, by decide⟩
theorem l_RX0_124 : kVL RX0 124 yX0_innerOf mX0_innerOf 1 0 := ⟨kMemL [980, 896, 897, 80, 898] (by decide +kernel) (by decide +kernel), by decide +kernel, ⟨_, rfl, rfl⟩, by decide⟩
theorem l_RX0_127 : kVL RX0 127 yX0_partOf mX0_partOf 1 0 := ⟨kMemL [1026, 1027, 1028, 80, 1029] (by decide +kernel) (by decide +kernel), by decide +kernel, ⟨_, rfl, rfl⟩, by decide⟩
theorem l_RX1_25 : kSL RX1 25 yJ9_floorMod_7cf53 mJ9_floorMod_7cf53 2 := ⟨kMemL [621, 622, 75, 623] (by decide +kernel) (by decide +kernel), by decide +kernel⟩
theorem l_RX1_31 : kVL RX1 31 yX7_copy mX7_copy 1 7 := ⟨kMemL [624, 587, 588, 73, 589] (by decide +kernel) (by decide +kernel), by decide +kernel, ⟨_, rfl, rfl⟩, by decide⟩
theorem l_RX2_29 : kSL RX2 29 yJ7_fill_53178 mJ7_fill_53178 2 := ⟨kMemL [794, 132, 76, 133] (by decide +kernel) (by decide +kernel), by decide +kernel⟩
theorem l_RX2_47 : kSL RX2 47 yJ9_min_7cf53 mJ9_min_7cf53 2 := ⟨kMemL [795, 796, 75, 797] (by decide +kernel) (by decide +kernel), by decide +kernel⟩
theorem l_RX2_53 : kVL RX2 53 yX4_at mX4_at 1 4 := ⟨kMemL [798, 350, 351, 74, 352] (by decide +kernel) (by decide +kernel), by decide +kernel, ⟨_, rfl, rfl⟩, by decide⟩
theorem l_RX2_57 : kVL RX2 57 yX0_isCover mX0_isCover 2 0 := ⟨kMemL [799, 800, 801, 80, 802] (by decide +kernel) (by decide +kernel), by decide +kernel, ⟨_, rfl, rfl⟩, by decide⟩
theorem l_RX2_61 : kSL RX2 61 yJ9_max_7cf53 mJ9_max_7cf53 2 := ⟨kMemL [803, 112, 75, 113] (by decide +kernel) (by decide +kernel), by decide +kernel⟩
theorem l_RX2_64 : kVL RX2 64 yX2_make mX2_make 0 2 := ⟨kMemL [790, 791, 792, 82, 793] (by decide +kernel) (by decide +kernel), by decide +kernel, ⟨_, rfl, rfl⟩, by decide⟩
theorem l_RX2_67 : kVL RX2 67 yX2_riseOf mX2_riseOf 1 2 := ⟨kMemL [804, 805, 806, 82, 807] (by decide +kernel) (by decide +kernel), by decide +kernel, ⟨_, rfl, rfl⟩, by decide⟩
theorem l_RX2_70 : kVL RX2 70 yX2_firstStepUp mX2_firstStepUp 1 2 := ⟨kMemL [989, 990, 991, 82, 992] (by decide +kernel) (by decide +kernel), by decide +kernel, ⟨_, rfl, rfl⟩, by decide⟩
theorem l_RX3_26 : kVL RX3 26 yX7_reset mX7_reset 0 7 := ⟨kMemL [459, 460, 461, 73, 462] (by decide +kernel) (by decide +kernel), by decide +kernel, ⟨_, rfl, rfl⟩, by decide⟩
theorem l_RX3_31 : kVL RX3 31 yX3_skipGap mX3_skipGap 0 3 := ⟨kMemL [464, 465, 466, 78, 467] (by decide +kernel) (by decide +kernel), by decide +kernel, ⟨_, rfl, rfl⟩, by decide⟩
theorem l_RX3_39 : kVL RX3 39 yX3_readClause mX3_readClause 1 3 := ⟨kMemL [472, 473, 474, 78, 475] (by decide +kernel) (by decide +kernel), by decide +kernel, ⟨_, rfl, rfl⟩, by decide⟩
theorem l_RX3_43 : kVL RX3 43 yX3_lettersEnd mX3_lettersEnd 1 3 := ⟨kMemL [476, 477, 478, 78, 479] (by decide +kernel) (by decide +kernel), by decide +kernel, ⟨_, rfl, rfl⟩, by decide⟩
theorem l_RX3_49 : kVL RX3 49 yX3_isWord mX3_isWord 3 3 := ⟨kMemL [484, 485, 486, 78, 487] (by decide +kernel) (by decide +kernel), by decide +kernel, ⟨_, rfl, rfl⟩, by decide⟩
theorem l_RX3_53 : kVL RX3 53 yX3_readPoints mX3_readPoints 0 3 := ⟨kMemL [536, 537, 538, 78, 539] (by decide +kernel) (by decide +kernel), by decide +kernel, ⟨_, rfl, rfl⟩, by decide⟩
theorem l_RX3_58 : kVL RX3 58 yX3_readWeight mX3_readWeight 0 3 := ⟨kMemL [553, 554, 555, 78, 556] (by decide +kernel) (by decide +kernel), by decide +kernel, ⟨_, rfl, rfl⟩, by decide⟩
theorem l_RX3_66 : kVL RX3 66 yX3_readSet mX3_readSet 0 3 := ⟨kMemL [562, 563, 564, 78, 565] (by decide +kernel) (by decide +kernel), by decide +kernel, ⟨_, rfl, rfl⟩, by decide⟩
theorem l_RX3_69 : kVL RX3 69 yX3_fail mX3_fail 1 3 := ⟨kMemL [544, 545, 546, 78, 547] (by decide +kernel) (by decide +kernel), by decide +kernel, ⟨_, rfl, rfl⟩, by decide⟩
theorem l_RX3_73 : kVL RX3 73 yX3_expectEnd mX3_expectEnd 0 3 := ⟨kMemL [571, 572, 573, 78, 574] (by decide +kernel) (by decide +kernel), by decide +kernel, ⟨_, rfl, rfl⟩, by decide⟩
theorem l_RX3_76 : kVL RX3 76 yX3_expectGap mX3_expectGap 0 3 := ⟨kMemL [540, 541, 542, 78, 543] (by decide +kernel) (by decide +kernel), by decide +kernel, ⟨_, rfl, rfl⟩, by decide⟩
theorem l_RX3_79 : kVL RX3 79 yX3_readDigit mX3_readDigit 2 3 := ⟨kMemL [548, 549, 550, 78, 551] (by decide +kernel) (by decide +kernel), by decide +kernel, ⟨_, rfl, rfl⟩, by decide⟩
theorem l_RX3_85 : kVL RX3 85 yX4_at mX4_at 1 4 := ⟨kMemL [468, 350, 351, 74, 352] (by decide +kernel) (by decide +kernel), by decide +kernel, ⟨_, rfl, rfl⟩, by decide⟩
theorem l_RX3_88 : kVL RX3 88 yX7_setWeight mX7_setWeight 2 7 := ⟨kMemL [557, 558, 559, 73, 560] (by decide +kernel) (by decide +kernel), by decide +kernel, ⟨_, rfl, rfl⟩, by decide⟩
theorem l_RX3_92 : kVL RX3 92 yX4_find mX4_find 1 4 := ⟨kMemL [566, 567, 568, 74, 569] (by decide +kernel) (by decide +kernel), by decide +kernel, ⟨_, rfl, rfl⟩, by decide⟩
theorem l_RX3_95 : kVL RX3 95 yX4_append mX4_append 1 4 := ⟨kMemL [570, 366, 367, 74, 368] (by decide +kernel) (by decide +kernel), by decide +kernel, ⟨_, rfl, rfl⟩, by decide⟩
theorem l_RX3_98 : kSL RX3 98 yX3_isBlank mX3_isBlank 1 := ⟨kMemL [469, 470, 78, 471] (by decide +kernel) (by decide +kernel), by decide +kernel⟩
theorem l_RX3_102 : kSL RX3 102 yX3_isLetter mX3_isLetter 1 := ⟨kMemL [480, 481, 78, 482] (by decide +kernel) (by decide +kernel), by decide +kernel⟩
theorem l_RX4_9 : kSL RX4 9 yJ9_max_7cf53 mJ9_max_7cf53 2 := ⟨kMemL [111, 112, 75, 113] (by decide +kernel) (by decide +kernel), by decide +kernel⟩
theorem l_RX4_25 : kVL RX4 25 yX4_append mX4_append 1 4 := ⟨kMemL [446, 366, 367, 74, 368] (by decide +kernel) (by decide +kernel), by decide +kernel, ⟨_, rfl, rfl⟩, by decide⟩
theorem l_RX4_29 : kVL RX4 29 yX4_at mX4_at 1 4 := ⟨kMemL [585, 350, 351, 74, 352] (by decide +kernel) (by decide +kernel), by decide +kernel, ⟨_, rfl, rfl⟩, by decide⟩
theorem l_RX4_33 : kVL RX4 33 yX4_replace mX4_replace 2 4 := ⟨kMemL [637, 638, 639, 74, 640] (by decide +kernel) (by decide +kernel), by decide +kernel, ⟨_, rfl, rfl⟩, by decide⟩
theorem l_RX5_20 : kVL RX5 20 yX4_clear mX4_clear 0 4 := ⟨kMemL [1122, 358, 359, 74, 360] (by decide +kernel) (by decide +kernel), by decide +kernel, ⟨_, rfl, rfl⟩, by decide⟩
theorem l_RX5_25 : kVL RX5 25 yX5_putWord mX5_putWord 1 5 := ⟨kMemL [1124, 1125, 1126, 79, 1127] (by decide +kernel) (by decide +kernel), by decide +kernel, ⟨_, rfl, rfl⟩, by decide⟩
theorem l_RX5_34 : kVL RX5 34 yX5_putDigit mX5_putDigit 1 5 := ⟨kMemL [1131, 1132, 1133, 79, 1134] (by decide +kernel) (by decide +kernel), by decide +kernel, ⟨_, rfl, rfl⟩, by decide⟩
theorem l_RX5_37 : kVL RX5 37 yX7_weightOf mX7_weightOf 1 7 := ⟨kMemL [1135, 591, 592, 73, 593] (by decide +kernel) (by decide +kernel), by decide +kernel, ⟨_, rfl, rfl⟩, by decide⟩
theorem l_RX5_43 : kVL RX5 43 yX4_append mX4_append 1 4 := ⟨kMemL [1130, 366, 367, 74, 368] (by decide +kernel) (by decide +kernel), by decide +kernel, ⟨_, rfl, rfl⟩, by decide⟩
theorem l_RX5_54 : kVL RX5 54 yX4_at mX4_at 1 4 := ⟨kMemL [1138, 350, 351, 74, 352] (by decide +kernel) (by decide +kernel), by decide +kernel, ⟨_, rfl, rfl⟩, by decide⟩
theorem l_RX5_57 : kVL RX5 57 yX5_putLetters mX5_putLetters 1 5 := ⟨kMemL [1139, 1140, 1141, 79, 1142] (by decide +kernel) (by decide +kernel), by decide +kernel, ⟨_, rfl, rfl⟩, by decide⟩
theorem l_RX6_37 : kVL RX6 37 yX6_matchAll mX6_matchAll 0 6 := ⟨kMemL [812, 813, 814, 83, 815] (by decide +kernel) (by decide +kernel), by decide +kernel, ⟨_, rfl, rfl⟩, by decide⟩
theorem l_RX6_41 : kSL RX6 41 yJ7_fill_53178 mJ7_fill_53178 2 := ⟨kMemL [816, 132, 76, 133] (by decide +kernel) (by decide +kernel), by decide +kernel⟩
theorem l_RX6_47 : kVL RX6 47 yX6_searchFrom mX6_searchFrom 1 6 := ⟨kMemL [817, 818, 819, 83, 820] (by decide +kernel) (by decide +kernel), by decide +kernel, ⟨_, rfl, rfl⟩, by decide⟩
theorem l_RX6_51 : kVL RX6 51 yX6_turnPath mX6_turnPath 1 6 := ⟨kMemL [826, 827, 828, 83, 829] (by decide +kernel) (by decide +kernel), by decide +kernel, ⟨_, rfl, rfl⟩, by decide⟩
theorem l_RX6_55 : kVL RX6 55 yX6_isInside mX6_isInside 2 6 := ⟨kMemL [821, 822, 823, 83, 824] (by decide +kernel) (by decide +kernel), by decide +kernel, ⟨_, rfl, rfl⟩, by decide⟩
theorem l_RX6_59 : kVL RX6 59 yX4_at mX4_at 1 4 := ⟨kMemL [825, 350, 351, 74, 352] (by decide +kernel) (by decide +kernel), by decide +kernel, ⟨_, rfl, rfl⟩, by decide⟩
theorem l_RX7_27 : kSL RX7 27 yJ7_fill_53178 mJ7_fill_53178 2 := ⟨kMemL [131, 132, 76, 133] (by decide +kernel) (by decide +kernel), by decide +kernel⟩
theorem l_RX7_37 : kVL RX7 37 yX4_clear mX4_clear 0 4 := ⟨kMemL [463, 358, 359, 74, 360] (by decide +kernel) (by decide +kernel), by decide +kernel, ⟨_, rfl, rfl⟩, by decide⟩
theorem l_RX7_40 : kVL RX7 40 yX4_copy mX4_copy 1 4 := ⟨kMemL [581, 582, 583, 74, 584] (by decide +kernel) (by decide +kernel), by decide +kernel, ⟨_, rfl, rfl⟩, by decide⟩
theorem l_RX7_44 : kVL RX7 44 yX7_weightOf mX7_weightOf 1 7 := ⟨kMemL [590, 591, 592, 73, 593] (by decide +kernel) (by decide +kernel), by decide +kernel, ⟨_, rfl, rfl⟩, by decide⟩
theorem l_RX7_51 : kVL RX7 51 yX4_at mX4_at 1 4 := ⟨kMemL [580, 350, 351, 74, 352] (by decide +kernel) (by decide +kernel), by decide +kernel, ⟨_, rfl, rfl⟩, by decide⟩
theorem l_RX8_28 : kSL RX8 28 yJ7_fill_53178 mJ7_fill_53178 2 := ⟨kMemL [851, 132, 76, 133] (by decide +kernel) (by decide +kernel), by decide +kernel⟩
theorem l_RX8_43 : kVL RX8 43 yX4_at mX4_at 1 4 := ⟨kMemL [852, 350, 351, 74, 352] (by decide +kernel) (by decide +kernel), by decide +kernel, ⟨_, rfl, rfl⟩, by decide⟩
theorem l_RX8_47 : kVL RX8 47 yX8_mark mX8_mark 1 8 := ⟨kMemL [847, 848, 849, 84, 850] (by decide +kernel) (by decide +kernel), by decide +kernel, ⟨_, rfl, rfl⟩, by decide⟩
theorem l_RX8_50 : kVL RX8 50 yX4_clear mX4_clear 0 4 := ⟨kMemL [916, 358, 359, 74, 360] (by decide +kernel) (by decide +kernel), by decide +kernel, ⟨_, rfl, rfl⟩, by decide⟩
theorem l_RX8_53 : kVL RX8 53 yX0_orderedSet mX0_orderedSet 1 0 := ⟨kMemL [917, 918, 919, 80, 920] (by decide +kernel) (by decide +kernel), by decide +kernel, ⟨_, rfl, rfl⟩, by decide⟩
theorem l_RX8_56 : kVL RX8 56 yX4_append mX4_append 1 4 := ⟨kMemL [921, 366, 367, 74, 368] (by decide +kernel) (by decide +kernel), by decide +kernel, ⟨_, rfl, rfl⟩, by decide⟩
theorem l_RX8_59 : kSL RX8 59 yJ6_bitCount_0f7a4 mJ6_bitCount_0f7a4 1 := ⟨kMemL [842, 218, 81, 219] (by decide +kernel) (by decide +kernel), by decide +kernel⟩
theorem l_RX8_64 : kVL RX8 64 yX0_allPoints mX0_allPoints 0 0 := ⟨kMemL [838, 839, 840, 80, 841] (by decide +kernel) (by decide +kernel), by decide +kernel, ⟨_, rfl, rfl⟩, by decide⟩
theorem l_RX8_68 : kVL RX8 68 yX8_isShattered mX8_isShattered 1 8 := ⟨kMemL [843, 844, 845, 84, 846] (by decide +kernel) (by decide +kernel), by decide +kernel, ⟨_, rfl, rfl⟩, by decide⟩
theorem l_RX9_22 : kSL RX9 22 yJ7_fill_53178 mJ7_fill_53178 2 := ⟨kMemL [1048, 132, 76, 133] (by decide +kernel) (by decide +kernel), by decide +kernel⟩
theorem l_RX9_34 : kVL RX9 34 yX4_at mX4_at 1 4 := ⟨kMemL [1049, 350, 351, 74, 352] (by decide +kernel) (by decide +kernel), by decide +kernel, ⟨_, rfl, rfl⟩, by decide⟩
theorem l_RX9_44 : kVL RX9 44 yX0_numberOf mX0_numberOf 1 0 := ⟨kMemL [1050, 374, 375, 80, 376] (by decide +kernel) (by decide +kernel), by decide +kernel, ⟨_, rfl, rfl⟩, by decide⟩
theorem l_RX9_47 : kVL RX9 47 yX9_addPoints mX9_addPoints 1 9 := ⟨kMemL [1051, 1052, 1053, 85, 1054] (by decide +kernel) (by decide +kernel), by decide +kernel, ⟨_, rfl, rfl⟩, by decide⟩
theorem l_RX9_52 : kVL RX9 52 yX0_orderedSet mX0_orderedSet 1 0 := ⟨kMemL [1072, 918, 919, 80, 920] (by decide +kernel) (by decide +kernel), by decide +kernel, ⟨_, rfl, rfl⟩, by decide⟩
theorem l_RX9_55 : kVL RX9 55 yX0_allPoints mX0_allPoints 0 0 := ⟨kMemL [1073, 839, 840, 80, 841] (by decide +kernel) (by decide +kernel), by decide +kernel, ⟨_, rfl, rfl⟩, by decide⟩
theorem l_RX9_59 : kVL RX9 59 yX9_gain mX9_gain 1 9 := ⟨kMemL [1074, 1045, 1046, 85, 1047] (by decide +kernel) (by decide +kernel), by decide +kernel, ⟨_, rfl, rfl⟩, by decide⟩
theorem l_RX9_62 : kVL RX9 62 yX9_countFrequentWith mX9_countFrequentWith 1 9 := ⟨kMemL [1083, 1084, 1085, 85, 1086] (by decide +kernel) (by decide +kernel), by decide +kernel, ⟨_, rfl, rfl⟩, by decide⟩
theorem l_RX9_68 : kVL RX9 68 yX0_oftenOf mX0_oftenOf 1 0 := ⟨kMemL [1087, 749, 750, 80, 751] (by decide +kernel) (by decide +kernel), by decide +kernel, ⟨_, rfl, rfl⟩, by decide⟩
theorem l_RX11_73 : kSL RX11 73 yX11_starts mX11_starts 1 := ⟨kMemL [1157, 1158, 86, 1159] (by decide +kernel) (by decide +kernel), by decide +kernel⟩
theorem l_RX11_80 : kVL RX11 80 yX11_many mX11_many 0 11 := ⟨kMemL [1270, 1272, 17, 86, 1273] (by decide +kernel) (by decide +kernel), by decide +kernel, ⟨_, rfl, rfl⟩, by decide⟩
theorem l_RX11_84 : kSL RX11 84 yX11_in mX11_in 3 := ⟨kMemL [1263, 1264, 86, 1265] (by decide +kernel) (by decide +kernel), by decide +kernel⟩
theorem l_RX11_88 : kVL RX11 88 yX11_allPoints mX11_allPoints 0 11 := ⟨kMemL [1259, 1261, 15, 86, 1262] (by decide +kernel) (by decide +kernel), by decide +kernel, ⟨_, rfl, rfl⟩, by decide⟩
theorem l_RX11_91 : kSL RX11 91 yX11_isThere mX11_isThere 4 := ⟨kMemL [1274, 1275, 86, 1276] (by decide +kernel) (by decide +kernel), by decide +kernel⟩
theorem l_RX11_95 : kVL RX11 95 yX11_isSet mX11_isSet 1 11 := ⟨kMemL [1255, 1257, 14, 86, 1258] (by decide +kernel) (by decide +kernel), by decide +kernel, ⟨_, rfl, rfl⟩, by decide⟩
theorem l_RX11_99 : kVL RX11 99 yX11_isTold mX11_isTold 1 11 := ⟨kMemL [1266, 1268, 16, 86, 1269] (by decide +kernel) (by decide +kernel), by decide +kernel, ⟨_, rfl, rfl⟩, by decide⟩
theorem l_RX11_102 : kVL RX11 102 yX11_keeps mX11_keeps 0 11 := ⟨kMemL [1277, 1279, 18, 86, 1280] (by decide +kernel) (by decide +kernel), by decide +kernel, ⟨_, rfl, rfl⟩, by decide⟩
theorem l_RX11_105 : kVL RX11 105 yX11_isGenerator mX11_isGenerator 1 11 := ⟨kMemL [1285, 1287, 19, 86, 1288] (by decide +kernel) (by decide +kernel), by decide +kernel, ⟨_, rfl, rfl⟩, by decide⟩
theorem l_RX11_108 : kVL RX11 108 yX11_takesOut mX11_takesOut 1 11 := ⟨kMemL [1289, 1291, 20, 86, 1292] (by decide +kernel) (by decide +kernel), by decide +kernel, ⟨_, rfl, rfl⟩, by decide⟩
theorem l_RX11_112 : kVL RX11 112 yX11_gen mX11_gen 1 11 := ⟨kMemL [1297, 1299, 21, 86, 1300] (by decide +kernel) (by decide +kernel), by decide +kernel, ⟨_, rfl, rfl⟩, by decide⟩
theorem l_RX11_116 : kVL RX11 116 yX11_isPoint mX11_isPoint 1 11 := ⟨kMemL [1305, 1307, 22, 86, 1308] (by decide +kernel) (by decide +kernel), by decide +kernel, ⟨_, rfl, rfl⟩, by decide⟩
theorem l_RX11_122 : kVL RX11 122 yX11_unlike mX11_unlike 0 11 := ⟨kMemL [1320, 1322, 24, 86, 1323] (by decide +kernel) (by decide +kernel), by decide +kernel, ⟨_, rfl, rfl⟩, by decide⟩
theorem l_RX11_125 : kVL RX11 125 yX11_becomes mX11_becomes 0 11 := ⟨kMemL [1324, 1326, 25, 86, 1327] (by decide +kernel) (by decide +kernel), by decide +kernel, ⟨_, rfl, rfl⟩, by decide⟩
theorem l_RX11_128 : kSL RX11 128 yX11_has mX11_has 2 := ⟨kMemL [1313, 1314, 86, 1315] (by decide +kernel) (by decide +kernel), by decide +kernel⟩
theorem l_RX11_132 : kVL RX11 132 yX11_changes mX11_changes 0 11 := ⟨kMemL [1316, 1318, 23, 86, 1319] (by decide +kernel) (by decide +kernel), by decide +kernel, ⟨_, rfl, rfl⟩, by decide⟩
theorem l_RX11_135 : kVL RX11 135 yX11_lays mX11_lays 0 11 := ⟨kMemL [1340, 1342, 26, 86, 1343] (by decide +kernel) (by decide +kernel), by decide +kernel, ⟨_, rfl, rfl⟩, by decide⟩
theorem l_RX11_138 : kVL RX11 138 yX11_isBased mX11_isBased 1 11 := ⟨kMemL [1351, 1353, 28, 86, 1354] (by decide +kernel) (by decide +kernel), by decide +kernel, ⟨_, rfl, rfl⟩, by decide⟩
theorem l_RX11_144 : kVL RX11 144 yX11_replaces mX11_replaces 0 11 := ⟨kMemL [1366, 1368, 30, 86, 1369] (by decide +kernel) (by decide +kernel), by decide +kernel, ⟨_, rfl, rfl⟩, by decide⟩
theorem l_RX11_147 : kVL RX11 147 yX11_listMany mX11_listMany 0 11 := ⟨kMemL [1378, 1380, 32, 86, 1381] (by decide +kernel) (by decide +kernel), by decide +kernel, ⟨_, rfl, rfl⟩, by decide⟩
theorem l_RX11_150 : kVL RX11 150 yX11_isListed mX11_isListed 1 11 := ⟨kMemL [1374, 1376, 31, 86, 1377] (by decide +kernel) (by decide +kernel), by decide +kernel, ⟨_, rfl, rfl⟩, by decide⟩
theorem l_RX11_153 : kVL RX11 153 yX11_spans mX11_spans 3 11 := ⟨kMemL [1344, 1346, 27, 86, 1347] (by decide +kernel) (by decide +kernel), by decide +kernel, ⟨_, rfl, rfl⟩, by decide⟩
theorem l_RX11_157 : kSL RX11 157 yX11_ones mX11_ones 1 := ⟨kMemL [1348, 1349, 86, 1350] (by decide +kernel) (by decide +kernel), by decide +kernel⟩
theorem l_RX11_160 : kSL RX11 160 yX11_isWithin mX11_isWithin 2 := ⟨kMemL [1359, 1360, 86, 1361] (by decide +kernel) (by decide +kernel), by decide +kernel⟩
theorem l_RX11_163 : kVL RX11 163 yX11_innerOf mX11_innerOf 2 11 := ⟨kMemL [1355, 1357, 29, 86, 1358] (by decide +kernel) (by decide +kernel), by decide +kernel, ⟨_, rfl, rfl⟩, by decide⟩
theorem l_RX11_167 : kSL RX11 167 yX11_manyOf mX11_manyOf 1 := ⟨kMemL [1425, 1426, 86, 1427] (by decide +kernel) (by decide +kernel), by decide +kernel⟩
theorem l_RX11_171 : kSL RX11 171 yX11_frequencyIn mX11_frequencyIn 2 := ⟨kMemL [1418, 1419, 86, 1420] (by decide +kernel) (by decide +kernel), by decide +kernel⟩
theorem l_RX11_175 : kVL RX11 175 yX11_isCovered mX11_isCovered 2 11 := ⟨kMemL [1480, 1482, 47, 86, 1483] (by decide +kernel) (by decide +kernel), by decide +kernel, ⟨_, rfl, rfl⟩, by decide⟩
theorem l_RX11_178 : kVL RX11 178 yX11_isMember mX11_isMember 1 11 := ⟨kMemL [1402, 1404, 33, 86, 1405] (by decide +kernel) (by decide +kernel), by decide +kernel, ⟨_, rfl, rfl⟩, by decide⟩
theorem l_RX11_181 : kVL RX11 181 yX11_top mX11_top 0 11 := ⟨kMemL [1432, 1434, 36, 86, 1435] (by decide +kernel) (by decide +kernel), by decide +kernel, ⟨_, rfl, rfl⟩, by decide⟩
theorem l_RX11_184 : kVL RX11 184 yX11_together mX11_together 2 11 := ⟨kMemL [1436, 1438, 37, 86, 1439] (by decide +kernel) (by decide +kernel), by decide +kernel, ⟨_, rfl, rfl⟩, by decide⟩
theorem l_RX11_188 : kVL RX11 188 yX11_frequentIn mX11_frequentIn 1 11 := ⟨kMemL [1421, 1423, 34, 86, 1424] (by decide +kernel) (by decide +kernel), by decide +kernel, ⟨_, rfl, rfl⟩, by decide⟩
theorem l_RX11_191 : kVL RX11 191 yX11_twinOf mX11_twinOf 1 11 := ⟨kMemL [1428, 1430, 35, 86, 1431] (by decide +kernel) (by decide +kernel), by decide +kernel, ⟨_, rfl, rfl⟩, by decide⟩
theorem l_RX11_194 : kVL RX11 194 yX11_leastWith mX11_leastWith 1 11 := ⟨kMemL [1440, 1442, 38, 86, 1443] (by decide +kernel) (by decide +kernel), by decide +kernel, ⟨_, rfl, rfl⟩, by decide⟩
theorem l_RX11_197 : kVL RX11 197 yX11_turnsOver mX11_turnsOver 1 11 := ⟨kMemL [1468, 1470, 44, 86, 1471] (by decide +kernel) (by decide +kernel), by decide +kernel, ⟨_, rfl, rfl⟩, by decide⟩
theorem l_RX11_200 : kVL RX11 200 yX11_couples mX11_couples 1 11 := ⟨kMemL [1464, 1466, 43, 86, 1467] (by decide +kernel) (by decide +kernel), by decide +kernel, ⟨_, rfl, rfl⟩, by decide⟩
theorem l_RX11_203 : kVL RX11 203 yX11_traces mX11_traces 1 11 := ⟨kMemL [1492, 1494, 50, 86, 1495] (by decide +kernel) (by decide +kernel), by decide +kernel, ⟨_, rfl, rfl⟩, by decide⟩
theorem l_RX11_206 : kVL RX11 206 yX11_isShattered mX11_isShattered 1 11 := ⟨kMemL [1488, 1490, 49, 86, 1491] (by decide +kernel) (by decide +kernel), by decide +kernel, ⟨_, rfl, rfl⟩, by decide⟩
theorem l_RX11_209 : kVL RX11 209 yX11_degreeOf mX11_degreeOf 2 11 := ⟨kMemL [1476, 1478, 46, 86, 1479] (by decide +kernel) (by decide +kernel), by decide +kernel, ⟨_, rfl, rfl⟩, by decide⟩
theorem l_RX11_212 : kVL RX11 212 yX11_massOf mX11_massOf 1 11 := ⟨kMemL [1496, 1498, 51, 86, 1499] (by decide +kernel) (by decide +kernel), by decide +kernel, ⟨_, rfl, rfl⟩, by decide⟩
theorem l_RX11_215 : kVL RX11 215 yX11_basedMany mX11_basedMany 0 11 := ⟨kMemL [1448, 1450, 39, 86, 1451] (by decide +kernel) (by decide +kernel), by decide +kernel, ⟨_, rfl, rfl⟩, by decide⟩
theorem l_RX11_218 : kVL RX11 218 yX11_byFrequency mX11_byFrequency 1 11 := ⟨kMemL [1452, 1454, 40, 86, 1455] (by decide +kernel) (by decide +kernel), by decide +kernel, ⟨_, rfl, rfl⟩, by decide⟩
theorem l_RX11_221 : kVL RX11 221 yX11_measures mX11_measures 1 11 := ⟨kMemL [1456, 1458, 41, 86, 1459] (by decide +kernel) (by decide +kernel), by decide +kernel, ⟨_, rfl, rfl⟩, by decide⟩
theorem l_RX11_225 : kVL RX11 225 yX11_spread mX11_spread 0 11 := ⟨kMemL [1460, 1462, 42, 86, 1463] (by decide +kernel) (by decide +kernel), by decide +kernel, ⟨_, rfl, rfl⟩, by decide⟩
theorem l_RX11_228 : kVL RX11 228 yX11_coverMany mX11_coverMany 0 11 := ⟨kMemL [1472, 1474, 45, 86, 1475] (by decide +kernel) (by decide +kernel), by decide +kernel, ⟨_, rfl, rfl⟩, by decide⟩
theorem l_RX11_231 : kVL RX11 231 yX11_depth mX11_depth 0 11 := ⟨kMemL [1484, 1486, 48, 86, 1487] (by decide +kernel) (by decide +kernel), by decide +kernel, ⟨_, rfl, rfl⟩, by decide⟩
theorem l_RX11_234 : kVL RX11 234 yX11_massOfAll mX11_massOfAll 0 11 := ⟨kMemL [1500, 1502, 52, 86, 1503] (by decide +kernel) (by decide +kernel), by decide +kernel, ⟨_, rfl, rfl⟩, by decide⟩
theorem l_RX11_237 : kVL RX11 237 yX11_sizedMany mX11_sizedMany 1 11 := ⟨kMemL [1508, 1510, 53, 86, 1511] (by decide +kernel) (by decide +kernel), by decide +kernel, ⟨_, rfl, rfl⟩, by decide⟩
theorem l_RX11_240 : kVL RX11 240 yX11_isClosed mX11_isClosed 2 11 := ⟨kMemL [1536, 1538, 54, 86, 1539] (by decide +kernel) (by decide +kernel), by decide +kernel, ⟨_, rfl, rfl⟩, by decide⟩
theorem l_RX11_244 : kVL RX11 244 yX11_withOne mX11_withOne 1 11 := ⟨kMemL [1596, 1598, 55, 86, 1599] (by decide +kernel) (by decide +kernel), by decide +kernel, ⟨_, rfl, rfl⟩, by decide⟩
theorem l_RX11_247 : kVL RX11 247 yX11_sumOf mX11_sumOf 1 11 := ⟨kMemL [1616, 1618, 56, 86, 1619] (by decide +kernel) (by decide +kernel), by decide +kernel, ⟨_, rfl, rfl⟩, by decide⟩
theorem l_RX11_250 : kVL RX11 250 yX11_isProved mX11_isProved 0 11 := ⟨kMemL [1620, 1622, 57, 86, 1623] (by decide +kernel) (by decide +kernel), by decide +kernel, ⟨_, rfl, rfl⟩, by decide⟩
theorem l_RX11_257 : kVL RX11 257 yX11_wordFrom mX11_wordFrom 1 11 := ⟨kMemL [1644, 1646, 59, 86, 1647] (by decide +kernel) (by decide +kernel), by decide +kernel, ⟨_, rfl, rfl⟩, by decide⟩
theorem l_RX11_260 : kVL RX11 260 yX11_writes mX11_writes 1 11 := ⟨kMemL [1648, 1650, 60, 86, 1651] (by decide +kernel) (by decide +kernel), by decide +kernel, ⟨_, rfl, rfl⟩, by decide⟩
theorem l_RX11_263 : kVL RX11 263 yX11_writesWord mX11_writesWord 1 11 := ⟨kMemL [1640, 1642, 58, 86, 1643] (by decide +kernel) (by decide +kernel), by decide +kernel, ⟨_, rfl, rfl⟩, by decide⟩
theorem l_RX11_269 : kVL RX11 269 yX11_idle mX11_idle 0 11 := ⟨kMemL [1656, 1658, 61, 86, 1659] (by decide +kernel) (by decide +kernel), by decide +kernel, ⟨_, rfl, rfl⟩, by decide⟩
theorem l_RX11_278 : kVL RX11 278 yX11_here mX11_here 0 11 := ⟨kMemL [1676, 1678, 63, 86, 1679] (by decide +kernel) (by decide +kernel), by decide +kernel, ⟨_, rfl, rfl⟩, by decide⟩
theorem l_RX11_291 : kVL RX11 291 yX11_goesOn mX11_goesOn 0 11 := ⟨kMemL [1672, 1674, 62, 86, 1675] (by decide +kernel) (by decide +kernel), by decide +kernel, ⟨_, rfl, rfl⟩, by decide⟩
theorem l_RX11_294 : kVL RX11 294 yX11_needsLetters mX11_needsLetters 0 11 := ⟨kMemL [1696, 1698, 68, 86, 1699] (by decide +kernel) (by decide +kernel), by decide +kernel, ⟨_, rfl, rfl⟩, by decide⟩
theorem l_RX11_297 : kVL RX11 297 yX11_needsNumber mX11_needsNumber 2 11 := ⟨kMemL [1688, 1690, 66, 86, 1691] (by decide +kernel) (by decide +kernel), by decide +kernel, ⟨_, rfl, rfl⟩, by decide⟩
theorem l_RX11_300 : kVL RX11 300 yX11_takesWord mX11_takesWord 1 11 := ⟨kMemL [1684, 1686, 65, 86, 1687] (by decide +kernel) (by decide +kernel), by decide +kernel, ⟨_, rfl, rfl⟩, by decide⟩
theorem l_RX11_303 : kVL RX11 303 yX11_readsWeight mX11_readsWeight 0 11 := ⟨kMemL [1692, 1694, 67, 86, 1695] (by decide +kernel) (by decide +kernel), by decide +kernel, ⟨_, rfl, rfl⟩, by decide⟩
theorem l_RX11_306 : kVL RX11 306 yX11_readsSet mX11_readsSet 1 11 := ⟨kMemL [1700, 1702, 69, 86, 1703] (by decide +kernel) (by decide +kernel), by decide +kernel, ⟨_, rfl, rfl⟩, by decide⟩
theorem l_RX11_309 : kVL RX11 309 yX11_readsOne mX11_readsOne 1 11 := ⟨kMemL [1680, 1682, 64, 86, 1683] (by decide +kernel) (by decide +kernel), by decide +kernel, ⟨_, rfl, rfl⟩, by decide⟩
theorem l_RX11_312 : kVL RX11 312 yX11_keepsList mX11_keepsList 0 11 := ⟨kMemL [1704, 1706, 70, 86, 1707] (by decide +kernel) (by decide +kernel), by decide +kernel, ⟨_, rfl, rfl⟩, by decide⟩
theorem l_RJ0_495 : kSL RJ0 495 yJ1_charAt_3b067 mJ1_charAt_3b067 2 := ⟨kMemL [506, 507, 88, 508] (by decide +kernel) (by decide +kernel), by decide +kernel⟩
theorem l_RJ0_498 : kSL RJ0 498 yJ2_charAt_3b067 mJ2_charAt_3b067 2 := ⟨kMemL [517, 518, 90, 519] (by decide +kernel) (by decide +kernel), by decide +kernel⟩
theorem l_RJ0_1059 : kSL RJ0 1059 yJ3_checkIndex_8e157 mJ3_checkIndex_8e157 3 := ⟨kMemL [514, 515, 89, 516] (by decide +kernel) (by decide +kernel), by decide +kernel⟩
theorem l_RJ1_9 : kSL RJ1 9 yJ0_checkIndex_df160 mJ0_checkIndex_df160 2 := ⟨kMemL [509, 510, 87, 511] (by decide +kernel) (by decide +kernel), by decide +kernel⟩
theorem l_RJ2_48 : kSL RJ2 48 yJ2_length_9d52b mJ2_length_9d52b 1 := ⟨kMemL [523, 524, 90, 525] (by decide +kernel) (by decide +kernel), by decide +kernel⟩
theorem l_RJ2_67 : kSL RJ2 67 yJ2_checkIndex_2214a mJ2_checkIndex_2214a 2 := ⟨kMemL [520, 521, 90, 522] (by decide +kernel) (by decide +kernel), by decide +kernel⟩
theorem l_RJ2_71 : kSL RJ2 71 yJ2_getChar_3b067 mJ2_getChar_3b067 2 := ⟨kMemL [527, 528, 90, 529] (by decide +kernel) (by decide +kernel), by decide +kernel⟩
theorem l_RJ2_414 : kSL RJ2 414 yJ0_checkIndex_df160 mJ0_checkIndex_df160 2 := ⟨kMemL [526, 510, 87, 511] (by decide +kernel) (by decide +kernel), by decide +kernel⟩
theorem kb_m4 : (Int8.ofInt (-4)).toInt32 = (-4) := by decide +kernel
theorem kb_m2 : (Int8.ofInt (-2)).toInt32 = (-2) := by decide +kernel
theorem kb_6 : (Int8.ofInt (6)).toInt32 = 6 := by decide +kernel
theorem kb_7 : (Int8.ofInt (7)).toInt32 = 7 := by decide +kernel
theorem kb_8 : (Int8.ofInt (8)).toInt32 = 8 := by decide +kernel
theorem kb_9 : (Int8.ofInt (9)).toInt32 = 9 := by decide +kernel
theorem kb_10 : (Int8.ofInt (10)).toInt32 = 10 := by decide +kernel
theorem kb_11 : (Int8.ofInt (11)).toInt32 = 11 := by decide +kernel
theorem kb_12 : (Int8.ofInt (12)).toInt32 = 12 := by decide +kernel
theorem kb_13 : (Int8.ofInt (13)).toInt32 = 13 := by decide +kernel
theorem kb_14 : (Int8.ofInt (14)).toInt32 = 14 := by decide +kernel
theorem kb_15 : (Int8.ofInt (15)).toInt32 = 15 := by decide +kernel
theorem kb_16 : (Int8.ofInt (16)).toInt32 = 16 := by decide +kernel
theorem kb_17 : (Int8.ofInt (17)).toInt32 = 17 := by decide +kernel
theorem kb_18 : (Int8.ofInt (18)).toInt32 = 18 := by decide +kernel
theorem kb_20 : (Int8.ofInt (20)).toInt32 = 20 := by decide +kernel
theorem kb_22 : (Int8.ofInt (22)).toInt32 = 22 := by decide +kernel
theorem kb_24 : (Int8.ofInt (24)).toInt32 = 24 := by decide +kernel
theorem kb_32 : (Int8.ofInt (32)).toInt32 = 32 := by decide +kernel
theorem kb_40 : (Int8.ofInt (40)).toInt32 = 40 := by decide +kernel
theorem kb_42 : (Int8.ofInt (42)).toInt32 = 42 := by decide +kernel
theorem kb_48 : (Int8.ofInt (48)).toInt32 = 48 := by decide +kernel
theorem kb_57 : (Int8.ofInt (57)).toInt32 = 57 := by decide +kernel
theorem kb_59 : (Int8.ofInt (59)).toInt32 = 59 := by decide +kernel
theorem kb_63 : (Int8.ofInt (63)).toInt32 = 63 := by decide +kernel
theorem kb_64 : (Int8.ofInt (64)).toInt32 = 64 := by decide +kernel
theorem kb_97 : (Int8.ofInt (97)).toInt32 = 97 := by decide +kernel
theorem kb_100 : (Int8.ofInt (100)).toInt32 = 100 := by decide +kernel
theorem kb_101 : (Int8.ofInt (101)).toInt32 = 101 := by decide +kernel
theorem kb_103 : (Int8.ofInt (103)).toInt32 = 103 := by decide +kernel
theorem kb_104 : (Int8.ofInt (104)).toInt32 = 104 := by decide +kernel
theorem kb_105 : (Int8.ofInt (105)).toInt32 = 105 := by decide +kernel
theorem kb_110 : (Int8.ofInt (110)).toInt32 = 110 := by decide +kernel
theorem kb_111 : (Int8.ofInt (111)).toInt32 = 111 := by decide +kernel
theorem kb_112 : (Int8.ofInt (112)).toInt32 = 112 := by decide +kernel
theorem kb_115 : (Int8.ofInt (115)).toInt32 = 115 := by decide +kernel
theorem kb_116 : (Int8.ofInt (116)).toInt32 = 116 := by decide +kernel
theorem kb_119 : (Int8.ofInt (119)).toInt32 = 119 := by decide +kernel
theorem kb_122 : (Int8.ofInt (122)).toInt32 = 122 := by decide +kernel
theorem kc_m8 : Int32.ofInt (-8) = (-8) := by decide +kernel
theorem kc_m1 : Int32.ofInt (-1) = (-1) := by decide +kernel
theorem kc_0 : Int32.ofInt (0) = 0 := by decide +kernel
theorem kc_1 : Int32.ofInt (1) = 1 := by decide +kernel
theorem kc_2 : Int32.ofInt (2) = 2 := by decide +kernel
theorem kc_3 : Int32.ofInt (3) = 3 := by decide +kernel
theorem kc_4 : Int32.ofInt (4) = 4 := by decide +kernel
theorem kc_5 : Int32.ofInt (5) = 5 := by decide +kernel
theorem ks_128 : (Int16.ofInt (128)).toInt32 = 128 := by decide +kernel
theorem ks_129 : (Int16.ofInt (129)).toInt32 = 129 := by decide +kernel
theorem ks_255 : (Int16.ofInt (255)).toInt32 = 255 := by decide +kernel
theorem ks_300 : (Int16.ofInt (300)).toInt32 = 300 := by decide +kernel
theorem ks_400 : (Int16.ofInt (400)).toInt32 = 400 := by decide +kernel
theorem ks_504 : (Int16.ofInt (504)).toInt32 = 504 := by decide +kernel
theorem ks_10000 : (Int16.ofInt (10000)).toInt32 = 10000 := by decide +kernel
