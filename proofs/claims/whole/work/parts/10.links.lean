/-! ===== methods, fields and calls by name ===== -/
abbrev mX0_init : Md := (yX0_init, cX0_init, 2, none)
abbrev mX0_kind : Md := (yX0_kind, cX0_kind, 1, (some .int))
abbrev mX0_takes : Md := (yX0_takes, cX0_takes, 3, (some .int))
abbrev mX0_gives : Md := (yX0_gives, cX0_gives, 4, (some .int))
abbrev mX1_init : Md := (yX1_init, cX1_init, 2, none)
abbrev mX1_kind : Md := (yX1_kind, cX1_kind, 1, (some .int))
abbrev mX1_takes : Md := (yX1_takes, cX1_takes, 3, (some .int))
abbrev mX1_gives : Md := (yX1_gives, cX1_gives, 4, (some .int))
abbrev mX2_init : Md := (yX2_init, cX2_init, 2, none)
abbrev mX2_kind : Md := (yX2_kind, cX2_kind, 1, (some .int))
abbrev mX2_takes : Md := (yX2_takes, cX2_takes, 3, (some .int))
abbrev mX2_gives : Md := (yX2_gives, cX2_gives, 4, (some .int))
abbrev mX2_fact : Md := (yX2_fact, cX2_fact, 2, (some .int))
abbrev mX2_change : Md := (yX2_change, cX2_change, 3, none)
abbrev mX3_init : Md := (yX3_init, cX3_init, 2, none)
abbrev mX3_kind : Md := (yX3_kind, cX3_kind, 1, (some .int))
abbrev mX3_takes : Md := (yX3_takes, cX3_takes, 3, (some .int))
abbrev mX4_init : Md := (yX4_init, cX4_init, 1, none)
abbrev mX4_isJoint : Md := (yX4_isJoint, cX4_isJoint, 1, (some .boolean))
abbrev mX4_append : Md := (yX4_append, cX4_append, 2, none)
abbrev mX4_clear : Md := (yX4_clear, cX4_clear, 1, none)
abbrev mX4_read : Md := (yX4_read, cX4_read, 3, (some (.object "PapersEarly$Rule")))
abbrev mX4_part : Md := (yX4_part, cX4_part, 2, (some .boolean))
abbrev mX4_either : Md := (yX4_either, cX4_either, 4, (some .boolean))
abbrev mX4_both : Md := (yX4_both, cX4_both, 4, (some .boolean))
abbrev mX4_negated : Md := (yX4_negated, cX4_negated, 2, (some .boolean))
abbrev mX4_behindNot : Md := (yX4_behindNot, cX4_behindNot, 2, (some .boolean))
abbrev mX4_compared : Md := (yX4_compared, cX4_compared, 3, (some .boolean))
abbrev mX4_sum : Md := (yX4_sum, cX4_sum, 5, (some .boolean))
abbrev mX4_term : Md := (yX4_term, cX4_term, 4, (some .boolean))
abbrev mX4_one : Md := (yX4_one, cX4_one, 2, (some .boolean))
abbrev mX4_behindMinus : Md := (yX4_behindMinus, cX4_behindMinus, 2, (some .boolean))
abbrev mX4_emit : Md := (yX4_emit, cX4_emit, 2, (some .boolean))
abbrev mX4_passed : Md := (yX4_passed, cX4_passed, 2, (some .boolean))
abbrev mX4_advance : Md := (yX4_advance, cX4_advance, 1, none)
abbrev mX4_readDigits : Md := (yX4_readDigits, cX4_readDigits, 1, none)
abbrev mX4_isLetter : Md := (yX4_isLetter, cX4_isLetter, 1, (some .boolean))
abbrev mX4_isDigit : Md := (yX4_isDigit, cX4_isDigit, 1, (some .boolean))
abbrev mX4_signKind : Md := (yX4_signKind, cX4_signKind, 2, (some .int))
abbrev mX4_wordKind : Md := (yX4_wordKind, cX4_wordKind, 1, (some .int))
abbrev mX4_spells : Md := (yX4_spells, cX4_spells, 3, (some .boolean))
abbrev mX5_init : Md := (yX5_init, cX5_init, 4, none)
abbrev mX5_wantedBy : Md := (yX5_wantedBy, cX5_wantedBy, 3, (some .int))
abbrev mX5_rings : Md := (yX5_rings, cX5_rings, 4, (some .boolean))
abbrev mX5_gift : Md := (yX5_gift, cX5_gift, 5, (some .int))
abbrev mX5_within : Md := (yX5_within, cX5_within, 2, (some .int))
abbrev mX5_answer : Md := (yX5_answer, cX5_answer, 10, (some .int))
abbrev mX5_bit : Md := (yX5_bit, cX5_bit, 1, (some .int))
abbrev mX5_joined : Md := (yX5_joined, cX5_joined, 3, (some .int))
abbrev mX5_named : Md := (yX5_named, cX5_named, 4, (some .int))
abbrev mX6_init : Md := (yX6_init, cX6_init, 3, none)
abbrev mX6_find : Md := (yX6_find, cX6_find, 5, none)
abbrev mX6_fillGifts : Md := (yX6_fillGifts, cX6_fillGifts, 8, none)
abbrev mX6_grow : Md := (yX6_grow, cX6_grow, 6, none)
abbrev mX6_goOn : Md := (yX6_goOn, cX6_goOn, 7, none)
abbrev mX6_hopeOf : Md := (yX6_hopeOf, cX6_hopeOf, 7, (some .int))
abbrev mX6_worth : Md := (yX6_worth, cX6_worth, 6, (some .int))
abbrev mX7_init : Md := (yX7_init, cX7_init, 1, none)
abbrev mX7_isMissing : Md := (yX7_isMissing, cX7_isMissing, 1, (some .boolean))
abbrev mX7_become : Md := (yX7_become, cX7_become, 3, none)
abbrev mX7_has : Md := (yX7_has, cX7_has, 3, (some .boolean))
abbrev mX7_item : Md := (yX7_item, cX7_item, 2, (some .int))
abbrev mX7_put : Md := (yX7_put, cX7_put, 3, none)
abbrev mX8_init : Md := (yX8_init, cX8_init, 2, none)
abbrev mX8_kind : Md := (yX8_kind, cX8_kind, 1, (some .int))
abbrev mX8_takes : Md := (yX8_takes, cX8_takes, 3, (some .int))
abbrev mX8_gives : Md := (yX8_gives, cX8_gives, 4, (some .int))
abbrev mX9_init : Md := (yX9_init, cX9_init, 2, none)
abbrev mX9_kind : Md := (yX9_kind, cX9_kind, 1, (some .int))
abbrev mX9_takes : Md := (yX9_takes, cX9_takes, 3, (some .int))
abbrev mX9_gives : Md := (yX9_gives, cX9_gives, 4, (some .int))
abbrev mX10_init : Md := (yX10_init, cX10_init, 1, none)
abbrev mX10_start : Md := (yX10_start, cX10_start, 2, none)
abbrev mX10_follow : Md := (yX10_follow, cX10_follow, 2, none)
abbrev mX10_visit : Md := (yX10_visit, cX10_visit, 5, (some .int))
abbrev mX10_fill : Md := (yX10_fill, cX10_fill, 2, none)
abbrev mX10_go : Md := (yX10_go, cX10_go, 5, none)
abbrev mX11_init : Md := (yX11_init, cX11_init, 2, none)
abbrev mX11_house : Md := (yX11_house, cX11_house, 10, (some .int))
abbrev mX11_set : Md := (yX11_set, cX11_set, 6, (some .int))
abbrev mX11_bag : Md := (yX11_bag, cX11_bag, 4, (some .int))
abbrev mX11_told : Md := (yX11_told, cX11_told, 4, (some .int))
abbrev mX11_swap : Md := (yX11_swap, cX11_swap, 4, (some .int))
abbrev mX11_feed : Md := (yX11_feed, cX11_feed, 2, (some .int))
abbrev mX11_text : Md := (yX11_text, cX11_text, 3, (some .int))
abbrev mX11_force : Md := (yX11_force, cX11_force, 3, (some .int))
abbrev mX11_at : Md := (yX11_at, cX11_at, 4, (some .int))
abbrev mX11_round : Md := (yX11_round, cX11_round, 3, (some .int))
abbrev mX11_shifted : Md := (yX11_shifted, cX11_shifted, 5, (some .int))
abbrev mX11_where : Md := (yX11_where, cX11_where, 9, (some .int))
abbrev mX11_best : Md := (yX11_best, cX11_best, 4, (some .int))
abbrev mX11_arrange : Md := (yX11_arrange, cX11_arrange, 3, (some .int))
abbrev mX11_ways : Md := (yX11_ways, cX11_ways, 5, (some .int))
abbrev mX11_begin : Md := (yX11_begin, cX11_begin, 4, (some .int))
abbrev mX11_heap : Md := (yX11_heap, cX11_heap, 7, (some .int))
abbrev mX11_split : Md := (yX11_split, cX11_split, 6, (some .int))
abbrev mX11_drop : Md := (yX11_drop, cX11_drop, 2, (some .int))
abbrev mX11_away : Md := (yX11_away, cX11_away, 3, (some .int))
abbrev mX11_judge : Md := (yX11_judge, cX11_judge, 5, (some .int))
abbrev mX11_thrownBy : Md := (yX11_thrownBy, cX11_thrownBy, 3, (some .int))
abbrev mX11_chance : Md := (yX11_chance, cX11_chance, 7, (some .long))
abbrev mX11_image : Md := (yX11_image, cX11_image, 3, (some .int))
abbrev mX11_back : Md := (yX11_back, cX11_back, 3, (some .int))
abbrev mX11_count : Md := (yX11_count, cX11_count, 2, (some .int))
abbrev mX11_sheet : Md := (yX11_sheet, cX11_sheet, 4, (some .int))
abbrev mX11_cell : Md := (yX11_cell, cX11_cell, 5, (some .int))
abbrev mX11_copy : Md := (yX11_copy, cX11_copy, 8, (some .int))
abbrev mX11_houses : Md := (yX11_houses, cX11_houses, 9, (some .int))
abbrev mX11_taken : Md := (yX11_taken, cX11_taken, 4, (some .int))
abbrev mX11_isHouse : Md := (yX11_isHouse, cX11_isHouse, 2, (some .boolean))
abbrev mX11_doorOf : Md := (yX11_doorOf, cX11_doorOf, 2, (some (.object "PapersEarly$Door")))
abbrev mX11_isFact : Md := (yX11_isFact, cX11_isFact, 2, (some .boolean))
abbrev mX11_newDoor : Md := (yX11_newDoor, cX11_newDoor, 2, (some (.object "PapersEarly$Door")))
abbrev mX11_isOfKind : Md := (yX11_isOfKind, cX11_isOfKind, 2, (some .boolean))
abbrev mX11_thickOf : Md := (yX11_thickOf, cX11_thickOf, 3, (some .int))
abbrev mX11_placeInList : Md := (yX11_placeInList, cX11_placeInList, 3, (some .int))
abbrev mX11_thickTogether : Md := (yX11_thickTogether, cX11_thickTogether, 4, (some .int))
abbrev mX11_forgetBest : Md := (yX11_forgetBest, cX11_forgetBest, 1, none)
abbrev mX11_searchOf : Md := (yX11_searchOf, cX11_searchOf, 2, (some (.object "PapersEarly$Search")))
abbrev mX11_goList : Md := (yX11_goList, cX11_goList, 1, (some .int))
abbrev mX11_goThrough : Md := (yX11_goThrough, cX11_goThrough, 6, (some .int))
abbrev mX11_goWithout : Md := (yX11_goWithout, cX11_goWithout, 4, (some .int))
abbrev mX11_wayRank : Md := (yX11_wayRank, cX11_wayRank, 4, (some .int))
abbrev mX11_lateness : Md := (yX11_lateness, cX11_lateness, 2, (some .int))
abbrev mX11_giftOf : Md := (yX11_giftOf, cX11_giftOf, 2, (some .int))
abbrev mX11_lateCount : Md := (yX11_lateCount, cX11_lateCount, 3, (some .int))
abbrev mX11_ringing : Md := (yX11_ringing, cX11_ringing, 3, (some .int))
abbrev mX11_purseWithout : Md := (yX11_purseWithout, cX11_purseWithout, 4, (some .int))
abbrev mX11_wrongSorts : Md := (yX11_wrongSorts, cX11_wrongSorts, 4, (some .int))
abbrev mX11_tellsBits : Md := (yX11_tellsBits, cX11_tellsBits, 4, (some .boolean))
abbrev mX11_lyingRight : Md := (yX11_lyingRight, cX11_lyingRight, 6, (some .int))
abbrev mX11_commonDivisor : Md := (yX11_commonDivisor, cX11_commonDivisor, 3, (some .int))
abbrev mX11_isSheet : Md := (yX11_isSheet, cX11_isSheet, 1, (some .boolean))
abbrev mX11_refusalOfTelling : Md := (yX11_refusalOfTelling, cX11_refusalOfTelling, 2, (some .int))
abbrev mX12_init : Md := (yX12_init, cX12_init, 2, none)
abbrev mX12_isIn : Md := (yX12_isIn, cX12_isIn, 3, (some .boolean))
abbrev mX12_isHouse : Md := (yX12_isHouse, cX12_isHouse, 2, (some .boolean))
abbrev mX12_writes : Md := (yX12_writes, cX12_writes, 2, none)
abbrev mX12_firstRule : Md := (yX12_firstRule, cX12_firstRule, 1, none)
abbrev mX12_feed : Md := (yX12_feed, cX12_feed, 2, (some .int))
abbrev mX12_isAt : Md := (yX12_isAt, cX12_isAt, 3, (some .boolean))
abbrev mX12_isSign : Md := (yX12_isSign, cX12_isSign, 1, (some .boolean))
abbrev mX12_isWord : Md := (yX12_isWord, cX12_isWord, 3, (some .boolean))
abbrev mX12_reads : Md := (yX12_reads, cX12_reads, 2, none)
abbrev mX12_top : Md := (yX12_top, cX12_top, 1, (some .int))
abbrev mX12_holds : Md := (yX12_holds, cX12_holds, 2, none)
abbrev mX12_lets : Md := (yX12_lets, cX12_lets, 2, none)
abbrev mX12_letsFrom : Md := (yX12_letsFrom, cX12_letsFrom, 2, none)
abbrev mX12_heightOf : Md := (yX12_heightOf, cX12_heightOf, 1, (some .int))
abbrev mX12_mayNot : Md := (yX12_mayNot, cX12_mayNot, 2, (some .boolean))
abbrev mX12_ahead : Md := (yX12_ahead, cX12_ahead, 2, (some .int))
abbrev mX12_deedOf : Md := (yX12_deedOf, cX12_deedOf, 1, (some .int))
abbrev mX12_behind : Md := (yX12_behind, cX12_behind, 2, (some .int))
abbrev mX12_readsRow : Md := (yX12_readsRow, cX12_readsRow, 4, (some .boolean))
abbrev mX12_text : Md := (yX12_text, cX12_text, 3, (some .int))
abbrev mX12_force : Md := (yX12_force, cX12_force, 3, (some .int))
abbrev mX12_named : Md := (yX12_named, cX12_named, 4, (some .int))
abbrev mX12_done : Md := (yX12_done, cX12_done, 3, (some .int))
abbrev mX12_says : Md := (yX12_says, cX12_says, 8, (some .int))
abbrev mX12_bounded : Md := (yX12_bounded, cX12_bounded, 3, (some .int))
abbrev mX12_byOf : Md := (yX12_byOf, cX12_byOf, 2, (some .int))
abbrev mX12_thickOf : Md := (yX12_thickOf, cX12_thickOf, 2, (some .int))
abbrev mX12_takesOf : Md := (yX12_takesOf, cX12_takesOf, 4, (some .int))
abbrev mX12_tipsOf : Md := (yX12_tipsOf, cX12_tipsOf, 5, (some .int))
abbrev mX12_comes : Md := (yX12_comes, cX12_comes, 4, (some .int))
abbrev mX12_house : Md := (yX12_house, cX12_house, 4, (some .int))
abbrev mX12_set : Md := (yX12_set, cX12_set, 5, (some .int))
abbrev mX12_bag : Md := (yX12_bag, cX12_bag, 4, (some .int))
abbrev mX12_placeInList : Md := (yX12_placeInList, cX12_placeInList, 3, (some .int))
abbrev mX12_told : Md := (yX12_told, cX12_told, 3, (some .int))
abbrev mX12_swap : Md := (yX12_swap, cX12_swap, 4, (some .int))
abbrev mX12_isUnder : Md := (yX12_isUnder, cX12_isUnder, 2, (some .boolean))
abbrev mX12_taken : Md := (yX12_taken, cX12_taken, 3, (some .int))
abbrev mX12_takesList : Md := (yX12_takesList, cX12_takesList, 2, none)
abbrev mX12_far : Md := (yX12_far, cX12_far, 4, (some .int))
abbrev mX12_takesPapers : Md := (yX12_takesPapers, cX12_takesPapers, 4, (some .int))
abbrev mX12_walks : Md := (yX12_walks, cX12_walks, 7, (some .int))
abbrev mX12_lateOf : Md := (yX12_lateOf, cX12_lateOf, 3, (some .int))
abbrev mX12_at : Md := (yX12_at, cX12_at, 3, (some .int))
abbrev mX12_ringing : Md := (yX12_ringing, cX12_ringing, 4, (some .int))
abbrev mX12_purse : Md := (yX12_purse, cX12_purse, 4, (some .int))
abbrev mX12_lateMany : Md := (yX12_lateMany, cX12_lateMany, 3, (some .int))
abbrev mX12_round : Md := (yX12_round, cX12_round, 3, (some .int))
abbrev mX12_wrongBy : Md := (yX12_wrongBy, cX12_wrongBy, 4, (some .int))
abbrev mX12_shifted : Md := (yX12_shifted, cX12_shifted, 4, (some .int))
abbrev mX12_isRinging : Md := (yX12_isRinging, cX12_isRinging, 4, (some .boolean))
abbrev mX12_where : Md := (yX12_where, cX12_where, 6, (some .int))
abbrev mX12_changes : Md := (yX12_changes, cX12_changes, 4, none)
abbrev mX12_nextOrder : Md := (yX12_nextOrder, cX12_nextOrder, 5, (some .boolean))
abbrev mX12_findBest : Md := (yX12_findBest, cX12_findBest, 8, (some .int))
abbrev mX12_best : Md := (yX12_best, cX12_best, 4, (some .int))
abbrev mX12_arrange : Md := (yX12_arrange, cX12_arrange, 3, (some .int))
abbrev mX12_isAhead : Md := (yX12_isAhead, cX12_isAhead, 4, (some .boolean))
abbrev mX12_ways : Md := (yX12_ways, cX12_ways, 4, (some .int))
abbrev mX12_begin : Md := (yX12_begin, cX12_begin, 4, (some .int))
abbrev mX12_heap : Md := (yX12_heap, cX12_heap, 7, (some .int))
abbrev mX12_endsPart : Md := (yX12_endsPart, cX12_endsPart, 4, (some .int))
abbrev mX12_split : Md := (yX12_split, cX12_split, 8, (some .int))
abbrev mX12_endsWithout : Md := (yX12_endsWithout, cX12_endsWithout, 3, (some .int))
abbrev mX12_drop : Md := (yX12_drop, cX12_drop, 2, (some .int))
abbrev mX12_away : Md := (yX12_away, cX12_away, 5, (some .int))
abbrev mX12_judge : Md := (yX12_judge, cX12_judge, 3, (some .int))
abbrev mX12_rightBy : Md := (yX12_rightBy, cX12_rightBy, 6, (some .int))
abbrev mX12_thrownBy : Md := (yX12_thrownBy, cX12_thrownBy, 3, (some .int))
abbrev mX12_divisor : Md := (yX12_divisor, cX12_divisor, 5, (some .int))
abbrev mX12_chance : Md := (yX12_chance, cX12_chance, 7, (some .long))
abbrev mX12_passes : Md := (yX12_passes, cX12_passes, 3, none)
abbrev mX12_passOne : Md := (yX12_passOne, cX12_passOne, 3, (some .int))
abbrev mX12_passesAll : Md := (yX12_passesAll, cX12_passesAll, 2, none)
abbrev mX12_image : Md := (yX12_image, cX12_image, 1, (some .int))
abbrev mX12_back : Md := (yX12_back, cX12_back, 1, (some .int))
abbrev mX12_count : Md := (yX12_count, cX12_count, 2, (some .int))
abbrev mX12_isSheet : Md := (yX12_isSheet, cX12_isSheet, 1, (some .boolean))
abbrev mX12_sheet : Md := (yX12_sheet, cX12_sheet, 5, (some .int))
abbrev mX12_cell : Md := (yX12_cell, cX12_cell, 4, (some .int))
abbrev mX12_hasCells : Md := (yX12_hasCells, cX12_hasCells, 4, (some .boolean))
abbrev mX12_copy : Md := (yX12_copy, cX12_copy, 7, (some .int))
abbrev mX12_houses : Md := (yX12_houses, cX12_houses, 9, (some .int))
abbrev mJ9_abs_0f7a4 : Md := (yJ9_abs_0f7a4, cJ9_abs_0f7a4, 1, (some .int))
abbrev mJ9_max_7cf53 : Md := (yJ9_max_7cf53, cJ9_max_7cf53, 2, (some .int))
abbrev mJ9_min_7cf53 : Md := (yJ9_min_7cf53, cJ9_min_7cf53, 2, (some .int))
abbrev mJ0_length_8abf5 : Md := (yJ0_length_8abf5, cJ0_length_8abf5, 1, (some .int))
abbrev mJ0_charAt_5068e : Md := (yJ0_charAt_5068e, cJ0_charAt_5068e, 2, (some .char))
abbrev mJ0_coder_7d493 : Md := (yJ0_coder_7d493, cJ0_coder_7d493, 1, (some .byte))
abbrev mJ0_isLatin1_aae02 : Md := (yJ0_isLatin1_aae02, cJ0_isLatin1_aae02, 1, (some .boolean))
abbrev mJ0_checkIndex_df160 : Md := (yJ0_checkIndex_df160, cJ0_checkIndex_df160, 2, none)
abbrev mJ1_charAt_3b067 : Md := (yJ1_charAt_3b067, cJ1_charAt_3b067, 2, (some .char))
abbrev mJ2_getChar_3b067 : Md := (yJ2_getChar_3b067, cJ2_getChar_3b067, 2, (some .char))
abbrev mJ2_length_9d52b : Md := (yJ2_length_9d52b, cJ2_length_9d52b, 1, (some .int))
abbrev mJ2_charAt_3b067 : Md := (yJ2_charAt_3b067, cJ2_charAt_3b067, 2, (some .char))
abbrev mJ2_checkIndex_2214a : Md := (yJ2_checkIndex_2214a, cJ2_checkIndex_2214a, 2, none)
abbrev mJ7_fill_53178 : Md := (yJ7_fill_53178, cJ7_fill_53178, 4, none)
abbrev mJ7_copyOf_59c91 : Md := (yJ7_copyOf_59c91, cJ7_copyOf_59c91, 3, (some (.array .int)))
abbrev mJ3_checkIndex_8e157 : Md := (yJ3_checkIndex_8e157, cJ3_checkIndex_8e157, 3, (some .int))
abbrev mL_law : Md := (yL_law, cL_law, 4, (some .boolean))
theorem cbX0_init : CB mX0_init 1 := ⟨(mt3 15 rfl rfl), (mt1 19 rfl rfl), ⟨by decide, by decide⟩, by decide +kernel, by decide⟩
theorem cbX0_kind : CB mX0_kind 0 := ⟨(mt3 97 rfl rfl), (mt1 19 rfl rfl), ⟨by decide, by decide⟩, by decide +kernel, by decide⟩
theorem cbX0_takes : CB mX0_takes 2 := ⟨(mt3 124 rfl rfl), (mt1 19 rfl rfl), ⟨by decide, by decide⟩, by decide +kernel, by decide⟩
theorem cbX0_gives : CB mX0_gives 3 := ⟨(mt3 239 rfl rfl), (mt1 19 rfl rfl), ⟨by decide, by decide⟩, by decide +kernel, by decide⟩
theorem cbX1_init : CB mX1_init 1 := ⟨(mt2 231 rfl rfl), (mt1 17 rfl rfl), ⟨by decide, by decide⟩, by decide +kernel, by decide⟩
theorem cbX1_kind : CB mX1_kind 0 := ⟨(mt3 100 rfl rfl), (mt1 17 rfl rfl), ⟨by decide, by decide⟩, by decide +kernel, by decide⟩
theorem cbX1_takes : CB mX1_takes 2 := ⟨(mt3 127 rfl rfl), (mt1 17 rfl rfl), ⟨by decide, by decide⟩, by decide +kernel, by decide⟩
theorem cbX1_gives : CB mX1_gives 3 := ⟨(mt4 2 rfl rfl), (mt1 17 rfl rfl), ⟨by decide, by decide⟩, by decide +kernel, by decide⟩
theorem cbX2_init : CB mX2_init 1 := ⟨(mt2 190 rfl rfl), (mt1 15 rfl rfl), ⟨by decide, by decide⟩, by decide +kernel, by decide⟩
theorem cbX2_kind : CB mX2_kind 0 := ⟨(mt3 110 rfl rfl), (mt1 15 rfl rfl), ⟨by decide, by decide⟩, by decide +kernel, by decide⟩
theorem cbX2_takes : CB mX2_takes 2 := ⟨(mt3 142 rfl rfl), (mt1 15 rfl rfl), ⟨by decide, by decide⟩, by decide +kernel, by decide⟩
theorem cbX2_gives : CB mX2_gives 3 := ⟨(mt4 16 rfl rfl), (mt1 15 rfl rfl), ⟨by decide, by decide⟩, by decide +kernel, by decide⟩
theorem cbX2_fact : CB mX2_fact 1 := ⟨(mt3 78 rfl rfl), (mt1 15 rfl rfl), ⟨by decide, by decide⟩, by decide +kernel, by decide⟩
theorem cbX2_change : CB mX2_change 2 := ⟨(mt3 52 rfl rfl), (mt1 15 rfl rfl), ⟨by decide, by decide⟩, by decide +kernel, by decide⟩
theorem cbX3_init : CB mX3_init 1 := ⟨(mt2 187 rfl rfl), (mt1 16 rfl rfl), ⟨by decide, by decide⟩, by decide +kernel, by decide⟩
theorem cbX3_kind : CB mX3_kind 0 := ⟨(mt3 103 rfl rfl), (mt1 16 rfl rfl), ⟨by decide, by decide⟩, by decide +kernel, by decide⟩
theorem cbX3_takes : CB mX3_takes 2 := ⟨(mt3 132 rfl rfl), (mt1 16 rfl rfl), ⟨by decide, by decide⟩, by decide +kernel, by decide⟩
theorem cbX4_init : CB mX4_init 0 := ⟨(mt1 44 rfl rfl), (mt1 2 rfl rfl), ⟨by decide, by decide⟩, by decide +kernel, by decide⟩
theorem cbX4_isJoint : CB mX4_isJoint 1 := ⟨(mt3 156 rfl rfl), (mt1 2 rfl rfl), ⟨by decide, by decide⟩, by decide +kernel, by decide⟩
theorem cbX4_append : CB mX4_append 1 := ⟨(mt1 226 rfl rfl), (mt1 2 rfl rfl), ⟨by decide, by decide⟩, by decide +kernel, by decide⟩
theorem cbX4_clear : CB mX4_clear 0 := ⟨(mt2 112 rfl rfl), (mt1 2 rfl rfl), ⟨by decide, by decide⟩, by decide +kernel, by decide⟩
theorem cbX4_read : CB mX4_read 0 := ⟨(mt1 230 rfl rfl), (mt1 2 rfl rfl), ⟨by decide, by decide⟩, by decide +kernel, by decide⟩
theorem cbX4_part : CB mX4_part 1 := ⟨(mt2 33 rfl rfl), (mt1 2 rfl rfl), ⟨by decide, by decide⟩, by decide +kernel, by decide⟩
theorem cbX4_either : CB mX4_either 1 := ⟨(mt2 41 rfl rfl), (mt1 2 rfl rfl), ⟨by decide, by decide⟩, by decide +kernel, by decide⟩
theorem cbX4_both : CB mX4_both 1 := ⟨(mt2 45 rfl rfl), (mt1 2 rfl rfl), ⟨by decide, by decide⟩, by decide +kernel, by decide⟩
theorem cbX4_negated : CB mX4_negated 1 := ⟨(mt2 49 rfl rfl), (mt1 2 rfl rfl), ⟨by decide, by decide⟩, by decide +kernel, by decide⟩
theorem cbX4_behindNot : CB mX4_behindNot 1 := ⟨(mt2 77 rfl rfl), (mt1 2 rfl rfl), ⟨by decide, by decide⟩, by decide +kernel, by decide⟩
theorem cbX4_compared : CB mX4_compared 1 := ⟨(mt2 53 rfl rfl), (mt1 2 rfl rfl), ⟨by decide, by decide⟩, by decide +kernel, by decide⟩
theorem cbX4_sum : CB mX4_sum 1 := ⟨(mt2 57 rfl rfl), (mt1 2 rfl rfl), ⟨by decide, by decide⟩, by decide +kernel, by decide⟩
theorem cbX4_term : CB mX4_term 1 := ⟨(mt2 61 rfl rfl), (mt1 2 rfl rfl), ⟨by decide, by decide⟩, by decide +kernel, by decide⟩
theorem cbX4_one : CB mX4_one 1 := ⟨(mt2 65 rfl rfl), (mt1 2 rfl rfl), ⟨by decide, by decide⟩, by decide +kernel, by decide⟩
theorem cbX4_behindMinus : CB mX4_behindMinus 1 := ⟨(mt2 73 rfl rfl), (mt1 2 rfl rfl), ⟨by decide, by decide⟩, by decide +kernel, by decide⟩
theorem cbX4_emit : CB mX4_emit 1 := ⟨(mt2 69 rfl rfl), (mt1 2 rfl rfl), ⟨by decide, by decide⟩, by decide +kernel, by decide⟩
theorem cbX4_passed : CB mX4_passed 1 := ⟨(mt2 37 rfl rfl), (mt1 2 rfl rfl), ⟨by decide, by decide⟩, by decide +kernel, by decide⟩
theorem cbX4_advance : CB mX4_advance 0 := ⟨(mt1 234 rfl rfl), (mt1 2 rfl rfl), ⟨by decide, by decide⟩, by decide +kernel, by decide⟩
theorem cbX4_readDigits : CB mX4_readDigits 0 := ⟨(mt2 26 rfl rfl), (mt1 2 rfl rfl), ⟨by decide, by decide⟩, by decide +kernel, by decide⟩
theorem cbX4_isLetter : CB mX4_isLetter 1 := ⟨(mt1 237 rfl rfl), (mt1 2 rfl rfl), ⟨by decide, by decide⟩, by decide +kernel, by decide⟩
theorem cbX4_isDigit : CB mX4_isDigit 1 := ⟨(mt2 22 rfl rfl), (mt1 2 rfl rfl), ⟨by decide, by decide⟩, by decide +kernel, by decide⟩
theorem cbX4_signKind : CB mX4_signKind 1 := ⟨(mt2 29 rfl rfl), (mt1 2 rfl rfl), ⟨by decide, by decide⟩, by decide +kernel, by decide⟩
theorem cbX4_wordKind : CB mX4_wordKind 0 := ⟨(mt2 1 rfl rfl), (mt1 2 rfl rfl), ⟨by decide, by decide⟩, by decide +kernel, by decide⟩
theorem cbX4_spells : CB mX4_spells 1 := ⟨(mt2 6 rfl rfl), (mt1 2 rfl rfl), ⟨by decide, by decide⟩, by decide +kernel, by decide⟩
theorem cbX5_init : CB mX5_init 3 := ⟨(mt2 93 rfl rfl), (mt1 10 rfl rfl), ⟨by decide, by decide⟩, by decide +kernel, by decide⟩
theorem cbX5_wantedBy : CB mX5_wantedBy 2 := ⟨(mt3 146 rfl rfl), (mt1 10 rfl rfl), ⟨by decide, by decide⟩, by decide +kernel, by decide⟩
theorem cbX5_rings : CB mX5_rings 3 := ⟨(mt4 32 rfl rfl), (mt1 10 rfl rfl), ⟨by decide, by decide⟩, by decide +kernel, by decide⟩
theorem cbX5_gift : CB mX5_gift 3 := ⟨(mt3 232 rfl rfl), (mt1 10 rfl rfl), ⟨by decide, by decide⟩, by decide +kernel, by decide⟩
theorem cbX5_within : CB mX5_within 2 := ⟨(mt3 165 rfl rfl), (mt1 10 rfl rfl), ⟨by decide, by decide⟩, by decide +kernel, by decide⟩
theorem cbX5_answer : CB mX5_answer 5 := ⟨(mt3 150 rfl rfl), (mt1 10 rfl rfl), ⟨by decide, by decide⟩, by decide +kernel, by decide⟩
theorem cbX5_bit : CB mX5_bit 1 := ⟨(mt3 153 rfl rfl), (mt1 10 rfl rfl), ⟨by decide, by decide⟩, by decide +kernel, by decide⟩
theorem cbX5_joined : CB mX5_joined 3 := ⟨(mt3 159 rfl rfl), (mt1 10 rfl rfl), ⟨by decide, by decide⟩, by decide +kernel, by decide⟩
theorem cbX5_named : CB mX5_named 4 := ⟨(mt3 162 rfl rfl), (mt1 10 rfl rfl), ⟨by decide, by decide⟩, by decide +kernel, by decide⟩
theorem cbX6_init : CB mX6_init 1 := ⟨(mt1 110 rfl rfl), (mt1 4 rfl rfl), ⟨by decide, by decide⟩, by decide +kernel, by decide⟩
theorem cbX6_find : CB mX6_find 4 := ⟨(mt4 83 rfl rfl), (mt1 4 rfl rfl), ⟨by decide, by decide⟩, by decide +kernel, by decide⟩
theorem cbX6_fillGifts : CB mX6_fillGifts 1 := ⟨(mt4 88 rfl rfl), (mt1 4 rfl rfl), ⟨by decide, by decide⟩, by decide +kernel, by decide⟩
theorem cbX6_grow : CB mX6_grow 3 := ⟨(mt4 98 rfl rfl), (mt1 4 rfl rfl), ⟨by decide, by decide⟩, by decide +kernel, by decide⟩
theorem cbX6_goOn : CB mX6_goOn 4 := ⟨(mt4 113 rfl rfl), (mt1 4 rfl rfl), ⟨by decide, by decide⟩, by decide +kernel, by decide⟩
theorem cbX6_hopeOf : CB mX6_hopeOf 3 := ⟨(mt4 102 rfl rfl), (mt1 4 rfl rfl), ⟨by decide, by decide⟩, by decide +kernel, by decide⟩
theorem cbX6_worth : CB mX6_worth 3 := ⟨(mt4 108 rfl rfl), (mt1 4 rfl rfl), ⟨by decide, by decide⟩, by decide +kernel, by decide⟩
theorem cbX7_init : CB mX7_init 0 := ⟨(mt1 159 rfl rfl), (mt1 5 rfl rfl), ⟨by decide, by decide⟩, by decide +kernel, by decide⟩
theorem cbX7_isMissing : CB mX7_isMissing 0 := ⟨(mt4 59 rfl rfl), (mt1 5 rfl rfl), ⟨by decide, by decide⟩, by decide +kernel, by decide⟩
theorem cbX7_become : CB mX7_become 2 := ⟨(mt4 202 rfl rfl), (mt1 5 rfl rfl), ⟨by decide, by decide⟩, by decide +kernel, by decide⟩
theorem cbX7_has : CB mX7_has 2 := ⟨(mt4 71 rfl rfl), (mt1 5 rfl rfl), ⟨by decide, by decide⟩, by decide +kernel, by decide⟩
theorem cbX7_item : CB mX7_item 1 := ⟨(mt4 67 rfl rfl), (mt1 5 rfl rfl), ⟨by decide, by decide⟩, by decide +kernel, by decide⟩
theorem cbX7_put : CB mX7_put 2 := ⟨(mt4 214 rfl rfl), (mt1 5 rfl rfl), ⟨by decide, by decide⟩, by decide +kernel, by decide⟩
theorem cbX8_init : CB mX8_init 1 := ⟨(mt3 27 rfl rfl), (mt1 20 rfl rfl), ⟨by decide, by decide⟩, by decide +kernel, by decide⟩
theorem cbX8_kind : CB mX8_kind 0 := ⟨(mt3 106 rfl rfl), (mt1 20 rfl rfl), ⟨by decide, by decide⟩, by decide +kernel, by decide⟩
theorem cbX8_takes : CB mX8_takes 2 := ⟨(mt3 136 rfl rfl), (mt1 20 rfl rfl), ⟨by decide, by decide⟩, by decide +kernel, by decide⟩
theorem cbX8_gives : CB mX8_gives 3 := ⟨(mt4 8 rfl rfl), (mt1 20 rfl rfl), ⟨by decide, by decide⟩, by decide +kernel, by decide⟩
theorem cbX9_init : CB mX9_init 1 := ⟨(mt3 3 rfl rfl), (mt1 18 rfl rfl), ⟨by decide, by decide⟩, by decide +kernel, by decide⟩
theorem cbX9_kind : CB mX9_kind 0 := ⟨(mt3 109 rfl rfl), (mt1 18 rfl rfl), ⟨by decide, by decide⟩, by decide +kernel, by decide⟩
theorem cbX9_takes : CB mX9_takes 2 := ⟨(mt3 140 rfl rfl), (mt1 18 rfl rfl), ⟨by decide, by decide⟩, by decide +kernel, by decide⟩
theorem cbX9_gives : CB mX9_gives 3 := ⟨(mt4 14 rfl rfl), (mt1 18 rfl rfl), ⟨by decide, by decide⟩, by decide +kernel, by decide⟩
theorem cbX10_init : CB mX10_init 0 := ⟨(mt1 82 rfl rfl), (mt1 3 rfl rfl), ⟨by decide, by decide⟩, by decide +kernel, by decide⟩
theorem cbX10_start : CB mX10_start 1 := ⟨(mt3 201 rfl rfl), (mt1 3 rfl rfl), ⟨by decide, by decide⟩, by decide +kernel, by decide⟩
theorem cbX10_follow : CB mX10_follow 1 := ⟨(mt4 117 rfl rfl), (mt1 3 rfl rfl), ⟨by decide, by decide⟩, by decide +kernel, by decide⟩
theorem cbX10_visit : CB mX10_visit 2 := ⟨(mt3 209 rfl rfl), (mt1 3 rfl rfl), ⟨by decide, by decide⟩, by decide +kernel, by decide⟩
theorem cbX10_fill : CB mX10_fill 1 := ⟨(mt3 205 rfl rfl), (mt1 3 rfl rfl), ⟨by decide, by decide⟩, by decide +kernel, by decide⟩
theorem cbX10_go : CB mX10_go 2 := ⟨(mt3 214 rfl rfl), (mt1 3 rfl rfl), ⟨by decide, by decide⟩, by decide +kernel, by decide⟩
theorem cbX11_init : CB mX11_init 0 := ⟨(mt1 25 rfl rfl), (mt1 1 rfl rfl), ⟨by decide, by decide⟩, by decide +kernel, by decide⟩
theorem cbX11_house : CB mX11_house 3 := ⟨(mt2 174 rfl rfl), (mt1 1 rfl rfl), ⟨by decide, by decide⟩, by decide +kernel, by decide⟩
theorem cbX11_set : CB mX11_set 3 := ⟨(mt3 60 rfl rfl), (mt1 1 rfl rfl), ⟨by decide, by decide⟩, by decide +kernel, by decide⟩
theorem cbX11_bag : CB mX11_bag 2 := ⟨(mt3 82 rfl rfl), (mt1 1 rfl rfl), ⟨by decide, by decide⟩, by decide +kernel, by decide⟩
theorem cbX11_told : CB mX11_told 2 := ⟨(mt3 90 rfl rfl), (mt1 1 rfl rfl), ⟨by decide, by decide⟩, by decide +kernel, by decide⟩
theorem cbX11_swap : CB mX11_swap 2 := ⟨(mt3 173 rfl rfl), (mt1 1 rfl rfl), ⟨by decide, by decide⟩, by decide +kernel, by decide⟩
theorem cbX11_feed : CB mX11_feed 1 := ⟨(mt3 177 rfl rfl), (mt1 1 rfl rfl), ⟨by decide, by decide⟩, by decide +kernel, by decide⟩
theorem cbX11_text : CB mX11_text 0 := ⟨(mt3 181 rfl rfl), (mt1 1 rfl rfl), ⟨by decide, by decide⟩, by decide +kernel, by decide⟩
theorem cbX11_force : CB mX11_force 1 := ⟨(mt3 185 rfl rfl), (mt1 1 rfl rfl), ⟨by decide, by decide⟩, by decide +kernel, by decide⟩
theorem cbX11_at : CB mX11_at 2 := ⟨(mt3 189 rfl rfl), (mt1 1 rfl rfl), ⟨by decide, by decide⟩, by decide +kernel, by decide⟩
theorem cbX11_round : CB mX11_round 1 := ⟨(mt4 20 rfl rfl), (mt1 1 rfl rfl), ⟨by decide, by decide⟩, by decide +kernel, by decide⟩
theorem cbX11_shifted : CB mX11_shifted 2 := ⟨(mt4 40 rfl rfl), (mt1 1 rfl rfl), ⟨by decide, by decide⟩, by decide +kernel, by decide⟩
theorem cbX11_where : CB mX11_where 2 := ⟨(mt4 48 rfl rfl), (mt1 1 rfl rfl), ⟨by decide, by decide⟩, by decide +kernel, by decide⟩
theorem cbX11_best : CB mX11_best 2 := ⟨(mt4 75 rfl rfl), (mt1 1 rfl rfl), ⟨by decide, by decide⟩, by decide +kernel, by decide⟩
theorem cbX11_arrange : CB mX11_arrange 1 := ⟨(mt4 122 rfl rfl), (mt1 1 rfl rfl), ⟨by decide, by decide⟩, by decide +kernel, by decide⟩
theorem cbX11_ways : CB mX11_ways 1 := ⟨(mt4 127 rfl rfl), (mt1 1 rfl rfl), ⟨by decide, by decide⟩, by decide +kernel, by decide⟩
theorem cbX11_begin : CB mX11_begin 0 := ⟨(mt4 135 rfl rfl), (mt1 1 rfl rfl), ⟨by decide, by decide⟩, by decide +kernel, by decide⟩
theorem cbX11_heap : CB mX11_heap 1 := ⟨(mt4 140 rfl rfl), (mt1 1 rfl rfl), ⟨by decide, by decide⟩, by decide +kernel, by decide⟩
theorem cbX11_split : CB mX11_split 1 := ⟨(mt4 145 rfl rfl), (mt1 1 rfl rfl), ⟨by decide, by decide⟩, by decide +kernel, by decide⟩
theorem cbX11_drop : CB mX11_drop 1 := ⟨(mt4 149 rfl rfl), (mt1 1 rfl rfl), ⟨by decide, by decide⟩, by decide +kernel, by decide⟩
theorem cbX11_away : CB mX11_away 2 := ⟨(mt4 157 rfl rfl), (mt1 1 rfl rfl), ⟨by decide, by decide⟩, by decide +kernel, by decide⟩
theorem cbX11_judge : CB mX11_judge 1 := ⟨(mt4 165 rfl rfl), (mt1 1 rfl rfl), ⟨by decide, by decide⟩, by decide +kernel, by decide⟩
theorem cbX11_thrownBy : CB mX11_thrownBy 2 := ⟨(mt4 169 rfl rfl), (mt1 1 rfl rfl), ⟨by decide, by decide⟩, by decide +kernel, by decide⟩
theorem cbX11_chance : CB mX11_chance 4 := ⟨(mt4 178 rfl rfl), (mt1 1 rfl rfl), ⟨by decide, by decide⟩, by decide +kernel, by decide⟩
theorem cbX11_image : CB mX11_image 0 := ⟨(mt4 186 rfl rfl), (mt1 1 rfl rfl), ⟨by decide, by decide⟩, by decide +kernel, by decide⟩
theorem cbX11_back : CB mX11_back 0 := ⟨(mt4 190 rfl rfl), (mt1 1 rfl rfl), ⟨by decide, by decide⟩, by decide +kernel, by decide⟩
theorem cbX11_count : CB mX11_count 1 := ⟨(mt4 194 rfl rfl), (mt1 1 rfl rfl), ⟨by decide, by decide⟩, by decide +kernel, by decide⟩
theorem cbX11_sheet : CB mX11_sheet 3 := ⟨(mt4 198 rfl rfl), (mt1 1 rfl rfl), ⟨by decide, by decide⟩, by decide +kernel, by decide⟩
theorem cbX11_cell : CB mX11_cell 3 := ⟨(mt4 209 rfl rfl), (mt1 1 rfl rfl), ⟨by decide, by decide⟩, by decide +kernel, by decide⟩
theorem cbX11_copy : CB mX11_copy 5 := ⟨(mt4 218 rfl rfl), (mt1 1 rfl rfl), ⟨by decide, by decide⟩, by decide +kernel, by decide⟩
theorem cbX11_houses : CB mX11_houses 4 := ⟨(mt4 222 rfl rfl), (mt1 1 rfl rfl), ⟨by decide, by decide⟩, by decide +kernel, by decide⟩
theorem cbX11_taken : CB mX11_taken 2 := ⟨(mt4 227 rfl rfl), (mt1 1 rfl rfl), ⟨by decide, by decide⟩, by decide +kernel, by decide⟩
theorem cbX11_isHouse : CB mX11_isHouse 1 := ⟨(mt3 68 rfl rfl), (mt1 1 rfl rfl), ⟨by decide, by decide⟩, by decide +kernel, by decide⟩
theorem cbX11_doorOf : CB mX11_doorOf 1 := ⟨(mt3 64 rfl rfl), (mt1 1 rfl rfl), ⟨by decide, by decide⟩, by decide +kernel, by decide⟩
theorem cbX11_isFact : CB mX11_isFact 2 := ⟨(mt2 177 rfl rfl), (mt1 1 rfl rfl), ⟨by decide, by decide⟩, by decide +kernel, by decide⟩
theorem cbX11_newDoor : CB mX11_newDoor 2 := ⟨(mt2 182 rfl rfl), (mt1 1 rfl rfl), ⟨by decide, by decide⟩, by decide +kernel, by decide⟩
theorem cbX11_isOfKind : CB mX11_isOfKind 2 := ⟨(mt4 230 rfl rfl), (mt1 1 rfl rfl), ⟨by decide, by decide⟩, by decide +kernel, by decide⟩
theorem cbX11_thickOf : CB mX11_thickOf 2 := ⟨(mt3 117 rfl rfl), (mt1 1 rfl rfl), ⟨by decide, by decide⟩, by decide +kernel, by decide⟩
theorem cbX11_placeInList : CB mX11_placeInList 1 := ⟨(mt3 114 rfl rfl), (mt1 1 rfl rfl), ⟨by decide, by decide⟩, by decide +kernel, by decide⟩
theorem cbX11_thickTogether : CB mX11_thickTogether 1 := ⟨(mt4 161 rfl rfl), (mt1 1 rfl rfl), ⟨by decide, by decide⟩, by decide +kernel, by decide⟩
theorem cbX11_forgetBest : CB mX11_forgetBest 0 := ⟨(mt3 56 rfl rfl), (mt1 1 rfl rfl), ⟨by decide, by decide⟩, by decide +kernel, by decide⟩
theorem cbX11_searchOf : CB mX11_searchOf 1 := ⟨(mt4 79 rfl rfl), (mt1 1 rfl rfl), ⟨by decide, by decide⟩, by decide +kernel, by decide⟩
theorem cbX11_goList : CB mX11_goList 0 := ⟨(mt3 193 rfl rfl), (mt1 1 rfl rfl), ⟨by decide, by decide⟩, by decide +kernel, by decide⟩
theorem cbX11_goThrough : CB mX11_goThrough 3 := ⟨(mt3 197 rfl rfl), (mt1 1 rfl rfl), ⟨by decide, by decide⟩, by decide +kernel, by decide⟩
theorem cbX11_goWithout : CB mX11_goWithout 1 := ⟨(mt4 153 rfl rfl), (mt1 1 rfl rfl), ⟨by decide, by decide⟩, by decide +kernel, by decide⟩
theorem cbX11_wayRank : CB mX11_wayRank 2 := ⟨(mt4 131 rfl rfl), (mt1 1 rfl rfl), ⟨by decide, by decide⟩, by decide +kernel, by decide⟩
theorem cbX11_lateness : CB mX11_lateness 1 := ⟨(mt3 223 rfl rfl), (mt1 1 rfl rfl), ⟨by decide, by decide⟩, by decide +kernel, by decide⟩
theorem cbX11_giftOf : CB mX11_giftOf 1 := ⟨(mt3 228 rfl rfl), (mt1 1 rfl rfl), ⟨by decide, by decide⟩, by decide +kernel, by decide⟩
theorem cbX11_lateCount : CB mX11_lateCount 0 := ⟨(mt4 24 rfl rfl), (mt1 1 rfl rfl), ⟨by decide, by decide⟩, by decide +kernel, by decide⟩
theorem cbX11_ringing : CB mX11_ringing 0 := ⟨(mt4 28 rfl rfl), (mt1 1 rfl rfl), ⟨by decide, by decide⟩, by decide +kernel, by decide⟩
theorem cbX11_purseWithout : CB mX11_purseWithout 1 := ⟨(mt4 36 rfl rfl), (mt1 1 rfl rfl), ⟨by decide, by decide⟩, by decide +kernel, by decide⟩
theorem cbX11_wrongSorts : CB mX11_wrongSorts 1 := ⟨(mt4 44 rfl rfl), (mt1 1 rfl rfl), ⟨by decide, by decide⟩, by decide +kernel, by decide⟩
theorem cbX11_tellsBits : CB mX11_tellsBits 2 := ⟨(mt4 63 rfl rfl), (mt1 1 rfl rfl), ⟨by decide, by decide⟩, by decide +kernel, by decide⟩
theorem cbX11_lyingRight : CB mX11_lyingRight 2 := ⟨(mt4 173 rfl rfl), (mt1 1 rfl rfl), ⟨by decide, by decide⟩, by decide +kernel, by decide⟩
theorem cbX11_commonDivisor : CB mX11_commonDivisor 2 := ⟨(mt4 182 rfl rfl), (mt1 1 rfl rfl), ⟨by decide, by decide⟩, by decide +kernel, by decide⟩
theorem cbX11_isSheet : CB mX11_isSheet 1 := ⟨(mt4 55 rfl rfl), (mt1 1 rfl rfl), ⟨by decide, by decide⟩, by decide +kernel, by decide⟩
theorem cbX11_refusalOfTelling : CB mX11_refusalOfTelling 1 := ⟨(mt4 52 rfl rfl), (mt1 1 rfl rfl), ⟨by decide, by decide⟩, by decide +kernel, by decide⟩
theorem cbX12_init : CB mX12_init 0 := ⟨(mt4 235 rfl rfl), (mt1 14 rfl rfl), ⟨by decide, by decide⟩, by decide +kernel, by decide⟩
theorem cbX12_isIn : CB mX12_isIn 3 := ⟨(mt5 125 rfl rfl), (mt1 14 rfl rfl), ⟨by decide, by decide⟩, by decide +kernel, by decide⟩
theorem cbX12_isHouse : CB mX12_isHouse 1 := ⟨(mt5 202 rfl rfl), (mt1 14 rfl rfl), ⟨by decide, by decide⟩, by decide +kernel, by decide⟩
theorem cbX12_writes : CB mX12_writes 1 := ⟨(mt5 6 rfl rfl), (mt1 14 rfl rfl), ⟨by decide, by decide⟩, by decide +kernel, by decide⟩
theorem cbX12_firstRule : CB mX12_firstRule 0 := ⟨(mt5 2 rfl rfl), (mt1 14 rfl rfl), ⟨by decide, by decide⟩, by decide +kernel, by decide⟩
theorem cbX12_feed : CB mX12_feed 1 := ⟨(mt5 122 rfl rfl), (mt1 14 rfl rfl), ⟨by decide, by decide⟩, by decide +kernel, by decide⟩
theorem cbX12_isAt : CB mX12_isAt 2 := ⟨(mt5 137 rfl rfl), (mt1 14 rfl rfl), ⟨by decide, by decide⟩, by decide +kernel, by decide⟩
theorem cbX12_isSign : CB mX12_isSign 1 := ⟨(mt5 144 rfl rfl), (mt1 14 rfl rfl), ⟨by decide, by decide⟩, by decide +kernel, by decide⟩
theorem cbX12_isWord : CB mX12_isWord 1 := ⟨(mt5 141 rfl rfl), (mt1 14 rfl rfl), ⟨by decide, by decide⟩, by decide +kernel, by decide⟩
theorem cbX12_reads : CB mX12_reads 0 := ⟨(mt5 133 rfl rfl), (mt1 14 rfl rfl), ⟨by decide, by decide⟩, by decide +kernel, by decide⟩
theorem cbX12_top : CB mX12_top 0 := ⟨(mt5 160 rfl rfl), (mt1 14 rfl rfl), ⟨by decide, by decide⟩, by decide +kernel, by decide⟩
theorem cbX12_holds : CB mX12_holds 1 := ⟨(mt5 164 rfl rfl), (mt1 14 rfl rfl), ⟨by decide, by decide⟩, by decide +kernel, by decide⟩
theorem cbX12_lets : CB mX12_lets 0 := ⟨(mt5 179 rfl rfl), (mt1 14 rfl rfl), ⟨by decide, by decide⟩, by decide +kernel, by decide⟩
theorem cbX12_letsFrom : CB mX12_letsFrom 1 := ⟨(mt5 172 rfl rfl), (mt1 14 rfl rfl), ⟨by decide, by decide⟩, by decide +kernel, by decide⟩
theorem cbX12_heightOf : CB mX12_heightOf 1 := ⟨(mt5 175 rfl rfl), (mt1 14 rfl rfl), ⟨by decide, by decide⟩, by decide +kernel, by decide⟩
theorem cbX12_mayNot : CB mX12_mayNot 0 := ⟨(mt5 156 rfl rfl), (mt1 14 rfl rfl), ⟨by decide, by decide⟩, by decide +kernel, by decide⟩
theorem cbX12_ahead : CB mX12_ahead 0 := ⟨(mt5 152 rfl rfl), (mt1 14 rfl rfl), ⟨by decide, by decide⟩, by decide +kernel, by decide⟩
theorem cbX12_deedOf : CB mX12_deedOf 1 := ⟨(mt5 182 rfl rfl), (mt1 14 rfl rfl), ⟨by decide, by decide⟩, by decide +kernel, by decide⟩
theorem cbX12_behind : CB mX12_behind 0 := ⟨(mt5 168 rfl rfl), (mt1 14 rfl rfl), ⟨by decide, by decide⟩, by decide +kernel, by decide⟩
theorem cbX12_readsRow : CB mX12_readsRow 0 := ⟨(mt5 148 rfl rfl), (mt1 14 rfl rfl), ⟨by decide, by decide⟩, by decide +kernel, by decide⟩
theorem cbX12_text : CB mX12_text 0 := ⟨(mt5 129 rfl rfl), (mt1 14 rfl rfl), ⟨by decide, by decide⟩, by decide +kernel, by decide⟩
theorem cbX12_force : CB mX12_force 1 := ⟨(mt5 186 rfl rfl), (mt1 14 rfl rfl), ⟨by decide, by decide⟩, by decide +kernel, by decide⟩
theorem cbX12_named : CB mX12_named 3 := ⟨(mt5 238 rfl rfl), (mt1 14 rfl rfl), ⟨by decide, by decide⟩, by decide +kernel, by decide⟩
theorem cbX12_done : CB mX12_done 3 := ⟨(mt6 1 rfl rfl), (mt1 14 rfl rfl), ⟨by decide, by decide⟩, by decide +kernel, by decide⟩
theorem cbX12_says : CB mX12_says 3 := ⟨(mt5 234 rfl rfl), (mt1 14 rfl rfl), ⟨by decide, by decide⟩, by decide +kernel, by decide⟩
theorem cbX12_bounded : CB mX12_bounded 3 := ⟨(mt6 4 rfl rfl), (mt1 14 rfl rfl), ⟨by decide, by decide⟩, by decide +kernel, by decide⟩
theorem cbX12_byOf : CB mX12_byOf 1 := ⟨(mt5 230 rfl rfl), (mt1 14 rfl rfl), ⟨by decide, by decide⟩, by decide +kernel, by decide⟩
theorem cbX12_thickOf : CB mX12_thickOf 1 := ⟨(mt5 226 rfl rfl), (mt1 14 rfl rfl), ⟨by decide, by decide⟩, by decide +kernel, by decide⟩
theorem cbX12_takesOf : CB mX12_takesOf 1 := ⟨(mt5 222 rfl rfl), (mt1 14 rfl rfl), ⟨by decide, by decide⟩, by decide +kernel, by decide⟩
theorem cbX12_tipsOf : CB mX12_tipsOf 2 := ⟨(mt6 43 rfl rfl), (mt1 14 rfl rfl), ⟨by decide, by decide⟩, by decide +kernel, by decide⟩
theorem cbX12_comes : CB mX12_comes 3 := ⟨(mt5 194 rfl rfl), (mt1 14 rfl rfl), ⟨by decide, by decide⟩, by decide +kernel, by decide⟩
theorem cbX12_house : CB mX12_house 3 := ⟨(mt5 190 rfl rfl), (mt1 14 rfl rfl), ⟨by decide, by decide⟩, by decide +kernel, by decide⟩
theorem cbX12_set : CB mX12_set 3 := ⟨(mt5 198 rfl rfl), (mt1 14 rfl rfl), ⟨by decide, by decide⟩, by decide +kernel, by decide⟩
theorem cbX12_bag : CB mX12_bag 2 := ⟨(mt5 206 rfl rfl), (mt1 14 rfl rfl), ⟨by decide, by decide⟩, by decide +kernel, by decide⟩
theorem cbX12_placeInList : CB mX12_placeInList 1 := ⟨(mt5 218 rfl rfl), (mt1 14 rfl rfl), ⟨by decide, by decide⟩, by decide +kernel, by decide⟩
theorem cbX12_told : CB mX12_told 2 := ⟨(mt5 214 rfl rfl), (mt1 14 rfl rfl), ⟨by decide, by decide⟩, by decide +kernel, by decide⟩
theorem cbX12_swap : CB mX12_swap 2 := ⟨(mt6 8 rfl rfl), (mt1 14 rfl rfl), ⟨by decide, by decide⟩, by decide +kernel, by decide⟩
theorem cbX12_isUnder : CB mX12_isUnder 2 := ⟨(mt6 15 rfl rfl), (mt1 14 rfl rfl), ⟨by decide, by decide⟩, by decide +kernel, by decide⟩
theorem cbX12_taken : CB mX12_taken 2 := ⟨(mt6 12 rfl rfl), (mt1 14 rfl rfl), ⟨by decide, by decide⟩, by decide +kernel, by decide⟩
theorem cbX12_takesList : CB mX12_takesList 0 := ⟨(mt6 23 rfl rfl), (mt1 14 rfl rfl), ⟨by decide, by decide⟩, by decide +kernel, by decide⟩
theorem cbX12_far : CB mX12_far 2 := ⟨(mt6 35 rfl rfl), (mt1 14 rfl rfl), ⟨by decide, by decide⟩, by decide +kernel, by decide⟩
theorem cbX12_takesPapers : CB mX12_takesPapers 1 := ⟨(mt6 31 rfl rfl), (mt1 14 rfl rfl), ⟨by decide, by decide⟩, by decide +kernel, by decide⟩
theorem cbX12_walks : CB mX12_walks 0 := ⟨(mt6 27 rfl rfl), (mt1 14 rfl rfl), ⟨by decide, by decide⟩, by decide +kernel, by decide⟩
theorem cbX12_lateOf : CB mX12_lateOf 1 := ⟨(mt6 39 rfl rfl), (mt1 14 rfl rfl), ⟨by decide, by decide⟩, by decide +kernel, by decide⟩
theorem cbX12_at : CB mX12_at 2 := ⟨(mt6 19 rfl rfl), (mt1 14 rfl rfl), ⟨by decide, by decide⟩, by decide +kernel, by decide⟩
theorem cbX12_ringing : CB mX12_ringing 1 := ⟨(mt6 55 rfl rfl), (mt1 14 rfl rfl), ⟨by decide, by decide⟩, by decide +kernel, by decide⟩
theorem cbX12_purse : CB mX12_purse 1 := ⟨(mt6 59 rfl rfl), (mt1 14 rfl rfl), ⟨by decide, by decide⟩, by decide +kernel, by decide⟩
theorem cbX12_lateMany : CB mX12_lateMany 0 := ⟨(mt6 51 rfl rfl), (mt1 14 rfl rfl), ⟨by decide, by decide⟩, by decide +kernel, by decide⟩
theorem cbX12_round : CB mX12_round 1 := ⟨(mt6 47 rfl rfl), (mt1 14 rfl rfl), ⟨by decide, by decide⟩, by decide +kernel, by decide⟩
theorem cbX12_wrongBy : CB mX12_wrongBy 1 := ⟨(mt6 67 rfl rfl), (mt1 14 rfl rfl), ⟨by decide, by decide⟩, by decide +kernel, by decide⟩
theorem cbX12_shifted : CB mX12_shifted 2 := ⟨(mt6 63 rfl rfl), (mt1 14 rfl rfl), ⟨by decide, by decide⟩, by decide +kernel, by decide⟩
theorem cbX12_isRinging : CB mX12_isRinging 2 := ⟨(mt6 78 rfl rfl), (mt1 14 rfl rfl), ⟨by decide, by decide⟩, by decide +kernel, by decide⟩
theorem cbX12_where : CB mX12_where 2 := ⟨(mt6 71 rfl rfl), (mt1 14 rfl rfl), ⟨by decide, by decide⟩, by decide +kernel, by decide⟩
theorem cbX12_changes : CB mX12_changes 2 := ⟨(mt6 94 rfl rfl), (mt1 14 rfl rfl), ⟨by decide, by decide⟩, by decide +kernel, by decide⟩
theorem cbX12_nextOrder : CB mX12_nextOrder 0 := ⟨(mt6 90 rfl rfl), (mt1 14 rfl rfl), ⟨by decide, by decide⟩, by decide +kernel, by decide⟩
theorem cbX12_findBest : CB mX12_findBest 1 := ⟨(mt6 86 rfl rfl), (mt1 14 rfl rfl), ⟨by decide, by decide⟩, by decide +kernel, by decide⟩
theorem cbX12_best : CB mX12_best 2 := ⟨(mt6 82 rfl rfl), (mt1 14 rfl rfl), ⟨by decide, by decide⟩, by decide +kernel, by decide⟩
theorem cbX12_arrange : CB mX12_arrange 1 := ⟨(mt6 98 rfl rfl), (mt1 14 rfl rfl), ⟨by decide, by decide⟩, by decide +kernel, by decide⟩
theorem cbX12_isAhead : CB mX12_isAhead 3 := ⟨(mt6 106 rfl rfl), (mt1 14 rfl rfl), ⟨by decide, by decide⟩, by decide +kernel, by decide⟩
theorem cbX12_ways : CB mX12_ways 1 := ⟨(mt6 102 rfl rfl), (mt1 14 rfl rfl), ⟨by decide, by decide⟩, by decide +kernel, by decide⟩
theorem cbX12_begin : CB mX12_begin 0 := ⟨(mt6 110 rfl rfl), (mt1 14 rfl rfl), ⟨by decide, by decide⟩, by decide +kernel, by decide⟩
theorem cbX12_heap : CB mX12_heap 1 := ⟨(mt6 114 rfl rfl), (mt1 14 rfl rfl), ⟨by decide, by decide⟩, by decide +kernel, by decide⟩
theorem cbX12_endsPart : CB mX12_endsPart 2 := ⟨(mt6 122 rfl rfl), (mt1 14 rfl rfl), ⟨by decide, by decide⟩, by decide +kernel, by decide⟩
theorem cbX12_split : CB mX12_split 1 := ⟨(mt6 118 rfl rfl), (mt1 14 rfl rfl), ⟨by decide, by decide⟩, by decide +kernel, by decide⟩
theorem cbX12_endsWithout : CB mX12_endsWithout 1 := ⟨(mt6 130 rfl rfl), (mt1 14 rfl rfl), ⟨by decide, by decide⟩, by decide +kernel, by decide⟩
theorem cbX12_drop : CB mX12_drop 1 := ⟨(mt6 126 rfl rfl), (mt1 14 rfl rfl), ⟨by decide, by decide⟩, by decide +kernel, by decide⟩
theorem cbX12_away : CB mX12_away 2 := ⟨(mt6 134 rfl rfl), (mt1 14 rfl rfl), ⟨by decide, by decide⟩, by decide +kernel, by decide⟩
theorem cbX12_judge : CB mX12_judge 1 := ⟨(mt6 138 rfl rfl), (mt1 14 rfl rfl), ⟨by decide, by decide⟩, by decide +kernel, by decide⟩
theorem cbX12_rightBy : CB mX12_rightBy 2 := ⟨(mt6 146 rfl rfl), (mt1 14 rfl rfl), ⟨by decide, by decide⟩, by decide +kernel, by decide⟩
theorem cbX12_thrownBy : CB mX12_thrownBy 2 := ⟨(mt6 142 rfl rfl), (mt1 14 rfl rfl), ⟨by decide, by decide⟩, by decide +kernel, by decide⟩
theorem cbX12_divisor : CB mX12_divisor 2 := ⟨(mt6 155 rfl rfl), (mt1 14 rfl rfl), ⟨by decide, by decide⟩, by decide +kernel, by decide⟩
theorem cbX12_chance : CB mX12_chance 4 := ⟨(mt6 151 rfl rfl), (mt1 14 rfl rfl), ⟨by decide, by decide⟩, by decide +kernel, by decide⟩
theorem cbX12_passes : CB mX12_passes 1 := ⟨(mt6 167 rfl rfl), (mt1 14 rfl rfl), ⟨by decide, by decide⟩, by decide +kernel, by decide⟩
theorem cbX12_passOne : CB mX12_passOne 1 := ⟨(mt6 171 rfl rfl), (mt1 14 rfl rfl), ⟨by decide, by decide⟩, by decide +kernel, by decide⟩
theorem cbX12_passesAll : CB mX12_passesAll 1 := ⟨(mt6 163 rfl rfl), (mt1 14 rfl rfl), ⟨by decide, by decide⟩, by decide +kernel, by decide⟩
theorem cbX12_image : CB mX12_image 0 := ⟨(mt6 159 rfl rfl), (mt1 14 rfl rfl), ⟨by decide, by decide⟩, by decide +kernel, by decide⟩
theorem cbX12_back : CB mX12_back 0 := ⟨(mt6 175 rfl rfl), (mt1 14 rfl rfl), ⟨by decide, by decide⟩, by decide +kernel, by decide⟩
theorem cbX12_count : CB mX12_count 1 := ⟨(mt6 179 rfl rfl), (mt1 14 rfl rfl), ⟨by decide, by decide⟩, by decide +kernel, by decide⟩
theorem cbX12_isSheet : CB mX12_isSheet 1 := ⟨(mt6 74 rfl rfl), (mt1 14 rfl rfl), ⟨by decide, by decide⟩, by decide +kernel, by decide⟩
theorem cbX12_sheet : CB mX12_sheet 3 := ⟨(mt6 183 rfl rfl), (mt1 14 rfl rfl), ⟨by decide, by decide⟩, by decide +kernel, by decide⟩
theorem cbX12_cell : CB mX12_cell 3 := ⟨(mt6 187 rfl rfl), (mt1 14 rfl rfl), ⟨by decide, by decide⟩, by decide +kernel, by decide⟩
theorem cbX12_hasCells : CB mX12_hasCells 3 := ⟨(mt6 195 rfl rfl), (mt1 14 rfl rfl), ⟨by decide, by decide⟩, by decide +kernel, by decide⟩
theorem cbX12_copy : CB mX12_copy 5 := ⟨(mt6 191 rfl rfl), (mt1 14 rfl rfl), ⟨by decide, by decide⟩, by decide +kernel, by decide⟩
theorem cbX12_houses : CB mX12_houses 4 := ⟨(mt6 199 rfl rfl), (mt1 14 rfl rfl), ⟨by decide, by decide⟩, by decide +kernel, by decide⟩
theorem cbJ9_abs_0f7a4 : CB mJ9_abs_0f7a4 1 := ⟨(mt3 217 rfl rfl), (mt1 12 rfl rfl), ⟨by decide, by decide⟩, by decide +kernel, by decide⟩
theorem cbJ9_max_7cf53 : CB mJ9_max_7cf53 2 := ⟨(mt3 169 rfl rfl), (mt1 12 rfl rfl), ⟨by decide, by decide⟩, by decide +kernel, by decide⟩
theorem cbJ9_min_7cf53 : CB mJ9_min_7cf53 2 := ⟨(mt2 87 rfl rfl), (mt1 12 rfl rfl), ⟨by decide, by decide⟩, by decide +kernel, by decide⟩
theorem cbJ0_length_8abf5 : CB mJ0_length_8abf5 0 := ⟨(mt1 178 rfl rfl), (mt1 6 rfl rfl), ⟨by decide, by decide⟩, by decide +kernel, by decide⟩
theorem cbJ0_charAt_5068e : CB mJ0_charAt_5068e 1 := ⟨(mt1 188 rfl rfl), (mt1 6 rfl rfl), ⟨by decide, by decide⟩, by decide +kernel, by decide⟩
theorem cbJ0_coder_7d493 : CB mJ0_coder_7d493 0 := ⟨(mt1 182 rfl rfl), (mt1 6 rfl rfl), ⟨by decide, by decide⟩, by decide +kernel, by decide⟩
theorem cbJ0_isLatin1_aae02 : CB mJ0_isLatin1_aae02 0 := ⟨(mt1 192 rfl rfl), (mt1 6 rfl rfl), ⟨by decide, by decide⟩, by decide +kernel, by decide⟩
theorem cbJ0_checkIndex_df160 : CB mJ0_checkIndex_df160 2 := ⟨(mt1 198 rfl rfl), (mt1 6 rfl rfl), ⟨by decide, by decide⟩, by decide +kernel, by decide⟩
theorem cbJ1_charAt_3b067 : CB mJ1_charAt_3b067 2 := ⟨(mt1 195 rfl rfl), (mt1 7 rfl rfl), ⟨by decide, by decide⟩, by decide +kernel, by decide⟩
theorem cbJ2_getChar_3b067 : CB mJ2_getChar_3b067 2 := ⟨(mt1 216 rfl rfl), (mt1 9 rfl rfl), ⟨by decide, by decide⟩, by decide +kernel, by decide⟩
theorem cbJ2_length_9d52b : CB mJ2_length_9d52b 1 := ⟨(mt1 212 rfl rfl), (mt1 9 rfl rfl), ⟨by decide, by decide⟩, by decide +kernel, by decide⟩
theorem cbJ2_charAt_3b067 : CB mJ2_charAt_3b067 2 := ⟨(mt1 206 rfl rfl), (mt1 9 rfl rfl), ⟨by decide, by decide⟩, by decide +kernel, by decide⟩
theorem cbJ2_checkIndex_2214a : CB mJ2_checkIndex_2214a 2 := ⟨(mt1 209 rfl rfl), (mt1 9 rfl rfl), ⟨by decide, by decide⟩, by decide +kernel, by decide⟩
theorem cbJ7_fill_53178 : CB mJ7_fill_53178 2 := ⟨(mt4 205 rfl rfl), (mt1 11 rfl rfl), ⟨by decide, by decide⟩, by decide +kernel, by decide⟩
theorem cbJ7_copyOf_59c91 : CB mJ7_copyOf_59c91 2 := ⟨(mt2 82 rfl rfl), (mt1 11 rfl rfl), ⟨by decide, by decide⟩, by decide +kernel, by decide⟩
theorem cbJ3_checkIndex_8e157 : CB mJ3_checkIndex_8e157 3 := ⟨(mt1 203 rfl rfl), (mt1 8 rfl rfl), ⟨by decide, by decide⟩, by decide +kernel, by decide⟩
theorem uwX0 : ∀ w ∈ u_ws RX0 TX0 5, w ∈ GT := by
  intro w hw
  obtain ⟨k, hk, rfl⟩ := List.mem_map.mp hw
  have hk := List.mem_range.mp hk
  match k, hk with
  | 0, _ => exact mt3 17 rfl rfl
  | 1, _ => exact mt3 18 rfl rfl
  | 2, _ => exact mt3 19 rfl rfl
  | 3, _ => exact mt3 20 rfl rfl
  | 4, _ => exact mt3 21 rfl rfl
  | n + 5, h => exact absurd h (by omega)
theorem uwX1 : ∀ w ∈ u_ws RX1 TX1 5, w ∈ GT := by
  intro w hw
  obtain ⟨k, hk, rfl⟩ := List.mem_map.mp hw
  have hk := List.mem_range.mp hk
  match k, hk with
  | 0, _ => exact mt2 233 rfl rfl
  | 1, _ => exact mt2 234 rfl rfl
  | 2, _ => exact mt2 235 rfl rfl
  | 3, _ => exact mt2 236 rfl rfl
  | 4, _ => exact mt2 237 rfl rfl
  | n + 5, h => exact absurd h (by omega)
theorem uwX2 : ∀ w ∈ u_ws RX2 TX2 5, w ∈ GT := by
  intro w hw
  obtain ⟨k, hk, rfl⟩ := List.mem_map.mp hw
  have hk := List.mem_range.mp hk
  match k, hk with
  | 0, _ => exact mt3 37 rfl rfl
  | 1, _ => exact mt3 38 rfl rfl
  | 2, _ => exact mt3 39 rfl rfl
  | 3, _ => exact mt3 40 rfl rfl
  | 4, _ => exact mt3 41 rfl rfl
  | n + 5, h => exact absurd h (by omega)
theorem uwX3 : ∀ w ∈ u_ws RX3 TX3 5, w ∈ GT := by
  intro w hw
  obtain ⟨k, hk, rfl⟩ := List.mem_map.mp hw
  have hk := List.mem_range.mp hk
  match k, hk with
  | 0, _ => exact mt2 216 rfl rfl
  | 1, _ => exact mt2 218 rfl rfl
  | 2, _ => exact mt2 220 rfl rfl
  | 3, _ => exact mt2 222 rfl rfl
  | 4, _ => exact mt2 224 rfl rfl
  | n + 5, h => exact absurd h (by omega)
theorem uwX4 : ∀ w ∈ u_ws RX4 TX4 8, w ∈ GT := by
  intro w hw
  obtain ⟨k, hk, rfl⟩ := List.mem_map.mp hw
  have hk := List.mem_range.mp hk
  match k, hk with
  | 0, _ => exact mt1 56 rfl rfl
  | 1, _ => exact mt1 58 rfl rfl
  | 2, _ => exact mt1 60 rfl rfl
  | 3, _ => exact mt1 62 rfl rfl
  | 4, _ => exact mt1 64 rfl rfl
  | 5, _ => exact mt1 66 rfl rfl
  | 6, _ => exact mt1 68 rfl rfl
  | 7, _ => exact mt1 70 rfl rfl
  | n + 8, h => exact absurd h (by omega)
theorem uwX5 : ∀ w ∈ u_ws RX5 TX5 4, w ∈ GT := by
  intro w hw
  obtain ⟨k, hk, rfl⟩ := List.mem_map.mp hw
  have hk := List.mem_range.mp hk
  match k, hk with
  | 0, _ => exact mt2 99 rfl rfl
  | 1, _ => exact mt2 101 rfl rfl
  | 2, _ => exact mt2 103 rfl rfl
  | 3, _ => exact mt2 105 rfl rfl
  | n + 4, h => exact absurd h (by omega)
theorem uwX6 : ∀ w ∈ u_ws RX6 TX6 12, w ∈ GT := by
  intro w hw
  obtain ⟨k, hk, rfl⟩ := List.mem_map.mp hw
  have hk := List.mem_range.mp hk
  match k, hk with
  | 0, _ => exact mt1 131 rfl rfl
  | 1, _ => exact mt1 133 rfl rfl
  | 2, _ => exact mt1 135 rfl rfl
  | 3, _ => exact mt1 137 rfl rfl
  | 4, _ => exact mt1 139 rfl rfl
  | 5, _ => exact mt1 141 rfl rfl
  | 6, _ => exact mt1 143 rfl rfl
  | 7, _ => exact mt1 145 rfl rfl
  | 8, _ => exact mt1 147 rfl rfl
  | 9, _ => exact mt1 149 rfl rfl
  | 10, _ => exact mt1 151 rfl rfl
  | 11, _ => exact mt1 153 rfl rfl
  | n + 12, h => exact absurd h (by omega)
theorem uwX7 : ∀ w ∈ u_ws RX7 TX7 3, w ∈ GT := by
  intro w hw
  obtain ⟨k, hk, rfl⟩ := List.mem_map.mp hw
  have hk := List.mem_range.mp hk
  match k, hk with
  | 0, _ => exact mt1 167 rfl rfl
  | 1, _ => exact mt1 169 rfl rfl
  | 2, _ => exact mt1 171 rfl rfl
  | n + 3, h => exact absurd h (by omega)
theorem uwX8 : ∀ w ∈ u_ws RX8 TX8 5, w ∈ GT := by
  intro w hw
  obtain ⟨k, hk, rfl⟩ := List.mem_map.mp hw
  have hk := List.mem_range.mp hk
  match k, hk with
  | 0, _ => exact mt3 29 rfl rfl
  | 1, _ => exact mt3 30 rfl rfl
  | 2, _ => exact mt3 31 rfl rfl
  | 3, _ => exact mt3 32 rfl rfl
  | 4, _ => exact mt3 33 rfl rfl
  | n + 5, h => exact absurd h (by omega)
theorem uwX9 : ∀ w ∈ u_ws RX9 TX9 5, w ∈ GT := by
  intro w hw
  obtain ⟨k, hk, rfl⟩ := List.mem_map.mp hw
  have hk := List.mem_range.mp hk
  match k, hk with
  | 0, _ => exact mt3 5 rfl rfl
  | 1, _ => exact mt3 6 rfl rfl
  | 2, _ => exact mt3 7 rfl rfl
  | 3, _ => exact mt3 8 rfl rfl
  | 4, _ => exact mt3 9 rfl rfl
  | n + 5, h => exact absurd h (by omega)
theorem uwX10 : ∀ w ∈ u_ws RX10 TX10 6, w ∈ GT := by
  intro w hw
  obtain ⟨k, hk, rfl⟩ := List.mem_map.mp hw
  have hk := List.mem_range.mp hk
  match k, hk with
  | 0, _ => exact mt1 93 rfl rfl
  | 1, _ => exact mt1 95 rfl rfl
  | 2, _ => exact mt1 97 rfl rfl
  | 3, _ => exact mt1 99 rfl rfl
  | 4, _ => exact mt1 101 rfl rfl
  | 5, _ => exact mt1 103 rfl rfl
  | n + 6, h => exact absurd h (by omega)
theorem uwX11 : ∀ w ∈ u_ws RX11 TX11 19, w ∈ GT := by
  intro w hw
  obtain ⟨k, hk, rfl⟩ := List.mem_map.mp hw
  have hk := List.mem_range.mp hk
  match k, hk with
  | 0, _ => exact mt2 132 rfl rfl
  | 1, _ => exact mt2 134 rfl rfl
  | 2, _ => exact mt2 136 rfl rfl
  | 3, _ => exact mt2 138 rfl rfl
  | 4, _ => exact mt2 140 rfl rfl
  | 5, _ => exact mt2 142 rfl rfl
  | 6, _ => exact mt2 144 rfl rfl
  | 7, _ => exact mt2 146 rfl rfl
  | 8, _ => exact mt2 148 rfl rfl
  | 9, _ => exact mt2 150 rfl rfl
  | 10, _ => exact mt2 152 rfl rfl
  | 11, _ => exact mt2 154 rfl rfl
  | 12, _ => exact mt2 156 rfl rfl
  | 13, _ => exact mt2 158 rfl rfl
  | 14, _ => exact mt2 160 rfl rfl
  | 15, _ => exact mt2 162 rfl rfl
  | 16, _ => exact mt2 164 rfl rfl
  | 17, _ => exact mt2 166 rfl rfl
  | 18, _ => exact mt2 168 rfl rfl
  | n + 19, h => exact absurd h (by omega)
theorem uwX12 : ∀ w ∈ u_ws RX12 TX12 37, w ∈ GT := by
  intro w hw
  obtain ⟨k, hk, rfl⟩ := List.mem_map.mp hw
  have hk := List.mem_range.mp hk
  match k, hk with
  | 0, _ => exact mt5 44 rfl rfl
  | 1, _ => exact mt5 46 rfl rfl
  | 2, _ => exact mt5 48 rfl rfl
  | 3, _ => exact mt5 50 rfl rfl
  | 4, _ => exact mt5 52 rfl rfl
  | 5, _ => exact mt5 54 rfl rfl
  | 6, _ => exact mt5 56 rfl rfl
  | 7, _ => exact mt5 58 rfl rfl
  | 8, _ => exact mt5 60 rfl rfl
  | 9, _ => exact mt5 62 rfl rfl
  | 10, _ => exact mt5 64 rfl rfl
  | 11, _ => exact mt5 66 rfl rfl
  | 12, _ => exact mt5 68 rfl rfl
  | 13, _ => exact mt5 70 rfl rfl
  | 14, _ => exact mt5 72 rfl rfl
  | 15, _ => exact mt5 74 rfl rfl
  | 16, _ => exact mt5 76 rfl rfl
  | 17, _ => exact mt5 78 rfl rfl
  | 18, _ => exact mt5 80 rfl rfl
  | 19, _ => exact mt5 82 rfl rfl
  | 20, _ => exact mt5 84 rfl rfl
  | 21, _ => exact mt5 86 rfl rfl
  | 22, _ => exact mt5 88 rfl rfl
  | 23, _ => exact mt5 90 rfl rfl
  | 24, _ => exact mt5 92 rfl rfl
  | 25, _ => exact mt5 94 rfl rfl
  | 26, _ => exact mt5 96 rfl rfl
  | 27, _ => exact mt5 98 rfl rfl
  | 28, _ => exact mt5 100 rfl rfl
  | 29, _ => exact mt5 102 rfl rfl
  | 30, _ => exact mt5 104 rfl rfl
  | 31, _ => exact mt5 106 rfl rfl
  | 32, _ => exact mt5 108 rfl rfl
  | 33, _ => exact mt5 110 rfl rfl
  | 34, _ => exact mt5 112 rfl rfl
  | 35, _ => exact mt5 114 rfl rfl
  | 36, _ => exact mt5 116 rfl rfl
  | n + 37, h => exact absurd h (by omega)
theorem flX4_9_4 : FL RX4 9 4 0 := ⟨_, _, _, _, rfl, by decide, uwX4, (mt1 46 rfl rfl), Or.inl rfl⟩
theorem fpX4_9_4 : FP RX4 9 4 0 .int false := ⟨_, _, _, _, tyX4, rfl, by decide, uwX4, (mt1 46 rfl rfl), Or.inl rfl, tyX4_ok, nmX4, by decide +kernel, rfl, fun h => by cases h⟩
theorem flX11_176_4 : FL RX11 176 4 0 := ⟨_, _, _, _, rfl, by decide, uwX4, (mt1 47 rfl rfl), Or.inl rfl⟩
theorem fpX11_176_4 : FP RX11 176 4 0 .int false := ⟨_, _, _, _, tyX4, rfl, by decide, uwX4, (mt1 47 rfl rfl), Or.inl rfl, tyX4_ok, nmX4, by decide +kernel, rfl, fun h => by cases h⟩
theorem flX4_15_4 : FL RX4 15 4 1 := ⟨_, _, _, _, rfl, by decide, uwX4, (mt1 48 rfl rfl), Or.inl rfl⟩
theorem fpX4_15_4 : FP RX4 15 4 1 .int false := ⟨_, _, _, _, tyX4, rfl, by decide, uwX4, (mt1 48 rfl rfl), Or.inl rfl, tyX4_ok, nmX4, by decide +kernel, rfl, fun h => by cases h⟩
theorem flX11_179_4 : FL RX11 179 4 1 := ⟨_, _, _, _, rfl, by decide, uwX4, (mt1 49 rfl rfl), Or.inl rfl⟩
theorem fpX11_179_4 : FP RX11 179 4 1 .int false := ⟨_, _, _, _, tyX4, rfl, by decide, uwX4, (mt1 49 rfl rfl), Or.inl rfl, tyX4_ok, nmX4, by decide +kernel, rfl, fun h => by cases h⟩
theorem flX4_18_4 : FL RX4 18 4 2 := ⟨_, _, _, _, rfl, by decide, uwX4, (mt1 50 rfl rfl), Or.inl rfl⟩
theorem fpX4_18_4 : FP RX4 18 4 2 (.array .int) true := ⟨_, _, _, _, tyX4, rfl, by decide, uwX4, (mt1 50 rfl rfl), Or.inl rfl, tyX4_ok, nmX4, by decide +kernel, rfl, fun _ => rfl⟩
theorem flX4_22_4 : FL RX4 22 4 3 := ⟨_, _, _, _, rfl, by decide, uwX4, (mt1 51 rfl rfl), Or.inl rfl⟩
theorem fpX4_22_4 : FP RX4 22 4 3 (.array .int) true := ⟨_, _, _, _, tyX4, rfl, by decide, uwX4, (mt1 51 rfl rfl), Or.inl rfl, tyX4_ok, nmX4, by decide +kernel, rfl, fun _ => rfl⟩
theorem flX4_25_4 : FL RX4 25 4 4 := ⟨_, _, _, _, rfl, by decide, uwX4, (mt1 52 rfl rfl), Or.inl rfl⟩
theorem fpX4_25_4 : FP RX4 25 4 4 .int false := ⟨_, _, _, _, tyX4, rfl, by decide, uwX4, (mt1 52 rfl rfl), Or.inl rfl, tyX4_ok, nmX4, by decide +kernel, rfl, fun h => by cases h⟩
theorem flX4_28_4 : FL RX4 28 4 5 := ⟨_, _, _, _, rfl, by decide, uwX4, (mt1 53 rfl rfl), Or.inl rfl⟩
theorem fpX4_28_4 : FP RX4 28 4 5 .int false := ⟨_, _, _, _, tyX4, rfl, by decide, uwX4, (mt1 53 rfl rfl), Or.inl rfl, tyX4_ok, nmX4, by decide +kernel, rfl, fun h => by cases h⟩
theorem flX4_31_4 : FL RX4 31 4 6 := ⟨_, _, _, _, rfl, by decide, uwX4, (mt1 54 rfl rfl), Or.inl rfl⟩
theorem fpX4_31_4 : FP RX4 31 4 6 .int false := ⟨_, _, _, _, tyX4, rfl, by decide, uwX4, (mt1 54 rfl rfl), Or.inl rfl, tyX4_ok, nmX4, by decide +kernel, rfl, fun h => by cases h⟩
theorem flX4_34_4 : FL RX4 34 4 7 := ⟨_, _, _, _, rfl, by decide, uwX4, (mt1 55 rfl rfl), Or.inl rfl⟩
theorem fpX4_34_4 : FP RX4 34 4 7 .int false := ⟨_, _, _, _, tyX4, rfl, by decide, uwX4, (mt1 55 rfl rfl), Or.inl rfl, tyX4_ok, nmX4, by decide +kernel, rfl, fun h => by cases h⟩
theorem flX10_9_10 : FL RX10 9 10 0 := ⟨_, _, _, _, rfl, by decide, uwX10, (mt1 84 rfl rfl), Or.inl rfl⟩
theorem fpX10_9_10 : FP RX10 9 10 0 .int false := ⟨_, _, _, _, tyX10, rfl, by decide, uwX10, (mt1 84 rfl rfl), Or.inl rfl, tyX10_ok, nmX10, by decide +kernel, rfl, fun h => by cases h⟩
theorem flX6_93_10 : FL RX6 93 10 0 := ⟨_, _, _, _, rfl, by decide, uwX10, (mt1 85 rfl rfl), Or.inl rfl⟩
theorem fpX6_93_10 : FP RX6 93 10 0 .int false := ⟨_, _, _, _, tyX10, rfl, by decide, uwX10, (mt1 85 rfl rfl), Or.inl rfl, tyX10_ok, nmX10, by decide +kernel, rfl, fun h => by cases h⟩
theorem flX11_331_10 : FL RX11 331 10 0 := ⟨_, _, _, _, rfl, by decide, uwX10, (mt1 86 rfl rfl), Or.inl rfl⟩
theorem fpX11_331_10 : FP RX11 331 10 0 .int false := ⟨_, _, _, _, tyX10, rfl, by decide, uwX10, (mt1 86 rfl rfl), Or.inl rfl, tyX10_ok, nmX10, by decide +kernel, rfl, fun h => by cases h⟩
theorem flX10_15_10 : FL RX10 15 10 1 := ⟨_, _, _, _, rfl, by decide, uwX10, (mt1 87 rfl rfl), Or.inl rfl⟩
theorem fpX10_15_10 : FP RX10 15 10 1 .int false := ⟨_, _, _, _, tyX10, rfl, by decide, uwX10, (mt1 87 rfl rfl), Or.inl rfl, tyX10_ok, nmX10, by decide +kernel, rfl, fun h => by cases h⟩
theorem flX11_192_10 : FL RX11 192 10 1 := ⟨_, _, _, _, rfl, by decide, uwX10, (mt1 88 rfl rfl), Or.inl rfl⟩
theorem fpX11_192_10 : FP RX11 192 10 1 .int false := ⟨_, _, _, _, tyX10, rfl, by decide, uwX10, (mt1 88 rfl rfl), Or.inl rfl, tyX10_ok, nmX10, by decide +kernel, rfl, fun h => by cases h⟩
theorem flX10_18_10 : FL RX10 18 10 2 := ⟨_, _, _, _, rfl, by decide, uwX10, (mt1 89 rfl rfl), Or.inl rfl⟩
theorem fpX10_18_10 : FP RX10 18 10 2 .int false := ⟨_, _, _, _, tyX10, rfl, by decide, uwX10, (mt1 89 rfl rfl), Or.inl rfl, tyX10_ok, nmX10, by decide +kernel, rfl, fun h => by cases h⟩
theorem flX10_21_10 : FL RX10 21 10 3 := ⟨_, _, _, _, rfl, by decide, uwX10, (mt1 90 rfl rfl), Or.inl rfl⟩
theorem fpX10_21_10 : FP RX10 21 10 3 .int false := ⟨_, _, _, _, tyX10, rfl, by decide, uwX10, (mt1 90 rfl rfl), Or.inl rfl, tyX10_ok, nmX10, by decide +kernel, rfl, fun h => by cases h⟩
theorem flX10_24_10 : FL RX10 24 10 4 := ⟨_, _, _, _, rfl, by decide, uwX10, (mt1 91 rfl rfl), Or.inl rfl⟩
theorem fpX10_24_10 : FP RX10 24 10 4 .int false := ⟨_, _, _, _, tyX10, rfl, by decide, uwX10, (mt1 91 rfl rfl), Or.inl rfl, tyX10_ok, nmX10, by decide +kernel, rfl, fun h => by cases h⟩
theorem flX10_27_10 : FL RX10 27 10 5 := ⟨_, _, _, _, rfl, by decide, uwX10, (mt1 92 rfl rfl), Or.inl rfl⟩
theorem fpX10_27_10 : FP RX10 27 10 5 .boolean false := ⟨_, _, _, _, tyX10, rfl, by decide, uwX10, (mt1 92 rfl rfl), Or.inl rfl, tyX10_ok, nmX10, by decide +kernel, rfl, fun h => by cases h⟩
theorem flX6_9_6 : FL RX6 9 6 0 := ⟨_, _, _, _, rfl, by decide, uwX6, (mt1 116 rfl rfl), Or.inl rfl⟩
theorem fpX6_9_6 : FP RX6 9 6 0 (.array .int) true := ⟨_, _, _, _, tyX6, rfl, by decide, uwX6, (mt1 116 rfl rfl), Or.inl rfl, tyX6_ok, nmX6, by decide +kernel, rfl, fun _ => rfl⟩
theorem flX11_225_6 : FL RX11 225 6 0 := ⟨_, _, _, _, rfl, by decide, uwX6, (mt1 117 rfl rfl), Or.inl rfl⟩
theorem flX6_15_6 : FL RX6 15 6 1 := ⟨_, _, _, _, rfl, by decide, uwX6, (mt1 118 rfl rfl), Or.inl rfl⟩
theorem fpX6_15_6 : FP RX6 15 6 1 .int false := ⟨_, _, _, _, tyX6, rfl, by decide, uwX6, (mt1 118 rfl rfl), Or.inl rfl, tyX6_ok, nmX6, by decide +kernel, rfl, fun h => by cases h⟩
theorem flX11_222_6 : FL RX11 222 6 1 := ⟨_, _, _, _, rfl, by decide, uwX6, (mt1 119 rfl rfl), Or.inl rfl⟩
theorem fpX11_222_6 : FP RX11 222 6 1 .int false := ⟨_, _, _, _, tyX6, rfl, by decide, uwX6, (mt1 119 rfl rfl), Or.inl rfl, tyX6_ok, nmX6, by decide +kernel, rfl, fun h => by cases h⟩
theorem flX6_19_6 : FL RX6 19 6 2 := ⟨_, _, _, _, rfl, by decide, uwX6, (mt1 120 rfl rfl), Or.inl rfl⟩
theorem fpX6_19_6 : FP RX6 19 6 2 .boolean false := ⟨_, _, _, _, tyX6, rfl, by decide, uwX6, (mt1 120 rfl rfl), Or.inl rfl, tyX6_ok, nmX6, by decide +kernel, rfl, fun h => by cases h⟩
theorem flX11_317_6 : FL RX11 317 6 2 := ⟨_, _, _, _, rfl, by decide, uwX6, (mt1 121 rfl rfl), Or.inl rfl⟩
theorem fpX11_317_6 : FP RX11 317 6 2 .boolean false := ⟨_, _, _, _, tyX6, rfl, by decide, uwX6, (mt1 121 rfl rfl), Or.inl rfl, tyX6_ok, nmX6, by decide +kernel, rfl, fun h => by cases h⟩
theorem flX6_47_6 : FL RX6 47 6 3 := ⟨_, _, _, _, rfl, by decide, uwX6, (mt1 122 rfl rfl), Or.inl rfl⟩
theorem fpX6_47_6 : FP RX6 47 6 3 .int true := ⟨_, _, _, _, tyX6, rfl, by decide, uwX6, (mt1 122 rfl rfl), Or.inl rfl, tyX6_ok, nmX6, by decide +kernel, rfl, fun _ => rfl⟩
theorem flX6_25_6 : FL RX6 25 6 4 := ⟨_, _, _, _, rfl, by decide, uwX6, (mt1 123 rfl rfl), Or.inl rfl⟩
theorem fpX6_25_6 : FP RX6 25 6 4 (.array (.object "PapersEarly$Walk")) true := ⟨_, _, _, _, tyX6, rfl, by decide, uwX6, (mt1 123 rfl rfl), Or.inl rfl, tyX6_ok, nmX6, by decide +kernel, rfl, fun _ => rfl⟩
theorem flX6_29_6 : FL RX6 29 6 5 := ⟨_, _, _, _, rfl, by decide, uwX6, (mt1 124 rfl rfl), Or.inl rfl⟩
theorem fpX6_29_6 : FP RX6 29 6 5 (.array .int) true := ⟨_, _, _, _, tyX6, rfl, by decide, uwX6, (mt1 124 rfl rfl), Or.inl rfl, tyX6_ok, nmX6, by decide +kernel, rfl, fun _ => rfl⟩
theorem flX6_32_6 : FL RX6 32 6 6 := ⟨_, _, _, _, rfl, by decide, uwX6, (mt1 125 rfl rfl), Or.inl rfl⟩
theorem fpX6_32_6 : FP RX6 32 6 6 (.array .int) true := ⟨_, _, _, _, tyX6, rfl, by decide, uwX6, (mt1 125 rfl rfl), Or.inl rfl, tyX6_ok, nmX6, by decide +kernel, rfl, fun _ => rfl⟩
theorem flX6_51_6 : FL RX6 51 6 7 := ⟨_, _, _, _, rfl, by decide, uwX6, (mt1 126 rfl rfl), Or.inl rfl⟩
theorem fpX6_51_6 : FP RX6 51 6 7 (.array .int) true := ⟨_, _, _, _, tyX6, rfl, by decide, uwX6, (mt1 126 rfl rfl), Or.inl rfl, tyX6_ok, nmX6, by decide +kernel, rfl, fun _ => rfl⟩
theorem flX6_54_6 : FL RX6 54 6 8 := ⟨_, _, _, _, rfl, by decide, uwX6, (mt1 127 rfl rfl), Or.inl rfl⟩
theorem fpX6_54_6 : FP RX6 54 6 8 (.array .int) true := ⟨_, _, _, _, tyX6, rfl, by decide, uwX6, (mt1 127 rfl rfl), Or.inl rfl, tyX6_ok, nmX6, by decide +kernel, rfl, fun _ => rfl⟩
theorem flX6_37_6 : FL RX6 37 6 9 := ⟨_, _, _, _, rfl, by decide, uwX6, (mt1 128 rfl rfl), Or.inl rfl⟩
theorem fpX6_37_6 : FP RX6 37 6 9 (.array (.object "PapersEarly$Door")) false := ⟨_, _, _, _, tyX6, rfl, by decide, uwX6, (mt1 128 rfl rfl), Or.inl rfl, tyX6_ok, nmX6, by decide +kernel, rfl, fun h => by cases h⟩
theorem flX6_41_6 : FL RX6 41 6 10 := ⟨_, _, _, _, rfl, by decide, uwX6, (mt1 129 rfl rfl), Or.inl rfl⟩
theorem fpX6_41_6 : FP RX6 41 6 10 .int false := ⟨_, _, _, _, tyX6, rfl, by decide, uwX6, (mt1 129 rfl rfl), Or.inl rfl, tyX6_ok, nmX6, by decide +kernel, rfl, fun h => by cases h⟩
theorem flX6_44_6 : FL RX6 44 6 11 := ⟨_, _, _, _, rfl, by decide, uwX6, (mt1 130 rfl rfl), Or.inl rfl⟩
theorem fpX6_44_6 : FP RX6 44 6 11 (.array .int) false := ⟨_, _, _, _, tyX6, rfl, by decide, uwX6, (mt1 130 rfl rfl), Or.inl rfl, tyX6_ok, nmX6, by decide +kernel, rfl, fun h => by cases h⟩
theorem flX7_11_7 : FL RX7 11 7 0 := ⟨_, _, _, _, rfl, by decide, uwX7, (mt1 161 rfl rfl), Or.inl rfl⟩
theorem fpX7_11_7 : FP RX7 11 7 0 .int false := ⟨_, _, _, _, tyX7, rfl, by decide, uwX7, (mt1 161 rfl rfl), Or.inl rfl, tyX7_ok, nmX7, by decide +kernel, rfl, fun h => by cases h⟩
theorem flX11_283_7 : FL RX11 283 7 0 := ⟨_, _, _, _, rfl, by decide, uwX7, (mt1 162 rfl rfl), Or.inl rfl⟩
theorem fpX11_283_7 : FP RX11 283 7 0 .int false := ⟨_, _, _, _, tyX7, rfl, by decide, uwX7, (mt1 162 rfl rfl), Or.inl rfl, tyX7_ok, nmX7, by decide +kernel, rfl, fun h => by cases h⟩
theorem flX7_15_7 : FL RX7 15 7 1 := ⟨_, _, _, _, rfl, by decide, uwX7, (mt1 163 rfl rfl), Or.inl rfl⟩
theorem fpX7_15_7 : FP RX7 15 7 1 .int false := ⟨_, _, _, _, tyX7, rfl, by decide, uwX7, (mt1 163 rfl rfl), Or.inl rfl, tyX7_ok, nmX7, by decide +kernel, rfl, fun h => by cases h⟩
theorem flX11_349_7 : FL RX11 349 7 1 := ⟨_, _, _, _, rfl, by decide, uwX7, (mt1 164 rfl rfl), Or.inl rfl⟩
theorem fpX11_349_7 : FP RX11 349 7 1 .int false := ⟨_, _, _, _, tyX7, rfl, by decide, uwX7, (mt1 164 rfl rfl), Or.inl rfl, tyX7_ok, nmX7, by decide +kernel, rfl, fun h => by cases h⟩
theorem flX7_18_7 : FL RX7 18 7 2 := ⟨_, _, _, _, rfl, by decide, uwX7, (mt1 165 rfl rfl), Or.inl rfl⟩
theorem fpX7_18_7 : FP RX7 18 7 2 (.array .int) true := ⟨_, _, _, _, tyX7, rfl, by decide, uwX7, (mt1 165 rfl rfl), Or.inl rfl, tyX7_ok, nmX7, by decide +kernel, rfl, fun _ => rfl⟩
theorem flX11_284_7 : FL RX11 284 7 2 := ⟨_, _, _, _, rfl, by decide, uwX7, (mt1 166 rfl rfl), Or.inl rfl⟩
theorem flX5_15_5 : FL RX5 15 5 0 := ⟨_, _, _, _, rfl, by decide, uwX5, (mt2 95 rfl rfl), Or.inl rfl⟩
theorem fpX5_15_5 : FP RX5 15 5 0 (.array .int) true := ⟨_, _, _, _, tyX5, rfl, by decide, uwX5, (mt2 95 rfl rfl), Or.inl rfl, tyX5_ok, nmX5, by decide +kernel, rfl, fun _ => rfl⟩
theorem flX5_18_5 : FL RX5 18 5 1 := ⟨_, _, _, _, rfl, by decide, uwX5, (mt2 96 rfl rfl), Or.inl rfl⟩
theorem fpX5_18_5 : FP RX5 18 5 1 .int true := ⟨_, _, _, _, tyX5, rfl, by decide, uwX5, (mt2 96 rfl rfl), Or.inl rfl, tyX5_ok, nmX5, by decide +kernel, rfl, fun _ => rfl⟩
theorem flX5_22_5 : FL RX5 22 5 2 := ⟨_, _, _, _, rfl, by decide, uwX5, (mt2 97 rfl rfl), Or.inl rfl⟩
theorem fpX5_22_5 : FP RX5 22 5 2 .int true := ⟨_, _, _, _, tyX5, rfl, by decide, uwX5, (mt2 97 rfl rfl), Or.inl rfl, tyX5_ok, nmX5, by decide +kernel, rfl, fun _ => rfl⟩
theorem flX5_11_5 : FL RX5 11 5 3 := ⟨_, _, _, _, rfl, by decide, uwX5, (mt2 98 rfl rfl), Or.inl rfl⟩
theorem fpX5_11_5 : FP RX5 11 5 3 (.array .int) true := ⟨_, _, _, _, tyX5, rfl, by decide, uwX5, (mt2 98 rfl rfl), Or.inl rfl, tyX5_ok, nmX5, by decide +kernel, rfl, fun _ => rfl⟩
theorem flX11_11_11 : FL RX11 11 11 0 := ⟨_, _, _, _, rfl, by decide, uwX11, (mt2 113 rfl rfl), Or.inl rfl⟩
theorem fpX11_11_11 : FP RX11 11 11 0 (.array (.object "PapersEarly$Door")) true := ⟨_, _, _, _, tyX11, rfl, by decide, uwX11, (mt2 113 rfl rfl), Or.inl rfl, tyX11_ok, nmX11, by decide +kernel, rfl, fun _ => rfl⟩
theorem flX11_15_11 : FL RX11 15 11 1 := ⟨_, _, _, _, rfl, by decide, uwX11, (mt2 114 rfl rfl), Or.inl rfl⟩
theorem fpX11_15_11 : FP RX11 15 11 1 .int false := ⟨_, _, _, _, tyX11, rfl, by decide, uwX11, (mt2 114 rfl rfl), Or.inl rfl, tyX11_ok, nmX11, by decide +kernel, rfl, fun h => by cases h⟩
theorem flX11_19_11 : FL RX11 19 11 2 := ⟨_, _, _, _, rfl, by decide, uwX11, (mt2 115 rfl rfl), Or.inl rfl⟩
theorem fpX11_19_11 : FP RX11 19 11 2 (.array .int) true := ⟨_, _, _, _, tyX11, rfl, by decide, uwX11, (mt2 115 rfl rfl), Or.inl rfl, tyX11_ok, nmX11, by decide +kernel, rfl, fun _ => rfl⟩
theorem flX11_31_11 : FL RX11 31 11 3 := ⟨_, _, _, _, rfl, by decide, uwX11, (mt2 116 rfl rfl), Or.inl rfl⟩
theorem fpX11_31_11 : FP RX11 31 11 3 (.array .int) true := ⟨_, _, _, _, tyX11, rfl, by decide, uwX11, (mt2 116 rfl rfl), Or.inl rfl, tyX11_ok, nmX11, by decide +kernel, rfl, fun _ => rfl⟩
theorem flX11_37_11 : FL RX11 37 11 4 := ⟨_, _, _, _, rfl, by decide, uwX11, (mt2 117 rfl rfl), Or.inl rfl⟩
theorem fpX11_37_11 : FP RX11 37 11 4 (.object "PapersEarly$Reader") true := ⟨_, _, _, _, tyX11, rfl, by decide, uwX11, (mt2 117 rfl rfl), Or.inl rfl, tyX11_ok, nmX11, by decide +kernel, rfl, fun _ => rfl⟩
theorem flX11_43_11 : FL RX11 43 11 5 := ⟨_, _, _, _, rfl, by decide, uwX11, (mt2 118 rfl rfl), Or.inl rfl⟩
theorem fpX11_43_11 : FP RX11 43 11 5 (.array (.object "PapersEarly$Rule")) true := ⟨_, _, _, _, tyX11, rfl, by decide, uwX11, (mt2 118 rfl rfl), Or.inl rfl, tyX11_ok, nmX11, by decide +kernel, rfl, fun _ => rfl⟩
theorem flX11_47_11 : FL RX11 47 11 6 := ⟨_, _, _, _, rfl, by decide, uwX11, (mt2 119 rfl rfl), Or.inl rfl⟩
theorem fpX11_47_11 : FP RX11 47 11 6 .int false := ⟨_, _, _, _, tyX11, rfl, by decide, uwX11, (mt2 119 rfl rfl), Or.inl rfl, tyX11_ok, nmX11, by decide +kernel, rfl, fun h => by cases h⟩
theorem flX11_50_11 : FL RX11 50 11 7 := ⟨_, _, _, _, rfl, by decide, uwX11, (mt2 120 rfl rfl), Or.inl rfl⟩
theorem fpX11_50_11 : FP RX11 50 11 7 .int false := ⟨_, _, _, _, tyX11, rfl, by decide, uwX11, (mt2 120 rfl rfl), Or.inl rfl, tyX11_ok, nmX11, by decide +kernel, rfl, fun h => by cases h⟩
theorem flX11_55_11 : FL RX11 55 11 8 := ⟨_, _, _, _, rfl, by decide, uwX11, (mt2 121 rfl rfl), Or.inl rfl⟩
theorem fpX11_55_11 : FP RX11 55 11 8 (.array (.object "PapersEarly$Sheet")) true := ⟨_, _, _, _, tyX11, rfl, by decide, uwX11, (mt2 121 rfl rfl), Or.inl rfl, tyX11_ok, nmX11, by decide +kernel, rfl, fun _ => rfl⟩
theorem flX11_62_11 : FL RX11 62 11 9 := ⟨_, _, _, _, rfl, by decide, uwX11, (mt2 122 rfl rfl), Or.inl rfl⟩
theorem fpX11_62_11 : FP RX11 62 11 9 (.object "PapersEarly$Walk") true := ⟨_, _, _, _, tyX11, rfl, by decide, uwX11, (mt2 122 rfl rfl), Or.inl rfl, tyX11_ok, nmX11, by decide +kernel, rfl, fun _ => rfl⟩
theorem flX11_66_11 : FL RX11 66 11 10 := ⟨_, _, _, _, rfl, by decide, uwX11, (mt2 123 rfl rfl), Or.inl rfl⟩
theorem fpX11_66_11 : FP RX11 66 11 10 (.array .int) true := ⟨_, _, _, _, tyX11, rfl, by decide, uwX11, (mt2 123 rfl rfl), Or.inl rfl, tyX11_ok, nmX11, by decide +kernel, rfl, fun _ => rfl⟩
theorem flX11_69_11 : FL RX11 69 11 11 := ⟨_, _, _, _, rfl, by decide, uwX11, (mt2 124 rfl rfl), Or.inl rfl⟩
theorem fpX11_69_11 : FP RX11 69 11 11 (.array .int) true := ⟨_, _, _, _, tyX11, rfl, by decide, uwX11, (mt2 124 rfl rfl), Or.inl rfl, tyX11_ok, nmX11, by decide +kernel, rfl, fun _ => rfl⟩
theorem flX11_77_11 : FL RX11 77 11 12 := ⟨_, _, _, _, rfl, by decide, uwX11, (mt2 125 rfl rfl), Or.inl rfl⟩
theorem fpX11_77_11 : FP RX11 77 11 12 (.object "PapersEarly$Search") true := ⟨_, _, _, _, tyX11, rfl, by decide, uwX11, (mt2 125 rfl rfl), Or.inl rfl, tyX11_ok, nmX11, by decide +kernel, rfl, fun _ => rfl⟩
theorem flX11_81_11 : FL RX11 81 11 13 := ⟨_, _, _, _, rfl, by decide, uwX11, (mt2 126 rfl rfl), Or.inl rfl⟩
theorem fpX11_81_11 : FP RX11 81 11 13 (.object "PapersEarly$Search") true := ⟨_, _, _, _, tyX11, rfl, by decide, uwX11, (mt2 126 rfl rfl), Or.inl rfl, tyX11_ok, nmX11, by decide +kernel, rfl, fun _ => rfl⟩
theorem flX11_84_11 : FL RX11 84 11 14 := ⟨_, _, _, _, rfl, by decide, uwX11, (mt2 127 rfl rfl), Or.inl rfl⟩
theorem fpX11_84_11 : FP RX11 84 11 14 .int false := ⟨_, _, _, _, tyX11, rfl, by decide, uwX11, (mt2 127 rfl rfl), Or.inl rfl, tyX11_ok, nmX11, by decide +kernel, rfl, fun h => by cases h⟩
theorem flX11_87_11 : FL RX11 87 11 15 := ⟨_, _, _, _, rfl, by decide, uwX11, (mt2 128 rfl rfl), Or.inl rfl⟩
theorem fpX11_87_11 : FP RX11 87 11 15 .int false := ⟨_, _, _, _, tyX11, rfl, by decide, uwX11, (mt2 128 rfl rfl), Or.inl rfl, tyX11_ok, nmX11, by decide +kernel, rfl, fun h => by cases h⟩
theorem flX11_90_11 : FL RX11 90 11 16 := ⟨_, _, _, _, rfl, by decide, uwX11, (mt2 129 rfl rfl), Or.inl rfl⟩
theorem fpX11_90_11 : FP RX11 90 11 16 (.array .int) true := ⟨_, _, _, _, tyX11, rfl, by decide, uwX11, (mt2 129 rfl rfl), Or.inl rfl, tyX11_ok, nmX11, by decide +kernel, rfl, fun _ => rfl⟩
theorem flX11_93_11 : FL RX11 93 11 17 := ⟨_, _, _, _, rfl, by decide, uwX11, (mt2 130 rfl rfl), Or.inl rfl⟩
theorem fpX11_93_11 : FP RX11 93 11 17 (.array .int) true := ⟨_, _, _, _, tyX11, rfl, by decide, uwX11, (mt2 130 rfl rfl), Or.inl rfl, tyX11_ok, nmX11, by decide +kernel, rfl, fun _ => rfl⟩
theorem flX11_96_11 : FL RX11 96 11 18 := ⟨_, _, _, _, rfl, by decide, uwX11, (mt2 131 rfl rfl), Or.inl rfl⟩
theorem fpX11_96_11 : FP RX11 96 11 18 (.array .int) true := ⟨_, _, _, _, tyX11, rfl, by decide, uwX11, (mt2 131 rfl rfl), Or.inl rfl, tyX11_ok, nmX11, by decide +kernel, rfl, fun _ => rfl⟩
theorem flX2_24_0 : FL RX2 24 0 0 := ⟨_, _, _, _, rfl, by decide, uwX0, (mt2 192 rfl rfl), Or.inl rfl⟩
theorem fpX2_24_0 : FP RX2 24 0 0 .int true := ⟨_, _, _, _, tyX0, rfl, by decide, uwX0, (mt2 192 rfl rfl), Or.inl rfl, tyX0_ok, nmX0, by decide +kernel, rfl, fun _ => rfl⟩
theorem flX2_24_1 : FL RX2 24 1 0 := ⟨_, _, _, _, rfl, by decide, uwX1, (mt2 192 rfl rfl), Or.inl rfl⟩
theorem fpX2_24_1 : FP RX2 24 1 0 .int true := ⟨_, _, _, _, tyX1, rfl, by decide, uwX1, (mt2 192 rfl rfl), Or.inl rfl, tyX1_ok, nmX1, by decide +kernel, rfl, fun _ => rfl⟩
theorem flX2_24_2 : FL RX2 24 2 0 := ⟨_, _, _, _, rfl, by decide, uwX2, (mt2 192 rfl rfl), Or.inl rfl⟩
theorem fpX2_24_2 : FP RX2 24 2 0 .int true := ⟨_, _, _, _, tyX2, rfl, by decide, uwX2, (mt2 192 rfl rfl), Or.inl rfl, tyX2_ok, nmX2, by decide +kernel, rfl, fun _ => rfl⟩
theorem flX2_24_3 : FL RX2 24 3 0 := ⟨_, _, _, _, rfl, by decide, uwX3, (mt2 192 rfl rfl), Or.inl rfl⟩
theorem fpX2_24_3 : FP RX2 24 3 0 .int true := ⟨_, _, _, _, tyX3, rfl, by decide, uwX3, (mt2 192 rfl rfl), Or.inl rfl, tyX3_ok, nmX3, by decide +kernel, rfl, fun _ => rfl⟩
theorem flX2_24_8 : FL RX2 24 8 0 := ⟨_, _, _, _, rfl, by decide, uwX8, (mt2 192 rfl rfl), Or.inl rfl⟩
theorem fpX2_24_8 : FP RX2 24 8 0 .int true := ⟨_, _, _, _, tyX8, rfl, by decide, uwX8, (mt2 192 rfl rfl), Or.inl rfl, tyX8_ok, nmX8, by decide +kernel, rfl, fun _ => rfl⟩
theorem flX2_24_9 : FL RX2 24 9 0 := ⟨_, _, _, _, rfl, by decide, uwX9, (mt2 192 rfl rfl), Or.inl rfl⟩
theorem fpX2_24_9 : FP RX2 24 9 0 .int true := ⟨_, _, _, _, tyX9, rfl, by decide, uwX9, (mt2 192 rfl rfl), Or.inl rfl, tyX9_ok, nmX9, by decide +kernel, rfl, fun _ => rfl⟩
theorem flX5_73_0 : FL RX5 73 0 0 := ⟨_, _, _, _, rfl, by decide, uwX0, (mt2 193 rfl rfl), Or.inl rfl⟩
theorem flX5_73_1 : FL RX5 73 1 0 := ⟨_, _, _, _, rfl, by decide, uwX1, (mt2 193 rfl rfl), Or.inl rfl⟩
theorem flX5_73_2 : FL RX5 73 2 0 := ⟨_, _, _, _, rfl, by decide, uwX2, (mt2 193 rfl rfl), Or.inl rfl⟩
theorem flX5_73_3 : FL RX5 73 3 0 := ⟨_, _, _, _, rfl, by decide, uwX3, (mt2 193 rfl rfl), Or.inl rfl⟩
theorem flX5_73_8 : FL RX5 73 8 0 := ⟨_, _, _, _, rfl, by decide, uwX8, (mt2 193 rfl rfl), Or.inl rfl⟩
theorem flX5_73_9 : FL RX5 73 9 0 := ⟨_, _, _, _, rfl, by decide, uwX9, (mt2 193 rfl rfl), Or.inl rfl⟩
theorem flX11_324_0 : FL RX11 324 0 0 := ⟨_, _, _, _, rfl, by decide, uwX0, (mt2 194 rfl rfl), Or.inl rfl⟩
theorem flX11_324_1 : FL RX11 324 1 0 := ⟨_, _, _, _, rfl, by decide, uwX1, (mt2 194 rfl rfl), Or.inl rfl⟩
theorem flX11_324_2 : FL RX11 324 2 0 := ⟨_, _, _, _, rfl, by decide, uwX2, (mt2 194 rfl rfl), Or.inl rfl⟩
theorem flX11_324_3 : FL RX11 324 3 0 := ⟨_, _, _, _, rfl, by decide, uwX3, (mt2 194 rfl rfl), Or.inl rfl⟩
theorem flX11_324_8 : FL RX11 324 8 0 := ⟨_, _, _, _, rfl, by decide, uwX8, (mt2 194 rfl rfl), Or.inl rfl⟩
theorem flX11_324_9 : FL RX11 324 9 0 := ⟨_, _, _, _, rfl, by decide, uwX9, (mt2 194 rfl rfl), Or.inl rfl⟩
theorem flX2_9_0 : FL RX2 9 0 1 := ⟨_, _, _, _, rfl, by decide, uwX0, (mt2 195 rfl rfl), Or.inl rfl⟩
theorem fpX2_9_0 : FP RX2 9 0 1 .int false := ⟨_, _, _, _, tyX0, rfl, by decide, uwX0, (mt2 195 rfl rfl), Or.inl rfl, tyX0_ok, nmX0, by decide +kernel, rfl, fun h => by cases h⟩
theorem flX2_9_1 : FL RX2 9 1 1 := ⟨_, _, _, _, rfl, by decide, uwX1, (mt2 195 rfl rfl), Or.inl rfl⟩
theorem fpX2_9_1 : FP RX2 9 1 1 .int false := ⟨_, _, _, _, tyX1, rfl, by decide, uwX1, (mt2 195 rfl rfl), Or.inl rfl, tyX1_ok, nmX1, by decide +kernel, rfl, fun h => by cases h⟩
theorem flX2_9_2 : FL RX2 9 2 1 := ⟨_, _, _, _, rfl, by decide, uwX2, (mt2 195 rfl rfl), Or.inl rfl⟩
theorem fpX2_9_2 : FP RX2 9 2 1 .int false := ⟨_, _, _, _, tyX2, rfl, by decide, uwX2, (mt2 195 rfl rfl), Or.inl rfl, tyX2_ok, nmX2, by decide +kernel, rfl, fun h => by cases h⟩
theorem flX2_9_3 : FL RX2 9 3 1 := ⟨_, _, _, _, rfl, by decide, uwX3, (mt2 195 rfl rfl), Or.inl rfl⟩
theorem fpX2_9_3 : FP RX2 9 3 1 .int false := ⟨_, _, _, _, tyX3, rfl, by decide, uwX3, (mt2 195 rfl rfl), Or.inl rfl, tyX3_ok, nmX3, by decide +kernel, rfl, fun h => by cases h⟩
theorem flX2_9_8 : FL RX2 9 8 1 := ⟨_, _, _, _, rfl, by decide, uwX8, (mt2 195 rfl rfl), Or.inl rfl⟩
theorem fpX2_9_8 : FP RX2 9 8 1 .int false := ⟨_, _, _, _, tyX8, rfl, by decide, uwX8, (mt2 195 rfl rfl), Or.inl rfl, tyX8_ok, nmX8, by decide +kernel, rfl, fun h => by cases h⟩
theorem flX2_9_9 : FL RX2 9 9 1 := ⟨_, _, _, _, rfl, by decide, uwX9, (mt2 195 rfl rfl), Or.inl rfl⟩
theorem fpX2_9_9 : FP RX2 9 9 1 .int false := ⟨_, _, _, _, tyX9, rfl, by decide, uwX9, (mt2 195 rfl rfl), Or.inl rfl, tyX9_ok, nmX9, by decide +kernel, rfl, fun h => by cases h⟩
theorem flX1_11_0 : FL RX1 11 0 1 := ⟨_, _, _, _, rfl, by decide, uwX0, (mt2 196 rfl rfl), Or.inr (mt2 197 rfl rfl)⟩
theorem fpX1_11_0 : FP RX1 11 0 1 .int false := ⟨_, _, _, _, tyX0, rfl, by decide, uwX0, (mt2 196 rfl rfl), Or.inr (mt2 197 rfl rfl), tyX0_ok, nmX0, by decide +kernel, rfl, fun h => by cases h⟩
theorem flX1_11_1 : FL RX1 11 1 1 := ⟨_, _, _, _, rfl, by decide, uwX1, (mt2 196 rfl rfl), Or.inr (mt2 197 rfl rfl)⟩
theorem fpX1_11_1 : FP RX1 11 1 1 .int false := ⟨_, _, _, _, tyX1, rfl, by decide, uwX1, (mt2 196 rfl rfl), Or.inr (mt2 197 rfl rfl), tyX1_ok, nmX1, by decide +kernel, rfl, fun h => by cases h⟩
theorem flX3_11_3 : FL RX3 11 3 1 := ⟨_, _, _, _, rfl, by decide, uwX3, (mt2 198 rfl rfl), Or.inr (mt2 199 rfl rfl)⟩
theorem fpX3_11_3 : FP RX3 11 3 1 .int false := ⟨_, _, _, _, tyX3, rfl, by decide, uwX3, (mt2 198 rfl rfl), Or.inr (mt2 199 rfl rfl), tyX3_ok, nmX3, by decide +kernel, rfl, fun h => by cases h⟩
theorem flX3_11_8 : FL RX3 11 8 1 := ⟨_, _, _, _, rfl, by decide, uwX8, (mt2 198 rfl rfl), Or.inr (mt2 199 rfl rfl)⟩
theorem fpX3_11_8 : FP RX3 11 8 1 .int false := ⟨_, _, _, _, tyX8, rfl, by decide, uwX8, (mt2 198 rfl rfl), Or.inr (mt2 199 rfl rfl), tyX8_ok, nmX8, by decide +kernel, rfl, fun h => by cases h⟩
theorem flX3_11_9 : FL RX3 11 9 1 := ⟨_, _, _, _, rfl, by decide, uwX9, (mt2 198 rfl rfl), Or.inr (mt2 199 rfl rfl)⟩
theorem fpX3_11_9 : FP RX3 11 9 1 .int false := ⟨_, _, _, _, tyX9, rfl, by decide, uwX9, (mt2 198 rfl rfl), Or.inr (mt2 199 rfl rfl), tyX9_ok, nmX9, by decide +kernel, rfl, fun h => by cases h⟩
theorem flX9_15_9 : FL RX9 15 9 1 := ⟨_, _, _, _, rfl, by decide, uwX9, (mt2 200 rfl rfl), Or.inr (mt2 201 rfl rfl)⟩
theorem fpX9_15_9 : FP RX9 15 9 1 .int false := ⟨_, _, _, _, tyX9, rfl, by decide, uwX9, (mt2 200 rfl rfl), Or.inr (mt2 201 rfl rfl), tyX9_ok, nmX9, by decide +kernel, rfl, fun h => by cases h⟩
theorem flX11_295_0 : FL RX11 295 0 1 := ⟨_, _, _, _, rfl, by decide, uwX0, (mt2 202 rfl rfl), Or.inl rfl⟩
theorem fpX11_295_0 : FP RX11 295 0 1 .int false := ⟨_, _, _, _, tyX0, rfl, by decide, uwX0, (mt2 202 rfl rfl), Or.inl rfl, tyX0_ok, nmX0, by decide +kernel, rfl, fun h => by cases h⟩
theorem flX11_295_1 : FL RX11 295 1 1 := ⟨_, _, _, _, rfl, by decide, uwX1, (mt2 202 rfl rfl), Or.inl rfl⟩
theorem fpX11_295_1 : FP RX11 295 1 1 .int false := ⟨_, _, _, _, tyX1, rfl, by decide, uwX1, (mt2 202 rfl rfl), Or.inl rfl, tyX1_ok, nmX1, by decide +kernel, rfl, fun h => by cases h⟩
theorem flX11_295_2 : FL RX11 295 2 1 := ⟨_, _, _, _, rfl, by decide, uwX2, (mt2 202 rfl rfl), Or.inl rfl⟩
theorem fpX11_295_2 : FP RX11 295 2 1 .int false := ⟨_, _, _, _, tyX2, rfl, by decide, uwX2, (mt2 202 rfl rfl), Or.inl rfl, tyX2_ok, nmX2, by decide +kernel, rfl, fun h => by cases h⟩
theorem flX11_295_3 : FL RX11 295 3 1 := ⟨_, _, _, _, rfl, by decide, uwX3, (mt2 202 rfl rfl), Or.inl rfl⟩
theorem fpX11_295_3 : FP RX11 295 3 1 .int false := ⟨_, _, _, _, tyX3, rfl, by decide, uwX3, (mt2 202 rfl rfl), Or.inl rfl, tyX3_ok, nmX3, by decide +kernel, rfl, fun h => by cases h⟩
theorem flX11_295_8 : FL RX11 295 8 1 := ⟨_, _, _, _, rfl, by decide, uwX8, (mt2 202 rfl rfl), Or.inl rfl⟩
theorem fpX11_295_8 : FP RX11 295 8 1 .int false := ⟨_, _, _, _, tyX8, rfl, by decide, uwX8, (mt2 202 rfl rfl), Or.inl rfl, tyX8_ok, nmX8, by decide +kernel, rfl, fun h => by cases h⟩
theorem flX11_295_9 : FL RX11 295 9 1 := ⟨_, _, _, _, rfl, by decide, uwX9, (mt2 202 rfl rfl), Or.inl rfl⟩
theorem fpX11_295_9 : FP RX11 295 9 1 .int false := ⟨_, _, _, _, tyX9, rfl, by decide, uwX9, (mt2 202 rfl rfl), Or.inl rfl, tyX9_ok, nmX9, by decide +kernel, rfl, fun h => by cases h⟩
theorem flX2_15_0 : FL RX2 15 0 2 := ⟨_, _, _, _, rfl, by decide, uwX0, (mt2 203 rfl rfl), Or.inl rfl⟩
theorem fpX2_15_0 : FP RX2 15 0 2 .int false := ⟨_, _, _, _, tyX0, rfl, by decide, uwX0, (mt2 203 rfl rfl), Or.inl rfl, tyX0_ok, nmX0, by decide +kernel, rfl, fun h => by cases h⟩
theorem flX2_15_1 : FL RX2 15 1 2 := ⟨_, _, _, _, rfl, by decide, uwX1, (mt2 203 rfl rfl), Or.inl rfl⟩
theorem fpX2_15_1 : FP RX2 15 1 2 .int false := ⟨_, _, _, _, tyX1, rfl, by decide, uwX1, (mt2 203 rfl rfl), Or.inl rfl, tyX1_ok, nmX1, by decide +kernel, rfl, fun h => by cases h⟩
theorem flX2_15_2 : FL RX2 15 2 2 := ⟨_, _, _, _, rfl, by decide, uwX2, (mt2 203 rfl rfl), Or.inl rfl⟩
theorem fpX2_15_2 : FP RX2 15 2 2 .int false := ⟨_, _, _, _, tyX2, rfl, by decide, uwX2, (mt2 203 rfl rfl), Or.inl rfl, tyX2_ok, nmX2, by decide +kernel, rfl, fun h => by cases h⟩
theorem flX2_15_3 : FL RX2 15 3 2 := ⟨_, _, _, _, rfl, by decide, uwX3, (mt2 203 rfl rfl), Or.inl rfl⟩
theorem fpX2_15_3 : FP RX2 15 3 2 .int false := ⟨_, _, _, _, tyX3, rfl, by decide, uwX3, (mt2 203 rfl rfl), Or.inl rfl, tyX3_ok, nmX3, by decide +kernel, rfl, fun h => by cases h⟩
theorem flX2_15_8 : FL RX2 15 8 2 := ⟨_, _, _, _, rfl, by decide, uwX8, (mt2 203 rfl rfl), Or.inl rfl⟩
theorem fpX2_15_8 : FP RX2 15 8 2 .int false := ⟨_, _, _, _, tyX8, rfl, by decide, uwX8, (mt2 203 rfl rfl), Or.inl rfl, tyX8_ok, nmX8, by decide +kernel, rfl, fun h => by cases h⟩
theorem flX2_15_9 : FL RX2 15 9 2 := ⟨_, _, _, _, rfl, by decide, uwX9, (mt2 203 rfl rfl), Or.inl rfl⟩
theorem fpX2_15_9 : FP RX2 15 9 2 .int false := ⟨_, _, _, _, tyX9, rfl, by decide, uwX9, (mt2 203 rfl rfl), Or.inl rfl, tyX9_ok, nmX9, by decide +kernel, rfl, fun h => by cases h⟩
theorem flX10_48_0 : FL RX10 48 0 2 := ⟨_, _, _, _, rfl, by decide, uwX0, (mt2 204 rfl rfl), Or.inl rfl⟩
theorem fpX10_48_0 : FP RX10 48 0 2 .int false := ⟨_, _, _, _, tyX0, rfl, by decide, uwX0, (mt2 204 rfl rfl), Or.inl rfl, tyX0_ok, nmX0, by decide +kernel, rfl, fun h => by cases h⟩
theorem flX10_48_1 : FL RX10 48 1 2 := ⟨_, _, _, _, rfl, by decide, uwX1, (mt2 204 rfl rfl), Or.inl rfl⟩
theorem fpX10_48_1 : FP RX10 48 1 2 .int false := ⟨_, _, _, _, tyX1, rfl, by decide, uwX1, (mt2 204 rfl rfl), Or.inl rfl, tyX1_ok, nmX1, by decide +kernel, rfl, fun h => by cases h⟩
theorem flX10_48_2 : FL RX10 48 2 2 := ⟨_, _, _, _, rfl, by decide, uwX2, (mt2 204 rfl rfl), Or.inl rfl⟩
theorem fpX10_48_2 : FP RX10 48 2 2 .int false := ⟨_, _, _, _, tyX2, rfl, by decide, uwX2, (mt2 204 rfl rfl), Or.inl rfl, tyX2_ok, nmX2, by decide +kernel, rfl, fun h => by cases h⟩
theorem flX10_48_3 : FL RX10 48 3 2 := ⟨_, _, _, _, rfl, by decide, uwX3, (mt2 204 rfl rfl), Or.inl rfl⟩
theorem fpX10_48_3 : FP RX10 48 3 2 .int false := ⟨_, _, _, _, tyX3, rfl, by decide, uwX3, (mt2 204 rfl rfl), Or.inl rfl, tyX3_ok, nmX3, by decide +kernel, rfl, fun h => by cases h⟩
theorem flX10_48_8 : FL RX10 48 8 2 := ⟨_, _, _, _, rfl, by decide, uwX8, (mt2 204 rfl rfl), Or.inl rfl⟩
theorem fpX10_48_8 : FP RX10 48 8 2 .int false := ⟨_, _, _, _, tyX8, rfl, by decide, uwX8, (mt2 204 rfl rfl), Or.inl rfl, tyX8_ok, nmX8, by decide +kernel, rfl, fun h => by cases h⟩
theorem flX10_48_9 : FL RX10 48 9 2 := ⟨_, _, _, _, rfl, by decide, uwX9, (mt2 204 rfl rfl), Or.inl rfl⟩
theorem fpX10_48_9 : FP RX10 48 9 2 .int false := ⟨_, _, _, _, tyX9, rfl, by decide, uwX9, (mt2 204 rfl rfl), Or.inl rfl, tyX9_ok, nmX9, by decide +kernel, rfl, fun h => by cases h⟩
theorem flX5_64_0 : FL RX5 64 0 2 := ⟨_, _, _, _, rfl, by decide, uwX0, (mt2 205 rfl rfl), Or.inl rfl⟩
theorem fpX5_64_0 : FP RX5 64 0 2 .int false := ⟨_, _, _, _, tyX0, rfl, by decide, uwX0, (mt2 205 rfl rfl), Or.inl rfl, tyX0_ok, nmX0, by decide +kernel, rfl, fun h => by cases h⟩
theorem flX5_64_1 : FL RX5 64 1 2 := ⟨_, _, _, _, rfl, by decide, uwX1, (mt2 205 rfl rfl), Or.inl rfl⟩
theorem fpX5_64_1 : FP RX5 64 1 2 .int false := ⟨_, _, _, _, tyX1, rfl, by decide, uwX1, (mt2 205 rfl rfl), Or.inl rfl, tyX1_ok, nmX1, by decide +kernel, rfl, fun h => by cases h⟩
theorem flX5_64_2 : FL RX5 64 2 2 := ⟨_, _, _, _, rfl, by decide, uwX2, (mt2 205 rfl rfl), Or.inl rfl⟩
theorem fpX5_64_2 : FP RX5 64 2 2 .int false := ⟨_, _, _, _, tyX2, rfl, by decide, uwX2, (mt2 205 rfl rfl), Or.inl rfl, tyX2_ok, nmX2, by decide +kernel, rfl, fun h => by cases h⟩
theorem flX5_64_3 : FL RX5 64 3 2 := ⟨_, _, _, _, rfl, by decide, uwX3, (mt2 205 rfl rfl), Or.inl rfl⟩
theorem fpX5_64_3 : FP RX5 64 3 2 .int false := ⟨_, _, _, _, tyX3, rfl, by decide, uwX3, (mt2 205 rfl rfl), Or.inl rfl, tyX3_ok, nmX3, by decide +kernel, rfl, fun h => by cases h⟩
theorem flX5_64_8 : FL RX5 64 8 2 := ⟨_, _, _, _, rfl, by decide, uwX8, (mt2 205 rfl rfl), Or.inl rfl⟩
theorem fpX5_64_8 : FP RX5 64 8 2 .int false := ⟨_, _, _, _, tyX8, rfl, by decide, uwX8, (mt2 205 rfl rfl), Or.inl rfl, tyX8_ok, nmX8, by decide +kernel, rfl, fun h => by cases h⟩
theorem flX5_64_9 : FL RX5 64 9 2 := ⟨_, _, _, _, rfl, by decide, uwX9, (mt2 205 rfl rfl), Or.inl rfl⟩
theorem fpX5_64_9 : FP RX5 64 9 2 .int false := ⟨_, _, _, _, tyX9, rfl, by decide, uwX9, (mt2 205 rfl rfl), Or.inl rfl, tyX9_ok, nmX9, by decide +kernel, rfl, fun h => by cases h⟩
theorem flX11_337_0 : FL RX11 337 0 2 := ⟨_, _, _, _, rfl, by decide, uwX0, (mt2 206 rfl rfl), Or.inl rfl⟩
theorem fpX11_337_0 : FP RX11 337 0 2 .int false := ⟨_, _, _, _, tyX0, rfl, by decide, uwX0, (mt2 206 rfl rfl), Or.inl rfl, tyX0_ok, nmX0, by decide +kernel, rfl, fun h => by cases h⟩
theorem flX11_337_1 : FL RX11 337 1 2 := ⟨_, _, _, _, rfl, by decide, uwX1, (mt2 206 rfl rfl), Or.inl rfl⟩
theorem fpX11_337_1 : FP RX11 337 1 2 .int false := ⟨_, _, _, _, tyX1, rfl, by decide, uwX1, (mt2 206 rfl rfl), Or.inl rfl, tyX1_ok, nmX1, by decide +kernel, rfl, fun h => by cases h⟩
theorem flX11_337_2 : FL RX11 337 2 2 := ⟨_, _, _, _, rfl, by decide, uwX2, (mt2 206 rfl rfl), Or.inl rfl⟩
theorem fpX11_337_2 : FP RX11 337 2 2 .int false := ⟨_, _, _, _, tyX2, rfl, by decide, uwX2, (mt2 206 rfl rfl), Or.inl rfl, tyX2_ok, nmX2, by decide +kernel, rfl, fun h => by cases h⟩
theorem flX11_337_3 : FL RX11 337 3 2 := ⟨_, _, _, _, rfl, by decide, uwX3, (mt2 206 rfl rfl), Or.inl rfl⟩
theorem fpX11_337_3 : FP RX11 337 3 2 .int false := ⟨_, _, _, _, tyX3, rfl, by decide, uwX3, (mt2 206 rfl rfl), Or.inl rfl, tyX3_ok, nmX3, by decide +kernel, rfl, fun h => by cases h⟩
theorem flX11_337_8 : FL RX11 337 8 2 := ⟨_, _, _, _, rfl, by decide, uwX8, (mt2 206 rfl rfl), Or.inl rfl⟩
theorem fpX11_337_8 : FP RX11 337 8 2 .int false := ⟨_, _, _, _, tyX8, rfl, by decide, uwX8, (mt2 206 rfl rfl), Or.inl rfl, tyX8_ok, nmX8, by decide +kernel, rfl, fun h => by cases h⟩
theorem flX11_337_9 : FL RX11 337 9 2 := ⟨_, _, _, _, rfl, by decide, uwX9, (mt2 206 rfl rfl), Or.inl rfl⟩
theorem fpX11_337_9 : FP RX11 337 9 2 .int false := ⟨_, _, _, _, tyX9, rfl, by decide, uwX9, (mt2 206 rfl rfl), Or.inl rfl, tyX9_ok, nmX9, by decide +kernel, rfl, fun h => by cases h⟩
theorem flX2_18_0 : FL RX2 18 0 3 := ⟨_, _, _, _, rfl, by decide, uwX0, (mt2 207 rfl rfl), Or.inl rfl⟩
theorem fpX2_18_0 : FP RX2 18 0 3 .int false := ⟨_, _, _, _, tyX0, rfl, by decide, uwX0, (mt2 207 rfl rfl), Or.inl rfl, tyX0_ok, nmX0, by decide +kernel, rfl, fun h => by cases h⟩
theorem flX2_18_1 : FL RX2 18 1 3 := ⟨_, _, _, _, rfl, by decide, uwX1, (mt2 207 rfl rfl), Or.inl rfl⟩
theorem fpX2_18_1 : FP RX2 18 1 3 .int false := ⟨_, _, _, _, tyX1, rfl, by decide, uwX1, (mt2 207 rfl rfl), Or.inl rfl, tyX1_ok, nmX1, by decide +kernel, rfl, fun h => by cases h⟩
theorem flX2_18_2 : FL RX2 18 2 3 := ⟨_, _, _, _, rfl, by decide, uwX2, (mt2 207 rfl rfl), Or.inl rfl⟩
theorem fpX2_18_2 : FP RX2 18 2 3 .int false := ⟨_, _, _, _, tyX2, rfl, by decide, uwX2, (mt2 207 rfl rfl), Or.inl rfl, tyX2_ok, nmX2, by decide +kernel, rfl, fun h => by cases h⟩
theorem flX2_18_3 : FL RX2 18 3 3 := ⟨_, _, _, _, rfl, by decide, uwX3, (mt2 207 rfl rfl), Or.inl rfl⟩
theorem fpX2_18_3 : FP RX2 18 3 3 .int false := ⟨_, _, _, _, tyX3, rfl, by decide, uwX3, (mt2 207 rfl rfl), Or.inl rfl, tyX3_ok, nmX3, by decide +kernel, rfl, fun h => by cases h⟩
theorem flX2_18_8 : FL RX2 18 8 3 := ⟨_, _, _, _, rfl, by decide, uwX8, (mt2 207 rfl rfl), Or.inl rfl⟩
theorem fpX2_18_8 : FP RX2 18 8 3 .int false := ⟨_, _, _, _, tyX8, rfl, by decide, uwX8, (mt2 207 rfl rfl), Or.inl rfl, tyX8_ok, nmX8, by decide +kernel, rfl, fun h => by cases h⟩
theorem flX2_18_9 : FL RX2 18 9 3 := ⟨_, _, _, _, rfl, by decide, uwX9, (mt2 207 rfl rfl), Or.inl rfl⟩
theorem fpX2_18_9 : FP RX2 18 9 3 .int false := ⟨_, _, _, _, tyX9, rfl, by decide, uwX9, (mt2 207 rfl rfl), Or.inl rfl, tyX9_ok, nmX9, by decide +kernel, rfl, fun h => by cases h⟩
theorem flX10_49_0 : FL RX10 49 0 3 := ⟨_, _, _, _, rfl, by decide, uwX0, (mt2 208 rfl rfl), Or.inl rfl⟩
theorem fpX10_49_0 : FP RX10 49 0 3 .int false := ⟨_, _, _, _, tyX0, rfl, by decide, uwX0, (mt2 208 rfl rfl), Or.inl rfl, tyX0_ok, nmX0, by decide +kernel, rfl, fun h => by cases h⟩
theorem flX10_49_1 : FL RX10 49 1 3 := ⟨_, _, _, _, rfl, by decide, uwX1, (mt2 208 rfl rfl), Or.inl rfl⟩
theorem fpX10_49_1 : FP RX10 49 1 3 .int false := ⟨_, _, _, _, tyX1, rfl, by decide, uwX1, (mt2 208 rfl rfl), Or.inl rfl, tyX1_ok, nmX1, by decide +kernel, rfl, fun h => by cases h⟩
theorem flX10_49_2 : FL RX10 49 2 3 := ⟨_, _, _, _, rfl, by decide, uwX2, (mt2 208 rfl rfl), Or.inl rfl⟩
theorem fpX10_49_2 : FP RX10 49 2 3 .int false := ⟨_, _, _, _, tyX2, rfl, by decide, uwX2, (mt2 208 rfl rfl), Or.inl rfl, tyX2_ok, nmX2, by decide +kernel, rfl, fun h => by cases h⟩
theorem flX10_49_3 : FL RX10 49 3 3 := ⟨_, _, _, _, rfl, by decide, uwX3, (mt2 208 rfl rfl), Or.inl rfl⟩
theorem fpX10_49_3 : FP RX10 49 3 3 .int false := ⟨_, _, _, _, tyX3, rfl, by decide, uwX3, (mt2 208 rfl rfl), Or.inl rfl, tyX3_ok, nmX3, by decide +kernel, rfl, fun h => by cases h⟩
theorem flX10_49_8 : FL RX10 49 8 3 := ⟨_, _, _, _, rfl, by decide, uwX8, (mt2 208 rfl rfl), Or.inl rfl⟩
theorem fpX10_49_8 : FP RX10 49 8 3 .int false := ⟨_, _, _, _, tyX8, rfl, by decide, uwX8, (mt2 208 rfl rfl), Or.inl rfl, tyX8_ok, nmX8, by decide +kernel, rfl, fun h => by cases h⟩
theorem flX10_49_9 : FL RX10 49 9 3 := ⟨_, _, _, _, rfl, by decide, uwX9, (mt2 208 rfl rfl), Or.inl rfl⟩
theorem fpX10_49_9 : FP RX10 49 9 3 .int false := ⟨_, _, _, _, tyX9, rfl, by decide, uwX9, (mt2 208 rfl rfl), Or.inl rfl, tyX9_ok, nmX9, by decide +kernel, rfl, fun h => by cases h⟩
theorem flX5_67_0 : FL RX5 67 0 3 := ⟨_, _, _, _, rfl, by decide, uwX0, (mt2 209 rfl rfl), Or.inl rfl⟩
theorem fpX5_67_0 : FP RX5 67 0 3 .int false := ⟨_, _, _, _, tyX0, rfl, by decide, uwX0, (mt2 209 rfl rfl), Or.inl rfl, tyX0_ok, nmX0, by decide +kernel, rfl, fun h => by cases h⟩
theorem flX5_67_1 : FL RX5 67 1 3 := ⟨_, _, _, _, rfl, by decide, uwX1, (mt2 209 rfl rfl), Or.inl rfl⟩
theorem fpX5_67_1 : FP RX5 67 1 3 .int false := ⟨_, _, _, _, tyX1, rfl, by decide, uwX1, (mt2 209 rfl rfl), Or.inl rfl, tyX1_ok, nmX1, by decide +kernel, rfl, fun h => by cases h⟩
theorem flX5_67_2 : FL RX5 67 2 3 := ⟨_, _, _, _, rfl, by decide, uwX2, (mt2 209 rfl rfl), Or.inl rfl⟩
theorem fpX5_67_2 : FP RX5 67 2 3 .int false := ⟨_, _, _, _, tyX2, rfl, by decide, uwX2, (mt2 209 rfl rfl), Or.inl rfl, tyX2_ok, nmX2, by decide +kernel, rfl, fun h => by cases h⟩
theorem flX5_67_3 : FL RX5 67 3 3 := ⟨_, _, _, _, rfl, by decide, uwX3, (mt2 209 rfl rfl), Or.inl rfl⟩
theorem fpX5_67_3 : FP RX5 67 3 3 .int false := ⟨_, _, _, _, tyX3, rfl, by decide, uwX3, (mt2 209 rfl rfl), Or.inl rfl, tyX3_ok, nmX3, by decide +kernel, rfl, fun h => by cases h⟩
theorem flX5_67_8 : FL RX5 67 8 3 := ⟨_, _, _, _, rfl, by decide, uwX8, (mt2 209 rfl rfl), Or.inl rfl⟩
theorem fpX5_67_8 : FP RX5 67 8 3 .int false := ⟨_, _, _, _, tyX8, rfl, by decide, uwX8, (mt2 209 rfl rfl), Or.inl rfl, tyX8_ok, nmX8, by decide +kernel, rfl, fun h => by cases h⟩
theorem flX5_67_9 : FL RX5 67 9 3 := ⟨_, _, _, _, rfl, by decide, uwX9, (mt2 209 rfl rfl), Or.inl rfl⟩
theorem fpX5_67_9 : FP RX5 67 9 3 .int false := ⟨_, _, _, _, tyX9, rfl, by decide, uwX9, (mt2 209 rfl rfl), Or.inl rfl, tyX9_ok, nmX9, by decide +kernel, rfl, fun h => by cases h⟩
theorem flX11_334_0 : FL RX11 334 0 3 := ⟨_, _, _, _, rfl, by decide, uwX0, (mt2 210 rfl rfl), Or.inl rfl⟩
theorem fpX11_334_0 : FP RX11 334 0 3 .int false := ⟨_, _, _, _, tyX0, rfl, by decide, uwX0, (mt2 210 rfl rfl), Or.inl rfl, tyX0_ok, nmX0, by decide +kernel, rfl, fun h => by cases h⟩
theorem flX11_334_1 : FL RX11 334 1 3 := ⟨_, _, _, _, rfl, by decide, uwX1, (mt2 210 rfl rfl), Or.inl rfl⟩
theorem fpX11_334_1 : FP RX11 334 1 3 .int false := ⟨_, _, _, _, tyX1, rfl, by decide, uwX1, (mt2 210 rfl rfl), Or.inl rfl, tyX1_ok, nmX1, by decide +kernel, rfl, fun h => by cases h⟩
theorem flX11_334_2 : FL RX11 334 2 3 := ⟨_, _, _, _, rfl, by decide, uwX2, (mt2 210 rfl rfl), Or.inl rfl⟩
theorem fpX11_334_2 : FP RX11 334 2 3 .int false := ⟨_, _, _, _, tyX2, rfl, by decide, uwX2, (mt2 210 rfl rfl), Or.inl rfl, tyX2_ok, nmX2, by decide +kernel, rfl, fun h => by cases h⟩
theorem flX11_334_3 : FL RX11 334 3 3 := ⟨_, _, _, _, rfl, by decide, uwX3, (mt2 210 rfl rfl), Or.inl rfl⟩
theorem fpX11_334_3 : FP RX11 334 3 3 .int false := ⟨_, _, _, _, tyX3, rfl, by decide, uwX3, (mt2 210 rfl rfl), Or.inl rfl, tyX3_ok, nmX3, by decide +kernel, rfl, fun h => by cases h⟩
theorem flX11_334_8 : FL RX11 334 8 3 := ⟨_, _, _, _, rfl, by decide, uwX8, (mt2 210 rfl rfl), Or.inl rfl⟩
theorem fpX11_334_8 : FP RX11 334 8 3 .int false := ⟨_, _, _, _, tyX8, rfl, by decide, uwX8, (mt2 210 rfl rfl), Or.inl rfl, tyX8_ok, nmX8, by decide +kernel, rfl, fun h => by cases h⟩
theorem flX11_334_9 : FL RX11 334 9 3 := ⟨_, _, _, _, rfl, by decide, uwX9, (mt2 210 rfl rfl), Or.inl rfl⟩
theorem fpX11_334_9 : FP RX11 334 9 3 .int false := ⟨_, _, _, _, tyX9, rfl, by decide, uwX9, (mt2 210 rfl rfl), Or.inl rfl, tyX9_ok, nmX9, by decide +kernel, rfl, fun h => by cases h⟩
theorem flX2_21_0 : FL RX2 21 0 4 := ⟨_, _, _, _, rfl, by decide, uwX0, (mt2 211 rfl rfl), Or.inl rfl⟩
theorem fpX2_21_0 : FP RX2 21 0 4 .int false := ⟨_, _, _, _, tyX0, rfl, by decide, uwX0, (mt2 211 rfl rfl), Or.inl rfl, tyX0_ok, nmX0, by decide +kernel, rfl, fun h => by cases h⟩
theorem flX2_21_1 : FL RX2 21 1 4 := ⟨_, _, _, _, rfl, by decide, uwX1, (mt2 211 rfl rfl), Or.inl rfl⟩
theorem fpX2_21_1 : FP RX2 21 1 4 .int false := ⟨_, _, _, _, tyX1, rfl, by decide, uwX1, (mt2 211 rfl rfl), Or.inl rfl, tyX1_ok, nmX1, by decide +kernel, rfl, fun h => by cases h⟩
theorem flX2_21_2 : FL RX2 21 2 4 := ⟨_, _, _, _, rfl, by decide, uwX2, (mt2 211 rfl rfl), Or.inl rfl⟩
theorem fpX2_21_2 : FP RX2 21 2 4 .int false := ⟨_, _, _, _, tyX2, rfl, by decide, uwX2, (mt2 211 rfl rfl), Or.inl rfl, tyX2_ok, nmX2, by decide +kernel, rfl, fun h => by cases h⟩
theorem flX2_21_3 : FL RX2 21 3 4 := ⟨_, _, _, _, rfl, by decide, uwX3, (mt2 211 rfl rfl), Or.inl rfl⟩
theorem fpX2_21_3 : FP RX2 21 3 4 .int false := ⟨_, _, _, _, tyX3, rfl, by decide, uwX3, (mt2 211 rfl rfl), Or.inl rfl, tyX3_ok, nmX3, by decide +kernel, rfl, fun h => by cases h⟩
theorem flX2_21_8 : FL RX2 21 8 4 := ⟨_, _, _, _, rfl, by decide, uwX8, (mt2 211 rfl rfl), Or.inl rfl⟩
theorem fpX2_21_8 : FP RX2 21 8 4 .int false := ⟨_, _, _, _, tyX8, rfl, by decide, uwX8, (mt2 211 rfl rfl), Or.inl rfl, tyX8_ok, nmX8, by decide +kernel, rfl, fun h => by cases h⟩
theorem flX2_21_9 : FL RX2 21 9 4 := ⟨_, _, _, _, rfl, by decide, uwX9, (mt2 211 rfl rfl), Or.inl rfl⟩
theorem fpX2_21_9 : FP RX2 21 9 4 .int false := ⟨_, _, _, _, tyX9, rfl, by decide, uwX9, (mt2 211 rfl rfl), Or.inl rfl, tyX9_ok, nmX9, by decide +kernel, rfl, fun h => by cases h⟩
theorem flX10_35_0 : FL RX10 35 0 4 := ⟨_, _, _, _, rfl, by decide, uwX0, (mt2 212 rfl rfl), Or.inl rfl⟩
theorem fpX10_35_0 : FP RX10 35 0 4 .int false := ⟨_, _, _, _, tyX0, rfl, by decide, uwX0, (mt2 212 rfl rfl), Or.inl rfl, tyX0_ok, nmX0, by decide +kernel, rfl, fun h => by cases h⟩
theorem flX10_35_1 : FL RX10 35 1 4 := ⟨_, _, _, _, rfl, by decide, uwX1, (mt2 212 rfl rfl), Or.inl rfl⟩
theorem fpX10_35_1 : FP RX10 35 1 4 .int false := ⟨_, _, _, _, tyX1, rfl, by decide, uwX1, (mt2 212 rfl rfl), Or.inl rfl, tyX1_ok, nmX1, by decide +kernel, rfl, fun h => by cases h⟩
theorem flX10_35_2 : FL RX10 35 2 4 := ⟨_, _, _, _, rfl, by decide, uwX2, (mt2 212 rfl rfl), Or.inl rfl⟩
theorem fpX10_35_2 : FP RX10 35 2 4 .int false := ⟨_, _, _, _, tyX2, rfl, by decide, uwX2, (mt2 212 rfl rfl), Or.inl rfl, tyX2_ok, nmX2, by decide +kernel, rfl, fun h => by cases h⟩
theorem flX10_35_3 : FL RX10 35 3 4 := ⟨_, _, _, _, rfl, by decide, uwX3, (mt2 212 rfl rfl), Or.inl rfl⟩
theorem fpX10_35_3 : FP RX10 35 3 4 .int false := ⟨_, _, _, _, tyX3, rfl, by decide, uwX3, (mt2 212 rfl rfl), Or.inl rfl, tyX3_ok, nmX3, by decide +kernel, rfl, fun h => by cases h⟩
theorem flX10_35_8 : FL RX10 35 8 4 := ⟨_, _, _, _, rfl, by decide, uwX8, (mt2 212 rfl rfl), Or.inl rfl⟩
theorem fpX10_35_8 : FP RX10 35 8 4 .int false := ⟨_, _, _, _, tyX8, rfl, by decide, uwX8, (mt2 212 rfl rfl), Or.inl rfl, tyX8_ok, nmX8, by decide +kernel, rfl, fun h => by cases h⟩
theorem flX10_35_9 : FL RX10 35 9 4 := ⟨_, _, _, _, rfl, by decide, uwX9, (mt2 212 rfl rfl), Or.inl rfl⟩
theorem fpX10_35_9 : FP RX10 35 9 4 .int false := ⟨_, _, _, _, tyX9, rfl, by decide, uwX9, (mt2 212 rfl rfl), Or.inl rfl, tyX9_ok, nmX9, by decide +kernel, rfl, fun h => by cases h⟩
theorem flX11_157_0 : FL RX11 157 0 4 := ⟨_, _, _, _, rfl, by decide, uwX0, (mt2 213 rfl rfl), Or.inl rfl⟩
theorem fpX11_157_0 : FP RX11 157 0 4 .int false := ⟨_, _, _, _, tyX0, rfl, by decide, uwX0, (mt2 213 rfl rfl), Or.inl rfl, tyX0_ok, nmX0, by decide +kernel, rfl, fun h => by cases h⟩
theorem flX11_157_1 : FL RX11 157 1 4 := ⟨_, _, _, _, rfl, by decide, uwX1, (mt2 213 rfl rfl), Or.inl rfl⟩
theorem fpX11_157_1 : FP RX11 157 1 4 .int false := ⟨_, _, _, _, tyX1, rfl, by decide, uwX1, (mt2 213 rfl rfl), Or.inl rfl, tyX1_ok, nmX1, by decide +kernel, rfl, fun h => by cases h⟩
theorem flX11_157_2 : FL RX11 157 2 4 := ⟨_, _, _, _, rfl, by decide, uwX2, (mt2 213 rfl rfl), Or.inl rfl⟩
theorem fpX11_157_2 : FP RX11 157 2 4 .int false := ⟨_, _, _, _, tyX2, rfl, by decide, uwX2, (mt2 213 rfl rfl), Or.inl rfl, tyX2_ok, nmX2, by decide +kernel, rfl, fun h => by cases h⟩
theorem flX11_157_3 : FL RX11 157 3 4 := ⟨_, _, _, _, rfl, by decide, uwX3, (mt2 213 rfl rfl), Or.inl rfl⟩
theorem fpX11_157_3 : FP RX11 157 3 4 .int false := ⟨_, _, _, _, tyX3, rfl, by decide, uwX3, (mt2 213 rfl rfl), Or.inl rfl, tyX3_ok, nmX3, by decide +kernel, rfl, fun h => by cases h⟩
theorem flX11_157_8 : FL RX11 157 8 4 := ⟨_, _, _, _, rfl, by decide, uwX8, (mt2 213 rfl rfl), Or.inl rfl⟩
theorem fpX11_157_8 : FP RX11 157 8 4 .int false := ⟨_, _, _, _, tyX8, rfl, by decide, uwX8, (mt2 213 rfl rfl), Or.inl rfl, tyX8_ok, nmX8, by decide +kernel, rfl, fun h => by cases h⟩
theorem flX11_157_9 : FL RX11 157 9 4 := ⟨_, _, _, _, rfl, by decide, uwX9, (mt2 213 rfl rfl), Or.inl rfl⟩
theorem fpX11_157_9 : FP RX11 157 9 4 .int false := ⟨_, _, _, _, tyX9, rfl, by decide, uwX9, (mt2 213 rfl rfl), Or.inl rfl, tyX9_ok, nmX9, by decide +kernel, rfl, fun h => by cases h⟩
theorem flX6_122_0 : FL RX6 122 0 4 := ⟨_, _, _, _, rfl, by decide, uwX0, (mt2 214 rfl rfl), Or.inl rfl⟩
theorem fpX6_122_0 : FP RX6 122 0 4 .int false := ⟨_, _, _, _, tyX0, rfl, by decide, uwX0, (mt2 214 rfl rfl), Or.inl rfl, tyX0_ok, nmX0, by decide +kernel, rfl, fun h => by cases h⟩
theorem flX6_122_1 : FL RX6 122 1 4 := ⟨_, _, _, _, rfl, by decide, uwX1, (mt2 214 rfl rfl), Or.inl rfl⟩
theorem fpX6_122_1 : FP RX6 122 1 4 .int false := ⟨_, _, _, _, tyX1, rfl, by decide, uwX1, (mt2 214 rfl rfl), Or.inl rfl, tyX1_ok, nmX1, by decide +kernel, rfl, fun h => by cases h⟩
theorem flX6_122_2 : FL RX6 122 2 4 := ⟨_, _, _, _, rfl, by decide, uwX2, (mt2 214 rfl rfl), Or.inl rfl⟩
theorem fpX6_122_2 : FP RX6 122 2 4 .int false := ⟨_, _, _, _, tyX2, rfl, by decide, uwX2, (mt2 214 rfl rfl), Or.inl rfl, tyX2_ok, nmX2, by decide +kernel, rfl, fun h => by cases h⟩
theorem flX6_122_3 : FL RX6 122 3 4 := ⟨_, _, _, _, rfl, by decide, uwX3, (mt2 214 rfl rfl), Or.inl rfl⟩
theorem fpX6_122_3 : FP RX6 122 3 4 .int false := ⟨_, _, _, _, tyX3, rfl, by decide, uwX3, (mt2 214 rfl rfl), Or.inl rfl, tyX3_ok, nmX3, by decide +kernel, rfl, fun h => by cases h⟩
theorem flX6_122_8 : FL RX6 122 8 4 := ⟨_, _, _, _, rfl, by decide, uwX8, (mt2 214 rfl rfl), Or.inl rfl⟩
theorem fpX6_122_8 : FP RX6 122 8 4 .int false := ⟨_, _, _, _, tyX8, rfl, by decide, uwX8, (mt2 214 rfl rfl), Or.inl rfl, tyX8_ok, nmX8, by decide +kernel, rfl, fun h => by cases h⟩
theorem flX6_122_9 : FL RX6 122 9 4 := ⟨_, _, _, _, rfl, by decide, uwX9, (mt2 214 rfl rfl), Or.inl rfl⟩
theorem fpX6_122_9 : FP RX6 122 9 4 .int false := ⟨_, _, _, _, tyX9, rfl, by decide, uwX9, (mt2 214 rfl rfl), Or.inl rfl, tyX9_ok, nmX9, by decide +kernel, rfl, fun h => by cases h⟩
theorem flX5_70_0 : FL RX5 70 0 4 := ⟨_, _, _, _, rfl, by decide, uwX0, (mt2 215 rfl rfl), Or.inl rfl⟩
theorem fpX5_70_0 : FP RX5 70 0 4 .int false := ⟨_, _, _, _, tyX0, rfl, by decide, uwX0, (mt2 215 rfl rfl), Or.inl rfl, tyX0_ok, nmX0, by decide +kernel, rfl, fun h => by cases h⟩
theorem flX5_70_1 : FL RX5 70 1 4 := ⟨_, _, _, _, rfl, by decide, uwX1, (mt2 215 rfl rfl), Or.inl rfl⟩
theorem fpX5_70_1 : FP RX5 70 1 4 .int false := ⟨_, _, _, _, tyX1, rfl, by decide, uwX1, (mt2 215 rfl rfl), Or.inl rfl, tyX1_ok, nmX1, by decide +kernel, rfl, fun h => by cases h⟩
theorem flX5_70_2 : FL RX5 70 2 4 := ⟨_, _, _, _, rfl, by decide, uwX2, (mt2 215 rfl rfl), Or.inl rfl⟩
theorem fpX5_70_2 : FP RX5 70 2 4 .int false := ⟨_, _, _, _, tyX2, rfl, by decide, uwX2, (mt2 215 rfl rfl), Or.inl rfl, tyX2_ok, nmX2, by decide +kernel, rfl, fun h => by cases h⟩
theorem flX5_70_3 : FL RX5 70 3 4 := ⟨_, _, _, _, rfl, by decide, uwX3, (mt2 215 rfl rfl), Or.inl rfl⟩
theorem fpX5_70_3 : FP RX5 70 3 4 .int false := ⟨_, _, _, _, tyX3, rfl, by decide, uwX3, (mt2 215 rfl rfl), Or.inl rfl, tyX3_ok, nmX3, by decide +kernel, rfl, fun h => by cases h⟩
theorem flX5_70_8 : FL RX5 70 8 4 := ⟨_, _, _, _, rfl, by decide, uwX8, (mt2 215 rfl rfl), Or.inl rfl⟩
theorem fpX5_70_8 : FP RX5 70 8 4 .int false := ⟨_, _, _, _, tyX8, rfl, by decide, uwX8, (mt2 215 rfl rfl), Or.inl rfl, tyX8_ok, nmX8, by decide +kernel, rfl, fun h => by cases h⟩
theorem flX5_70_9 : FL RX5 70 9 4 := ⟨_, _, _, _, rfl, by decide, uwX9, (mt2 215 rfl rfl), Or.inl rfl⟩
theorem fpX5_70_9 : FP RX5 70 9 4 .int false := ⟨_, _, _, _, tyX9, rfl, by decide, uwX9, (mt2 215 rfl rfl), Or.inl rfl, tyX9_ok, nmX9, by decide +kernel, rfl, fun h => by cases h⟩
theorem flX12_7_12 : FL RX12 7 12 0 := ⟨_, _, _, _, rfl, by decide, uwX12, (mt5 7 rfl rfl), Or.inl rfl⟩
theorem fpX12_7_12 : FP RX12 7 12 0 (.array .int) true := ⟨_, _, _, _, tyX12, rfl, by decide, uwX12, (mt5 7 rfl rfl), Or.inl rfl, tyX12_ok, nmX12, by decide +kernel, rfl, fun _ => rfl⟩
theorem flX12_13_12 : FL RX12 13 12 1 := ⟨_, _, _, _, rfl, by decide, uwX12, (mt5 8 rfl rfl), Or.inl rfl⟩
theorem fpX12_13_12 : FP RX12 13 12 1 (.array .int) true := ⟨_, _, _, _, tyX12, rfl, by decide, uwX12, (mt5 8 rfl rfl), Or.inl rfl, tyX12_ok, nmX12, by decide +kernel, rfl, fun _ => rfl⟩
theorem flX12_16_12 : FL RX12 16 12 2 := ⟨_, _, _, _, rfl, by decide, uwX12, (mt5 9 rfl rfl), Or.inl rfl⟩
theorem fpX12_16_12 : FP RX12 16 12 2 (.array .int) true := ⟨_, _, _, _, tyX12, rfl, by decide, uwX12, (mt5 9 rfl rfl), Or.inl rfl, tyX12_ok, nmX12, by decide +kernel, rfl, fun _ => rfl⟩
theorem flX12_19_12 : FL RX12 19 12 3 := ⟨_, _, _, _, rfl, by decide, uwX12, (mt5 10 rfl rfl), Or.inl rfl⟩
theorem fpX12_19_12 : FP RX12 19 12 3 (.array .int) true := ⟨_, _, _, _, tyX12, rfl, by decide, uwX12, (mt5 10 rfl rfl), Or.inl rfl, tyX12_ok, nmX12, by decide +kernel, rfl, fun _ => rfl⟩
theorem flX12_22_12 : FL RX12 22 12 4 := ⟨_, _, _, _, rfl, by decide, uwX12, (mt5 11 rfl rfl), Or.inl rfl⟩
theorem fpX12_22_12 : FP RX12 22 12 4 (.array .int) true := ⟨_, _, _, _, tyX12, rfl, by decide, uwX12, (mt5 11 rfl rfl), Or.inl rfl, tyX12_ok, nmX12, by decide +kernel, rfl, fun _ => rfl⟩
theorem flX12_25_12 : FL RX12 25 12 5 := ⟨_, _, _, _, rfl, by decide, uwX12, (mt5 12 rfl rfl), Or.inl rfl⟩
theorem fpX12_25_12 : FP RX12 25 12 5 (.array .int) true := ⟨_, _, _, _, tyX12, rfl, by decide, uwX12, (mt5 12 rfl rfl), Or.inl rfl, tyX12_ok, nmX12, by decide +kernel, rfl, fun _ => rfl⟩
theorem flX12_28_12 : FL RX12 28 12 6 := ⟨_, _, _, _, rfl, by decide, uwX12, (mt5 13 rfl rfl), Or.inl rfl⟩
theorem fpX12_28_12 : FP RX12 28 12 6 (.array .int) true := ⟨_, _, _, _, tyX12, rfl, by decide, uwX12, (mt5 13 rfl rfl), Or.inl rfl, tyX12_ok, nmX12, by decide +kernel, rfl, fun _ => rfl⟩
theorem flX12_82_12 : FL RX12 82 12 7 := ⟨_, _, _, _, rfl, by decide, uwX12, (mt5 14 rfl rfl), Or.inl rfl⟩
theorem fpX12_82_12 : FP RX12 82 12 7 .int false := ⟨_, _, _, _, tyX12, rfl, by decide, uwX12, (mt5 14 rfl rfl), Or.inl rfl, tyX12_ok, nmX12, by decide +kernel, rfl, fun h => by cases h⟩
theorem flX12_165_12 : FL RX12 165 12 8 := ⟨_, _, _, _, rfl, by decide, uwX12, (mt5 15 rfl rfl), Or.inl rfl⟩
theorem fpX12_165_12 : FP RX12 165 12 8 .int false := ⟨_, _, _, _, tyX12, rfl, by decide, uwX12, (mt5 15 rfl rfl), Or.inl rfl, tyX12_ok, nmX12, by decide +kernel, rfl, fun h => by cases h⟩
theorem flX12_32_12 : FL RX12 32 12 9 := ⟨_, _, _, _, rfl, by decide, uwX12, (mt5 16 rfl rfl), Or.inl rfl⟩
theorem fpX12_32_12 : FP RX12 32 12 9 (.array (.array .int)) true := ⟨_, _, _, _, tyX12, rfl, by decide, uwX12, (mt5 16 rfl rfl), Or.inl rfl, tyX12_ok, nmX12, by decide +kernel, rfl, fun _ => rfl⟩
theorem flX12_36_12 : FL RX12 36 12 10 := ⟨_, _, _, _, rfl, by decide, uwX12, (mt5 17 rfl rfl), Or.inl rfl⟩
theorem fpX12_36_12 : FP RX12 36 12 10 (.array .int) true := ⟨_, _, _, _, tyX12, rfl, by decide, uwX12, (mt5 17 rfl rfl), Or.inl rfl, tyX12_ok, nmX12, by decide +kernel, rfl, fun _ => rfl⟩
theorem flX12_39_12 : FL RX12 39 12 11 := ⟨_, _, _, _, rfl, by decide, uwX12, (mt5 18 rfl rfl), Or.inl rfl⟩
theorem fpX12_39_12 : FP RX12 39 12 11 (.array .int) true := ⟨_, _, _, _, tyX12, rfl, by decide, uwX12, (mt5 18 rfl rfl), Or.inl rfl, tyX12_ok, nmX12, by decide +kernel, rfl, fun _ => rfl⟩
theorem flX12_42_12 : FL RX12 42 12 12 := ⟨_, _, _, _, rfl, by decide, uwX12, (mt5 19 rfl rfl), Or.inl rfl⟩
theorem fpX12_42_12 : FP RX12 42 12 12 (.array .int) true := ⟨_, _, _, _, tyX12, rfl, by decide, uwX12, (mt5 19 rfl rfl), Or.inl rfl, tyX12_ok, nmX12, by decide +kernel, rfl, fun _ => rfl⟩
theorem flX12_45_12 : FL RX12 45 12 13 := ⟨_, _, _, _, rfl, by decide, uwX12, (mt5 20 rfl rfl), Or.inl rfl⟩
theorem fpX12_45_12 : FP RX12 45 12 13 (.array .int) true := ⟨_, _, _, _, tyX12, rfl, by decide, uwX12, (mt5 20 rfl rfl), Or.inl rfl, tyX12_ok, nmX12, by decide +kernel, rfl, fun _ => rfl⟩
theorem flX12_48_12 : FL RX12 48 12 14 := ⟨_, _, _, _, rfl, by decide, uwX12, (mt5 21 rfl rfl), Or.inl rfl⟩
theorem fpX12_48_12 : FP RX12 48 12 14 (.array .int) true := ⟨_, _, _, _, tyX12, rfl, by decide, uwX12, (mt5 21 rfl rfl), Or.inl rfl, tyX12_ok, nmX12, by decide +kernel, rfl, fun _ => rfl⟩
theorem flX12_96_12 : FL RX12 96 12 15 := ⟨_, _, _, _, rfl, by decide, uwX12, (mt5 22 rfl rfl), Or.inl rfl⟩
theorem fpX12_96_12 : FP RX12 96 12 15 .int false := ⟨_, _, _, _, tyX12, rfl, by decide, uwX12, (mt5 22 rfl rfl), Or.inl rfl, tyX12_ok, nmX12, by decide +kernel, rfl, fun h => by cases h⟩
theorem flX12_51_12 : FL RX12 51 12 16 := ⟨_, _, _, _, rfl, by decide, uwX12, (mt5 23 rfl rfl), Or.inl rfl⟩
theorem fpX12_51_12 : FP RX12 51 12 16 .int false := ⟨_, _, _, _, tyX12, rfl, by decide, uwX12, (mt5 23 rfl rfl), Or.inl rfl, tyX12_ok, nmX12, by decide +kernel, rfl, fun h => by cases h⟩
theorem flX12_99_12 : FL RX12 99 12 17 := ⟨_, _, _, _, rfl, by decide, uwX12, (mt5 24 rfl rfl), Or.inl rfl⟩
theorem fpX12_99_12 : FP RX12 99 12 17 .int false := ⟨_, _, _, _, tyX12, rfl, by decide, uwX12, (mt5 24 rfl rfl), Or.inl rfl, tyX12_ok, nmX12, by decide +kernel, rfl, fun h => by cases h⟩
theorem flX12_109_12 : FL RX12 109 12 18 := ⟨_, _, _, _, rfl, by decide, uwX12, (mt5 25 rfl rfl), Or.inl rfl⟩
theorem fpX12_109_12 : FP RX12 109 12 18 .int false := ⟨_, _, _, _, tyX12, rfl, by decide, uwX12, (mt5 25 rfl rfl), Or.inl rfl, tyX12_ok, nmX12, by decide +kernel, rfl, fun h => by cases h⟩
theorem flX12_102_12 : FL RX12 102 12 19 := ⟨_, _, _, _, rfl, by decide, uwX12, (mt5 26 rfl rfl), Or.inl rfl⟩
theorem fpX12_102_12 : FP RX12 102 12 19 .int false := ⟨_, _, _, _, tyX12, rfl, by decide, uwX12, (mt5 26 rfl rfl), Or.inl rfl, tyX12_ok, nmX12, by decide +kernel, rfl, fun h => by cases h⟩
theorem flX12_112_12 : FL RX12 112 12 20 := ⟨_, _, _, _, rfl, by decide, uwX12, (mt5 27 rfl rfl), Or.inl rfl⟩
theorem fpX12_112_12 : FP RX12 112 12 20 .int false := ⟨_, _, _, _, tyX12, rfl, by decide, uwX12, (mt5 27 rfl rfl), Or.inl rfl, tyX12_ok, nmX12, by decide +kernel, rfl, fun h => by cases h⟩
theorem flX12_126_12 : FL RX12 126 12 21 := ⟨_, _, _, _, rfl, by decide, uwX12, (mt5 28 rfl rfl), Or.inl rfl⟩
theorem fpX12_126_12 : FP RX12 126 12 21 .int false := ⟨_, _, _, _, tyX12, rfl, by decide, uwX12, (mt5 28 rfl rfl), Or.inl rfl, tyX12_ok, nmX12, by decide +kernel, rfl, fun h => by cases h⟩
theorem flX12_123_12 : FL RX12 123 12 22 := ⟨_, _, _, _, rfl, by decide, uwX12, (mt5 29 rfl rfl), Or.inl rfl⟩
theorem fpX12_123_12 : FP RX12 123 12 22 .int false := ⟨_, _, _, _, tyX12, rfl, by decide, uwX12, (mt5 29 rfl rfl), Or.inl rfl, tyX12_ok, nmX12, by decide +kernel, rfl, fun h => by cases h⟩
theorem flX12_85_12 : FL RX12 85 12 23 := ⟨_, _, _, _, rfl, by decide, uwX12, (mt5 30 rfl rfl), Or.inl rfl⟩
theorem fpX12_85_12 : FP RX12 85 12 23 .int false := ⟨_, _, _, _, tyX12, rfl, by decide, uwX12, (mt5 30 rfl rfl), Or.inl rfl, tyX12_ok, nmX12, by decide +kernel, rfl, fun h => by cases h⟩
theorem flX12_55_12 : FL RX12 55 12 24 := ⟨_, _, _, _, rfl, by decide, uwX12, (mt5 31 rfl rfl), Or.inl rfl⟩
theorem fpX12_55_12 : FP RX12 55 12 24 (.array .int) true := ⟨_, _, _, _, tyX12, rfl, by decide, uwX12, (mt5 31 rfl rfl), Or.inl rfl, tyX12_ok, nmX12, by decide +kernel, rfl, fun _ => rfl⟩
theorem flX12_58_12 : FL RX12 58 12 25 := ⟨_, _, _, _, rfl, by decide, uwX12, (mt5 32 rfl rfl), Or.inl rfl⟩
theorem fpX12_58_12 : FP RX12 58 12 25 (.array .int) true := ⟨_, _, _, _, tyX12, rfl, by decide, uwX12, (mt5 32 rfl rfl), Or.inl rfl, tyX12_ok, nmX12, by decide +kernel, rfl, fun _ => rfl⟩
theorem flX12_208_12 : FL RX12 208 12 26 := ⟨_, _, _, _, rfl, by decide, uwX12, (mt5 33 rfl rfl), Or.inl rfl⟩
theorem fpX12_208_12 : FP RX12 208 12 26 .int false := ⟨_, _, _, _, tyX12, rfl, by decide, uwX12, (mt5 33 rfl rfl), Or.inl rfl, tyX12_ok, nmX12, by decide +kernel, rfl, fun h => by cases h⟩
theorem flX12_211_12 : FL RX12 211 12 27 := ⟨_, _, _, _, rfl, by decide, uwX12, (mt5 34 rfl rfl), Or.inl rfl⟩
theorem fpX12_211_12 : FP RX12 211 12 27 .int false := ⟨_, _, _, _, tyX12, rfl, by decide, uwX12, (mt5 34 rfl rfl), Or.inl rfl, tyX12_ok, nmX12, by decide +kernel, rfl, fun h => by cases h⟩
theorem flX12_61_12 : FL RX12 61 12 28 := ⟨_, _, _, _, rfl, by decide, uwX12, (mt5 35 rfl rfl), Or.inl rfl⟩
theorem fpX12_61_12 : FP RX12 61 12 28 (.array .int) true := ⟨_, _, _, _, tyX12, rfl, by decide, uwX12, (mt5 35 rfl rfl), Or.inl rfl, tyX12_ok, nmX12, by decide +kernel, rfl, fun _ => rfl⟩
theorem flX12_64_12 : FL RX12 64 12 29 := ⟨_, _, _, _, rfl, by decide, uwX12, (mt5 36 rfl rfl), Or.inl rfl⟩
theorem fpX12_64_12 : FP RX12 64 12 29 (.array .int) true := ⟨_, _, _, _, tyX12, rfl, by decide, uwX12, (mt5 36 rfl rfl), Or.inl rfl, tyX12_ok, nmX12, by decide +kernel, rfl, fun _ => rfl⟩
theorem flX12_294_12 : FL RX12 294 12 30 := ⟨_, _, _, _, rfl, by decide, uwX12, (mt5 37 rfl rfl), Or.inl rfl⟩
theorem fpX12_294_12 : FP RX12 294 12 30 .boolean false := ⟨_, _, _, _, tyX12, rfl, by decide, uwX12, (mt5 37 rfl rfl), Or.inl rfl, tyX12_ok, nmX12, by decide +kernel, rfl, fun h => by cases h⟩
theorem flX12_280_12 : FL RX12 280 12 31 := ⟨_, _, _, _, rfl, by decide, uwX12, (mt5 38 rfl rfl), Or.inl rfl⟩
theorem fpX12_280_12 : FP RX12 280 12 31 .boolean false := ⟨_, _, _, _, tyX12, rfl, by decide, uwX12, (mt5 38 rfl rfl), Or.inl rfl, tyX12_ok, nmX12, by decide +kernel, rfl, fun h => by cases h⟩
theorem flX12_284_12 : FL RX12 284 12 32 := ⟨_, _, _, _, rfl, by decide, uwX12, (mt5 39 rfl rfl), Or.inl rfl⟩
theorem fpX12_284_12 : FP RX12 284 12 32 .int false := ⟨_, _, _, _, tyX12, rfl, by decide, uwX12, (mt5 39 rfl rfl), Or.inl rfl, tyX12_ok, nmX12, by decide +kernel, rfl, fun h => by cases h⟩
theorem flX12_67_12 : FL RX12 67 12 33 := ⟨_, _, _, _, rfl, by decide, uwX12, (mt5 40 rfl rfl), Or.inl rfl⟩
theorem fpX12_67_12 : FP RX12 67 12 33 (.array .int) true := ⟨_, _, _, _, tyX12, rfl, by decide, uwX12, (mt5 40 rfl rfl), Or.inl rfl, tyX12_ok, nmX12, by decide +kernel, rfl, fun _ => rfl⟩
theorem flX12_70_12 : FL RX12 70 12 34 := ⟨_, _, _, _, rfl, by decide, uwX12, (mt5 41 rfl rfl), Or.inl rfl⟩
theorem fpX12_70_12 : FP RX12 70 12 34 (.array .int) true := ⟨_, _, _, _, tyX12, rfl, by decide, uwX12, (mt5 41 rfl rfl), Or.inl rfl, tyX12_ok, nmX12, by decide +kernel, rfl, fun _ => rfl⟩
theorem flX12_73_12 : FL RX12 73 12 35 := ⟨_, _, _, _, rfl, by decide, uwX12, (mt5 42 rfl rfl), Or.inl rfl⟩
theorem fpX12_73_12 : FP RX12 73 12 35 (.array .int) true := ⟨_, _, _, _, tyX12, rfl, by decide, uwX12, (mt5 42 rfl rfl), Or.inl rfl, tyX12_ok, nmX12, by decide +kernel, rfl, fun _ => rfl⟩
theorem flX12_76_12 : FL RX12 76 12 36 := ⟨_, _, _, _, rfl, by decide, uwX12, (mt5 43 rfl rfl), Or.inl rfl⟩
theorem fpX12_76_12 : FP RX12 76 12 36 (.array .int) true := ⟨_, _, _, _, tyX12, rfl, by decide, uwX12, (mt5 43 rfl rfl), Or.inl rfl, tyX12_ok, nmX12, by decide +kernel, rfl, fun _ => rfl⟩
-- wI stands in 07w
