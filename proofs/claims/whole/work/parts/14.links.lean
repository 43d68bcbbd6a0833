theorem mt_t : ∀ w, w ∈ tables_1 → w ∈ lw_tbl := fun w h => List.mem_append_right _ h
theorem mt_0 : ∀ w, w ∈ k2_sels lw_privs → w ∈ lw_tbl := fun w h => List.mem_append_left _ h
theorem mt_1 : ∀ w, w ∈ tables_1_1 → w ∈ lw_tbl := fun w h => mt_t w (List.mem_append_left _ h)
theorem mt_2 : ∀ w, w ∈ tables_1_2 → w ∈ lw_tbl := fun w h => mt_t w (List.mem_append_right _ (List.mem_append_left _ h))
theorem mt_3 : ∀ w, w ∈ tables_1_3 → w ∈ lw_tbl := fun w h => mt_t w (List.mem_append_right _ (List.mem_append_right _ (List.mem_append_left _ h)))
theorem mt_4 : ∀ w, w ∈ tables_1_4 → w ∈ lw_tbl := fun w h => mt_t w (List.mem_append_right _ (List.mem_append_right _ (List.mem_append_right _ (List.mem_append_left _ h))))
theorem mt_5 : ∀ w, w ∈ tables_1_5 → w ∈ lw_tbl := fun w h => mt_t w (List.mem_append_right _ (List.mem_append_right _ (List.mem_append_right _ (List.mem_append_right _ (List.mem_append_left _ h)))))
theorem mt_6 : ∀ w, w ∈ tables_1_6 → w ∈ lw_tbl := fun w h => mt_t w (List.mem_append_right _ (List.mem_append_right _ (List.mem_append_right _ (List.mem_append_right _ (List.mem_append_right _ (List.mem_append_left _ h))))))
theorem mt_7 : ∀ w, w ∈ tables_1_7 → w ∈ lw_tbl := fun w h => mt_t w (List.mem_append_right _ (List.mem_append_right _ (List.mem_append_right _ (List.mem_append_right _ (List.mem_append_right _ (List.mem_append_right _ (h)))))))
abbrev M_X8_init : MT := (yX8_init, cX8_init, 2, none)
abbrev M_X0_init : MT := (yX0_init, cX0_init, 2, none)
abbrev M_X1_init : MT := (yX1_init, cX1_init, 1, none)
abbrev M_J7_fill_53178 : MT := (yJ7_fill_53178, cJ7_fill_53178, 4, none)
abbrev M_X2_init : MT := (yX2_init, cX2_init, 1, none)
abbrev M_X7_init : MT := (yX7_init, cX7_init, 1, none)
abbrev M_X5_init : MT := (yX5_init, cX5_init, 1, none)
abbrev M_X3_init : MT := (yX3_init, cX3_init, 1, none)
abbrev M_X4_init : MT := (yX4_init, cX4_init, 1, none)
abbrev M_X8_man : MT := (yX8_man, cX8_man, 5, (some .int))
abbrev M_X8_isWithin : MT := (yX8_isWithin, cX8_isWithin, 3, (some .boolean))
abbrev M_X0_take : MT := (yX0_take, cX0_take, 6, (some .int))
abbrev M_X8_told : MT := (yX8_told, cX8_told, 4, (some .int))
abbrev M_X0_has : MT := (yX0_has, cX0_has, 2, (some .boolean))
abbrev M_X1_pushing : MT := (yX1_pushing, cX1_pushing, 1, (some .int))
abbrev M_X1_worth : MT := (yX1_worth, cX1_worth, 1, (some .int))
abbrev M_X8_bears : MT := (yX8_bears, cX8_bears, 3, (some .int))
abbrev M_X0_bearing : MT := (yX0_bearing, cX0_bearing, 5, (some .int))
abbrev M_X0_standing : MT := (yX0_standing, cX0_standing, 1, (some .int))
abbrev M_X0_standingSet : MT := (yX0_standingSet, cX0_standingSet, 3, (some .int))
abbrev M_J6_bitCount_0f7a4 : MT := (yJ6_bitCount_0f7a4, cJ6_bitCount_0f7a4, 1, (some .int))
abbrev M_X0_plainBearing : MT := (yX0_plainBearing, cX0_plainBearing, 5, (some .int))
abbrev M_X0_counted : MT := (yX0_counted, cX0_counted, 3, (some (.object "SkittleMen$Text")))
abbrev M_X6_gives : MT := (yX6_gives, cX6_gives, 8, (some .int))
abbrev M_X6_chosen : MT := (yX6_chosen, cX6_chosen, 5, (some .int))
abbrev M_X6_joined : MT := (yX6_joined, cX6_joined, 3, (some .int))
abbrev M_X8_held : MT := (yX8_held, cX8_held, 2, (some .int))
abbrev M_J9_min_7cf53 : MT := (yJ9_min_7cf53, cJ9_min_7cf53, 2, (some .int))
abbrev M_J9_max_7cf53 : MT := (yJ9_max_7cf53, cJ9_max_7cf53, 2, (some .int))
abbrev M_X1_bearing : MT := (yX1_bearing, cX1_bearing, 7, (some .int))
abbrev M_X8_as : MT := (yX8_as, cX8_as, 3, (some .int))
abbrev M_X1_isOf : MT := (yX1_isOf, cX1_isOf, 4, (some .boolean))
abbrev M_X8_turns : MT := (yX8_turns, cX8_turns, 4, (some .int))
abbrev M_X8_set : MT := (yX8_set, cX8_set, 6, (some .int))
abbrev M_X8_mostOf : MT := (yX8_mostOf, cX8_mostOf, 1, (some .int))
abbrev M_X8_says : MT := (yX8_says, cX8_says, 6, (some .int))
abbrev M_X0_stands : MT := (yX0_stands, cX0_stands, 2, (some .boolean))
abbrev M_X0_hit : MT := (yX0_hit, cX0_hit, 7, none)
abbrev M_X8_sets : MT := (yX8_sets, cX8_sets, 2, (some .int))
abbrev M_X0_setUp : MT := (yX0_setUp, cX0_setUp, 2, none)
abbrev M_X8_deal : MT := (yX8_deal, cX8_deal, 4, (some .int))
abbrev M_X0_takeByLot : MT := (yX0_takeByLot, cX0_takeByLot, 4, none)
abbrev M_X0_draw : MT := (yX0_draw, cX0_draw, 1, (some .int))
abbrev M_X8_seed : MT := (yX8_seed, cX8_seed, 3, (some .int))
abbrev M_X8_goes : MT := (yX8_goes, cX8_goes, 3, (some .int))
abbrev M_X0_goOn : MT := (yX0_goOn, cX0_goOn, 3, none)
abbrev M_X0_goOnce : MT := (yX0_goOnce, cX0_goOnce, 5, none)
abbrev M_X0_firstStandingFrom : MT := (yX0_firstStandingFrom, cX0_firstStandingFrom, 4, (some .int))
abbrev M_X0_moveNerves : MT := (yX0_moveNerves, cX0_moveNerves, 3, none)
abbrev M_X8_alley : MT := (yX8_alley, cX8_alley, 2, (some .int))
abbrev M_X0_nerveOfAll : MT := (yX0_nerveOfAll, cX0_nerveOfAll, 3, (some .int))
abbrev M_X0_mostFelled : MT := (yX0_mostFelled, cX0_mostFelled, 3, (some .int))
abbrev M_X8_best : MT := (yX8_best, cX8_best, 3, (some .int))
abbrev M_X2_lookAt : MT := (yX2_lookAt, cX2_lookAt, 6, none)
abbrev M_X2_writeBearings : MT := (yX2_writeBearings, cX2_writeBearings, 6, none)
abbrev M_X2_bearingPlace : MT := (yX2_bearingPlace, cX2_bearingPlace, 3, (some .int))
abbrev M_X2_findBest : MT := (yX2_findBest, cX2_findBest, 6, none)
abbrev M_X2_isIn : MT := (yX2_isIn, cX2_isIn, 2, (some .boolean))
abbrev M_X2_fallsBy : MT := (yX2_fallsBy, cX2_fallsBy, 5, (some .boolean))
abbrev M_X2_leftBehind : MT := (yX2_leftBehind, cX2_leftBehind, 8, (some .int))
abbrev M_X2_offer : MT := (yX2_offer, cX2_offer, 5, none)
abbrev M_X8_pair : MT := (yX8_pair, cX8_pair, 2, (some .int))
abbrev M_X2_mostByTwo : MT := (yX2_mostByTwo, cX2_mostByTwo, 4, (some .int))
abbrev M_X2_startQueue : MT := (yX2_startQueue, cX2_startQueue, 1, none)
abbrev M_X2_queueAllBehind : MT := (yX2_queueAllBehind, cX2_queueAllBehind, 5, none)
abbrev M_X2_enqueue : MT := (yX2_enqueue, cX2_enqueue, 3, none)
abbrev M_X8_clear : MT := (yX8_clear, cX8_clear, 2, (some .int))
abbrev M_X2_fewestForAll : MT := (yX2_fewestForAll, cX2_fewestForAll, 2, (some .int))
abbrev M_X8_force : MT := (yX8_force, cX8_force, 4, (some .int))
abbrev M_X8_behind : MT := (yX8_behind, cX8_behind, 3, (some .int))
abbrev M_X0_becomeAs : MT := (yX0_becomeAs, cX0_becomeAs, 3, none)
abbrev M_X1_becomeAs : MT := (yX1_becomeAs, cX1_becomeAs, 2, none)
abbrev M_X8_falls : MT := (yX8_falls, cX8_falls, 3, (some .int))
abbrev M_X8_becomes : MT := (yX8_becomes, cX8_becomes, 8, (some .int))
abbrev M_X8_like : MT := (yX8_like, cX8_like, 5, (some .int))
abbrev M_X8_isSheet : MT := (yX8_isSheet, cX8_isSheet, 1, (some .boolean))
abbrev M_X3_isMissing : MT := (yX3_isMissing, cX3_isMissing, 1, (some .boolean))
abbrev M_X8_addDifferences : MT := (yX8_addDifferences, cX8_addDifferences, 4, none)
abbrev M_X3_isNumber : MT := (yX3_isNumber, cX3_isNumber, 2, (some .boolean))
abbrev M_X3_has : MT := (yX3_has, cX3_has, 2, (some .boolean))
abbrev M_J9_abs_0f7a4 : MT := (yJ9_abs_0f7a4, cJ9_abs_0f7a4, 1, (some .int))
abbrev M_X8_fee : MT := (yX8_fee, cX8_fee, 2, (some .int))
abbrev M_X8_fine : MT := (yX8_fine, cX8_fine, 4, (some .int))
abbrev M_X8_feed : MT := (yX8_feed, cX8_feed, 4, (some .int))
abbrev M_X5_put : MT := (yX5_put, cX5_put, 3, none)
abbrev M_X8_trim : MT := (yX8_trim, cX8_trim, 2, (some .int))
abbrev M_X8_text : MT := (yX8_text, cX8_text, 2, (some .int))
abbrev M_X7_faultFound : MT := (yX7_faultFound, cX7_faultFound, 2, (some .int))
abbrev M_X7_startAgain : MT := (yX7_startAgain, cX7_startAgain, 1, none)
abbrev M_X7_nextWord : MT := (yX7_nextWord, cX7_nextWord, 3, none)
abbrev M_X7_isWord : MT := (yX7_isWord, cX7_isWord, 1, (some .boolean))
abbrev M_X7_byteAt : MT := (yX7_byteAt, cX7_byteAt, 2, (some .int))
abbrev M_X7_sortAt : MT := (yX7_sortAt, cX7_sortAt, 3, (some .int))
abbrev M_X7_keyRead : MT := (yX7_keyRead, cX7_keyRead, 2, (some .int))
abbrev M_X7_wordOf : MT := (yX7_wordOf, cX7_wordOf, 1, (some (.object "java/lang/String")))
abbrev M_X7_isRead : MT := (yX7_isRead, cX7_isRead, 3, (some .boolean))
abbrev M_J0_length_8abf5 : MT := (yJ0_length_8abf5, cJ0_length_8abf5, 1, (some .int))
abbrev M_J0_coder_7d493 : MT := (yJ0_coder_7d493, cJ0_coder_7d493, 1, (some .byte))
abbrev M_J0_charAt_5068e : MT := (yJ0_charAt_5068e, cJ0_charAt_5068e, 2, (some .char))
abbrev M_J0_isLatin1_aae02 : MT := (yJ0_isLatin1_aae02, cJ0_isLatin1_aae02, 1, (some .boolean))
abbrev M_J1_charAt_3b067 : MT := (yJ1_charAt_3b067, cJ1_charAt_3b067, 2, (some .char))
abbrev M_J0_checkIndex_df160 : MT := (yJ0_checkIndex_df160, cJ0_checkIndex_df160, 2, none)
abbrev M_J3_checkIndex_8e157 : MT := (yJ3_checkIndex_8e157, cJ3_checkIndex_8e157, 3, (some .int))
abbrev M_J2_charAt_3b067 : MT := (yJ2_charAt_3b067, cJ2_charAt_3b067, 2, (some .char))
abbrev M_J2_checkIndex_2214a : MT := (yJ2_checkIndex_2214a, cJ2_checkIndex_2214a, 2, none)
abbrev M_J2_length_9d52b : MT := (yJ2_length_9d52b, cJ2_length_9d52b, 1, (some .int))
abbrev M_J2_getChar_3b067 : MT := (yJ2_getChar_3b067, cJ2_getChar_3b067, 2, (some .char))
abbrev M_X7_takesPiece : MT := (yX7_takesPiece, cX7_takesPiece, 2, (some .boolean))
abbrev M_X7_numberRead : MT := (yX7_numberRead, cX7_numberRead, 3, (some .int))
abbrev M_X7_takesValue : MT := (yX7_takesValue, cX7_takesValue, 2, (some .boolean))
abbrev M_X7_emit : MT := (yX7_emit, cX7_emit, 2, none)
abbrev M_X7_endPiece : MT := (yX7_endPiece, cX7_endPiece, 2, none)
abbrev M_X7_popSign : MT := (yX7_popSign, cX7_popSign, 1, none)
abbrev M_X7_namesOf : MT := (yX7_namesOf, cX7_namesOf, 1, (some (.object "java/lang/String")))
abbrev M_J0_indexOf_0f7a4 : MT := (yJ0_indexOf_0f7a4, cJ0_indexOf_0f7a4, 2, (some .int))
abbrev M_J0_indexOf_7cf53 : MT := (yJ0_indexOf_7cf53, cJ0_indexOf_7cf53, 3, (some .int))
abbrev M_J1_indexOf_4cfef : MT := (yJ1_indexOf_4cfef, cJ1_indexOf_4cfef, 4, (some .int))
abbrev M_J1_canEncode_9a6ad : MT := (yJ1_canEncode_9a6ad, cJ1_canEncode_9a6ad, 1, (some .boolean))
abbrev M_J1_indexOfChar_4cfef : MT := (yJ1_indexOfChar_4cfef, cJ1_indexOfChar_4cfef, 6, (some .int))
abbrev M_J2_indexOf_4cfef : MT := (yJ2_indexOf_4cfef, cJ2_indexOf_4cfef, 4, (some .int))
abbrev M_J2_indexOfChar_4cfef : MT := (yJ2_indexOfChar_4cfef, cJ2_indexOfChar_4cfef, 4, (some .int))
abbrev M_J2_checkBoundsBeginEnd_d044e : MT := (yJ2_checkBoundsBeginEnd_d044e, cJ2_checkBoundsBeginEnd_d044e, 3, none)
abbrev M_J0_checkBoundsBeginEnd_23922 : MT := (yJ0_checkBoundsBeginEnd_23922, cJ0_checkBoundsBeginEnd_23922, 3, none)
abbrev M_J3_checkFromToIndex_8c36e : MT := (yJ3_checkFromToIndex_8c36e, cJ3_checkFromToIndex_8c36e, 4, (some .int))
abbrev M_J2_indexOfCharUnsafe_4cfef : MT := (yJ2_indexOfCharUnsafe_4cfef, cJ2_indexOfCharUnsafe_4cfef, 5, (some .int))
abbrev M_J2_indexOfSupplementary_4cfef : MT := (yJ2_indexOfSupplementary_4cfef, cJ2_indexOfSupplementary_4cfef, 7, (some .int))
abbrev M_J11_isValidCodePoint_9a6ad : MT := (yJ11_isValidCodePoint_9a6ad, cJ11_isValidCodePoint_9a6ad, 2, (some .boolean))
abbrev M_J11_highSurrogate_5068e : MT := (yJ11_highSurrogate_5068e, cJ11_highSurrogate_5068e, 1, (some .char))
abbrev M_J11_lowSurrogate_5068e : MT := (yJ11_lowSurrogate_5068e, cJ11_lowSurrogate_5068e, 1, (some .char))
abbrev M_X7_pushes : MT := (yX7_pushes, cX7_pushes, 2, (some .boolean))
abbrev M_X7_takesJoining : MT := (yX7_takesJoining, cX7_takesJoining, 3, (some .boolean))
abbrev M_X7_closeParen : MT := (yX7_closeParen, cX7_closeParen, 1, none)
abbrev M_X7_popSignsFrom : MT := (yX7_popSignsFrom, cX7_popSignsFrom, 3, none)
abbrev M_X7_tightnessOf : MT := (yX7_tightnessOf, cX7_tightnessOf, 1, (some .int))
abbrev M_X7_made : MT := (yX7_made, cX7_made, 1, (some (.object "SkittleMen$Text")))
abbrev M_J7_copyOf_59c91 : MT := (yJ7_copyOf_59c91, cJ7_copyOf_59c91, 3, (some (.array .int)))
abbrev M_X6_init : MT := (yX6_init, cX6_init, 4, none)
abbrev M_X0_takeText : MT := (yX0_takeText, cX0_takeText, 2, (some .int))
abbrev M_X8_textTold : MT := (yX8_textTold, cX8_textTold, 4, (some .int))
abbrev M_X8_why : MT := (yX8_why, cX8_why, 2, (some .int))
abbrev M_X8_sheet : MT := (yX8_sheet, cX8_sheet, 4, (some .int))
abbrev M_X3_becomeRow : MT := (yX3_becomeRow, cX3_becomeRow, 3, none)
abbrev M_X8_mark : MT := (yX8_mark, cX8_mark, 5, (some .int))
abbrev M_X8_pour : MT := (yX8_pour, cX8_pour, 6, (some .int))
abbrev M_X8_reads : MT := (yX8_reads, cX8_reads, 4, (some .int))
abbrev M_X8_copy : MT := (yX8_copy, cX8_copy, 8, (some .int))
abbrev M_X3_hasRun : MT := (yX3_hasRun, cX3_hasRun, 3, (some .boolean))
abbrev M_X8_lay : MT := (yX8_lay, cX8_lay, 6, (some .int))
abbrev M_X8_isSlot : MT := (yX8_isSlot, cX8_isSlot, 1, (some .boolean))
abbrev M_X3_becomeAs : MT := (yX3_becomeAs, cX3_becomeAs, 2, none)
abbrev M_X8_ask : MT := (yX8_ask, cX8_ask, 4, (some .int))
abbrev M_X8_item : MT := (yX8_item, cX8_item, 4, (some .int))
abbrev M_X8_rest : MT := (yX8_rest, cX8_rest, 4, (some .int))
abbrev M_X8_tell : MT := (yX8_tell, cX8_tell, 2, (some .int))
abbrev M_X8_check : MT := (yX8_check, cX8_check, 6, (some .int))
abbrev M_X8_isTold : MT := (yX8_isTold, cX8_isTold, 4, (some .boolean))
abbrev M_X8_keep : MT := (yX8_keep, cX8_keep, 1, (some .int))
abbrev M_X8_back : MT := (yX8_back, cX8_back, 1, (some .int))
abbrev M_X8_count : MT := (yX8_count, cX8_count, 2, (some .int))
abbrev M_X9_init : MT := (yX9_init, cX9_init, 1, none)
abbrev M_X9_man : MT := (yX9_man, cX9_man, 5, (some .int))
abbrev M_X9_in : MT := (yX9_in, cX9_in, 3, (some .boolean))
abbrev M_X9_isTopic : MT := (yX9_isTopic, cX9_isTopic, 1, (some .boolean))
abbrev M_X9_comes : MT := (yX9_comes, cX9_comes, 6, (some .int))
abbrev M_X9_put : MT := (yX9_put, cX9_put, 4, none)
abbrev M_X9_told : MT := (yX9_told, cX9_told, 3, (some .int))
abbrev M_X9_isMan : MT := (yX9_isMan, cX9_isMan, 2, (some .boolean))
abbrev M_X9_of : MT := (yX9_of, cX9_of, 3, (some .int))
abbrev M_X9_pushesOf : MT := (yX9_pushesOf, cX9_pushesOf, 3, (some .int))
abbrev M_X9_worthOf : MT := (yX9_worthOf, cX9_worthOf, 4, (some .int))
abbrev M_X9_bears : MT := (yX9_bears, cX9_bears, 3, (some .int))
abbrev M_X9_bearsOf : MT := (yX9_bearsOf, cX9_bearsOf, 7, (some .int))
abbrev M_X9_plainBears : MT := (yX9_plainBears, cX9_plainBears, 3, (some .int))
abbrev M_X9_counts : MT := (yX9_counts, cX9_counts, 3, (some .int))
abbrev M_X9_standing : MT := (yX9_standing, cX9_standing, 3, (some .int))
abbrev M_X9_bits : MT := (yX9_bits, cX9_bits, 3, (some .int))
abbrev M_X9_worksOut : MT := (yX9_worksOut, cX9_worksOut, 6, (some .int))
abbrev M_X9_two : MT := (yX9_two, cX9_two, 3, (some .int))
abbrev M_X9_within : MT := (yX9_within, cX9_within, 3, (some .int))
abbrev M_X9_as : MT := (yX9_as, cX9_as, 3, (some .int))
abbrev M_X9_isUnder : MT := (yX9_isUnder, cX9_isUnder, 2, (some .boolean))
abbrev M_X9_turns : MT := (yX9_turns, cX9_turns, 3, (some .int))
abbrev M_X9_swaps : MT := (yX9_swaps, cX9_swaps, 4, (some .int))
abbrev M_X9_set : MT := (yX9_set, cX9_set, 4, (some .int))
abbrev M_X9_mostOf : MT := (yX9_mostOf, cX9_mostOf, 1, (some .int))
abbrev M_X9_says : MT := (yX9_says, cX9_says, 5, (some .int))
abbrev M_X9_doesStand : MT := (yX9_doesStand, cX9_doesStand, 2, (some .boolean))
abbrev M_X9_said : MT := (yX9_said, cX9_said, 6, (some .int))
abbrev M_X9_drops : MT := (yX9_drops, cX9_drops, 5, none)
abbrev M_X9_sets : MT := (yX9_sets, cX9_sets, 2, (some .int))
abbrev M_X9_setsUp : MT := (yX9_setsUp, cX9_setsUp, 2, none)
abbrev M_X9_deal : MT := (yX9_deal, cX9_deal, 7, (some .int))
abbrev M_X9_draw : MT := (yX9_draw, cX9_draw, 1, (some .int))
abbrev M_X9_seed : MT := (yX9_seed, cX9_seed, 2, (some .int))
abbrev M_X9_goes : MT := (yX9_goes, cX9_goes, 3, (some .int))
abbrev M_X9_goesOn : MT := (yX9_goesOn, cX9_goesOn, 3, none)
abbrev M_X9_aGo : MT := (yX9_aGo, cX9_aGo, 7, none)
abbrev M_X9_alley : MT := (yX9_alley, cX9_alley, 2, (some .int))
abbrev M_X9_nerves : MT := (yX9_nerves, cX9_nerves, 3, (some .int))
abbrev M_X9_mostFelled : MT := (yX9_mostFelled, cX9_mostFelled, 3, (some .int))
abbrev M_X9_best : MT := (yX9_best, cX9_best, 9, (some .int))
abbrev M_X9_thinks : MT := (yX9_thinks, cX9_thinks, 1, none)
abbrev M_X9_copyAll : MT := (yX9_copyAll, cX9_copyAll, 3, none)
abbrev M_X9_fellBy : MT := (yX9_fellBy, cX9_fellBy, 6, (some .int))
abbrev M_X9_letsStand : MT := (yX9_letsStand, cX9_letsStand, 5, none)
abbrev M_X9_putsBack : MT := (yX9_putsBack, cX9_putsBack, 1, none)
abbrev M_X9_pair : MT := (yX9_pair, cX9_pair, 7, (some .int))
abbrev M_X9_mostFrom : MT := (yX9_mostFrom, cX9_mostFrom, 6, (some .int))
abbrev M_X9_clear : MT := (yX9_clear, cX9_clear, 5, (some .int))
abbrev M_X9_goesFrom : MT := (yX9_goesFrom, cX9_goesFrom, 5, none)
abbrev M_X9_force : MT := (yX9_force, cX9_force, 4, (some .int))
abbrev M_X9_behind : MT := (yX9_behind, cX9_behind, 4, (some .int))
abbrev M_X9_falls : MT := (yX9_falls, cX9_falls, 4, (some .int))
abbrev M_X9_becomes : MT := (yX9_becomes, cX9_becomes, 8, (some .int))
abbrev M_X9_like : MT := (yX9_like, cX9_like, 7, (some .int))
abbrev M_X9_isSheet : MT := (yX9_isSheet, cX9_isSheet, 1, (some .boolean))
abbrev M_X9_off : MT := (yX9_off, cX9_off, 1, (some .int))
abbrev M_X9_fee : MT := (yX9_fee, cX9_fee, 2, (some .int))
abbrev M_X9_fine : MT := (yX9_fine, cX9_fine, 3, (some .int))
abbrev M_X9_feed : MT := (yX9_feed, cX9_feed, 6, (some .int))
abbrev M_X9_trim : MT := (yX9_trim, cX9_trim, 2, (some .int))
abbrev M_X9_text : MT := (yX9_text, cX9_text, 4, (some .int))
abbrev M_X9_go : MT := (yX9_go, cX9_go, 2, none)
abbrev M_X9_isLetter : MT := (yX9_isLetter, cX9_isLetter, 2, (some .boolean))
abbrev M_X9_isFigure : MT := (yX9_isFigure, cX9_isFigure, 2, (some .boolean))
abbrev M_X9_takesKey : MT := (yX9_takesKey, cX9_takesKey, 5, (some .boolean))
abbrev M_X9_takesE : MT := (yX9_takesE, cX9_takesE, 5, (some .boolean))
abbrev M_X9_takesPart : MT := (yX9_takesPart, cX9_takesPart, 2, (some .boolean))
abbrev M_X9_nameOf : MT := (yX9_nameOf, cX9_nameOf, 2, (some .int))
abbrev M_X9_settle : MT := (yX9_settle, cX9_settle, 2, none)
abbrev M_X9_rank : MT := (yX9_rank, cX9_rank, 1, (some .int))
abbrev M_X9_notsOpen : MT := (yX9_notsOpen, cX9_notsOpen, 3, (some .int))
abbrev M_X9_signHere : MT := (yX9_signHere, cX9_signHere, 1, (some .int))
abbrev M_X9_textTold : MT := (yX9_textTold, cX9_textTold, 3, (some .int))
abbrev M_X9_why : MT := (yX9_why, cX9_why, 3, (some .int))
abbrev M_X9_sheet : MT := (yX9_sheet, cX9_sheet, 5, (some .int))
abbrev M_X9_mark : MT := (yX9_mark, cX9_mark, 4, (some .int))
abbrev M_X9_pour : MT := (yX9_pour, cX9_pour, 6, (some .int))
abbrev M_X9_reads : MT := (yX9_reads, cX9_reads, 4, (some .int))
abbrev M_X9_copy : MT := (yX9_copy, cX9_copy, 7, (some .int))
abbrev M_X9_lay : MT := (yX9_lay, cX9_lay, 6, (some .int))
abbrev M_X9_isSlot : MT := (yX9_isSlot, cX9_isSlot, 1, (some .boolean))
abbrev M_X9_ask : MT := (yX9_ask, cX9_ask, 3, (some .int))
abbrev M_X9_item : MT := (yX9_item, cX9_item, 4, (some .int))
abbrev M_X9_rest : MT := (yX9_rest, cX9_rest, 3, (some .int))
abbrev M_X9_tell : MT := (yX9_tell, cX9_tell, 2, (some .int))
abbrev M_X9_check : MT := (yX9_check, cX9_check, 6, (some .int))
abbrev M_X9_keep : MT := (yX9_keep, cX9_keep, 1, (some .int))
abbrev M_X9_back : MT := (yX9_back, cX9_back, 1, (some .int))
abbrev M_X9_count : MT := (yX9_count, cX9_count, 2, (some .int))
theorem ok_X8_init : OkI M_X8_init 0 := ⟨⟨(mt_1 _ (List.mem_of_getElem? (i := 24) (by decide +kernel))), (mt_1 _ (List.mem_of_getElem? (i := 1) (by decide +kernel))), by decide, by decide, by decide +kernel, by decide⟩, (mt_1 _ (List.mem_of_getElem? (i := 23) (by decide +kernel))), rfl, rfl⟩
theorem ok_X0_init : OkI M_X0_init 0 := ⟨⟨(mt_1 _ (List.mem_of_getElem? (i := 32) (by decide +kernel))), (mt_1 _ (List.mem_of_getElem? (i := 2) (by decide +kernel))), by decide, by decide, by decide +kernel, by decide⟩, (mt_1 _ (List.mem_of_getElem? (i := 31) (by decide +kernel))), rfl, rfl⟩
theorem ok_X1_init : OkI M_X1_init 0 := ⟨⟨(mt_1 _ (List.mem_of_getElem? (i := 41) (by decide +kernel))), (mt_1 _ (List.mem_of_getElem? (i := 3) (by decide +kernel))), by decide, by decide, by decide +kernel, by decide⟩, (mt_1 _ (List.mem_of_getElem? (i := 40) (by decide +kernel))), rfl, rfl⟩
theorem ok_J7_fill_53178 : OkS M_J7_fill_53178 2 := ⟨⟨(mt_1 _ (List.mem_of_getElem? (i := 78) (by decide +kernel))), (mt_1 _ (List.mem_of_getElem? (i := 4) (by decide +kernel))), by decide, by decide, by decide +kernel, by decide⟩, (mt_1 _ (List.mem_of_getElem? (i := 77) (by decide +kernel)))⟩
theorem ok_X2_init : OkI M_X2_init 0 := ⟨⟨(mt_1 _ (List.mem_of_getElem? (i := 125) (by decide +kernel))), (mt_1 _ (List.mem_of_getElem? (i := 5) (by decide +kernel))), by decide, by decide, by decide +kernel, by decide⟩, (mt_1 _ (List.mem_of_getElem? (i := 124) (by decide +kernel))), rfl, rfl⟩
theorem ok_X7_init : OkI M_X7_init 0 := ⟨⟨(mt_1 _ (List.mem_of_getElem? (i := 169) (by decide +kernel))), (mt_1 _ (List.mem_of_getElem? (i := 6) (by decide +kernel))), by decide, by decide, by decide +kernel, by decide⟩, (mt_1 _ (List.mem_of_getElem? (i := 168) (by decide +kernel))), rfl, rfl⟩
theorem ok_X5_init : OkI M_X5_init 0 := ⟨⟨(mt_1 _ (List.mem_of_getElem? (i := 175) (by decide +kernel))), (mt_1 _ (List.mem_of_getElem? (i := 7) (by decide +kernel))), by decide, by decide, by decide +kernel, by decide⟩, (mt_1 _ (List.mem_of_getElem? (i := 174) (by decide +kernel))), rfl, rfl⟩
theorem ok_X3_init : OkI M_X3_init 0 := ⟨⟨(mt_1 _ (List.mem_of_getElem? (i := 239) (by decide +kernel))), (mt_1 _ (List.mem_of_getElem? (i := 8) (by decide +kernel))), by decide, by decide, by decide +kernel, by decide⟩, (mt_1 _ (List.mem_of_getElem? (i := 238) (by decide +kernel))), rfl, rfl⟩
theorem ok_X4_init : OkI M_X4_init 0 := ⟨⟨(mt_2 _ (List.mem_of_getElem? (i := 17) (by decide +kernel))), (mt_1 _ (List.mem_of_getElem? (i := 9) (by decide +kernel))), by decide, by decide, by decide +kernel, by decide⟩, (mt_2 _ (List.mem_of_getElem? (i := 16) (by decide +kernel))), rfl, rfl⟩
theorem ok_X8_man : OkV M_X8_man 4 := ⟨⟨(mt_2 _ (List.mem_of_getElem? (i := 80) (by decide +kernel))), (mt_1 _ (List.mem_of_getElem? (i := 1) (by decide +kernel))), by decide, by decide, by decide +kernel, by decide⟩, (mt_2 _ (List.mem_of_getElem? (i := 78) (by decide +kernel))), (mt_2 _ (List.mem_of_getElem? (i := 79) (by decide +kernel)))⟩
theorem ok_X8_isWithin : OkS M_X8_isWithin 3 := ⟨⟨(mt_2 _ (List.mem_of_getElem? (i := 83) (by decide +kernel))), (mt_1 _ (List.mem_of_getElem? (i := 1) (by decide +kernel))), by decide, by decide, by decide +kernel, by decide⟩, (mt_2 _ (List.mem_of_getElem? (i := 82) (by decide +kernel)))⟩
theorem ok_X0_take : OkV M_X0_take 4 := ⟨⟨(mt_2 _ (List.mem_of_getElem? (i := 89) (by decide +kernel))), (mt_1 _ (List.mem_of_getElem? (i := 2) (by decide +kernel))), by decide, by decide, by decide +kernel, by decide⟩, (mt_2 _ (List.mem_of_getElem? (i := 88) (by decide +kernel))), (mt_0 _ (List.mem_of_getElem? (i := 0) (by decide +kernel)))⟩
theorem ok_X8_told : OkV M_X8_told 2 := ⟨⟨(mt_2 _ (List.mem_of_getElem? (i := 94) (by decide +kernel))), (mt_1 _ (List.mem_of_getElem? (i := 1) (by decide +kernel))), by decide, by decide, by decide +kernel, by decide⟩, (mt_2 _ (List.mem_of_getElem? (i := 92) (by decide +kernel))), (mt_2 _ (List.mem_of_getElem? (i := 93) (by decide +kernel)))⟩
theorem ok_X0_has : OkV M_X0_has 1 := ⟨⟨(mt_2 _ (List.mem_of_getElem? (i := 98) (by decide +kernel))), (mt_1 _ (List.mem_of_getElem? (i := 2) (by decide +kernel))), by decide, by decide, by decide +kernel, by decide⟩, (mt_2 _ (List.mem_of_getElem? (i := 97) (by decide +kernel))), (mt_0 _ (List.mem_of_getElem? (i := 1) (by decide +kernel)))⟩
theorem ok_X1_pushing : OkV M_X1_pushing 0 := ⟨⟨(mt_2 _ (List.mem_of_getElem? (i := 102) (by decide +kernel))), (mt_1 _ (List.mem_of_getElem? (i := 3) (by decide +kernel))), by decide, by decide, by decide +kernel, by decide⟩, (mt_2 _ (List.mem_of_getElem? (i := 101) (by decide +kernel))), (mt_0 _ (List.mem_of_getElem? (i := 2) (by decide +kernel)))⟩
theorem ok_X1_worth : OkV M_X1_worth 0 := ⟨⟨(mt_2 _ (List.mem_of_getElem? (i := 106) (by decide +kernel))), (mt_1 _ (List.mem_of_getElem? (i := 3) (by decide +kernel))), by decide, by decide, by decide +kernel, by decide⟩, (mt_2 _ (List.mem_of_getElem? (i := 105) (by decide +kernel))), (mt_0 _ (List.mem_of_getElem? (i := 3) (by decide +kernel)))⟩
theorem ok_X8_bears : OkV M_X8_bears 2 := ⟨⟨(mt_2 _ (List.mem_of_getElem? (i := 110) (by decide +kernel))), (mt_1 _ (List.mem_of_getElem? (i := 1) (by decide +kernel))), by decide, by decide, by decide +kernel, by decide⟩, (mt_2 _ (List.mem_of_getElem? (i := 108) (by decide +kernel))), (mt_2 _ (List.mem_of_getElem? (i := 109) (by decide +kernel)))⟩
theorem ok_X0_bearing : OkV M_X0_bearing 2 := ⟨⟨(mt_2 _ (List.mem_of_getElem? (i := 114) (by decide +kernel))), (mt_1 _ (List.mem_of_getElem? (i := 2) (by decide +kernel))), by decide, by decide, by decide +kernel, by decide⟩, (mt_2 _ (List.mem_of_getElem? (i := 113) (by decide +kernel))), (mt_0 _ (List.mem_of_getElem? (i := 4) (by decide +kernel)))⟩
theorem ok_X0_standing : OkV M_X0_standing 0 := ⟨⟨(mt_2 _ (List.mem_of_getElem? (i := 118) (by decide +kernel))), (mt_1 _ (List.mem_of_getElem? (i := 2) (by decide +kernel))), by decide, by decide, by decide +kernel, by decide⟩, (mt_2 _ (List.mem_of_getElem? (i := 117) (by decide +kernel))), (mt_0 _ (List.mem_of_getElem? (i := 5) (by decide +kernel)))⟩
theorem ok_X0_standingSet : OkV M_X0_standingSet 0 := ⟨⟨(mt_2 _ (List.mem_of_getElem? (i := 122) (by decide +kernel))), (mt_1 _ (List.mem_of_getElem? (i := 2) (by decide +kernel))), by decide, by decide, by decide +kernel, by decide⟩, (mt_2 _ (List.mem_of_getElem? (i := 121) (by decide +kernel))), (mt_0 _ (List.mem_of_getElem? (i := 6) (by decide +kernel)))⟩
theorem ok_J6_bitCount_0f7a4 : OkS M_J6_bitCount_0f7a4 1 := ⟨⟨(mt_2 _ (List.mem_of_getElem? (i := 125) (by decide +kernel))), (mt_1 _ (List.mem_of_getElem? (i := 11) (by decide +kernel))), by decide, by decide, by decide +kernel, by decide⟩, (mt_2 _ (List.mem_of_getElem? (i := 124) (by decide +kernel)))⟩
theorem ok_X0_plainBearing : OkV M_X0_plainBearing 2 := ⟨⟨(mt_2 _ (List.mem_of_getElem? (i := 132) (by decide +kernel))), (mt_1 _ (List.mem_of_getElem? (i := 2) (by decide +kernel))), by decide, by decide, by decide +kernel, by decide⟩, (mt_2 _ (List.mem_of_getElem? (i := 131) (by decide +kernel))), (mt_0 _ (List.mem_of_getElem? (i := 7) (by decide +kernel)))⟩
theorem ok_X0_counted : OkV M_X0_counted 1 := ⟨⟨(mt_2 _ (List.mem_of_getElem? (i := 136) (by decide +kernel))), (mt_1 _ (List.mem_of_getElem? (i := 2) (by decide +kernel))), by decide, by decide, by decide +kernel, by decide⟩, (mt_2 _ (List.mem_of_getElem? (i := 135) (by decide +kernel))), (mt_0 _ (List.mem_of_getElem? (i := 8) (by decide +kernel)))⟩
theorem ok_X6_gives : OkV M_X6_gives 4 := ⟨⟨(mt_2 _ (List.mem_of_getElem? (i := 142) (by decide +kernel))), (mt_1 _ (List.mem_of_getElem? (i := 12) (by decide +kernel))), by decide, by decide, by decide +kernel, by decide⟩, (mt_2 _ (List.mem_of_getElem? (i := 140) (by decide +kernel))), (mt_0 _ (List.mem_of_getElem? (i := 9) (by decide +kernel)))⟩
theorem ok_X6_chosen : OkS M_X6_chosen 5 := ⟨⟨(mt_2 _ (List.mem_of_getElem? (i := 145) (by decide +kernel))), (mt_1 _ (List.mem_of_getElem? (i := 12) (by decide +kernel))), by decide, by decide, by decide +kernel, by decide⟩, (mt_2 _ (List.mem_of_getElem? (i := 144) (by decide +kernel)))⟩
theorem ok_X6_joined : OkS M_X6_joined 3 := ⟨⟨(mt_2 _ (List.mem_of_getElem? (i := 148) (by decide +kernel))), (mt_1 _ (List.mem_of_getElem? (i := 12) (by decide +kernel))), by decide, by decide, by decide +kernel, by decide⟩, (mt_2 _ (List.mem_of_getElem? (i := 147) (by decide +kernel)))⟩
theorem ok_X8_held : OkS M_X8_held 2 := ⟨⟨(mt_2 _ (List.mem_of_getElem? (i := 151) (by decide +kernel))), (mt_1 _ (List.mem_of_getElem? (i := 1) (by decide +kernel))), by decide, by decide, by decide +kernel, by decide⟩, (mt_2 _ (List.mem_of_getElem? (i := 150) (by decide +kernel)))⟩
theorem ok_J9_min_7cf53 : OkS M_J9_min_7cf53 2 := ⟨⟨(mt_2 _ (List.mem_of_getElem? (i := 154) (by decide +kernel))), (mt_1 _ (List.mem_of_getElem? (i := 13) (by decide +kernel))), by decide, by decide, by decide +kernel, by decide⟩, (mt_2 _ (List.mem_of_getElem? (i := 153) (by decide +kernel)))⟩
theorem ok_J9_max_7cf53 : OkS M_J9_max_7cf53 2 := ⟨⟨(mt_2 _ (List.mem_of_getElem? (i := 157) (by decide +kernel))), (mt_1 _ (List.mem_of_getElem? (i := 13) (by decide +kernel))), by decide, by decide, by decide +kernel, by decide⟩, (mt_2 _ (List.mem_of_getElem? (i := 156) (by decide +kernel)))⟩
theorem ok_X1_bearing : OkV M_X1_bearing 3 := ⟨⟨(mt_2 _ (List.mem_of_getElem? (i := 161) (by decide +kernel))), (mt_1 _ (List.mem_of_getElem? (i := 3) (by decide +kernel))), by decide, by decide, by decide +kernel, by decide⟩, (mt_2 _ (List.mem_of_getElem? (i := 160) (by decide +kernel))), (mt_0 _ (List.mem_of_getElem? (i := 10) (by decide +kernel)))⟩
theorem ok_X8_as : OkV M_X8_as 2 := ⟨⟨(mt_2 _ (List.mem_of_getElem? (i := 166) (by decide +kernel))), (mt_1 _ (List.mem_of_getElem? (i := 1) (by decide +kernel))), by decide, by decide, by decide +kernel, by decide⟩, (mt_2 _ (List.mem_of_getElem? (i := 164) (by decide +kernel))), (mt_2 _ (List.mem_of_getElem? (i := 165) (by decide +kernel)))⟩
theorem ok_X1_isOf : OkV M_X1_isOf 1 := ⟨⟨(mt_2 _ (List.mem_of_getElem? (i := 170) (by decide +kernel))), (mt_1 _ (List.mem_of_getElem? (i := 3) (by decide +kernel))), by decide, by decide, by decide +kernel, by decide⟩, (mt_2 _ (List.mem_of_getElem? (i := 169) (by decide +kernel))), (mt_0 _ (List.mem_of_getElem? (i := 11) (by decide +kernel)))⟩
theorem ok_X8_turns : OkV M_X8_turns 2 := ⟨⟨(mt_2 _ (List.mem_of_getElem? (i := 178) (by decide +kernel))), (mt_1 _ (List.mem_of_getElem? (i := 1) (by decide +kernel))), by decide, by decide, by decide +kernel, by decide⟩, (mt_2 _ (List.mem_of_getElem? (i := 176) (by decide +kernel))), (mt_2 _ (List.mem_of_getElem? (i := 177) (by decide +kernel)))⟩
theorem ok_X8_set : OkV M_X8_set 3 := ⟨⟨(mt_2 _ (List.mem_of_getElem? (i := 182) (by decide +kernel))), (mt_1 _ (List.mem_of_getElem? (i := 1) (by decide +kernel))), by decide, by decide, by decide +kernel, by decide⟩, (mt_2 _ (List.mem_of_getElem? (i := 180) (by decide +kernel))), (mt_2 _ (List.mem_of_getElem? (i := 181) (by decide +kernel)))⟩
theorem ok_X8_mostOf : OkS M_X8_mostOf 1 := ⟨⟨(mt_2 _ (List.mem_of_getElem? (i := 185) (by decide +kernel))), (mt_1 _ (List.mem_of_getElem? (i := 1) (by decide +kernel))), by decide, by decide, by decide +kernel, by decide⟩, (mt_2 _ (List.mem_of_getElem? (i := 184) (by decide +kernel)))⟩
theorem ok_X8_says : OkV M_X8_says 4 := ⟨⟨(mt_2 _ (List.mem_of_getElem? (i := 190) (by decide +kernel))), (mt_1 _ (List.mem_of_getElem? (i := 1) (by decide +kernel))), by decide, by decide, by decide +kernel, by decide⟩, (mt_2 _ (List.mem_of_getElem? (i := 188) (by decide +kernel))), (mt_2 _ (List.mem_of_getElem? (i := 189) (by decide +kernel)))⟩
theorem ok_X0_stands : OkV M_X0_stands 1 := ⟨⟨(mt_2 _ (List.mem_of_getElem? (i := 194) (by decide +kernel))), (mt_1 _ (List.mem_of_getElem? (i := 2) (by decide +kernel))), by decide, by decide, by decide +kernel, by decide⟩, (mt_2 _ (List.mem_of_getElem? (i := 193) (by decide +kernel))), (mt_0 _ (List.mem_of_getElem? (i := 12) (by decide +kernel)))⟩
theorem ok_X0_hit : OkV M_X0_hit 5 := ⟨⟨(mt_2 _ (List.mem_of_getElem? (i := 200) (by decide +kernel))), (mt_1 _ (List.mem_of_getElem? (i := 2) (by decide +kernel))), by decide, by decide, by decide +kernel, by decide⟩, (mt_2 _ (List.mem_of_getElem? (i := 199) (by decide +kernel))), (mt_0 _ (List.mem_of_getElem? (i := 13) (by decide +kernel)))⟩
theorem ok_X8_sets : OkV M_X8_sets 0 := ⟨⟨(mt_2 _ (List.mem_of_getElem? (i := 213) (by decide +kernel))), (mt_1 _ (List.mem_of_getElem? (i := 1) (by decide +kernel))), by decide, by decide, by decide +kernel, by decide⟩, (mt_2 _ (List.mem_of_getElem? (i := 211) (by decide +kernel))), (mt_2 _ (List.mem_of_getElem? (i := 212) (by decide +kernel)))⟩
theorem ok_X0_setUp : OkV M_X0_setUp 0 := ⟨⟨(mt_2 _ (List.mem_of_getElem? (i := 218) (by decide +kernel))), (mt_1 _ (List.mem_of_getElem? (i := 2) (by decide +kernel))), by decide, by decide, by decide +kernel, by decide⟩, (mt_2 _ (List.mem_of_getElem? (i := 217) (by decide +kernel))), (mt_0 _ (List.mem_of_getElem? (i := 14) (by decide +kernel)))⟩
theorem ok_X8_deal : OkV M_X8_deal 1 := ⟨⟨(mt_2 _ (List.mem_of_getElem? (i := 222) (by decide +kernel))), (mt_1 _ (List.mem_of_getElem? (i := 1) (by decide +kernel))), by decide, by decide, by decide +kernel, by decide⟩, (mt_2 _ (List.mem_of_getElem? (i := 220) (by decide +kernel))), (mt_2 _ (List.mem_of_getElem? (i := 221) (by decide +kernel)))⟩
theorem ok_X0_takeByLot : OkV M_X0_takeByLot 0 := ⟨⟨(mt_2 _ (List.mem_of_getElem? (i := 226) (by decide +kernel))), (mt_1 _ (List.mem_of_getElem? (i := 2) (by decide +kernel))), by decide, by decide, by decide +kernel, by decide⟩, (mt_2 _ (List.mem_of_getElem? (i := 225) (by decide +kernel))), (mt_0 _ (List.mem_of_getElem? (i := 15) (by decide +kernel)))⟩
theorem ok_X0_draw : OkV M_X0_draw 0 := ⟨⟨(mt_2 _ (List.mem_of_getElem? (i := 230) (by decide +kernel))), (mt_1 _ (List.mem_of_getElem? (i := 2) (by decide +kernel))), by decide, by decide, by decide +kernel, by decide⟩, (mt_2 _ (List.mem_of_getElem? (i := 229) (by decide +kernel))), (mt_0 _ (List.mem_of_getElem? (i := 16) (by decide +kernel)))⟩
theorem ok_X8_seed : OkV M_X8_seed 1 := ⟨⟨(mt_2 _ (List.mem_of_getElem? (i := 236) (by decide +kernel))), (mt_1 _ (List.mem_of_getElem? (i := 1) (by decide +kernel))), by decide, by decide, by decide +kernel, by decide⟩, (mt_2 _ (List.mem_of_getElem? (i := 234) (by decide +kernel))), (mt_2 _ (List.mem_of_getElem? (i := 235) (by decide +kernel)))⟩
theorem ok_X8_goes : OkV M_X8_goes 1 := ⟨⟨(mt_3 _ (List.mem_of_getElem? (i := 0) (by decide +kernel))), (mt_1 _ (List.mem_of_getElem? (i := 1) (by decide +kernel))), by decide, by decide, by decide +kernel, by decide⟩, (mt_2 _ (List.mem_of_getElem? (i := 238) (by decide +kernel))), (mt_2 _ (List.mem_of_getElem? (i := 239) (by decide +kernel)))⟩
theorem ok_X0_goOn : OkV M_X0_goOn 1 := ⟨⟨(mt_3 _ (List.mem_of_getElem? (i := 4) (by decide +kernel))), (mt_1 _ (List.mem_of_getElem? (i := 2) (by decide +kernel))), by decide, by decide, by decide +kernel, by decide⟩, (mt_3 _ (List.mem_of_getElem? (i := 3) (by decide +kernel))), (mt_0 _ (List.mem_of_getElem? (i := 17) (by decide +kernel)))⟩
theorem ok_X0_goOnce : OkV M_X0_goOnce 0 := ⟨⟨(mt_3 _ (List.mem_of_getElem? (i := 8) (by decide +kernel))), (mt_1 _ (List.mem_of_getElem? (i := 2) (by decide +kernel))), by decide, by decide, by decide +kernel, by decide⟩, (mt_3 _ (List.mem_of_getElem? (i := 7) (by decide +kernel))), (mt_0 _ (List.mem_of_getElem? (i := 18) (by decide +kernel)))⟩
theorem ok_X0_firstStandingFrom : OkV M_X0_firstStandingFrom 1 := ⟨⟨(mt_3 _ (List.mem_of_getElem? (i := 13) (by decide +kernel))), (mt_1 _ (List.mem_of_getElem? (i := 2) (by decide +kernel))), by decide, by decide, by decide +kernel, by decide⟩, (mt_3 _ (List.mem_of_getElem? (i := 12) (by decide +kernel))), (mt_0 _ (List.mem_of_getElem? (i := 19) (by decide +kernel)))⟩
theorem ok_X0_moveNerves : OkV M_X0_moveNerves 0 := ⟨⟨(mt_3 _ (List.mem_of_getElem? (i := 17) (by decide +kernel))), (mt_1 _ (List.mem_of_getElem? (i := 2) (by decide +kernel))), by decide, by decide, by decide +kernel, by decide⟩, (mt_3 _ (List.mem_of_getElem? (i := 16) (by decide +kernel))), (mt_0 _ (List.mem_of_getElem? (i := 20) (by decide +kernel)))⟩
theorem ok_X8_alley : OkV M_X8_alley 1 := ⟨⟨(mt_3 _ (List.mem_of_getElem? (i := 21) (by decide +kernel))), (mt_1 _ (List.mem_of_getElem? (i := 1) (by decide +kernel))), by decide, by decide, by decide +kernel, by decide⟩, (mt_3 _ (List.mem_of_getElem? (i := 19) (by decide +kernel))), (mt_3 _ (List.mem_of_getElem? (i := 20) (by decide +kernel)))⟩
theorem ok_X0_nerveOfAll : OkV M_X0_nerveOfAll 0 := ⟨⟨(mt_3 _ (List.mem_of_getElem? (i := 26) (by decide +kernel))), (mt_1 _ (List.mem_of_getElem? (i := 2) (by decide +kernel))), by decide, by decide, by decide +kernel, by decide⟩, (mt_3 _ (List.mem_of_getElem? (i := 25) (by decide +kernel))), (mt_0 _ (List.mem_of_getElem? (i := 21) (by decide +kernel)))⟩
theorem ok_X0_mostFelled : OkV M_X0_mostFelled 0 := ⟨⟨(mt_3 _ (List.mem_of_getElem? (i := 30) (by decide +kernel))), (mt_1 _ (List.mem_of_getElem? (i := 2) (by decide +kernel))), by decide, by decide, by decide +kernel, by decide⟩, (mt_3 _ (List.mem_of_getElem? (i := 29) (by decide +kernel))), (mt_0 _ (List.mem_of_getElem? (i := 22) (by decide +kernel)))⟩
theorem ok_X8_best : OkV M_X8_best 2 := ⟨⟨(mt_3 _ (List.mem_of_getElem? (i := 34) (by decide +kernel))), (mt_1 _ (List.mem_of_getElem? (i := 1) (by decide +kernel))), by decide, by decide, by decide +kernel, by decide⟩, (mt_3 _ (List.mem_of_getElem? (i := 32) (by decide +kernel))), (mt_3 _ (List.mem_of_getElem? (i := 33) (by decide +kernel)))⟩
theorem ok_X2_lookAt : OkV M_X2_lookAt 2 := ⟨⟨(mt_3 _ (List.mem_of_getElem? (i := 39) (by decide +kernel))), (mt_1 _ (List.mem_of_getElem? (i := 5) (by decide +kernel))), by decide, by decide, by decide +kernel, by decide⟩, (mt_3 _ (List.mem_of_getElem? (i := 38) (by decide +kernel))), (mt_0 _ (List.mem_of_getElem? (i := 23) (by decide +kernel)))⟩
theorem ok_X2_writeBearings : OkV M_X2_writeBearings 3 := ⟨⟨(mt_3 _ (List.mem_of_getElem? (i := 47) (by decide +kernel))), (mt_1 _ (List.mem_of_getElem? (i := 5) (by decide +kernel))), by decide, by decide, by decide +kernel, by decide⟩, (mt_3 _ (List.mem_of_getElem? (i := 46) (by decide +kernel))), (mt_0 _ (List.mem_of_getElem? (i := 24) (by decide +kernel)))⟩
theorem ok_X2_bearingPlace : OkS M_X2_bearingPlace 3 := ⟨⟨(mt_3 _ (List.mem_of_getElem? (i := 51) (by decide +kernel))), (mt_1 _ (List.mem_of_getElem? (i := 5) (by decide +kernel))), by decide, by decide, by decide +kernel, by decide⟩, (mt_3 _ (List.mem_of_getElem? (i := 50) (by decide +kernel)))⟩
theorem ok_X2_findBest : OkV M_X2_findBest 0 := ⟨⟨(mt_3 _ (List.mem_of_getElem? (i := 56) (by decide +kernel))), (mt_1 _ (List.mem_of_getElem? (i := 5) (by decide +kernel))), by decide, by decide, by decide +kernel, by decide⟩, (mt_3 _ (List.mem_of_getElem? (i := 55) (by decide +kernel))), (mt_0 _ (List.mem_of_getElem? (i := 25) (by decide +kernel)))⟩
theorem ok_X2_isIn : OkS M_X2_isIn 2 := ⟨⟨(mt_3 _ (List.mem_of_getElem? (i := 59) (by decide +kernel))), (mt_1 _ (List.mem_of_getElem? (i := 5) (by decide +kernel))), by decide, by decide, by decide +kernel, by decide⟩, (mt_3 _ (List.mem_of_getElem? (i := 58) (by decide +kernel)))⟩
theorem ok_X2_fallsBy : OkV M_X2_fallsBy 4 := ⟨⟨(mt_3 _ (List.mem_of_getElem? (i := 63) (by decide +kernel))), (mt_1 _ (List.mem_of_getElem? (i := 5) (by decide +kernel))), by decide, by decide, by decide +kernel, by decide⟩, (mt_3 _ (List.mem_of_getElem? (i := 62) (by decide +kernel))), (mt_0 _ (List.mem_of_getElem? (i := 26) (by decide +kernel)))⟩
theorem ok_X2_leftBehind : OkV M_X2_leftBehind 5 := ⟨⟨(mt_3 _ (List.mem_of_getElem? (i := 67) (by decide +kernel))), (mt_1 _ (List.mem_of_getElem? (i := 5) (by decide +kernel))), by decide, by decide, by decide +kernel, by decide⟩, (mt_3 _ (List.mem_of_getElem? (i := 66) (by decide +kernel))), (mt_0 _ (List.mem_of_getElem? (i := 27) (by decide +kernel)))⟩
theorem ok_X2_offer : OkV M_X2_offer 4 := ⟨⟨(mt_3 _ (List.mem_of_getElem? (i := 73) (by decide +kernel))), (mt_1 _ (List.mem_of_getElem? (i := 5) (by decide +kernel))), by decide, by decide, by decide +kernel, by decide⟩, (mt_3 _ (List.mem_of_getElem? (i := 72) (by decide +kernel))), (mt_0 _ (List.mem_of_getElem? (i := 28) (by decide +kernel)))⟩
theorem ok_X8_pair : OkV M_X8_pair 1 := ⟨⟨(mt_3 _ (List.mem_of_getElem? (i := 77) (by decide +kernel))), (mt_1 _ (List.mem_of_getElem? (i := 1) (by decide +kernel))), by decide, by decide, by decide +kernel, by decide⟩, (mt_3 _ (List.mem_of_getElem? (i := 75) (by decide +kernel))), (mt_3 _ (List.mem_of_getElem? (i := 76) (by decide +kernel)))⟩
theorem ok_X2_mostByTwo : OkV M_X2_mostByTwo 0 := ⟨⟨(mt_3 _ (List.mem_of_getElem? (i := 81) (by decide +kernel))), (mt_1 _ (List.mem_of_getElem? (i := 5) (by decide +kernel))), by decide, by decide, by decide +kernel, by decide⟩, (mt_3 _ (List.mem_of_getElem? (i := 80) (by decide +kernel))), (mt_0 _ (List.mem_of_getElem? (i := 29) (by decide +kernel)))⟩
theorem ok_X2_startQueue : OkV M_X2_startQueue 0 := ⟨⟨(mt_3 _ (List.mem_of_getElem? (i := 85) (by decide +kernel))), (mt_1 _ (List.mem_of_getElem? (i := 5) (by decide +kernel))), by decide, by decide, by decide +kernel, by decide⟩, (mt_3 _ (List.mem_of_getElem? (i := 84) (by decide +kernel))), (mt_0 _ (List.mem_of_getElem? (i := 30) (by decide +kernel)))⟩
theorem ok_X2_queueAllBehind : OkV M_X2_queueAllBehind 1 := ⟨⟨(mt_3 _ (List.mem_of_getElem? (i := 90) (by decide +kernel))), (mt_1 _ (List.mem_of_getElem? (i := 5) (by decide +kernel))), by decide, by decide, by decide +kernel, by decide⟩, (mt_3 _ (List.mem_of_getElem? (i := 89) (by decide +kernel))), (mt_0 _ (List.mem_of_getElem? (i := 31) (by decide +kernel)))⟩
theorem ok_X2_enqueue : OkV M_X2_enqueue 2 := ⟨⟨(mt_3 _ (List.mem_of_getElem? (i := 94) (by decide +kernel))), (mt_1 _ (List.mem_of_getElem? (i := 5) (by decide +kernel))), by decide, by decide, by decide +kernel, by decide⟩, (mt_3 _ (List.mem_of_getElem? (i := 93) (by decide +kernel))), (mt_0 _ (List.mem_of_getElem? (i := 32) (by decide +kernel)))⟩
theorem ok_X8_clear : OkV M_X8_clear 1 := ⟨⟨(mt_3 _ (List.mem_of_getElem? (i := 99) (by decide +kernel))), (mt_1 _ (List.mem_of_getElem? (i := 1) (by decide +kernel))), by decide, by decide, by decide +kernel, by decide⟩, (mt_3 _ (List.mem_of_getElem? (i := 97) (by decide +kernel))), (mt_3 _ (List.mem_of_getElem? (i := 98) (by decide +kernel)))⟩
theorem ok_X2_fewestForAll : OkV M_X2_fewestForAll 0 := ⟨⟨(mt_3 _ (List.mem_of_getElem? (i := 103) (by decide +kernel))), (mt_1 _ (List.mem_of_getElem? (i := 5) (by decide +kernel))), by decide, by decide, by decide +kernel, by decide⟩, (mt_3 _ (List.mem_of_getElem? (i := 102) (by decide +kernel))), (mt_0 _ (List.mem_of_getElem? (i := 33) (by decide +kernel)))⟩
theorem ok_X8_force : OkV M_X8_force 2 := ⟨⟨(mt_3 _ (List.mem_of_getElem? (i := 108) (by decide +kernel))), (mt_1 _ (List.mem_of_getElem? (i := 1) (by decide +kernel))), by decide, by decide, by decide +kernel, by decide⟩, (mt_3 _ (List.mem_of_getElem? (i := 106) (by decide +kernel))), (mt_3 _ (List.mem_of_getElem? (i := 107) (by decide +kernel)))⟩
theorem ok_X8_behind : OkV M_X8_behind 2 := ⟨⟨(mt_3 _ (List.mem_of_getElem? (i := 112) (by decide +kernel))), (mt_1 _ (List.mem_of_getElem? (i := 1) (by decide +kernel))), by decide, by decide, by decide +kernel, by decide⟩, (mt_3 _ (List.mem_of_getElem? (i := 110) (by decide +kernel))), (mt_3 _ (List.mem_of_getElem? (i := 111) (by decide +kernel)))⟩
theorem ok_X0_becomeAs : OkV M_X0_becomeAs 1 := ⟨⟨(mt_3 _ (List.mem_of_getElem? (i := 116) (by decide +kernel))), (mt_1 _ (List.mem_of_getElem? (i := 2) (by decide +kernel))), by decide, by decide, by decide +kernel, by decide⟩, (mt_3 _ (List.mem_of_getElem? (i := 115) (by decide +kernel))), (mt_0 _ (List.mem_of_getElem? (i := 34) (by decide +kernel)))⟩
theorem ok_X1_becomeAs : OkV M_X1_becomeAs 1 := ⟨⟨(mt_3 _ (List.mem_of_getElem? (i := 120) (by decide +kernel))), (mt_1 _ (List.mem_of_getElem? (i := 3) (by decide +kernel))), by decide, by decide, by decide +kernel, by decide⟩, (mt_3 _ (List.mem_of_getElem? (i := 119) (by decide +kernel))), (mt_0 _ (List.mem_of_getElem? (i := 35) (by decide +kernel)))⟩
theorem ok_X8_falls : OkV M_X8_falls 1 := ⟨⟨(mt_3 _ (List.mem_of_getElem? (i := 127) (by decide +kernel))), (mt_1 _ (List.mem_of_getElem? (i := 1) (by decide +kernel))), by decide, by decide, by decide +kernel, by decide⟩, (mt_3 _ (List.mem_of_getElem? (i := 125) (by decide +kernel))), (mt_3 _ (List.mem_of_getElem? (i := 126) (by decide +kernel)))⟩
theorem ok_X8_becomes : OkV M_X8_becomes 3 := ⟨⟨(mt_3 _ (List.mem_of_getElem? (i := 132) (by decide +kernel))), (mt_1 _ (List.mem_of_getElem? (i := 1) (by decide +kernel))), by decide, by decide, by decide +kernel, by decide⟩, (mt_3 _ (List.mem_of_getElem? (i := 130) (by decide +kernel))), (mt_3 _ (List.mem_of_getElem? (i := 131) (by decide +kernel)))⟩
theorem ok_X8_like : OkV M_X8_like 2 := ⟨⟨(mt_3 _ (List.mem_of_getElem? (i := 136) (by decide +kernel))), (mt_1 _ (List.mem_of_getElem? (i := 1) (by decide +kernel))), by decide, by decide, by decide +kernel, by decide⟩, (mt_3 _ (List.mem_of_getElem? (i := 134) (by decide +kernel))), (mt_3 _ (List.mem_of_getElem? (i := 135) (by decide +kernel)))⟩
theorem ok_X8_isSheet : OkS M_X8_isSheet 1 := ⟨⟨(mt_3 _ (List.mem_of_getElem? (i := 139) (by decide +kernel))), (mt_1 _ (List.mem_of_getElem? (i := 1) (by decide +kernel))), by decide, by decide, by decide +kernel, by decide⟩, (mt_3 _ (List.mem_of_getElem? (i := 138) (by decide +kernel)))⟩
theorem ok_X3_isMissing : OkV M_X3_isMissing 0 := ⟨⟨(mt_3 _ (List.mem_of_getElem? (i := 143) (by decide +kernel))), (mt_1 _ (List.mem_of_getElem? (i := 8) (by decide +kernel))), by decide, by decide, by decide +kernel, by decide⟩, (mt_3 _ (List.mem_of_getElem? (i := 142) (by decide +kernel))), (mt_0 _ (List.mem_of_getElem? (i := 36) (by decide +kernel)))⟩
theorem ok_X8_addDifferences : OkV M_X8_addDifferences 1 := ⟨⟨(mt_3 _ (List.mem_of_getElem? (i := 148) (by decide +kernel))), (mt_1 _ (List.mem_of_getElem? (i := 1) (by decide +kernel))), by decide, by decide, by decide +kernel, by decide⟩, (mt_3 _ (List.mem_of_getElem? (i := 147) (by decide +kernel))), (mt_0 _ (List.mem_of_getElem? (i := 37) (by decide +kernel)))⟩
theorem ok_X3_isNumber : OkV M_X3_isNumber 1 := ⟨⟨(mt_3 _ (List.mem_of_getElem? (i := 153) (by decide +kernel))), (mt_1 _ (List.mem_of_getElem? (i := 8) (by decide +kernel))), by decide, by decide, by decide +kernel, by decide⟩, (mt_3 _ (List.mem_of_getElem? (i := 152) (by decide +kernel))), (mt_0 _ (List.mem_of_getElem? (i := 38) (by decide +kernel)))⟩
theorem ok_X3_has : OkV M_X3_has 1 := ⟨⟨(mt_3 _ (List.mem_of_getElem? (i := 157) (by decide +kernel))), (mt_1 _ (List.mem_of_getElem? (i := 8) (by decide +kernel))), by decide, by decide, by decide +kernel, by decide⟩, (mt_3 _ (List.mem_of_getElem? (i := 156) (by decide +kernel))), (mt_0 _ (List.mem_of_getElem? (i := 39) (by decide +kernel)))⟩
theorem ok_J9_abs_0f7a4 : OkS M_J9_abs_0f7a4 1 := ⟨⟨(mt_3 _ (List.mem_of_getElem? (i := 161) (by decide +kernel))), (mt_1 _ (List.mem_of_getElem? (i := 13) (by decide +kernel))), by decide, by decide, by decide +kernel, by decide⟩, (mt_3 _ (List.mem_of_getElem? (i := 160) (by decide +kernel)))⟩
theorem ok_X8_fee : OkV M_X8_fee 0 := ⟨⟨(mt_3 _ (List.mem_of_getElem? (i := 165) (by decide +kernel))), (mt_1 _ (List.mem_of_getElem? (i := 1) (by decide +kernel))), by decide, by decide, by decide +kernel, by decide⟩, (mt_3 _ (List.mem_of_getElem? (i := 163) (by decide +kernel))), (mt_3 _ (List.mem_of_getElem? (i := 164) (by decide +kernel)))⟩
theorem ok_X8_fine : OkV M_X8_fine 1 := ⟨⟨(mt_3 _ (List.mem_of_getElem? (i := 171) (by decide +kernel))), (mt_1 _ (List.mem_of_getElem? (i := 1) (by decide +kernel))), by decide, by decide, by decide +kernel, by decide⟩, (mt_3 _ (List.mem_of_getElem? (i := 169) (by decide +kernel))), (mt_3 _ (List.mem_of_getElem? (i := 170) (by decide +kernel)))⟩
theorem ok_X8_feed : OkV M_X8_feed 3 := ⟨⟨(mt_3 _ (List.mem_of_getElem? (i := 175) (by decide +kernel))), (mt_1 _ (List.mem_of_getElem? (i := 1) (by decide +kernel))), by decide, by decide, by decide +kernel, by decide⟩, (mt_3 _ (List.mem_of_getElem? (i := 173) (by decide +kernel))), (mt_3 _ (List.mem_of_getElem? (i := 174) (by decide +kernel)))⟩
theorem ok_X5_put : OkV M_X5_put 1 := ⟨⟨(mt_3 _ (List.mem_of_getElem? (i := 179) (by decide +kernel))), (mt_1 _ (List.mem_of_getElem? (i := 7) (by decide +kernel))), by decide, by decide, by decide +kernel, by decide⟩, (mt_3 _ (List.mem_of_getElem? (i := 178) (by decide +kernel))), (mt_0 _ (List.mem_of_getElem? (i := 40) (by decide +kernel)))⟩
theorem ok_X8_trim : OkV M_X8_trim 1 := ⟨⟨(mt_3 _ (List.mem_of_getElem? (i := 183) (by decide +kernel))), (mt_1 _ (List.mem_of_getElem? (i := 1) (by decide +kernel))), by decide, by decide, by decide +kernel, by decide⟩, (mt_3 _ (List.mem_of_getElem? (i := 181) (by decide +kernel))), (mt_3 _ (List.mem_of_getElem? (i := 182) (by decide +kernel)))⟩
theorem ok_X8_text : OkV M_X8_text 0 := ⟨⟨(mt_3 _ (List.mem_of_getElem? (i := 187) (by decide +kernel))), (mt_1 _ (List.mem_of_getElem? (i := 1) (by decide +kernel))), by decide, by decide, by decide +kernel, by decide⟩, (mt_3 _ (List.mem_of_getElem? (i := 185) (by decide +kernel))), (mt_3 _ (List.mem_of_getElem? (i := 186) (by decide +kernel)))⟩
theorem ok_X7_faultFound : OkV M_X7_faultFound 0 := ⟨⟨(mt_3 _ (List.mem_of_getElem? (i := 191) (by decide +kernel))), (mt_1 _ (List.mem_of_getElem? (i := 6) (by decide +kernel))), by decide, by decide, by decide +kernel, by decide⟩, (mt_3 _ (List.mem_of_getElem? (i := 190) (by decide +kernel))), (mt_0 _ (List.mem_of_getElem? (i := 41) (by decide +kernel)))⟩
theorem ok_X7_startAgain : OkV M_X7_startAgain 0 := ⟨⟨(mt_3 _ (List.mem_of_getElem? (i := 195) (by decide +kernel))), (mt_1 _ (List.mem_of_getElem? (i := 6) (by decide +kernel))), by decide, by decide, by decide +kernel, by decide⟩, (mt_3 _ (List.mem_of_getElem? (i := 194) (by decide +kernel))), (mt_0 _ (List.mem_of_getElem? (i := 42) (by decide +kernel)))⟩
theorem ok_X7_nextWord : OkV M_X7_nextWord 0 := ⟨⟨(mt_3 _ (List.mem_of_getElem? (i := 199) (by decide +kernel))), (mt_1 _ (List.mem_of_getElem? (i := 6) (by decide +kernel))), by decide, by decide, by decide +kernel, by decide⟩, (mt_3 _ (List.mem_of_getElem? (i := 198) (by decide +kernel))), (mt_0 _ (List.mem_of_getElem? (i := 43) (by decide +kernel)))⟩
theorem ok_X7_isWord : OkV M_X7_isWord 0 := ⟨⟨(mt_3 _ (List.mem_of_getElem? (i := 203) (by decide +kernel))), (mt_1 _ (List.mem_of_getElem? (i := 6) (by decide +kernel))), by decide, by decide, by decide +kernel, by decide⟩, (mt_3 _ (List.mem_of_getElem? (i := 202) (by decide +kernel))), (mt_0 _ (List.mem_of_getElem? (i := 44) (by decide +kernel)))⟩
theorem ok_X7_byteAt : OkV M_X7_byteAt 1 := ⟨⟨(mt_3 _ (List.mem_of_getElem? (i := 207) (by decide +kernel))), (mt_1 _ (List.mem_of_getElem? (i := 6) (by decide +kernel))), by decide, by decide, by decide +kernel, by decide⟩, (mt_3 _ (List.mem_of_getElem? (i := 206) (by decide +kernel))), (mt_0 _ (List.mem_of_getElem? (i := 45) (by decide +kernel)))⟩
theorem ok_X7_sortAt : OkV M_X7_sortAt 1 := ⟨⟨(mt_3 _ (List.mem_of_getElem? (i := 212) (by decide +kernel))), (mt_1 _ (List.mem_of_getElem? (i := 6) (by decide +kernel))), by decide, by decide, by decide +kernel, by decide⟩, (mt_3 _ (List.mem_of_getElem? (i := 211) (by decide +kernel))), (mt_0 _ (List.mem_of_getElem? (i := 46) (by decide +kernel)))⟩
theorem ok_X7_keyRead : OkV M_X7_keyRead 0 := ⟨⟨(mt_3 _ (List.mem_of_getElem? (i := 216) (by decide +kernel))), (mt_1 _ (List.mem_of_getElem? (i := 6) (by decide +kernel))), by decide, by decide, by decide +kernel, by decide⟩, (mt_3 _ (List.mem_of_getElem? (i := 215) (by decide +kernel))), (mt_0 _ (List.mem_of_getElem? (i := 47) (by decide +kernel)))⟩
theorem ok_X7_wordOf : OkS M_X7_wordOf 1 := ⟨⟨(mt_3 _ (List.mem_of_getElem? (i := 219) (by decide +kernel))), (mt_1 _ (List.mem_of_getElem? (i := 6) (by decide +kernel))), by decide, by decide, by decide +kernel, by decide⟩, (mt_3 _ (List.mem_of_getElem? (i := 218) (by decide +kernel)))⟩
theorem ok_X7_isRead : OkV M_X7_isRead 1 := ⟨⟨(mt_3 _ (List.mem_of_getElem? (i := 226) (by decide +kernel))), (mt_1 _ (List.mem_of_getElem? (i := 6) (by decide +kernel))), by decide, by decide, by decide +kernel, by decide⟩, (mt_3 _ (List.mem_of_getElem? (i := 225) (by decide +kernel))), (mt_0 _ (List.mem_of_getElem? (i := 48) (by decide +kernel)))⟩
theorem ok_J0_length_8abf5 : OkV M_J0_length_8abf5 0 := ⟨⟨(mt_3 _ (List.mem_of_getElem? (i := 230) (by decide +kernel))), (mt_1 _ (List.mem_of_getElem? (i := 15) (by decide +kernel))), by decide, by decide, by decide +kernel, by decide⟩, (mt_3 _ (List.mem_of_getElem? (i := 228) (by decide +kernel))), (mt_3 _ (List.mem_of_getElem? (i := 229) (by decide +kernel)))⟩
theorem ok_J0_coder_7d493 : OkV M_J0_coder_7d493 0 := ⟨⟨(mt_3 _ (List.mem_of_getElem? (i := 234) (by decide +kernel))), (mt_1 _ (List.mem_of_getElem? (i := 15) (by decide +kernel))), by decide, by decide, by decide +kernel, by decide⟩, (mt_3 _ (List.mem_of_getElem? (i := 232) (by decide +kernel))), (mt_3 _ (List.mem_of_getElem? (i := 233) (by decide +kernel)))⟩
theorem ok_J0_charAt_5068e : OkV M_J0_charAt_5068e 1 := ⟨⟨(mt_4 _ (List.mem_of_getElem? (i := 0) (by decide +kernel))), (mt_1 _ (List.mem_of_getElem? (i := 15) (by decide +kernel))), by decide, by decide, by decide +kernel, by decide⟩, (mt_3 _ (List.mem_of_getElem? (i := 238) (by decide +kernel))), (mt_3 _ (List.mem_of_getElem? (i := 239) (by decide +kernel)))⟩
theorem ok_J0_isLatin1_aae02 : OkV M_J0_isLatin1_aae02 0 := ⟨⟨(mt_4 _ (List.mem_of_getElem? (i := 4) (by decide +kernel))), (mt_1 _ (List.mem_of_getElem? (i := 15) (by decide +kernel))), by decide, by decide, by decide +kernel, by decide⟩, (mt_4 _ (List.mem_of_getElem? (i := 2) (by decide +kernel))), (mt_4 _ (List.mem_of_getElem? (i := 3) (by decide +kernel)))⟩
theorem ok_J1_charAt_3b067 : OkS M_J1_charAt_3b067 2 := ⟨⟨(mt_4 _ (List.mem_of_getElem? (i := 7) (by decide +kernel))), (mt_1 _ (List.mem_of_getElem? (i := 16) (by decide +kernel))), by decide, by decide, by decide +kernel, by decide⟩, (mt_4 _ (List.mem_of_getElem? (i := 6) (by decide +kernel)))⟩
theorem ok_J0_checkIndex_df160 : OkS M_J0_checkIndex_df160 2 := ⟨⟨(mt_4 _ (List.mem_of_getElem? (i := 10) (by decide +kernel))), (mt_1 _ (List.mem_of_getElem? (i := 15) (by decide +kernel))), by decide, by decide, by decide +kernel, by decide⟩, (mt_4 _ (List.mem_of_getElem? (i := 9) (by decide +kernel)))⟩
theorem ok_J3_checkIndex_8e157 : OkS M_J3_checkIndex_8e157 3 := ⟨⟨(mt_4 _ (List.mem_of_getElem? (i := 15) (by decide +kernel))), (mt_1 _ (List.mem_of_getElem? (i := 17) (by decide +kernel))), by decide, by decide, by decide +kernel, by decide⟩, (mt_4 _ (List.mem_of_getElem? (i := 14) (by decide +kernel)))⟩
theorem ok_J2_charAt_3b067 : OkS M_J2_charAt_3b067 2 := ⟨⟨(mt_4 _ (List.mem_of_getElem? (i := 18) (by decide +kernel))), (mt_1 _ (List.mem_of_getElem? (i := 18) (by decide +kernel))), by decide, by decide, by decide +kernel, by decide⟩, (mt_4 _ (List.mem_of_getElem? (i := 17) (by decide +kernel)))⟩
theorem ok_J2_checkIndex_2214a : OkS M_J2_checkIndex_2214a 2 := ⟨⟨(mt_4 _ (List.mem_of_getElem? (i := 21) (by decide +kernel))), (mt_1 _ (List.mem_of_getElem? (i := 18) (by decide +kernel))), by decide, by decide, by decide +kernel, by decide⟩, (mt_4 _ (List.mem_of_getElem? (i := 20) (by decide +kernel)))⟩
theorem ok_J2_length_9d52b : OkS M_J2_length_9d52b 1 := ⟨⟨(mt_4 _ (List.mem_of_getElem? (i := 24) (by decide +kernel))), (mt_1 _ (List.mem_of_getElem? (i := 18) (by decide +kernel))), by decide, by decide, by decide +kernel, by decide⟩, (mt_4 _ (List.mem_of_getElem? (i := 23) (by decide +kernel)))⟩
theorem ok_J2_getChar_3b067 : OkS M_J2_getChar_3b067 2 := ⟨⟨(mt_4 _ (List.mem_of_getElem? (i := 28) (by decide +kernel))), (mt_1 _ (List.mem_of_getElem? (i := 18) (by decide +kernel))), by decide, by decide, by decide +kernel, by decide⟩, (mt_4 _ (List.mem_of_getElem? (i := 27) (by decide +kernel)))⟩
theorem ok_X7_takesPiece : OkV M_X7_takesPiece 0 := ⟨⟨(mt_4 _ (List.mem_of_getElem? (i := 38) (by decide +kernel))), (mt_1 _ (List.mem_of_getElem? (i := 6) (by decide +kernel))), by decide, by decide, by decide +kernel, by decide⟩, (mt_4 _ (List.mem_of_getElem? (i := 37) (by decide +kernel))), (mt_0 _ (List.mem_of_getElem? (i := 49) (by decide +kernel)))⟩
theorem ok_X7_numberRead : OkV M_X7_numberRead 0 := ⟨⟨(mt_4 _ (List.mem_of_getElem? (i := 42) (by decide +kernel))), (mt_1 _ (List.mem_of_getElem? (i := 6) (by decide +kernel))), by decide, by decide, by decide +kernel, by decide⟩, (mt_4 _ (List.mem_of_getElem? (i := 41) (by decide +kernel))), (mt_0 _ (List.mem_of_getElem? (i := 50) (by decide +kernel)))⟩
theorem ok_X7_takesValue : OkV M_X7_takesValue 1 := ⟨⟨(mt_4 _ (List.mem_of_getElem? (i := 46) (by decide +kernel))), (mt_1 _ (List.mem_of_getElem? (i := 6) (by decide +kernel))), by decide, by decide, by decide +kernel, by decide⟩, (mt_4 _ (List.mem_of_getElem? (i := 45) (by decide +kernel))), (mt_0 _ (List.mem_of_getElem? (i := 51) (by decide +kernel)))⟩
theorem ok_X7_emit : OkV M_X7_emit 1 := ⟨⟨(mt_4 _ (List.mem_of_getElem? (i := 50) (by decide +kernel))), (mt_1 _ (List.mem_of_getElem? (i := 6) (by decide +kernel))), by decide, by decide, by decide +kernel, by decide⟩, (mt_4 _ (List.mem_of_getElem? (i := 49) (by decide +kernel))), (mt_0 _ (List.mem_of_getElem? (i := 52) (by decide +kernel)))⟩
theorem ok_X7_endPiece : OkV M_X7_endPiece 0 := ⟨⟨(mt_4 _ (List.mem_of_getElem? (i := 54) (by decide +kernel))), (mt_1 _ (List.mem_of_getElem? (i := 6) (by decide +kernel))), by decide, by decide, by decide +kernel, by decide⟩, (mt_4 _ (List.mem_of_getElem? (i := 53) (by decide +kernel))), (mt_0 _ (List.mem_of_getElem? (i := 53) (by decide +kernel)))⟩
theorem ok_X7_popSign : OkV M_X7_popSign 0 := ⟨⟨(mt_4 _ (List.mem_of_getElem? (i := 58) (by decide +kernel))), (mt_1 _ (List.mem_of_getElem? (i := 6) (by decide +kernel))), by decide, by decide, by decide +kernel, by decide⟩, (mt_4 _ (List.mem_of_getElem? (i := 57) (by decide +kernel))), (mt_0 _ (List.mem_of_getElem? (i := 54) (by decide +kernel)))⟩
theorem ok_X7_namesOf : OkS M_X7_namesOf 1 := ⟨⟨(mt_4 _ (List.mem_of_getElem? (i := 61) (by decide +kernel))), (mt_1 _ (List.mem_of_getElem? (i := 6) (by decide +kernel))), by decide, by decide, by decide +kernel, by decide⟩, (mt_4 _ (List.mem_of_getElem? (i := 60) (by decide +kernel)))⟩
theorem ok_J0_indexOf_0f7a4 : OkV M_J0_indexOf_0f7a4 1 := ⟨⟨(mt_4 _ (List.mem_of_getElem? (i := 68) (by decide +kernel))), (mt_1 _ (List.mem_of_getElem? (i := 15) (by decide +kernel))), by decide, by decide, by decide +kernel, by decide⟩, (mt_4 _ (List.mem_of_getElem? (i := 66) (by decide +kernel))), (mt_4 _ (List.mem_of_getElem? (i := 67) (by decide +kernel)))⟩
theorem ok_J0_indexOf_7cf53 : OkV M_J0_indexOf_7cf53 2 := ⟨⟨(mt_4 _ (List.mem_of_getElem? (i := 72) (by decide +kernel))), (mt_1 _ (List.mem_of_getElem? (i := 15) (by decide +kernel))), by decide, by decide, by decide +kernel, by decide⟩, (mt_4 _ (List.mem_of_getElem? (i := 70) (by decide +kernel))), (mt_4 _ (List.mem_of_getElem? (i := 71) (by decide +kernel)))⟩
theorem ok_J1_indexOf_4cfef : OkS M_J1_indexOf_4cfef 4 := ⟨⟨(mt_4 _ (List.mem_of_getElem? (i := 76) (by decide +kernel))), (mt_1 _ (List.mem_of_getElem? (i := 16) (by decide +kernel))), by decide, by decide, by decide +kernel, by decide⟩, (mt_4 _ (List.mem_of_getElem? (i := 75) (by decide +kernel)))⟩
theorem ok_J1_canEncode_9a6ad : OkS M_J1_canEncode_9a6ad 1 := ⟨⟨(mt_4 _ (List.mem_of_getElem? (i := 79) (by decide +kernel))), (mt_1 _ (List.mem_of_getElem? (i := 16) (by decide +kernel))), by decide, by decide, by decide +kernel, by decide⟩, (mt_4 _ (List.mem_of_getElem? (i := 78) (by decide +kernel)))⟩
theorem ok_J1_indexOfChar_4cfef : OkS M_J1_indexOfChar_4cfef 4 := ⟨⟨(mt_4 _ (List.mem_of_getElem? (i := 84) (by decide +kernel))), (mt_1 _ (List.mem_of_getElem? (i := 16) (by decide +kernel))), by decide, by decide, by decide +kernel, by decide⟩, (mt_4 _ (List.mem_of_getElem? (i := 83) (by decide +kernel)))⟩
theorem ok_J2_indexOf_4cfef : OkS M_J2_indexOf_4cfef 4 := ⟨⟨(mt_4 _ (List.mem_of_getElem? (i := 87) (by decide +kernel))), (mt_1 _ (List.mem_of_getElem? (i := 18) (by decide +kernel))), by decide, by decide, by decide +kernel, by decide⟩, (mt_4 _ (List.mem_of_getElem? (i := 86) (by decide +kernel)))⟩
theorem ok_J2_indexOfChar_4cfef : OkS M_J2_indexOfChar_4cfef 4 := ⟨⟨(mt_4 _ (List.mem_of_getElem? (i := 93) (by decide +kernel))), (mt_1 _ (List.mem_of_getElem? (i := 18) (by decide +kernel))), by decide, by decide, by decide +kernel, by decide⟩, (mt_4 _ (List.mem_of_getElem? (i := 92) (by decide +kernel)))⟩
theorem ok_J2_checkBoundsBeginEnd_d044e : OkS M_J2_checkBoundsBeginEnd_d044e 3 := ⟨⟨(mt_4 _ (List.mem_of_getElem? (i := 96) (by decide +kernel))), (mt_1 _ (List.mem_of_getElem? (i := 18) (by decide +kernel))), by decide, by decide, by decide +kernel, by decide⟩, (mt_4 _ (List.mem_of_getElem? (i := 95) (by decide +kernel)))⟩
theorem ok_J0_checkBoundsBeginEnd_23922 : OkS M_J0_checkBoundsBeginEnd_23922 3 := ⟨⟨(mt_4 _ (List.mem_of_getElem? (i := 99) (by decide +kernel))), (mt_1 _ (List.mem_of_getElem? (i := 15) (by decide +kernel))), by decide, by decide, by decide +kernel, by decide⟩, (mt_4 _ (List.mem_of_getElem? (i := 98) (by decide +kernel)))⟩
theorem ok_J3_checkFromToIndex_8c36e : OkS M_J3_checkFromToIndex_8c36e 4 := ⟨⟨(mt_4 _ (List.mem_of_getElem? (i := 102) (by decide +kernel))), (mt_1 _ (List.mem_of_getElem? (i := 17) (by decide +kernel))), by decide, by decide, by decide +kernel, by decide⟩, (mt_4 _ (List.mem_of_getElem? (i := 101) (by decide +kernel)))⟩
theorem ok_J2_indexOfCharUnsafe_4cfef : OkS M_J2_indexOfCharUnsafe_4cfef 4 := ⟨⟨(mt_4 _ (List.mem_of_getElem? (i := 105) (by decide +kernel))), (mt_1 _ (List.mem_of_getElem? (i := 18) (by decide +kernel))), by decide, by decide, by decide +kernel, by decide⟩, (mt_4 _ (List.mem_of_getElem? (i := 104) (by decide +kernel)))⟩
theorem ok_J2_indexOfSupplementary_4cfef : OkS M_J2_indexOfSupplementary_4cfef 4 := ⟨⟨(mt_4 _ (List.mem_of_getElem? (i := 108) (by decide +kernel))), (mt_1 _ (List.mem_of_getElem? (i := 18) (by decide +kernel))), by decide, by decide, by decide +kernel, by decide⟩, (mt_4 _ (List.mem_of_getElem? (i := 107) (by decide +kernel)))⟩
theorem ok_J11_isValidCodePoint_9a6ad : OkS M_J11_isValidCodePoint_9a6ad 1 := ⟨⟨(mt_4 _ (List.mem_of_getElem? (i := 111) (by decide +kernel))), (mt_1 _ (List.mem_of_getElem? (i := 19) (by decide +kernel))), by decide, by decide, by decide +kernel, by decide⟩, (mt_4 _ (List.mem_of_getElem? (i := 110) (by decide +kernel)))⟩
theorem ok_J11_highSurrogate_5068e : OkS M_J11_highSurrogate_5068e 1 := ⟨⟨(mt_4 _ (List.mem_of_getElem? (i := 114) (by decide +kernel))), (mt_1 _ (List.mem_of_getElem? (i := 19) (by decide +kernel))), by decide, by decide, by decide +kernel, by decide⟩, (mt_4 _ (List.mem_of_getElem? (i := 113) (by decide +kernel)))⟩
theorem ok_J11_lowSurrogate_5068e : OkS M_J11_lowSurrogate_5068e 1 := ⟨⟨(mt_4 _ (List.mem_of_getElem? (i := 118) (by decide +kernel))), (mt_1 _ (List.mem_of_getElem? (i := 19) (by decide +kernel))), by decide, by decide, by decide +kernel, by decide⟩, (mt_4 _ (List.mem_of_getElem? (i := 117) (by decide +kernel)))⟩
theorem ok_X7_pushes : OkV M_X7_pushes 1 := ⟨⟨(mt_4 _ (List.mem_of_getElem? (i := 123) (by decide +kernel))), (mt_1 _ (List.mem_of_getElem? (i := 6) (by decide +kernel))), by decide, by decide, by decide +kernel, by decide⟩, (mt_4 _ (List.mem_of_getElem? (i := 122) (by decide +kernel))), (mt_0 _ (List.mem_of_getElem? (i := 55) (by decide +kernel)))⟩
theorem ok_X7_takesJoining : OkV M_X7_takesJoining 0 := ⟨⟨(mt_4 _ (List.mem_of_getElem? (i := 127) (by decide +kernel))), (mt_1 _ (List.mem_of_getElem? (i := 6) (by decide +kernel))), by decide, by decide, by decide +kernel, by decide⟩, (mt_4 _ (List.mem_of_getElem? (i := 126) (by decide +kernel))), (mt_0 _ (List.mem_of_getElem? (i := 56) (by decide +kernel)))⟩
theorem ok_X7_closeParen : OkV M_X7_closeParen 0 := ⟨⟨(mt_4 _ (List.mem_of_getElem? (i := 131) (by decide +kernel))), (mt_1 _ (List.mem_of_getElem? (i := 6) (by decide +kernel))), by decide, by decide, by decide +kernel, by decide⟩, (mt_4 _ (List.mem_of_getElem? (i := 130) (by decide +kernel))), (mt_0 _ (List.mem_of_getElem? (i := 57) (by decide +kernel)))⟩
theorem ok_X7_popSignsFrom : OkV M_X7_popSignsFrom 1 := ⟨⟨(mt_4 _ (List.mem_of_getElem? (i := 135) (by decide +kernel))), (mt_1 _ (List.mem_of_getElem? (i := 6) (by decide +kernel))), by decide, by decide, by decide +kernel, by decide⟩, (mt_4 _ (List.mem_of_getElem? (i := 134) (by decide +kernel))), (mt_0 _ (List.mem_of_getElem? (i := 58) (by decide +kernel)))⟩
theorem ok_X7_tightnessOf : OkS M_X7_tightnessOf 1 := ⟨⟨(mt_4 _ (List.mem_of_getElem? (i := 138) (by decide +kernel))), (mt_1 _ (List.mem_of_getElem? (i := 6) (by decide +kernel))), by decide, by decide, by decide +kernel, by decide⟩, (mt_4 _ (List.mem_of_getElem? (i := 137) (by decide +kernel)))⟩
theorem ok_X7_made : OkV M_X7_made 0 := ⟨⟨(mt_4 _ (List.mem_of_getElem? (i := 142) (by decide +kernel))), (mt_1 _ (List.mem_of_getElem? (i := 6) (by decide +kernel))), by decide, by decide, by decide +kernel, by decide⟩, (mt_4 _ (List.mem_of_getElem? (i := 141) (by decide +kernel))), (mt_0 _ (List.mem_of_getElem? (i := 59) (by decide +kernel)))⟩
theorem ok_J7_copyOf_59c91 : OkS M_J7_copyOf_59c91 2 := ⟨⟨(mt_4 _ (List.mem_of_getElem? (i := 146) (by decide +kernel))), (mt_1 _ (List.mem_of_getElem? (i := 4) (by decide +kernel))), by decide, by decide, by decide +kernel, by decide⟩, (mt_4 _ (List.mem_of_getElem? (i := 145) (by decide +kernel)))⟩
theorem ok_X6_init : OkI M_X6_init 3 := ⟨⟨(mt_4 _ (List.mem_of_getElem? (i := 158) (by decide +kernel))), (mt_1 _ (List.mem_of_getElem? (i := 12) (by decide +kernel))), by decide, by decide, by decide +kernel, by decide⟩, (mt_4 _ (List.mem_of_getElem? (i := 157) (by decide +kernel))), rfl, rfl⟩
theorem ok_X0_takeText : OkV M_X0_takeText 1 := ⟨⟨(mt_4 _ (List.mem_of_getElem? (i := 180) (by decide +kernel))), (mt_1 _ (List.mem_of_getElem? (i := 2) (by decide +kernel))), by decide, by decide, by decide +kernel, by decide⟩, (mt_4 _ (List.mem_of_getElem? (i := 179) (by decide +kernel))), (mt_0 _ (List.mem_of_getElem? (i := 60) (by decide +kernel)))⟩
theorem ok_X8_textTold : OkV M_X8_textTold 2 := ⟨⟨(mt_4 _ (List.mem_of_getElem? (i := 184) (by decide +kernel))), (mt_1 _ (List.mem_of_getElem? (i := 1) (by decide +kernel))), by decide, by decide, by decide +kernel, by decide⟩, (mt_4 _ (List.mem_of_getElem? (i := 182) (by decide +kernel))), (mt_4 _ (List.mem_of_getElem? (i := 183) (by decide +kernel)))⟩
theorem ok_X8_why : OkV M_X8_why 1 := ⟨⟨(mt_4 _ (List.mem_of_getElem? (i := 188) (by decide +kernel))), (mt_1 _ (List.mem_of_getElem? (i := 1) (by decide +kernel))), by decide, by decide, by decide +kernel, by decide⟩, (mt_4 _ (List.mem_of_getElem? (i := 186) (by decide +kernel))), (mt_4 _ (List.mem_of_getElem? (i := 187) (by decide +kernel)))⟩
theorem ok_X8_sheet : OkV M_X8_sheet 3 := ⟨⟨(mt_4 _ (List.mem_of_getElem? (i := 192) (by decide +kernel))), (mt_1 _ (List.mem_of_getElem? (i := 1) (by decide +kernel))), by decide, by decide, by decide +kernel, by decide⟩, (mt_4 _ (List.mem_of_getElem? (i := 190) (by decide +kernel))), (mt_4 _ (List.mem_of_getElem? (i := 191) (by decide +kernel)))⟩
theorem ok_X3_becomeRow : OkV M_X3_becomeRow 2 := ⟨⟨(mt_4 _ (List.mem_of_getElem? (i := 196) (by decide +kernel))), (mt_1 _ (List.mem_of_getElem? (i := 8) (by decide +kernel))), by decide, by decide, by decide +kernel, by decide⟩, (mt_4 _ (List.mem_of_getElem? (i := 195) (by decide +kernel))), (mt_0 _ (List.mem_of_getElem? (i := 61) (by decide +kernel)))⟩
theorem ok_X8_mark : OkV M_X8_mark 3 := ⟨⟨(mt_4 _ (List.mem_of_getElem? (i := 202) (by decide +kernel))), (mt_1 _ (List.mem_of_getElem? (i := 1) (by decide +kernel))), by decide, by decide, by decide +kernel, by decide⟩, (mt_4 _ (List.mem_of_getElem? (i := 200) (by decide +kernel))), (mt_4 _ (List.mem_of_getElem? (i := 201) (by decide +kernel)))⟩
theorem ok_X8_pour : OkV M_X8_pour 1 := ⟨⟨(mt_4 _ (List.mem_of_getElem? (i := 210) (by decide +kernel))), (mt_1 _ (List.mem_of_getElem? (i := 1) (by decide +kernel))), by decide, by decide, by decide +kernel, by decide⟩, (mt_4 _ (List.mem_of_getElem? (i := 208) (by decide +kernel))), (mt_4 _ (List.mem_of_getElem? (i := 209) (by decide +kernel)))⟩
theorem ok_X8_reads : OkV M_X8_reads 1 := ⟨⟨(mt_4 _ (List.mem_of_getElem? (i := 215) (by decide +kernel))), (mt_1 _ (List.mem_of_getElem? (i := 1) (by decide +kernel))), by decide, by decide, by decide +kernel, by decide⟩, (mt_4 _ (List.mem_of_getElem? (i := 213) (by decide +kernel))), (mt_4 _ (List.mem_of_getElem? (i := 214) (by decide +kernel)))⟩
theorem ok_X8_copy : OkV M_X8_copy 5 := ⟨⟨(mt_4 _ (List.mem_of_getElem? (i := 219) (by decide +kernel))), (mt_1 _ (List.mem_of_getElem? (i := 1) (by decide +kernel))), by decide, by decide, by decide +kernel, by decide⟩, (mt_4 _ (List.mem_of_getElem? (i := 217) (by decide +kernel))), (mt_4 _ (List.mem_of_getElem? (i := 218) (by decide +kernel)))⟩
theorem ok_X3_hasRun : OkV M_X3_hasRun 2 := ⟨⟨(mt_4 _ (List.mem_of_getElem? (i := 223) (by decide +kernel))), (mt_1 _ (List.mem_of_getElem? (i := 8) (by decide +kernel))), by decide, by decide, by decide +kernel, by decide⟩, (mt_4 _ (List.mem_of_getElem? (i := 222) (by decide +kernel))), (mt_0 _ (List.mem_of_getElem? (i := 62) (by decide +kernel)))⟩
theorem ok_X8_lay : OkV M_X8_lay 3 := ⟨⟨(mt_4 _ (List.mem_of_getElem? (i := 228) (by decide +kernel))), (mt_1 _ (List.mem_of_getElem? (i := 1) (by decide +kernel))), by decide, by decide, by decide +kernel, by decide⟩, (mt_4 _ (List.mem_of_getElem? (i := 226) (by decide +kernel))), (mt_4 _ (List.mem_of_getElem? (i := 227) (by decide +kernel)))⟩
theorem ok_X8_isSlot : OkS M_X8_isSlot 1 := ⟨⟨(mt_4 _ (List.mem_of_getElem? (i := 231) (by decide +kernel))), (mt_1 _ (List.mem_of_getElem? (i := 1) (by decide +kernel))), by decide, by decide, by decide +kernel, by decide⟩, (mt_4 _ (List.mem_of_getElem? (i := 230) (by decide +kernel)))⟩
theorem ok_X3_becomeAs : OkV M_X3_becomeAs 1 := ⟨⟨(mt_4 _ (List.mem_of_getElem? (i := 236) (by decide +kernel))), (mt_1 _ (List.mem_of_getElem? (i := 8) (by decide +kernel))), by decide, by decide, by decide +kernel, by decide⟩, (mt_4 _ (List.mem_of_getElem? (i := 235) (by decide +kernel))), (mt_0 _ (List.mem_of_getElem? (i := 63) (by decide +kernel)))⟩
theorem ok_X8_ask : OkV M_X8_ask 2 := ⟨⟨(mt_5 _ (List.mem_of_getElem? (i := 1) (by decide +kernel))), (mt_1 _ (List.mem_of_getElem? (i := 1) (by decide +kernel))), by decide, by decide, by decide +kernel, by decide⟩, (mt_4 _ (List.mem_of_getElem? (i := 239) (by decide +kernel))), (mt_5 _ (List.mem_of_getElem? (i := 0) (by decide +kernel)))⟩
theorem ok_X8_item : OkV M_X8_item 2 := ⟨⟨(mt_5 _ (List.mem_of_getElem? (i := 5) (by decide +kernel))), (mt_1 _ (List.mem_of_getElem? (i := 1) (by decide +kernel))), by decide, by decide, by decide +kernel, by decide⟩, (mt_5 _ (List.mem_of_getElem? (i := 3) (by decide +kernel))), (mt_5 _ (List.mem_of_getElem? (i := 4) (by decide +kernel)))⟩
theorem ok_X8_rest : OkV M_X8_rest 2 := ⟨⟨(mt_5 _ (List.mem_of_getElem? (i := 9) (by decide +kernel))), (mt_1 _ (List.mem_of_getElem? (i := 1) (by decide +kernel))), by decide, by decide, by decide +kernel, by decide⟩, (mt_5 _ (List.mem_of_getElem? (i := 7) (by decide +kernel))), (mt_5 _ (List.mem_of_getElem? (i := 8) (by decide +kernel)))⟩
theorem ok_X8_tell : OkV M_X8_tell 1 := ⟨⟨(mt_5 _ (List.mem_of_getElem? (i := 13) (by decide +kernel))), (mt_1 _ (List.mem_of_getElem? (i := 1) (by decide +kernel))), by decide, by decide, by decide +kernel, by decide⟩, (mt_5 _ (List.mem_of_getElem? (i := 11) (by decide +kernel))), (mt_5 _ (List.mem_of_getElem? (i := 12) (by decide +kernel)))⟩
theorem ok_X8_check : OkV M_X8_check 1 := ⟨⟨(mt_5 _ (List.mem_of_getElem? (i := 17) (by decide +kernel))), (mt_1 _ (List.mem_of_getElem? (i := 1) (by decide +kernel))), by decide, by decide, by decide +kernel, by decide⟩, (mt_5 _ (List.mem_of_getElem? (i := 15) (by decide +kernel))), (mt_5 _ (List.mem_of_getElem? (i := 16) (by decide +kernel)))⟩
theorem ok_X8_isTold : OkV M_X8_isTold 3 := ⟨⟨(mt_5 _ (List.mem_of_getElem? (i := 21) (by decide +kernel))), (mt_1 _ (List.mem_of_getElem? (i := 1) (by decide +kernel))), by decide, by decide, by decide +kernel, by decide⟩, (mt_5 _ (List.mem_of_getElem? (i := 20) (by decide +kernel))), (mt_0 _ (List.mem_of_getElem? (i := 64) (by decide +kernel)))⟩
theorem ok_X8_keep : OkV M_X8_keep 0 := ⟨⟨(mt_5 _ (List.mem_of_getElem? (i := 25) (by decide +kernel))), (mt_1 _ (List.mem_of_getElem? (i := 1) (by decide +kernel))), by decide, by decide, by decide +kernel, by decide⟩, (mt_5 _ (List.mem_of_getElem? (i := 23) (by decide +kernel))), (mt_5 _ (List.mem_of_getElem? (i := 24) (by decide +kernel)))⟩
theorem ok_X8_back : OkV M_X8_back 0 := ⟨⟨(mt_5 _ (List.mem_of_getElem? (i := 29) (by decide +kernel))), (mt_1 _ (List.mem_of_getElem? (i := 1) (by decide +kernel))), by decide, by decide, by decide +kernel, by decide⟩, (mt_5 _ (List.mem_of_getElem? (i := 27) (by decide +kernel))), (mt_5 _ (List.mem_of_getElem? (i := 28) (by decide +kernel)))⟩
theorem ok_X8_count : OkV M_X8_count 1 := ⟨⟨(mt_5 _ (List.mem_of_getElem? (i := 33) (by decide +kernel))), (mt_1 _ (List.mem_of_getElem? (i := 1) (by decide +kernel))), by decide, by decide, by decide +kernel, by decide⟩, (mt_5 _ (List.mem_of_getElem? (i := 31) (by decide +kernel))), (mt_5 _ (List.mem_of_getElem? (i := 32) (by decide +kernel)))⟩
theorem ok_X9_init : OkI M_X9_init 0 := ⟨⟨(mt_5 _ (List.mem_of_getElem? (i := 38) (by decide +kernel))), (mt_1 _ (List.mem_of_getElem? (i := 10) (by decide +kernel))), by decide, by decide, by decide +kernel, by decide⟩, (mt_5 _ (List.mem_of_getElem? (i := 37) (by decide +kernel))), rfl, rfl⟩
theorem ok_X9_man : OkV M_X9_man 4 := ⟨⟨(mt_5 _ (List.mem_of_getElem? (i := 154) (by decide +kernel))), (mt_1 _ (List.mem_of_getElem? (i := 10) (by decide +kernel))), by decide, by decide, by decide +kernel, by decide⟩, (mt_5 _ (List.mem_of_getElem? (i := 152) (by decide +kernel))), (mt_5 _ (List.mem_of_getElem? (i := 153) (by decide +kernel)))⟩
theorem ok_X9_in : OkS M_X9_in 3 := ⟨⟨(mt_5 _ (List.mem_of_getElem? (i := 157) (by decide +kernel))), (mt_1 _ (List.mem_of_getElem? (i := 10) (by decide +kernel))), by decide, by decide, by decide +kernel, by decide⟩, (mt_5 _ (List.mem_of_getElem? (i := 156) (by decide +kernel)))⟩
theorem ok_X9_isTopic : OkS M_X9_isTopic 1 := ⟨⟨(mt_5 _ (List.mem_of_getElem? (i := 160) (by decide +kernel))), (mt_1 _ (List.mem_of_getElem? (i := 10) (by decide +kernel))), by decide, by decide, by decide +kernel, by decide⟩, (mt_5 _ (List.mem_of_getElem? (i := 159) (by decide +kernel)))⟩
theorem ok_X9_comes : OkV M_X9_comes 4 := ⟨⟨(mt_5 _ (List.mem_of_getElem? (i := 166) (by decide +kernel))), (mt_1 _ (List.mem_of_getElem? (i := 10) (by decide +kernel))), by decide, by decide, by decide +kernel, by decide⟩, (mt_5 _ (List.mem_of_getElem? (i := 165) (by decide +kernel))), (mt_0 _ (List.mem_of_getElem? (i := 65) (by decide +kernel)))⟩
theorem ok_X9_put : OkV M_X9_put 3 := ⟨⟨(mt_5 _ (List.mem_of_getElem? (i := 170) (by decide +kernel))), (mt_1 _ (List.mem_of_getElem? (i := 10) (by decide +kernel))), by decide, by decide, by decide +kernel, by decide⟩, (mt_5 _ (List.mem_of_getElem? (i := 169) (by decide +kernel))), (mt_0 _ (List.mem_of_getElem? (i := 66) (by decide +kernel)))⟩
theorem ok_X9_told : OkV M_X9_told 2 := ⟨⟨(mt_5 _ (List.mem_of_getElem? (i := 174) (by decide +kernel))), (mt_1 _ (List.mem_of_getElem? (i := 10) (by decide +kernel))), by decide, by decide, by decide +kernel, by decide⟩, (mt_5 _ (List.mem_of_getElem? (i := 172) (by decide +kernel))), (mt_5 _ (List.mem_of_getElem? (i := 173) (by decide +kernel)))⟩
theorem ok_X9_isMan : OkV M_X9_isMan 1 := ⟨⟨(mt_5 _ (List.mem_of_getElem? (i := 178) (by decide +kernel))), (mt_1 _ (List.mem_of_getElem? (i := 10) (by decide +kernel))), by decide, by decide, by decide +kernel, by decide⟩, (mt_5 _ (List.mem_of_getElem? (i := 177) (by decide +kernel))), (mt_0 _ (List.mem_of_getElem? (i := 67) (by decide +kernel)))⟩
theorem ok_X9_of : OkV M_X9_of 2 := ⟨⟨(mt_5 _ (List.mem_of_getElem? (i := 182) (by decide +kernel))), (mt_1 _ (List.mem_of_getElem? (i := 10) (by decide +kernel))), by decide, by decide, by decide +kernel, by decide⟩, (mt_5 _ (List.mem_of_getElem? (i := 181) (by decide +kernel))), (mt_0 _ (List.mem_of_getElem? (i := 68) (by decide +kernel)))⟩
theorem ok_X9_pushesOf : OkV M_X9_pushesOf 1 := ⟨⟨(mt_5 _ (List.mem_of_getElem? (i := 186) (by decide +kernel))), (mt_1 _ (List.mem_of_getElem? (i := 10) (by decide +kernel))), by decide, by decide, by decide +kernel, by decide⟩, (mt_5 _ (List.mem_of_getElem? (i := 185) (by decide +kernel))), (mt_0 _ (List.mem_of_getElem? (i := 69) (by decide +kernel)))⟩
theorem ok_X9_worthOf : OkV M_X9_worthOf 1 := ⟨⟨(mt_5 _ (List.mem_of_getElem? (i := 190) (by decide +kernel))), (mt_1 _ (List.mem_of_getElem? (i := 10) (by decide +kernel))), by decide, by decide, by decide +kernel, by decide⟩, (mt_5 _ (List.mem_of_getElem? (i := 189) (by decide +kernel))), (mt_0 _ (List.mem_of_getElem? (i := 70) (by decide +kernel)))⟩
theorem ok_X9_bears : OkV M_X9_bears 2 := ⟨⟨(mt_5 _ (List.mem_of_getElem? (i := 194) (by decide +kernel))), (mt_1 _ (List.mem_of_getElem? (i := 10) (by decide +kernel))), by decide, by decide, by decide +kernel, by decide⟩, (mt_5 _ (List.mem_of_getElem? (i := 192) (by decide +kernel))), (mt_5 _ (List.mem_of_getElem? (i := 193) (by decide +kernel)))⟩
theorem ok_X9_bearsOf : OkV M_X9_bearsOf 2 := ⟨⟨(mt_5 _ (List.mem_of_getElem? (i := 198) (by decide +kernel))), (mt_1 _ (List.mem_of_getElem? (i := 10) (by decide +kernel))), by decide, by decide, by decide +kernel, by decide⟩, (mt_5 _ (List.mem_of_getElem? (i := 197) (by decide +kernel))), (mt_0 _ (List.mem_of_getElem? (i := 71) (by decide +kernel)))⟩
theorem ok_X9_plainBears : OkV M_X9_plainBears 1 := ⟨⟨(mt_5 _ (List.mem_of_getElem? (i := 202) (by decide +kernel))), (mt_1 _ (List.mem_of_getElem? (i := 10) (by decide +kernel))), by decide, by decide, by decide +kernel, by decide⟩, (mt_5 _ (List.mem_of_getElem? (i := 201) (by decide +kernel))), (mt_0 _ (List.mem_of_getElem? (i := 72) (by decide +kernel)))⟩
theorem ok_X9_counts : OkV M_X9_counts 1 := ⟨⟨(mt_5 _ (List.mem_of_getElem? (i := 206) (by decide +kernel))), (mt_1 _ (List.mem_of_getElem? (i := 10) (by decide +kernel))), by decide, by decide, by decide +kernel, by decide⟩, (mt_5 _ (List.mem_of_getElem? (i := 205) (by decide +kernel))), (mt_0 _ (List.mem_of_getElem? (i := 73) (by decide +kernel)))⟩
theorem ok_X9_standing : OkV M_X9_standing 0 := ⟨⟨(mt_5 _ (List.mem_of_getElem? (i := 210) (by decide +kernel))), (mt_1 _ (List.mem_of_getElem? (i := 10) (by decide +kernel))), by decide, by decide, by decide +kernel, by decide⟩, (mt_5 _ (List.mem_of_getElem? (i := 209) (by decide +kernel))), (mt_0 _ (List.mem_of_getElem? (i := 74) (by decide +kernel)))⟩
theorem ok_X9_bits : OkS M_X9_bits 1 := ⟨⟨(mt_5 _ (List.mem_of_getElem? (i := 213) (by decide +kernel))), (mt_1 _ (List.mem_of_getElem? (i := 10) (by decide +kernel))), by decide, by decide, by decide +kernel, by decide⟩, (mt_5 _ (List.mem_of_getElem? (i := 212) (by decide +kernel)))⟩
theorem ok_X9_worksOut : OkV M_X9_worksOut 1 := ⟨⟨(mt_5 _ (List.mem_of_getElem? (i := 217) (by decide +kernel))), (mt_1 _ (List.mem_of_getElem? (i := 10) (by decide +kernel))), by decide, by decide, by decide +kernel, by decide⟩, (mt_5 _ (List.mem_of_getElem? (i := 216) (by decide +kernel))), (mt_0 _ (List.mem_of_getElem? (i := 75) (by decide +kernel)))⟩
theorem ok_X9_two : OkS M_X9_two 3 := ⟨⟨(mt_5 _ (List.mem_of_getElem? (i := 220) (by decide +kernel))), (mt_1 _ (List.mem_of_getElem? (i := 10) (by decide +kernel))), by decide, by decide, by decide +kernel, by decide⟩, (mt_5 _ (List.mem_of_getElem? (i := 219) (by decide +kernel)))⟩
theorem ok_X9_within : OkS M_X9_within 3 := ⟨⟨(mt_5 _ (List.mem_of_getElem? (i := 223) (by decide +kernel))), (mt_1 _ (List.mem_of_getElem? (i := 10) (by decide +kernel))), by decide, by decide, by decide +kernel, by decide⟩, (mt_5 _ (List.mem_of_getElem? (i := 222) (by decide +kernel)))⟩
theorem ok_X9_as : OkV M_X9_as 2 := ⟨⟨(mt_5 _ (List.mem_of_getElem? (i := 227) (by decide +kernel))), (mt_1 _ (List.mem_of_getElem? (i := 10) (by decide +kernel))), by decide, by decide, by decide +kernel, by decide⟩, (mt_5 _ (List.mem_of_getElem? (i := 225) (by decide +kernel))), (mt_5 _ (List.mem_of_getElem? (i := 226) (by decide +kernel)))⟩
theorem ok_X9_isUnder : OkS M_X9_isUnder 2 := ⟨⟨(mt_5 _ (List.mem_of_getElem? (i := 230) (by decide +kernel))), (mt_1 _ (List.mem_of_getElem? (i := 10) (by decide +kernel))), by decide, by decide, by decide +kernel, by decide⟩, (mt_5 _ (List.mem_of_getElem? (i := 229) (by decide +kernel)))⟩
theorem ok_X9_turns : OkV M_X9_turns 2 := ⟨⟨(mt_5 _ (List.mem_of_getElem? (i := 235) (by decide +kernel))), (mt_1 _ (List.mem_of_getElem? (i := 10) (by decide +kernel))), by decide, by decide, by decide +kernel, by decide⟩, (mt_5 _ (List.mem_of_getElem? (i := 233) (by decide +kernel))), (mt_5 _ (List.mem_of_getElem? (i := 234) (by decide +kernel)))⟩
theorem ok_X9_swaps : OkV M_X9_swaps 2 := ⟨⟨(mt_5 _ (List.mem_of_getElem? (i := 239) (by decide +kernel))), (mt_1 _ (List.mem_of_getElem? (i := 10) (by decide +kernel))), by decide, by decide, by decide +kernel, by decide⟩, (mt_5 _ (List.mem_of_getElem? (i := 238) (by decide +kernel))), (mt_0 _ (List.mem_of_getElem? (i := 76) (by decide +kernel)))⟩
theorem ok_X9_set : OkV M_X9_set 3 := ⟨⟨(mt_6 _ (List.mem_of_getElem? (i := 3) (by decide +kernel))), (mt_1 _ (List.mem_of_getElem? (i := 10) (by decide +kernel))), by decide, by decide, by decide +kernel, by decide⟩, (mt_6 _ (List.mem_of_getElem? (i := 1) (by decide +kernel))), (mt_6 _ (List.mem_of_getElem? (i := 2) (by decide +kernel)))⟩
theorem ok_X9_mostOf : OkS M_X9_mostOf 1 := ⟨⟨(mt_6 _ (List.mem_of_getElem? (i := 6) (by decide +kernel))), (mt_1 _ (List.mem_of_getElem? (i := 10) (by decide +kernel))), by decide, by decide, by decide +kernel, by decide⟩, (mt_6 _ (List.mem_of_getElem? (i := 5) (by decide +kernel)))⟩
theorem ok_X9_says : OkV M_X9_says 4 := ⟨⟨(mt_6 _ (List.mem_of_getElem? (i := 10) (by decide +kernel))), (mt_1 _ (List.mem_of_getElem? (i := 10) (by decide +kernel))), by decide, by decide, by decide +kernel, by decide⟩, (mt_6 _ (List.mem_of_getElem? (i := 8) (by decide +kernel))), (mt_6 _ (List.mem_of_getElem? (i := 9) (by decide +kernel)))⟩
theorem ok_X9_doesStand : OkV M_X9_doesStand 1 := ⟨⟨(mt_6 _ (List.mem_of_getElem? (i := 14) (by decide +kernel))), (mt_1 _ (List.mem_of_getElem? (i := 10) (by decide +kernel))), by decide, by decide, by decide +kernel, by decide⟩, (mt_6 _ (List.mem_of_getElem? (i := 13) (by decide +kernel))), (mt_0 _ (List.mem_of_getElem? (i := 77) (by decide +kernel)))⟩
theorem ok_X9_said : OkV M_X9_said 4 := ⟨⟨(mt_6 _ (List.mem_of_getElem? (i := 18) (by decide +kernel))), (mt_1 _ (List.mem_of_getElem? (i := 10) (by decide +kernel))), by decide, by decide, by decide +kernel, by decide⟩, (mt_6 _ (List.mem_of_getElem? (i := 17) (by decide +kernel))), (mt_0 _ (List.mem_of_getElem? (i := 78) (by decide +kernel)))⟩
theorem ok_X9_drops : OkV M_X9_drops 3 := ⟨⟨(mt_6 _ (List.mem_of_getElem? (i := 22) (by decide +kernel))), (mt_1 _ (List.mem_of_getElem? (i := 10) (by decide +kernel))), by decide, by decide, by decide +kernel, by decide⟩, (mt_6 _ (List.mem_of_getElem? (i := 21) (by decide +kernel))), (mt_0 _ (List.mem_of_getElem? (i := 79) (by decide +kernel)))⟩
theorem ok_X9_sets : OkV M_X9_sets 0 := ⟨⟨(mt_6 _ (List.mem_of_getElem? (i := 31) (by decide +kernel))), (mt_1 _ (List.mem_of_getElem? (i := 10) (by decide +kernel))), by decide, by decide, by decide +kernel, by decide⟩, (mt_6 _ (List.mem_of_getElem? (i := 29) (by decide +kernel))), (mt_6 _ (List.mem_of_getElem? (i := 30) (by decide +kernel)))⟩
theorem ok_X9_setsUp : OkV M_X9_setsUp 0 := ⟨⟨(mt_6 _ (List.mem_of_getElem? (i := 35) (by decide +kernel))), (mt_1 _ (List.mem_of_getElem? (i := 10) (by decide +kernel))), by decide, by decide, by decide +kernel, by decide⟩, (mt_6 _ (List.mem_of_getElem? (i := 34) (by decide +kernel))), (mt_0 _ (List.mem_of_getElem? (i := 80) (by decide +kernel)))⟩
theorem ok_X9_deal : OkV M_X9_deal 1 := ⟨⟨(mt_6 _ (List.mem_of_getElem? (i := 39) (by decide +kernel))), (mt_1 _ (List.mem_of_getElem? (i := 10) (by decide +kernel))), by decide, by decide, by decide +kernel, by decide⟩, (mt_6 _ (List.mem_of_getElem? (i := 37) (by decide +kernel))), (mt_6 _ (List.mem_of_getElem? (i := 38) (by decide +kernel)))⟩
theorem ok_X9_draw : OkV M_X9_draw 0 := ⟨⟨(mt_6 _ (List.mem_of_getElem? (i := 43) (by decide +kernel))), (mt_1 _ (List.mem_of_getElem? (i := 10) (by decide +kernel))), by decide, by decide, by decide +kernel, by decide⟩, (mt_6 _ (List.mem_of_getElem? (i := 42) (by decide +kernel))), (mt_0 _ (List.mem_of_getElem? (i := 81) (by decide +kernel)))⟩
theorem ok_X9_seed : OkV M_X9_seed 1 := ⟨⟨(mt_6 _ (List.mem_of_getElem? (i := 48) (by decide +kernel))), (mt_1 _ (List.mem_of_getElem? (i := 10) (by decide +kernel))), by decide, by decide, by decide +kernel, by decide⟩, (mt_6 _ (List.mem_of_getElem? (i := 46) (by decide +kernel))), (mt_6 _ (List.mem_of_getElem? (i := 47) (by decide +kernel)))⟩
theorem ok_X9_goes : OkV M_X9_goes 1 := ⟨⟨(mt_6 _ (List.mem_of_getElem? (i := 52) (by decide +kernel))), (mt_1 _ (List.mem_of_getElem? (i := 10) (by decide +kernel))), by decide, by decide, by decide +kernel, by decide⟩, (mt_6 _ (List.mem_of_getElem? (i := 50) (by decide +kernel))), (mt_6 _ (List.mem_of_getElem? (i := 51) (by decide +kernel)))⟩
theorem ok_X9_goesOn : OkV M_X9_goesOn 1 := ⟨⟨(mt_6 _ (List.mem_of_getElem? (i := 56) (by decide +kernel))), (mt_1 _ (List.mem_of_getElem? (i := 10) (by decide +kernel))), by decide, by decide, by decide +kernel, by decide⟩, (mt_6 _ (List.mem_of_getElem? (i := 55) (by decide +kernel))), (mt_0 _ (List.mem_of_getElem? (i := 82) (by decide +kernel)))⟩
theorem ok_X9_aGo : OkV M_X9_aGo 0 := ⟨⟨(mt_6 _ (List.mem_of_getElem? (i := 60) (by decide +kernel))), (mt_1 _ (List.mem_of_getElem? (i := 10) (by decide +kernel))), by decide, by decide, by decide +kernel, by decide⟩, (mt_6 _ (List.mem_of_getElem? (i := 59) (by decide +kernel))), (mt_0 _ (List.mem_of_getElem? (i := 83) (by decide +kernel)))⟩
theorem ok_X9_alley : OkV M_X9_alley 1 := ⟨⟨(mt_6 _ (List.mem_of_getElem? (i := 64) (by decide +kernel))), (mt_1 _ (List.mem_of_getElem? (i := 10) (by decide +kernel))), by decide, by decide, by decide +kernel, by decide⟩, (mt_6 _ (List.mem_of_getElem? (i := 62) (by decide +kernel))), (mt_6 _ (List.mem_of_getElem? (i := 63) (by decide +kernel)))⟩
theorem ok_X9_nerves : OkV M_X9_nerves 0 := ⟨⟨(mt_6 _ (List.mem_of_getElem? (i := 68) (by decide +kernel))), (mt_1 _ (List.mem_of_getElem? (i := 10) (by decide +kernel))), by decide, by decide, by decide +kernel, by decide⟩, (mt_6 _ (List.mem_of_getElem? (i := 67) (by decide +kernel))), (mt_0 _ (List.mem_of_getElem? (i := 84) (by decide +kernel)))⟩
theorem ok_X9_mostFelled : OkV M_X9_mostFelled 0 := ⟨⟨(mt_6 _ (List.mem_of_getElem? (i := 73) (by decide +kernel))), (mt_1 _ (List.mem_of_getElem? (i := 10) (by decide +kernel))), by decide, by decide, by decide +kernel, by decide⟩, (mt_6 _ (List.mem_of_getElem? (i := 72) (by decide +kernel))), (mt_0 _ (List.mem_of_getElem? (i := 85) (by decide +kernel)))⟩
theorem ok_X9_best : OkV M_X9_best 2 := ⟨⟨(mt_6 _ (List.mem_of_getElem? (i := 77) (by decide +kernel))), (mt_1 _ (List.mem_of_getElem? (i := 10) (by decide +kernel))), by decide, by decide, by decide +kernel, by decide⟩, (mt_6 _ (List.mem_of_getElem? (i := 75) (by decide +kernel))), (mt_6 _ (List.mem_of_getElem? (i := 76) (by decide +kernel)))⟩
theorem ok_X9_thinks : OkV M_X9_thinks 0 := ⟨⟨(mt_6 _ (List.mem_of_getElem? (i := 81) (by decide +kernel))), (mt_1 _ (List.mem_of_getElem? (i := 10) (by decide +kernel))), by decide, by decide, by decide +kernel, by decide⟩, (mt_6 _ (List.mem_of_getElem? (i := 80) (by decide +kernel))), (mt_0 _ (List.mem_of_getElem? (i := 86) (by decide +kernel)))⟩
theorem ok_X9_copyAll : OkS M_X9_copyAll 2 := ⟨⟨(mt_6 _ (List.mem_of_getElem? (i := 84) (by decide +kernel))), (mt_1 _ (List.mem_of_getElem? (i := 10) (by decide +kernel))), by decide, by decide, by decide +kernel, by decide⟩, (mt_6 _ (List.mem_of_getElem? (i := 83) (by decide +kernel)))⟩
theorem ok_X9_fellBy : OkV M_X9_fellBy 3 := ⟨⟨(mt_6 _ (List.mem_of_getElem? (i := 88) (by decide +kernel))), (mt_1 _ (List.mem_of_getElem? (i := 10) (by decide +kernel))), by decide, by decide, by decide +kernel, by decide⟩, (mt_6 _ (List.mem_of_getElem? (i := 87) (by decide +kernel))), (mt_0 _ (List.mem_of_getElem? (i := 87) (by decide +kernel)))⟩
theorem ok_X9_letsStand : OkV M_X9_letsStand 1 := ⟨⟨(mt_6 _ (List.mem_of_getElem? (i := 92) (by decide +kernel))), (mt_1 _ (List.mem_of_getElem? (i := 10) (by decide +kernel))), by decide, by decide, by decide +kernel, by decide⟩, (mt_6 _ (List.mem_of_getElem? (i := 91) (by decide +kernel))), (mt_0 _ (List.mem_of_getElem? (i := 88) (by decide +kernel)))⟩
theorem ok_X9_putsBack : OkV M_X9_putsBack 0 := ⟨⟨(mt_6 _ (List.mem_of_getElem? (i := 96) (by decide +kernel))), (mt_1 _ (List.mem_of_getElem? (i := 10) (by decide +kernel))), by decide, by decide, by decide +kernel, by decide⟩, (mt_6 _ (List.mem_of_getElem? (i := 95) (by decide +kernel))), (mt_0 _ (List.mem_of_getElem? (i := 89) (by decide +kernel)))⟩
theorem ok_X9_pair : OkV M_X9_pair 1 := ⟨⟨(mt_6 _ (List.mem_of_getElem? (i := 100) (by decide +kernel))), (mt_1 _ (List.mem_of_getElem? (i := 10) (by decide +kernel))), by decide, by decide, by decide +kernel, by decide⟩, (mt_6 _ (List.mem_of_getElem? (i := 98) (by decide +kernel))), (mt_6 _ (List.mem_of_getElem? (i := 99) (by decide +kernel)))⟩
theorem ok_X9_mostFrom : OkV M_X9_mostFrom 2 := ⟨⟨(mt_6 _ (List.mem_of_getElem? (i := 104) (by decide +kernel))), (mt_1 _ (List.mem_of_getElem? (i := 10) (by decide +kernel))), by decide, by decide, by decide +kernel, by decide⟩, (mt_6 _ (List.mem_of_getElem? (i := 103) (by decide +kernel))), (mt_0 _ (List.mem_of_getElem? (i := 90) (by decide +kernel)))⟩
theorem ok_X9_clear : OkV M_X9_clear 1 := ⟨⟨(mt_6 _ (List.mem_of_getElem? (i := 108) (by decide +kernel))), (mt_1 _ (List.mem_of_getElem? (i := 10) (by decide +kernel))), by decide, by decide, by decide +kernel, by decide⟩, (mt_6 _ (List.mem_of_getElem? (i := 106) (by decide +kernel))), (mt_6 _ (List.mem_of_getElem? (i := 107) (by decide +kernel)))⟩
theorem ok_X9_goesFrom : OkV M_X9_goesFrom 2 := ⟨⟨(mt_6 _ (List.mem_of_getElem? (i := 112) (by decide +kernel))), (mt_1 _ (List.mem_of_getElem? (i := 10) (by decide +kernel))), by decide, by decide, by decide +kernel, by decide⟩, (mt_6 _ (List.mem_of_getElem? (i := 111) (by decide +kernel))), (mt_0 _ (List.mem_of_getElem? (i := 91) (by decide +kernel)))⟩
theorem ok_X9_force : OkV M_X9_force 2 := ⟨⟨(mt_6 _ (List.mem_of_getElem? (i := 116) (by decide +kernel))), (mt_1 _ (List.mem_of_getElem? (i := 10) (by decide +kernel))), by decide, by decide, by decide +kernel, by decide⟩, (mt_6 _ (List.mem_of_getElem? (i := 114) (by decide +kernel))), (mt_6 _ (List.mem_of_getElem? (i := 115) (by decide +kernel)))⟩
theorem ok_X9_behind : OkV M_X9_behind 2 := ⟨⟨(mt_6 _ (List.mem_of_getElem? (i := 120) (by decide +kernel))), (mt_1 _ (List.mem_of_getElem? (i := 10) (by decide +kernel))), by decide, by decide, by decide +kernel, by decide⟩, (mt_6 _ (List.mem_of_getElem? (i := 118) (by decide +kernel))), (mt_6 _ (List.mem_of_getElem? (i := 119) (by decide +kernel)))⟩
theorem ok_X9_falls : OkV M_X9_falls 1 := ⟨⟨(mt_6 _ (List.mem_of_getElem? (i := 124) (by decide +kernel))), (mt_1 _ (List.mem_of_getElem? (i := 10) (by decide +kernel))), by decide, by decide, by decide +kernel, by decide⟩, (mt_6 _ (List.mem_of_getElem? (i := 122) (by decide +kernel))), (mt_6 _ (List.mem_of_getElem? (i := 123) (by decide +kernel)))⟩
theorem ok_X9_becomes : OkV M_X9_becomes 3 := ⟨⟨(mt_6 _ (List.mem_of_getElem? (i := 128) (by decide +kernel))), (mt_1 _ (List.mem_of_getElem? (i := 10) (by decide +kernel))), by decide, by decide, by decide +kernel, by decide⟩, (mt_6 _ (List.mem_of_getElem? (i := 126) (by decide +kernel))), (mt_6 _ (List.mem_of_getElem? (i := 127) (by decide +kernel)))⟩
theorem ok_X9_like : OkV M_X9_like 2 := ⟨⟨(mt_6 _ (List.mem_of_getElem? (i := 132) (by decide +kernel))), (mt_1 _ (List.mem_of_getElem? (i := 10) (by decide +kernel))), by decide, by decide, by decide +kernel, by decide⟩, (mt_6 _ (List.mem_of_getElem? (i := 130) (by decide +kernel))), (mt_6 _ (List.mem_of_getElem? (i := 131) (by decide +kernel)))⟩
theorem ok_X9_isSheet : OkS M_X9_isSheet 1 := ⟨⟨(mt_6 _ (List.mem_of_getElem? (i := 135) (by decide +kernel))), (mt_1 _ (List.mem_of_getElem? (i := 10) (by decide +kernel))), by decide, by decide, by decide +kernel, by decide⟩, (mt_6 _ (List.mem_of_getElem? (i := 134) (by decide +kernel)))⟩
theorem ok_X9_off : OkS M_X9_off 1 := ⟨⟨(mt_6 _ (List.mem_of_getElem? (i := 139) (by decide +kernel))), (mt_1 _ (List.mem_of_getElem? (i := 10) (by decide +kernel))), by decide, by decide, by decide +kernel, by decide⟩, (mt_6 _ (List.mem_of_getElem? (i := 138) (by decide +kernel)))⟩
theorem ok_X9_fee : OkV M_X9_fee 0 := ⟨⟨(mt_6 _ (List.mem_of_getElem? (i := 143) (by decide +kernel))), (mt_1 _ (List.mem_of_getElem? (i := 10) (by decide +kernel))), by decide, by decide, by decide +kernel, by decide⟩, (mt_6 _ (List.mem_of_getElem? (i := 141) (by decide +kernel))), (mt_6 _ (List.mem_of_getElem? (i := 142) (by decide +kernel)))⟩
theorem ok_X9_fine : OkV M_X9_fine 1 := ⟨⟨(mt_6 _ (List.mem_of_getElem? (i := 147) (by decide +kernel))), (mt_1 _ (List.mem_of_getElem? (i := 10) (by decide +kernel))), by decide, by decide, by decide +kernel, by decide⟩, (mt_6 _ (List.mem_of_getElem? (i := 145) (by decide +kernel))), (mt_6 _ (List.mem_of_getElem? (i := 146) (by decide +kernel)))⟩
theorem ok_X9_feed : OkV M_X9_feed 3 := ⟨⟨(mt_6 _ (List.mem_of_getElem? (i := 151) (by decide +kernel))), (mt_1 _ (List.mem_of_getElem? (i := 10) (by decide +kernel))), by decide, by decide, by decide +kernel, by decide⟩, (mt_6 _ (List.mem_of_getElem? (i := 149) (by decide +kernel))), (mt_6 _ (List.mem_of_getElem? (i := 150) (by decide +kernel)))⟩
theorem ok_X9_trim : OkV M_X9_trim 1 := ⟨⟨(mt_6 _ (List.mem_of_getElem? (i := 155) (by decide +kernel))), (mt_1 _ (List.mem_of_getElem? (i := 10) (by decide +kernel))), by decide, by decide, by decide +kernel, by decide⟩, (mt_6 _ (List.mem_of_getElem? (i := 153) (by decide +kernel))), (mt_6 _ (List.mem_of_getElem? (i := 154) (by decide +kernel)))⟩
theorem ok_X9_text : OkV M_X9_text 0 := ⟨⟨(mt_6 _ (List.mem_of_getElem? (i := 159) (by decide +kernel))), (mt_1 _ (List.mem_of_getElem? (i := 10) (by decide +kernel))), by decide, by decide, by decide +kernel, by decide⟩, (mt_6 _ (List.mem_of_getElem? (i := 157) (by decide +kernel))), (mt_6 _ (List.mem_of_getElem? (i := 158) (by decide +kernel)))⟩
theorem ok_X9_go : OkV M_X9_go 0 := ⟨⟨(mt_6 _ (List.mem_of_getElem? (i := 163) (by decide +kernel))), (mt_1 _ (List.mem_of_getElem? (i := 10) (by decide +kernel))), by decide, by decide, by decide +kernel, by decide⟩, (mt_6 _ (List.mem_of_getElem? (i := 162) (by decide +kernel))), (mt_0 _ (List.mem_of_getElem? (i := 92) (by decide +kernel)))⟩
theorem ok_X9_isLetter : OkV M_X9_isLetter 1 := ⟨⟨(mt_6 _ (List.mem_of_getElem? (i := 167) (by decide +kernel))), (mt_1 _ (List.mem_of_getElem? (i := 10) (by decide +kernel))), by decide, by decide, by decide +kernel, by decide⟩, (mt_6 _ (List.mem_of_getElem? (i := 166) (by decide +kernel))), (mt_0 _ (List.mem_of_getElem? (i := 93) (by decide +kernel)))⟩
theorem ok_X9_isFigure : OkV M_X9_isFigure 1 := ⟨⟨(mt_6 _ (List.mem_of_getElem? (i := 171) (by decide +kernel))), (mt_1 _ (List.mem_of_getElem? (i := 10) (by decide +kernel))), by decide, by decide, by decide +kernel, by decide⟩, (mt_6 _ (List.mem_of_getElem? (i := 170) (by decide +kernel))), (mt_0 _ (List.mem_of_getElem? (i := 94) (by decide +kernel)))⟩
theorem ok_X9_takesKey : OkV M_X9_takesKey 0 := ⟨⟨(mt_6 _ (List.mem_of_getElem? (i := 175) (by decide +kernel))), (mt_1 _ (List.mem_of_getElem? (i := 10) (by decide +kernel))), by decide, by decide, by decide +kernel, by decide⟩, (mt_6 _ (List.mem_of_getElem? (i := 174) (by decide +kernel))), (mt_0 _ (List.mem_of_getElem? (i := 95) (by decide +kernel)))⟩
theorem ok_X9_takesE : OkV M_X9_takesE 0 := ⟨⟨(mt_6 _ (List.mem_of_getElem? (i := 179) (by decide +kernel))), (mt_1 _ (List.mem_of_getElem? (i := 10) (by decide +kernel))), by decide, by decide, by decide +kernel, by decide⟩, (mt_6 _ (List.mem_of_getElem? (i := 178) (by decide +kernel))), (mt_0 _ (List.mem_of_getElem? (i := 96) (by decide +kernel)))⟩
theorem ok_X9_takesPart : OkV M_X9_takesPart 0 := ⟨⟨(mt_6 _ (List.mem_of_getElem? (i := 183) (by decide +kernel))), (mt_1 _ (List.mem_of_getElem? (i := 10) (by decide +kernel))), by decide, by decide, by decide +kernel, by decide⟩, (mt_6 _ (List.mem_of_getElem? (i := 182) (by decide +kernel))), (mt_0 _ (List.mem_of_getElem? (i := 97) (by decide +kernel)))⟩
theorem ok_X9_nameOf : OkV M_X9_nameOf 1 := ⟨⟨(mt_6 _ (List.mem_of_getElem? (i := 187) (by decide +kernel))), (mt_1 _ (List.mem_of_getElem? (i := 10) (by decide +kernel))), by decide, by decide, by decide +kernel, by decide⟩, (mt_6 _ (List.mem_of_getElem? (i := 186) (by decide +kernel))), (mt_0 _ (List.mem_of_getElem? (i := 98) (by decide +kernel)))⟩
theorem ok_X9_settle : OkV M_X9_settle 1 := ⟨⟨(mt_6 _ (List.mem_of_getElem? (i := 191) (by decide +kernel))), (mt_1 _ (List.mem_of_getElem? (i := 10) (by decide +kernel))), by decide, by decide, by decide +kernel, by decide⟩, (mt_6 _ (List.mem_of_getElem? (i := 190) (by decide +kernel))), (mt_0 _ (List.mem_of_getElem? (i := 99) (by decide +kernel)))⟩
theorem ok_X9_rank : OkS M_X9_rank 1 := ⟨⟨(mt_6 _ (List.mem_of_getElem? (i := 194) (by decide +kernel))), (mt_1 _ (List.mem_of_getElem? (i := 10) (by decide +kernel))), by decide, by decide, by decide +kernel, by decide⟩, (mt_6 _ (List.mem_of_getElem? (i := 193) (by decide +kernel)))⟩
theorem ok_X9_notsOpen : OkV M_X9_notsOpen 0 := ⟨⟨(mt_6 _ (List.mem_of_getElem? (i := 198) (by decide +kernel))), (mt_1 _ (List.mem_of_getElem? (i := 10) (by decide +kernel))), by decide, by decide, by decide +kernel, by decide⟩, (mt_6 _ (List.mem_of_getElem? (i := 197) (by decide +kernel))), (mt_0 _ (List.mem_of_getElem? (i := 100) (by decide +kernel)))⟩
theorem ok_X9_signHere : OkV M_X9_signHere 0 := ⟨⟨(mt_6 _ (List.mem_of_getElem? (i := 202) (by decide +kernel))), (mt_1 _ (List.mem_of_getElem? (i := 10) (by decide +kernel))), by decide, by decide, by decide +kernel, by decide⟩, (mt_6 _ (List.mem_of_getElem? (i := 201) (by decide +kernel))), (mt_0 _ (List.mem_of_getElem? (i := 101) (by decide +kernel)))⟩
theorem ok_X9_textTold : OkV M_X9_textTold 2 := ⟨⟨(mt_6 _ (List.mem_of_getElem? (i := 206) (by decide +kernel))), (mt_1 _ (List.mem_of_getElem? (i := 10) (by decide +kernel))), by decide, by decide, by decide +kernel, by decide⟩, (mt_6 _ (List.mem_of_getElem? (i := 204) (by decide +kernel))), (mt_6 _ (List.mem_of_getElem? (i := 205) (by decide +kernel)))⟩
theorem ok_X9_why : OkV M_X9_why 1 := ⟨⟨(mt_6 _ (List.mem_of_getElem? (i := 210) (by decide +kernel))), (mt_1 _ (List.mem_of_getElem? (i := 10) (by decide +kernel))), by decide, by decide, by decide +kernel, by decide⟩, (mt_6 _ (List.mem_of_getElem? (i := 208) (by decide +kernel))), (mt_6 _ (List.mem_of_getElem? (i := 209) (by decide +kernel)))⟩
theorem ok_X9_sheet : OkV M_X9_sheet 3 := ⟨⟨(mt_6 _ (List.mem_of_getElem? (i := 214) (by decide +kernel))), (mt_1 _ (List.mem_of_getElem? (i := 10) (by decide +kernel))), by decide, by decide, by decide +kernel, by decide⟩, (mt_6 _ (List.mem_of_getElem? (i := 212) (by decide +kernel))), (mt_6 _ (List.mem_of_getElem? (i := 213) (by decide +kernel)))⟩
theorem ok_X9_mark : OkV M_X9_mark 3 := ⟨⟨(mt_6 _ (List.mem_of_getElem? (i := 219) (by decide +kernel))), (mt_1 _ (List.mem_of_getElem? (i := 10) (by decide +kernel))), by decide, by decide, by decide +kernel, by decide⟩, (mt_6 _ (List.mem_of_getElem? (i := 217) (by decide +kernel))), (mt_6 _ (List.mem_of_getElem? (i := 218) (by decide +kernel)))⟩
theorem ok_X9_pour : OkV M_X9_pour 1 := ⟨⟨(mt_6 _ (List.mem_of_getElem? (i := 226) (by decide +kernel))), (mt_1 _ (List.mem_of_getElem? (i := 10) (by decide +kernel))), by decide, by decide, by decide +kernel, by decide⟩, (mt_6 _ (List.mem_of_getElem? (i := 224) (by decide +kernel))), (mt_6 _ (List.mem_of_getElem? (i := 225) (by decide +kernel)))⟩
theorem ok_X9_reads : OkV M_X9_reads 1 := ⟨⟨(mt_6 _ (List.mem_of_getElem? (i := 230) (by decide +kernel))), (mt_1 _ (List.mem_of_getElem? (i := 10) (by decide +kernel))), by decide, by decide, by decide +kernel, by decide⟩, (mt_6 _ (List.mem_of_getElem? (i := 228) (by decide +kernel))), (mt_6 _ (List.mem_of_getElem? (i := 229) (by decide +kernel)))⟩
theorem ok_X9_copy : OkV M_X9_copy 5 := ⟨⟨(mt_6 _ (List.mem_of_getElem? (i := 234) (by decide +kernel))), (mt_1 _ (List.mem_of_getElem? (i := 10) (by decide +kernel))), by decide, by decide, by decide +kernel, by decide⟩, (mt_6 _ (List.mem_of_getElem? (i := 232) (by decide +kernel))), (mt_6 _ (List.mem_of_getElem? (i := 233) (by decide +kernel)))⟩
theorem ok_X9_lay : OkV M_X9_lay 3 := ⟨⟨(mt_6 _ (List.mem_of_getElem? (i := 238) (by decide +kernel))), (mt_1 _ (List.mem_of_getElem? (i := 10) (by decide +kernel))), by decide, by decide, by decide +kernel, by decide⟩, (mt_6 _ (List.mem_of_getElem? (i := 236) (by decide +kernel))), (mt_6 _ (List.mem_of_getElem? (i := 237) (by decide +kernel)))⟩
theorem ok_X9_isSlot : OkS M_X9_isSlot 1 := ⟨⟨(mt_7 _ (List.mem_of_getElem? (i := 1) (by decide +kernel))), (mt_1 _ (List.mem_of_getElem? (i := 10) (by decide +kernel))), by decide, by decide, by decide +kernel, by decide⟩, (mt_7 _ (List.mem_of_getElem? (i := 0) (by decide +kernel)))⟩
theorem ok_X9_ask : OkV M_X9_ask 2 := ⟨⟨(mt_7 _ (List.mem_of_getElem? (i := 5) (by decide +kernel))), (mt_1 _ (List.mem_of_getElem? (i := 10) (by decide +kernel))), by decide, by decide, by decide +kernel, by decide⟩, (mt_7 _ (List.mem_of_getElem? (i := 3) (by decide +kernel))), (mt_7 _ (List.mem_of_getElem? (i := 4) (by decide +kernel)))⟩
theorem ok_X9_item : OkV M_X9_item 2 := ⟨⟨(mt_7 _ (List.mem_of_getElem? (i := 9) (by decide +kernel))), (mt_1 _ (List.mem_of_getElem? (i := 10) (by decide +kernel))), by decide, by decide, by decide +kernel, by decide⟩, (mt_7 _ (List.mem_of_getElem? (i := 7) (by decide +kernel))), (mt_7 _ (List.mem_of_getElem? (i := 8) (by decide +kernel)))⟩
theorem ok_X9_rest : OkV M_X9_rest 2 := ⟨⟨(mt_7 _ (List.mem_of_getElem? (i := 13) (by decide +kernel))), (mt_1 _ (List.mem_of_getElem? (i := 10) (by decide +kernel))), by decide, by decide, by decide +kernel, by decide⟩, (mt_7 _ (List.mem_of_getElem? (i := 11) (by decide +kernel))), (mt_7 _ (List.mem_of_getElem? (i := 12) (by decide +kernel)))⟩
theorem ok_X9_tell : OkV M_X9_tell 1 := ⟨⟨(mt_7 _ (List.mem_of_getElem? (i := 17) (by decide +kernel))), (mt_1 _ (List.mem_of_getElem? (i := 10) (by decide +kernel))), by decide, by decide, by decide +kernel, by decide⟩, (mt_7 _ (List.mem_of_getElem? (i := 15) (by decide +kernel))), (mt_7 _ (List.mem_of_getElem? (i := 16) (by decide +kernel)))⟩
theorem ok_X9_check : OkV M_X9_check 1 := ⟨⟨(mt_7 _ (List.mem_of_getElem? (i := 21) (by decide +kernel))), (mt_1 _ (List.mem_of_getElem? (i := 10) (by decide +kernel))), by decide, by decide, by decide +kernel, by decide⟩, (mt_7 _ (List.mem_of_getElem? (i := 19) (by decide +kernel))), (mt_7 _ (List.mem_of_getElem? (i := 20) (by decide +kernel)))⟩
theorem ok_X9_keep : OkV M_X9_keep 0 := ⟨⟨(mt_7 _ (List.mem_of_getElem? (i := 25) (by decide +kernel))), (mt_1 _ (List.mem_of_getElem? (i := 10) (by decide +kernel))), by decide, by decide, by decide +kernel, by decide⟩, (mt_7 _ (List.mem_of_getElem? (i := 23) (by decide +kernel))), (mt_7 _ (List.mem_of_getElem? (i := 24) (by decide +kernel)))⟩
theorem ok_X9_back : OkV M_X9_back 0 := ⟨⟨(mt_7 _ (List.mem_of_getElem? (i := 29) (by decide +kernel))), (mt_1 _ (List.mem_of_getElem? (i := 10) (by decide +kernel))), by decide, by decide, by decide +kernel, by decide⟩, (mt_7 _ (List.mem_of_getElem? (i := 27) (by decide +kernel))), (mt_7 _ (List.mem_of_getElem? (i := 28) (by decide +kernel)))⟩
theorem ok_X9_count : OkV M_X9_count 1 := ⟨⟨(mt_7 _ (List.mem_of_getElem? (i := 33) (by decide +kernel))), (mt_1 _ (List.mem_of_getElem? (i := 10) (by decide +kernel))), by decide, by decide, by decide +kernel, by decide⟩, (mt_7 _ (List.mem_of_getElem? (i := 31) (by decide +kernel))), (mt_7 _ (List.mem_of_getElem? (i := 32) (by decide +kernel)))⟩
theorem lm_L_9 : LkM RL 9 yX8_init := Or.inl (mt_1 _ (List.mem_of_getElem? (i := 22) (by decide +kernel)))
theorem lm_X8_9 : LkM RX8 9 yX0_init := Or.inr ⟨"SkittleMen", (mt_1 _ (List.mem_of_getElem? (i := 30) (by decide +kernel)))⟩
theorem lm_X0_49 : LkM RX0 49 yX1_init := Or.inr ⟨"SkittleMen", (mt_1 _ (List.mem_of_getElem? (i := 39) (by decide +kernel)))⟩
theorem lm_X0_51 : LkM RX0 51 yJ7_fill_53178 := Or.inl (mt_1 _ (List.mem_of_getElem? (i := 76) (by decide +kernel)))
theorem lm_X8_28 : LkM RX8 28 yX2_init := Or.inr ⟨"SkittleMen", (mt_1 _ (List.mem_of_getElem? (i := 123) (by decide +kernel)))⟩
theorem lm_X8_35 : LkM RX8 35 yX7_init := Or.inr ⟨"SkittleMen", (mt_1 _ (List.mem_of_getElem? (i := 167) (by decide +kernel)))⟩
theorem lm_X7_11 : LkM RX7 11 yX5_init := Or.inr ⟨"SkittleMen", (mt_1 _ (List.mem_of_getElem? (i := 173) (by decide +kernel)))⟩
theorem lm_X8_68 : LkM RX8 68 yX3_init := Or.inr ⟨"SkittleMen", (mt_1 _ (List.mem_of_getElem? (i := 237) (by decide +kernel)))⟩
theorem lm_X8_69 : LkM RX8 69 yX4_init := Or.inr ⟨"SkittleMen", (mt_2 _ (List.mem_of_getElem? (i := 15) (by decide +kernel)))⟩
theorem lm_X4_15 : LkM RX4 15 yX1_init := Or.inr ⟨"SkittleMen", (mt_2 _ (List.mem_of_getElem? (i := 20) (by decide +kernel)))⟩
theorem lm_X4_22 : LkM RX4 22 yX3_init := Or.inr ⟨"SkittleMen", (mt_2 _ (List.mem_of_getElem? (i := 22) (by decide +kernel)))⟩
theorem lm_L_13 : LkM RL 13 yX8_man := Or.inl (mt_2 _ (List.mem_of_getElem? (i := 77) (by decide +kernel)))
theorem lm_X8_70 : LkM RX8 70 yX8_isWithin := Or.inl (mt_2 _ (List.mem_of_getElem? (i := 81) (by decide +kernel)))
theorem lm_X8_79 : LkM RX8 79 yX0_take := Or.inr ⟨"SkittleMen", (mt_2 _ (List.mem_of_getElem? (i := 86) (by decide +kernel)))⟩
theorem lm_L_18 : LkM RL 18 yX8_told := Or.inl (mt_2 _ (List.mem_of_getElem? (i := 91) (by decide +kernel)))
theorem lm_X8_83 : LkM RX8 83 yX0_has := Or.inr ⟨"SkittleMen", (mt_2 _ (List.mem_of_getElem? (i := 95) (by decide +kernel)))⟩
theorem lm_X8_111 : LkM RX8 111 yX1_pushing := Or.inr ⟨"SkittleMen", (mt_2 _ (List.mem_of_getElem? (i := 99) (by decide +kernel)))⟩
theorem lm_X8_115 : LkM RX8 115 yX1_worth := Or.inr ⟨"SkittleMen", (mt_2 _ (List.mem_of_getElem? (i := 103) (by decide +kernel)))⟩
theorem lm_L_23 : LkM RL 23 yX8_bears := Or.inl (mt_2 _ (List.mem_of_getElem? (i := 107) (by decide +kernel)))
theorem lm_X8_118 : LkM RX8 118 yX0_bearing := Or.inr ⟨"SkittleMen", (mt_2 _ (List.mem_of_getElem? (i := 111) (by decide +kernel)))⟩
theorem lm_X0_127 : LkM RX0 127 yX0_standing := Or.inl (mt_2 _ (List.mem_of_getElem? (i := 115) (by decide +kernel)))
theorem lm_X0_75 : LkM RX0 75 yX0_standingSet := Or.inl (mt_2 _ (List.mem_of_getElem? (i := 119) (by decide +kernel)))
theorem lm_X0_79 : LkM RX0 79 yJ6_bitCount_0f7a4 := Or.inl (mt_2 _ (List.mem_of_getElem? (i := 123) (by decide +kernel)))
theorem lm_X0_130 : LkM RX0 130 yX0_plainBearing := Or.inl (mt_2 _ (List.mem_of_getElem? (i := 129) (by decide +kernel)))
theorem lm_X0_116 : LkM RX0 116 yX0_counted := Or.inl (mt_2 _ (List.mem_of_getElem? (i := 133) (by decide +kernel)))
theorem lm_X0_112 : LkM RX0 112 yX8_isWithin := Or.inr ⟨"SkittleMen", (mt_2 _ (List.mem_of_getElem? (i := 137) (by decide +kernel)))⟩
theorem lm_X0_120 : LkM RX0 120 yX6_gives := Or.inr ⟨"SkittleMen", (mt_2 _ (List.mem_of_getElem? (i := 138) (by decide +kernel)))⟩
theorem lm_X6_29 : LkM RX6 29 yX6_chosen := Or.inl (mt_2 _ (List.mem_of_getElem? (i := 143) (by decide +kernel)))
theorem lm_X6_33 : LkM RX6 33 yX6_joined := Or.inl (mt_2 _ (List.mem_of_getElem? (i := 146) (by decide +kernel)))
theorem lm_X0_123 : LkM RX0 123 yX8_held := Or.inr ⟨"SkittleMen", (mt_2 _ (List.mem_of_getElem? (i := 149) (by decide +kernel)))⟩
theorem lm_X8_150 : LkM RX8 150 yJ9_min_7cf53 := Or.inl (mt_2 _ (List.mem_of_getElem? (i := 152) (by decide +kernel)))
theorem lm_X8_336 : LkM RX8 336 yJ9_max_7cf53 := Or.inl (mt_2 _ (List.mem_of_getElem? (i := 155) (by decide +kernel)))
theorem lm_X0_133 : LkM RX0 133 yX1_bearing := Or.inr ⟨"SkittleMen", (mt_2 _ (List.mem_of_getElem? (i := 158) (by decide +kernel)))⟩
theorem lm_X1_39 : LkM RX1 39 yJ9_max_7cf53 := Or.inl (mt_2 _ (List.mem_of_getElem? (i := 162) (by decide +kernel)))
theorem lm_L_27 : LkM RL 27 yX8_as := Or.inl (mt_2 _ (List.mem_of_getElem? (i := 163) (by decide +kernel)))
theorem lm_X8_122 : LkM RX8 122 yX1_isOf := Or.inr ⟨"SkittleMen", (mt_2 _ (List.mem_of_getElem? (i := 167) (by decide +kernel)))⟩
theorem lm_X1_31 : LkM RX1 31 yX8_isWithin := Or.inr ⟨"SkittleMen", (mt_2 _ (List.mem_of_getElem? (i := 171) (by decide +kernel)))⟩
theorem lm_L_31 : LkM RL 31 yX8_turns := Or.inl (mt_2 _ (List.mem_of_getElem? (i := 175) (by decide +kernel)))
theorem lm_L_35 : LkM RL 35 yX8_set := Or.inl (mt_2 _ (List.mem_of_getElem? (i := 179) (by decide +kernel)))
theorem lm_X8_126 : LkM RX8 126 yX8_mostOf := Or.inl (mt_2 _ (List.mem_of_getElem? (i := 183) (by decide +kernel)))
theorem lm_X8_130 : LkM RX8 130 yX8_told := Or.inl (mt_2 _ (List.mem_of_getElem? (i := 186) (by decide +kernel)))
theorem lm_L_40 : LkM RL 40 yX8_says := Or.inl (mt_2 _ (List.mem_of_getElem? (i := 187) (by decide +kernel)))
theorem lm_X8_133 : LkM RX8 133 yX0_stands := Or.inr ⟨"SkittleMen", (mt_2 _ (List.mem_of_getElem? (i := 191) (by decide +kernel)))⟩
theorem lm_X0_67 : LkM RX0 67 yX0_has := Or.inl (mt_2 _ (List.mem_of_getElem? (i := 195) (by decide +kernel)))
theorem lm_X8_140 : LkM RX8 140 yX0_hit := Or.inr ⟨"SkittleMen", (mt_2 _ (List.mem_of_getElem? (i := 197) (by decide +kernel)))⟩
theorem lm_X0_137 : LkM RX0 137 yX0_stands := Or.inl (mt_2 _ (List.mem_of_getElem? (i := 201) (by decide +kernel)))
theorem lm_X0_140 : LkM RX0 140 yX0_bearing := Or.inl (mt_2 _ (List.mem_of_getElem? (i := 202) (by decide +kernel)))
theorem lm_X0_142 : LkM RX0 142 yJ9_min_7cf53 := Or.inl (mt_2 _ (List.mem_of_getElem? (i := 203) (by decide +kernel)))
theorem lm_X0_150 : LkM RX0 150 yX1_pushing := Or.inr ⟨"SkittleMen", (mt_2 _ (List.mem_of_getElem? (i := 206) (by decide +kernel)))⟩
theorem lm_X0_153 : LkM RX0 153 yX0_hit := Or.inl (mt_2 _ (List.mem_of_getElem? (i := 207) (by decide +kernel)))
theorem lm_L_44 : LkM RL 44 yX8_sets := Or.inl (mt_2 _ (List.mem_of_getElem? (i := 210) (by decide +kernel)))
theorem lm_X8_144 : LkM RX8 144 yX0_standing := Or.inr ⟨"SkittleMen", (mt_2 _ (List.mem_of_getElem? (i := 214) (by decide +kernel)))⟩
theorem lm_X8_147 : LkM RX8 147 yX0_setUp := Or.inr ⟨"SkittleMen", (mt_2 _ (List.mem_of_getElem? (i := 215) (by decide +kernel)))⟩
theorem lm_L_49 : LkM RL 49 yX8_deal := Or.inl (mt_2 _ (List.mem_of_getElem? (i := 219) (by decide +kernel)))
theorem lm_X8_155 : LkM RX8 155 yX0_takeByLot := Or.inr ⟨"SkittleMen", (mt_2 _ (List.mem_of_getElem? (i := 223) (by decide +kernel)))⟩
theorem lm_X0_92 : LkM RX0 92 yX0_draw := Or.inl (mt_2 _ (List.mem_of_getElem? (i := 227) (by decide +kernel)))
theorem lm_X0_95 : LkM RX0 95 yX0_take := Or.inl (mt_2 _ (List.mem_of_getElem? (i := 232) (by decide +kernel)))
theorem lm_L_54 : LkM RL 54 yX8_seed := Or.inl (mt_2 _ (List.mem_of_getElem? (i := 233) (by decide +kernel)))
theorem lm_L_58 : LkM RL 58 yX8_goes := Or.inl (mt_2 _ (List.mem_of_getElem? (i := 237) (by decide +kernel)))
theorem lm_X8_164 : LkM RX8 164 yX0_goOn := Or.inr ⟨"SkittleMen", (mt_3 _ (List.mem_of_getElem? (i := 1) (by decide +kernel)))⟩
theorem lm_X0_160 : LkM RX0 160 yX0_goOnce := Or.inl (mt_3 _ (List.mem_of_getElem? (i := 5) (by decide +kernel)))
theorem lm_X0_163 : LkM RX0 163 yX0_setUp := Or.inl (mt_3 _ (List.mem_of_getElem? (i := 9) (by decide +kernel)))
theorem lm_X0_166 : LkM RX0 166 yX0_firstStandingFrom := Or.inl (mt_3 _ (List.mem_of_getElem? (i := 10) (by decide +kernel)))
theorem lm_X0_169 : LkM RX0 169 yX0_moveNerves := Or.inl (mt_3 _ (List.mem_of_getElem? (i := 14) (by decide +kernel)))
theorem lm_L_62 : LkM RL 62 yX8_alley := Or.inl (mt_3 _ (List.mem_of_getElem? (i := 18) (by decide +kernel)))
theorem lm_X8_174 : LkM RX8 174 yX0_standingSet := Or.inr ⟨"SkittleMen", (mt_3 _ (List.mem_of_getElem? (i := 22) (by decide +kernel)))⟩
theorem lm_X8_177 : LkM RX8 177 yX0_nerveOfAll := Or.inr ⟨"SkittleMen", (mt_3 _ (List.mem_of_getElem? (i := 23) (by decide +kernel)))⟩
theorem lm_X8_180 : LkM RX8 180 yX0_mostFelled := Or.inr ⟨"SkittleMen", (mt_3 _ (List.mem_of_getElem? (i := 27) (by decide +kernel)))⟩
theorem lm_L_66 : LkM RL 66 yX8_best := Or.inl (mt_3 _ (List.mem_of_getElem? (i := 31) (by decide +kernel)))
theorem lm_X8_184 : LkM RX8 184 yX2_lookAt := Or.inr ⟨"SkittleMen", (mt_3 _ (List.mem_of_getElem? (i := 36) (by decide +kernel)))⟩
theorem lm_X2_46 : LkM RX2 46 yX0_standingSet := Or.inr ⟨"SkittleMen", (mt_3 _ (List.mem_of_getElem? (i := 40) (by decide +kernel)))⟩
theorem lm_X2_52 : LkM RX2 52 yJ6_bitCount_0f7a4 := Or.inl (mt_3 _ (List.mem_of_getElem? (i := 41) (by decide +kernel)))
theorem lm_X2_58 : LkM RX2 58 yX0_stands := Or.inr ⟨"SkittleMen", (mt_3 _ (List.mem_of_getElem? (i := 42) (by decide +kernel)))⟩
theorem lm_X2_66 : LkM RX2 66 yX1_pushing := Or.inr ⟨"SkittleMen", (mt_3 _ (List.mem_of_getElem? (i := 43) (by decide +kernel)))⟩
theorem lm_X2_71 : LkM RX2 71 yX2_writeBearings := Or.inl (mt_3 _ (List.mem_of_getElem? (i := 44) (by decide +kernel)))
theorem lm_X2_75 : LkM RX2 75 yX0_plainBearing := Or.inr ⟨"SkittleMen", (mt_3 _ (List.mem_of_getElem? (i := 48) (by decide +kernel)))⟩
theorem lm_X2_79 : LkM RX2 79 yX2_bearingPlace := Or.inl (mt_3 _ (List.mem_of_getElem? (i := 49) (by decide +kernel)))
theorem lm_X2_83 : LkM RX2 83 yX1_bearing := Or.inr ⟨"SkittleMen", (mt_3 _ (List.mem_of_getElem? (i := 52) (by decide +kernel)))⟩
theorem lm_X8_188 : LkM RX8 188 yX2_findBest := Or.inr ⟨"SkittleMen", (mt_3 _ (List.mem_of_getElem? (i := 53) (by decide +kernel)))⟩
theorem lm_X2_86 : LkM RX2 86 yX2_isIn := Or.inl (mt_3 _ (List.mem_of_getElem? (i := 57) (by decide +kernel)))
theorem lm_X2_93 : LkM RX2 93 yX2_fallsBy := Or.inl (mt_3 _ (List.mem_of_getElem? (i := 60) (by decide +kernel)))
theorem lm_X2_97 : LkM RX2 97 yX2_leftBehind := Or.inl (mt_3 _ (List.mem_of_getElem? (i := 64) (by decide +kernel)))
theorem lm_X2_104 : LkM RX2 104 yX2_offer := Or.inl (mt_3 _ (List.mem_of_getElem? (i := 70) (by decide +kernel)))
theorem lm_L_70 : LkM RL 70 yX8_pair := Or.inl (mt_3 _ (List.mem_of_getElem? (i := 74) (by decide +kernel)))
theorem lm_X8_203 : LkM RX8 203 yX2_mostByTwo := Or.inr ⟨"SkittleMen", (mt_3 _ (List.mem_of_getElem? (i := 78) (by decide +kernel)))⟩
theorem lm_X2_108 : LkM RX2 108 yX2_startQueue := Or.inl (mt_3 _ (List.mem_of_getElem? (i := 82) (by decide +kernel)))
theorem lm_X2_121 : LkM RX2 121 yJ7_fill_53178 := Or.inl (mt_3 _ (List.mem_of_getElem? (i := 86) (by decide +kernel)))
theorem lm_X2_111 : LkM RX2 111 yX2_queueAllBehind := Or.inl (mt_3 _ (List.mem_of_getElem? (i := 87) (by decide +kernel)))
theorem lm_X2_127 : LkM RX2 127 yX2_enqueue := Or.inl (mt_3 _ (List.mem_of_getElem? (i := 91) (by decide +kernel)))
theorem lm_X2_115 : LkM RX2 115 yJ9_min_7cf53 := Or.inl (mt_3 _ (List.mem_of_getElem? (i := 95) (by decide +kernel)))
theorem lm_L_74 : LkM RL 74 yX8_clear := Or.inl (mt_3 _ (List.mem_of_getElem? (i := 96) (by decide +kernel)))
theorem lm_X8_206 : LkM RX8 206 yX2_fewestForAll := Or.inr ⟨"SkittleMen", (mt_3 _ (List.mem_of_getElem? (i := 100) (by decide +kernel)))⟩
theorem lm_L_78 : LkM RL 78 yX8_force := Or.inl (mt_3 _ (List.mem_of_getElem? (i := 105) (by decide +kernel)))
theorem lm_L_82 : LkM RL 82 yX8_behind := Or.inl (mt_3 _ (List.mem_of_getElem? (i := 109) (by decide +kernel)))
theorem lm_X8_209 : LkM RX8 209 yX0_becomeAs := Or.inr ⟨"SkittleMen", (mt_3 _ (List.mem_of_getElem? (i := 113) (by decide +kernel)))⟩
theorem lm_X0_57 : LkM RX0 57 yX1_becomeAs := Or.inr ⟨"SkittleMen", (mt_3 _ (List.mem_of_getElem? (i := 117) (by decide +kernel)))⟩
theorem lm_L_86 : LkM RL 86 yX8_falls := Or.inl (mt_3 _ (List.mem_of_getElem? (i := 124) (by decide +kernel)))
theorem lm_X8_213 : LkM RX8 213 yX0_goOnce := Or.inr ⟨"SkittleMen", (mt_3 _ (List.mem_of_getElem? (i := 128) (by decide +kernel)))⟩
theorem lm_L_90 : LkM RL 90 yX8_becomes := Or.inl (mt_3 _ (List.mem_of_getElem? (i := 129) (by decide +kernel)))
theorem lm_L_94 : LkM RL 94 yX8_like := Or.inl (mt_3 _ (List.mem_of_getElem? (i := 133) (by decide +kernel)))
theorem lm_X8_216 : LkM RX8 216 yX8_isSheet := Or.inl (mt_3 _ (List.mem_of_getElem? (i := 137) (by decide +kernel)))
theorem lm_X8_219 : LkM RX8 219 yX3_isMissing := Or.inr ⟨"SkittleMen", (mt_3 _ (List.mem_of_getElem? (i := 140) (by decide +kernel)))⟩
theorem lm_X8_224 : LkM RX8 224 yX8_addDifferences := Or.inl (mt_3 _ (List.mem_of_getElem? (i := 145) (by decide +kernel)))
theorem lm_X8_228 : LkM RX8 228 yJ7_fill_53178 := Or.inl (mt_3 _ (List.mem_of_getElem? (i := 149) (by decide +kernel)))
theorem lm_X8_235 : LkM RX8 235 yX3_isNumber := Or.inr ⟨"SkittleMen", (mt_3 _ (List.mem_of_getElem? (i := 150) (by decide +kernel)))⟩
theorem lm_X3_34 : LkM RX3 34 yX3_has := Or.inl (mt_3 _ (List.mem_of_getElem? (i := 154) (by decide +kernel)))
theorem lm_X8_241 : LkM RX8 241 yJ9_abs_0f7a4 := Or.inl (mt_3 _ (List.mem_of_getElem? (i := 159) (by decide +kernel)))
theorem lm_L_98 : LkM RL 98 yX8_fee := Or.inl (mt_3 _ (List.mem_of_getElem? (i := 162) (by decide +kernel)))
theorem lm_X8_244 : LkM RX8 244 yX0_counted := Or.inr ⟨"SkittleMen", (mt_3 _ (List.mem_of_getElem? (i := 166) (by decide +kernel)))⟩
theorem lm_X8_248 : LkM RX8 248 yX6_gives := Or.inr ⟨"SkittleMen", (mt_3 _ (List.mem_of_getElem? (i := 167) (by decide +kernel)))⟩
theorem lm_L_102 : LkM RL 102 yX8_fine := Or.inl (mt_3 _ (List.mem_of_getElem? (i := 168) (by decide +kernel)))
theorem lm_L_106 : LkM RL 106 yX8_feed := Or.inl (mt_3 _ (List.mem_of_getElem? (i := 172) (by decide +kernel)))
theorem lm_X8_256 : LkM RX8 256 yX5_put := Or.inr ⟨"SkittleMen", (mt_3 _ (List.mem_of_getElem? (i := 176) (by decide +kernel)))⟩
theorem lm_L_110 : LkM RL 110 yX8_trim := Or.inl (mt_3 _ (List.mem_of_getElem? (i := 180) (by decide +kernel)))
theorem lm_L_114 : LkM RL 114 yX8_text := Or.inl (mt_3 _ (List.mem_of_getElem? (i := 184) (by decide +kernel)))
theorem lm_X8_259 : LkM RX8 259 yX7_faultFound := Or.inr ⟨"SkittleMen", (mt_3 _ (List.mem_of_getElem? (i := 188) (by decide +kernel)))⟩
theorem lm_X7_60 : LkM RX7 60 yX7_startAgain := Or.inl (mt_3 _ (List.mem_of_getElem? (i := 192) (by decide +kernel)))
theorem lm_X7_63 : LkM RX7 63 yX7_nextWord := Or.inl (mt_3 _ (List.mem_of_getElem? (i := 196) (by decide +kernel)))
theorem lm_X7_92 : LkM RX7 92 yX7_isWord := Or.inl (mt_3 _ (List.mem_of_getElem? (i := 200) (by decide +kernel)))
theorem lm_X7_98 : LkM RX7 98 yX7_byteAt := Or.inl (mt_3 _ (List.mem_of_getElem? (i := 204) (by decide +kernel)))
theorem lm_X7_105 : LkM RX7 105 yX8_isWithin := Or.inr ⟨"SkittleMen", (mt_3 _ (List.mem_of_getElem? (i := 208) (by decide +kernel)))⟩
theorem lm_X7_102 : LkM RX7 102 yX7_sortAt := Or.inl (mt_3 _ (List.mem_of_getElem? (i := 209) (by decide +kernel)))
theorem lm_X7_66 : LkM RX7 66 yX7_keyRead := Or.inl (mt_3 _ (List.mem_of_getElem? (i := 213) (by decide +kernel)))
theorem lm_X7_113 : LkM RX7 113 yX7_wordOf := Or.inl (mt_3 _ (List.mem_of_getElem? (i := 217) (by decide +kernel)))
theorem lm_X7_117 : LkM RX7 117 yX7_isRead := Or.inl (mt_3 _ (List.mem_of_getElem? (i := 223) (by decide +kernel)))
theorem lm_X7_133 : LkM RX7 133 yJ0_length_8abf5 := Or.inl (mt_3 _ (List.mem_of_getElem? (i := 227) (by decide +kernel)))
theorem lm_J0_335 : LkM RJ0 335 yJ0_coder_7d493 := Or.inl (mt_3 _ (List.mem_of_getElem? (i := 231) (by decide +kernel)))
theorem lm_X7_138 : LkM RX7 138 yJ0_charAt_5068e := Or.inl (mt_3 _ (List.mem_of_getElem? (i := 237) (by decide +kernel)))
theorem lm_J0_492 : LkM RJ0 492 yJ0_isLatin1_aae02 := Or.inl (mt_4 _ (List.mem_of_getElem? (i := 1) (by decide +kernel)))
theorem lm_J0_495 : LkM RJ0 495 yJ1_charAt_3b067 := Or.inl (mt_4 _ (List.mem_of_getElem? (i := 5) (by decide +kernel)))
theorem lm_J1_9 : LkM RJ1 9 yJ0_checkIndex_df160 := Or.inl (mt_4 _ (List.mem_of_getElem? (i := 8) (by decide +kernel)))
theorem lm_J0_1059 : LkM RJ0 1059 yJ3_checkIndex_8e157 := Or.inl (mt_4 _ (List.mem_of_getElem? (i := 13) (by decide +kernel)))
theorem lm_J0_498 : LkM RJ0 498 yJ2_charAt_3b067 := Or.inl (mt_4 _ (List.mem_of_getElem? (i := 16) (by decide +kernel)))
theorem lm_J2_67 : LkM RJ2 67 yJ2_checkIndex_2214a := Or.inl (mt_4 _ (List.mem_of_getElem? (i := 19) (by decide +kernel)))
theorem lm_J2_48 : LkM RJ2 48 yJ2_length_9d52b := Or.inl (mt_4 _ (List.mem_of_getElem? (i := 22) (by decide +kernel)))
theorem lm_J2_414 : LkM RJ2 414 yJ0_checkIndex_df160 := Or.inl (mt_4 _ (List.mem_of_getElem? (i := 25) (by decide +kernel)))
theorem lm_J2_71 : LkM RJ2 71 yJ2_getChar_3b067 := Or.inl (mt_4 _ (List.mem_of_getElem? (i := 26) (by decide +kernel)))
theorem lm_X7_70 : LkM RX7 70 yX7_takesPiece := Or.inl (mt_4 _ (List.mem_of_getElem? (i := 35) (by decide +kernel)))
theorem lm_X7_142 : LkM RX7 142 yX7_numberRead := Or.inl (mt_4 _ (List.mem_of_getElem? (i := 39) (by decide +kernel)))
theorem lm_X7_145 : LkM RX7 145 yX7_takesValue := Or.inl (mt_4 _ (List.mem_of_getElem? (i := 43) (by decide +kernel)))
theorem lm_X7_158 : LkM RX7 158 yX7_emit := Or.inl (mt_4 _ (List.mem_of_getElem? (i := 47) (by decide +kernel)))
theorem lm_X7_161 : LkM RX7 161 yX7_endPiece := Or.inl (mt_4 _ (List.mem_of_getElem? (i := 51) (by decide +kernel)))
theorem lm_X7_164 : LkM RX7 164 yX7_popSign := Or.inl (mt_4 _ (List.mem_of_getElem? (i := 55) (by decide +kernel)))
theorem lm_X7_149 : LkM RX7 149 yX7_namesOf := Or.inl (mt_4 _ (List.mem_of_getElem? (i := 59) (by decide +kernel)))
theorem lm_X7_152 : LkM RX7 152 yJ0_indexOf_0f7a4 := Or.inl (mt_4 _ (List.mem_of_getElem? (i := 65) (by decide +kernel)))
theorem lm_J0_633 : LkM RJ0 633 yJ0_indexOf_7cf53 := Or.inl (mt_4 _ (List.mem_of_getElem? (i := 69) (by decide +kernel)))
theorem lm_J0_505 : LkM RJ0 505 yJ0_length_8abf5 := Or.inl (mt_4 _ (List.mem_of_getElem? (i := 73) (by decide +kernel)))
theorem lm_J0_637 : LkM RJ0 637 yJ1_indexOf_4cfef := Or.inl (mt_4 _ (List.mem_of_getElem? (i := 74) (by decide +kernel)))
theorem lm_J1_88 : LkM RJ1 88 yJ1_canEncode_9a6ad := Or.inl (mt_4 _ (List.mem_of_getElem? (i := 77) (by decide +kernel)))
theorem lm_J1_92 : LkM RJ1 92 yJ9_max_7cf53 := Or.inl (mt_4 _ (List.mem_of_getElem? (i := 80) (by decide +kernel)))
theorem lm_J1_38 : LkM RJ1 38 yJ9_min_7cf53 := Or.inl (mt_4 _ (List.mem_of_getElem? (i := 81) (by decide +kernel)))
theorem lm_J1_95 : LkM RJ1 95 yJ1_indexOfChar_4cfef := Or.inl (mt_4 _ (List.mem_of_getElem? (i := 82) (by decide +kernel)))
theorem lm_J0_640 : LkM RJ0 640 yJ2_indexOf_4cfef := Or.inl (mt_4 _ (List.mem_of_getElem? (i := 85) (by decide +kernel)))
theorem lm_J2_224 : LkM RJ2 224 yJ9_max_7cf53 := Or.inl (mt_4 _ (List.mem_of_getElem? (i := 88) (by decide +kernel)))
theorem lm_J2_183 : LkM RJ2 183 yJ9_min_7cf53 := Or.inl (mt_4 _ (List.mem_of_getElem? (i := 89) (by decide +kernel)))
theorem lm_J2_228 : LkM RJ2 228 yJ2_indexOfChar_4cfef := Or.inl (mt_4 _ (List.mem_of_getElem? (i := 91) (by decide +kernel)))
theorem lm_J2_96 : LkM RJ2 96 yJ2_checkBoundsBeginEnd_d044e := Or.inl (mt_4 _ (List.mem_of_getElem? (i := 94) (by decide +kernel)))
theorem lm_J2_241 : LkM RJ2 241 yJ0_checkBoundsBeginEnd_23922 := Or.inl (mt_4 _ (List.mem_of_getElem? (i := 97) (by decide +kernel)))
theorem lm_J0_1062 : LkM RJ0 1062 yJ3_checkFromToIndex_8c36e := Or.inl (mt_4 _ (List.mem_of_getElem? (i := 100) (by decide +kernel)))
theorem lm_J2_244 : LkM RJ2 244 yJ2_indexOfCharUnsafe_4cfef := Or.inl (mt_4 _ (List.mem_of_getElem? (i := 103) (by decide +kernel)))
theorem lm_J2_232 : LkM RJ2 232 yJ2_indexOfSupplementary_4cfef := Or.inl (mt_4 _ (List.mem_of_getElem? (i := 106) (by decide +kernel)))
theorem lm_J2_164 : LkM RJ2 164 yJ11_isValidCodePoint_9a6ad := Or.inl (mt_4 _ (List.mem_of_getElem? (i := 109) (by decide +kernel)))
theorem lm_J2_157 : LkM RJ2 157 yJ11_highSurrogate_5068e := Or.inl (mt_4 _ (List.mem_of_getElem? (i := 112) (by decide +kernel)))
theorem lm_J2_161 : LkM RJ2 161 yJ11_lowSurrogate_5068e := Or.inl (mt_4 _ (List.mem_of_getElem? (i := 116) (by decide +kernel)))
theorem lm_X7_155 : LkM RX7 155 yX7_pushes := Or.inl (mt_4 _ (List.mem_of_getElem? (i := 120) (by decide +kernel)))
theorem lm_X7_74 : LkM RX7 74 yX7_takesJoining := Or.inl (mt_4 _ (List.mem_of_getElem? (i := 124) (by decide +kernel)))
theorem lm_X7_167 : LkM RX7 167 yX7_closeParen := Or.inl (mt_4 _ (List.mem_of_getElem? (i := 128) (by decide +kernel)))
theorem lm_X7_77 : LkM RX7 77 yX7_popSignsFrom := Or.inl (mt_4 _ (List.mem_of_getElem? (i := 132) (by decide +kernel)))
theorem lm_X7_170 : LkM RX7 170 yX7_tightnessOf := Or.inl (mt_4 _ (List.mem_of_getElem? (i := 136) (by decide +kernel)))
theorem lm_X8_265 : LkM RX8 265 yX7_made := Or.inr ⟨"SkittleMen", (mt_4 _ (List.mem_of_getElem? (i := 139) (by decide +kernel)))⟩
theorem lm_X7_83 : LkM RX7 83 yJ7_copyOf_59c91 := Or.inl (mt_4 _ (List.mem_of_getElem? (i := 144) (by decide +kernel)))
theorem lm_J7_304 : LkM RJ7 304 yJ9_min_7cf53 := Or.inl (mt_4 _ (List.mem_of_getElem? (i := 154) (by decide +kernel)))
theorem lm_X7_89 : LkM RX7 89 yX6_init := Or.inr ⟨"SkittleMen", (mt_4 _ (List.mem_of_getElem? (i := 156) (by decide +kernel)))⟩
theorem lm_X6_20 : LkM RX6 20 yJ9_max_7cf53 := Or.inl (mt_4 _ (List.mem_of_getElem? (i := 160) (by decide +kernel)))
theorem lm_X8_269 : LkM RX8 269 yX0_takeText := Or.inr ⟨"SkittleMen", (mt_4 _ (List.mem_of_getElem? (i := 177) (by decide +kernel)))⟩
theorem lm_L_118 : LkM RL 118 yX8_textTold := Or.inl (mt_4 _ (List.mem_of_getElem? (i := 181) (by decide +kernel)))
theorem lm_L_122 : LkM RL 122 yX8_why := Or.inl (mt_4 _ (List.mem_of_getElem? (i := 185) (by decide +kernel)))
theorem lm_L_126 : LkM RL 126 yX8_sheet := Or.inl (mt_4 _ (List.mem_of_getElem? (i := 189) (by decide +kernel)))
theorem lm_X8_286 : LkM RX8 286 yX3_becomeRow := Or.inr ⟨"SkittleMen", (mt_4 _ (List.mem_of_getElem? (i := 193) (by decide +kernel)))⟩
theorem lm_X3_22 : LkM RX3 22 yJ7_fill_53178 := Or.inl (mt_4 _ (List.mem_of_getElem? (i := 197) (by decide +kernel)))
theorem lm_L_130 : LkM RL 130 yX8_mark := Or.inl (mt_4 _ (List.mem_of_getElem? (i := 199) (by decide +kernel)))
theorem lm_X8_291 : LkM RX8 291 yX3_has := Or.inr ⟨"SkittleMen", (mt_4 _ (List.mem_of_getElem? (i := 203) (by decide +kernel)))⟩
theorem lm_L_134 : LkM RL 134 yX8_pour := Or.inl (mt_4 _ (List.mem_of_getElem? (i := 207) (by decide +kernel)))
theorem lm_X8_298 : LkM RX8 298 yX8_held := Or.inl (mt_4 _ (List.mem_of_getElem? (i := 211) (by decide +kernel)))
theorem lm_L_138 : LkM RL 138 yX8_reads := Or.inl (mt_4 _ (List.mem_of_getElem? (i := 212) (by decide +kernel)))
theorem lm_L_142 : LkM RL 142 yX8_copy := Or.inl (mt_4 _ (List.mem_of_getElem? (i := 216) (by decide +kernel)))
theorem lm_X8_301 : LkM RX8 301 yX3_hasRun := Or.inr ⟨"SkittleMen", (mt_4 _ (List.mem_of_getElem? (i := 220) (by decide +kernel)))⟩
theorem lm_L_147 : LkM RL 147 yX8_lay := Or.inl (mt_4 _ (List.mem_of_getElem? (i := 225) (by decide +kernel)))
theorem lm_X8_311 : LkM RX8 311 yX8_isSlot := Or.inl (mt_4 _ (List.mem_of_getElem? (i := 229) (by decide +kernel)))
theorem lm_X8_321 : LkM RX8 321 yX1_becomeAs := Or.inr ⟨"SkittleMen", (mt_4 _ (List.mem_of_getElem? (i := 232) (by decide +kernel)))⟩
theorem lm_X8_328 : LkM RX8 328 yX3_becomeAs := Or.inr ⟨"SkittleMen", (mt_4 _ (List.mem_of_getElem? (i := 233) (by decide +kernel)))⟩
theorem lm_L_151 : LkM RL 151 yX8_ask := Or.inl (mt_4 _ (List.mem_of_getElem? (i := 238) (by decide +kernel)))
theorem lm_L_155 : LkM RL 155 yX8_item := Or.inl (mt_5 _ (List.mem_of_getElem? (i := 2) (by decide +kernel)))
theorem lm_L_159 : LkM RL 159 yX8_rest := Or.inl (mt_5 _ (List.mem_of_getElem? (i := 6) (by decide +kernel)))
theorem lm_L_163 : LkM RL 163 yX8_tell := Or.inl (mt_5 _ (List.mem_of_getElem? (i := 10) (by decide +kernel)))
theorem lm_L_167 : LkM RL 167 yX8_check := Or.inl (mt_5 _ (List.mem_of_getElem? (i := 14) (by decide +kernel)))
theorem lm_X8_333 : LkM RX8 333 yX8_isTold := Or.inl (mt_5 _ (List.mem_of_getElem? (i := 18) (by decide +kernel)))
theorem lm_L_171 : LkM RL 171 yX8_keep := Or.inl (mt_5 _ (List.mem_of_getElem? (i := 22) (by decide +kernel)))
theorem lm_L_175 : LkM RL 175 yX8_back := Or.inl (mt_5 _ (List.mem_of_getElem? (i := 26) (by decide +kernel)))
theorem lm_L_179 : LkM RL 179 yX8_count := Or.inl (mt_5 _ (List.mem_of_getElem? (i := 30) (by decide +kernel)))
theorem lm_L_12 : LkM RL 12 yX9_init := Or.inl (mt_5 _ (List.mem_of_getElem? (i := 36) (by decide +kernel)))
theorem lm_L_17 : LkM RL 17 yX9_man := Or.inl (mt_5 _ (List.mem_of_getElem? (i := 151) (by decide +kernel)))
theorem lm_X9_81 : LkM RX9 81 yX9_in := Or.inl (mt_5 _ (List.mem_of_getElem? (i := 155) (by decide +kernel)))
theorem lm_X9_118 : LkM RX9 118 yX9_isTopic := Or.inl (mt_5 _ (List.mem_of_getElem? (i := 158) (by decide +kernel)))
theorem lm_X9_123 : LkM RX9 123 yX9_comes := Or.inl (mt_5 _ (List.mem_of_getElem? (i := 163) (by decide +kernel)))
theorem lm_X9_114 : LkM RX9 114 yX9_put := Or.inl (mt_5 _ (List.mem_of_getElem? (i := 167) (by decide +kernel)))
theorem lm_L_22 : LkM RL 22 yX9_told := Or.inl (mt_5 _ (List.mem_of_getElem? (i := 171) (by decide +kernel)))
theorem lm_X9_85 : LkM RX9 85 yX9_isMan := Or.inl (mt_5 _ (List.mem_of_getElem? (i := 175) (by decide +kernel)))
theorem lm_X9_89 : LkM RX9 89 yX9_of := Or.inl (mt_5 _ (List.mem_of_getElem? (i := 179) (by decide +kernel)))
theorem lm_X9_127 : LkM RX9 127 yX9_pushesOf := Or.inl (mt_5 _ (List.mem_of_getElem? (i := 183) (by decide +kernel)))
theorem lm_X9_130 : LkM RX9 130 yX9_worthOf := Or.inl (mt_5 _ (List.mem_of_getElem? (i := 187) (by decide +kernel)))
theorem lm_L_26 : LkM RL 26 yX9_bears := Or.inl (mt_5 _ (List.mem_of_getElem? (i := 191) (by decide +kernel)))
theorem lm_X9_133 : LkM RX9 133 yX9_bearsOf := Or.inl (mt_5 _ (List.mem_of_getElem? (i := 195) (by decide +kernel)))
theorem lm_X9_111 : LkM RX9 111 yX9_plainBears := Or.inl (mt_5 _ (List.mem_of_getElem? (i := 199) (by decide +kernel)))
theorem lm_X9_93 : LkM RX9 93 yX9_counts := Or.inl (mt_5 _ (List.mem_of_getElem? (i := 203) (by decide +kernel)))
theorem lm_X9_97 : LkM RX9 97 yX9_standing := Or.inl (mt_5 _ (List.mem_of_getElem? (i := 207) (by decide +kernel)))
theorem lm_X9_101 : LkM RX9 101 yX9_bits := Or.inl (mt_5 _ (List.mem_of_getElem? (i := 211) (by decide +kernel)))
theorem lm_X9_104 : LkM RX9 104 yX9_worksOut := Or.inl (mt_5 _ (List.mem_of_getElem? (i := 214) (by decide +kernel)))
theorem lm_X9_282 : LkM RX9 282 yX9_two := Or.inl (mt_5 _ (List.mem_of_getElem? (i := 218) (by decide +kernel)))
theorem lm_X9_107 : LkM RX9 107 yX9_within := Or.inl (mt_5 _ (List.mem_of_getElem? (i := 221) (by decide +kernel)))
theorem lm_L_30 : LkM RL 30 yX9_as := Or.inl (mt_5 _ (List.mem_of_getElem? (i := 224) (by decide +kernel)))
theorem lm_X9_136 : LkM RX9 136 yX9_isUnder := Or.inl (mt_5 _ (List.mem_of_getElem? (i := 228) (by decide +kernel)))
theorem lm_L_34 : LkM RL 34 yX9_turns := Or.inl (mt_5 _ (List.mem_of_getElem? (i := 232) (by decide +kernel)))
theorem lm_X9_141 : LkM RX9 141 yX9_swaps := Or.inl (mt_5 _ (List.mem_of_getElem? (i := 236) (by decide +kernel)))
theorem lm_L_39 : LkM RL 39 yX9_set := Or.inl (mt_6 _ (List.mem_of_getElem? (i := 0) (by decide +kernel)))
theorem lm_X9_144 : LkM RX9 144 yX9_mostOf := Or.inl (mt_6 _ (List.mem_of_getElem? (i := 4) (by decide +kernel)))
theorem lm_L_43 : LkM RL 43 yX9_says := Or.inl (mt_6 _ (List.mem_of_getElem? (i := 7) (by decide +kernel)))
theorem lm_X9_150 : LkM RX9 150 yX9_doesStand := Or.inl (mt_6 _ (List.mem_of_getElem? (i := 11) (by decide +kernel)))
theorem lm_X9_159 : LkM RX9 159 yX9_said := Or.inl (mt_6 _ (List.mem_of_getElem? (i := 15) (by decide +kernel)))
theorem lm_X9_153 : LkM RX9 153 yX9_drops := Or.inl (mt_6 _ (List.mem_of_getElem? (i := 19) (by decide +kernel)))
theorem lm_L_48 : LkM RL 48 yX9_sets := Or.inl (mt_6 _ (List.mem_of_getElem? (i := 28) (by decide +kernel)))
theorem lm_X9_163 : LkM RX9 163 yX9_setsUp := Or.inl (mt_6 _ (List.mem_of_getElem? (i := 32) (by decide +kernel)))
theorem lm_L_53 : LkM RL 53 yX9_deal := Or.inl (mt_6 _ (List.mem_of_getElem? (i := 36) (by decide +kernel)))
theorem lm_X9_167 : LkM RX9 167 yX9_draw := Or.inl (mt_6 _ (List.mem_of_getElem? (i := 40) (by decide +kernel)))
theorem lm_L_57 : LkM RL 57 yX9_seed := Or.inl (mt_6 _ (List.mem_of_getElem? (i := 45) (by decide +kernel)))
theorem lm_L_61 : LkM RL 61 yX9_goes := Or.inl (mt_6 _ (List.mem_of_getElem? (i := 49) (by decide +kernel)))
theorem lm_X9_173 : LkM RX9 173 yX9_goesOn := Or.inl (mt_6 _ (List.mem_of_getElem? (i := 53) (by decide +kernel)))
theorem lm_X9_170 : LkM RX9 170 yX9_aGo := Or.inl (mt_6 _ (List.mem_of_getElem? (i := 57) (by decide +kernel)))
theorem lm_L_65 : LkM RL 65 yX9_alley := Or.inl (mt_6 _ (List.mem_of_getElem? (i := 61) (by decide +kernel)))
theorem lm_X9_177 : LkM RX9 177 yX9_nerves := Or.inl (mt_6 _ (List.mem_of_getElem? (i := 65) (by decide +kernel)))
theorem lm_X9_181 : LkM RX9 181 yX9_mostFelled := Or.inl (mt_6 _ (List.mem_of_getElem? (i := 70) (by decide +kernel)))
theorem lm_L_69 : LkM RL 69 yX9_best := Or.inl (mt_6 _ (List.mem_of_getElem? (i := 74) (by decide +kernel)))
theorem lm_X9_195 : LkM RX9 195 yX9_thinks := Or.inl (mt_6 _ (List.mem_of_getElem? (i := 78) (by decide +kernel)))
theorem lm_X9_184 : LkM RX9 184 yX9_copyAll := Or.inl (mt_6 _ (List.mem_of_getElem? (i := 82) (by decide +kernel)))
theorem lm_X9_198 : LkM RX9 198 yX9_fellBy := Or.inl (mt_6 _ (List.mem_of_getElem? (i := 85) (by decide +kernel)))
theorem lm_X9_192 : LkM RX9 192 yX9_letsStand := Or.inl (mt_6 _ (List.mem_of_getElem? (i := 89) (by decide +kernel)))
theorem lm_X9_201 : LkM RX9 201 yX9_putsBack := Or.inl (mt_6 _ (List.mem_of_getElem? (i := 93) (by decide +kernel)))
theorem lm_L_73 : LkM RL 73 yX9_pair := Or.inl (mt_6 _ (List.mem_of_getElem? (i := 97) (by decide +kernel)))
theorem lm_X9_204 : LkM RX9 204 yX9_mostFrom := Or.inl (mt_6 _ (List.mem_of_getElem? (i := 101) (by decide +kernel)))
theorem lm_L_77 : LkM RL 77 yX9_clear := Or.inl (mt_6 _ (List.mem_of_getElem? (i := 105) (by decide +kernel)))
theorem lm_X9_207 : LkM RX9 207 yX9_goesFrom := Or.inl (mt_6 _ (List.mem_of_getElem? (i := 109) (by decide +kernel)))
theorem lm_L_81 : LkM RL 81 yX9_force := Or.inl (mt_6 _ (List.mem_of_getElem? (i := 113) (by decide +kernel)))
theorem lm_L_85 : LkM RL 85 yX9_behind := Or.inl (mt_6 _ (List.mem_of_getElem? (i := 117) (by decide +kernel)))
theorem lm_L_89 : LkM RL 89 yX9_falls := Or.inl (mt_6 _ (List.mem_of_getElem? (i := 121) (by decide +kernel)))
theorem lm_L_93 : LkM RL 93 yX9_becomes := Or.inl (mt_6 _ (List.mem_of_getElem? (i := 125) (by decide +kernel)))
theorem lm_L_97 : LkM RL 97 yX9_like := Or.inl (mt_6 _ (List.mem_of_getElem? (i := 129) (by decide +kernel)))
theorem lm_X9_211 : LkM RX9 211 yX9_isSheet := Or.inl (mt_6 _ (List.mem_of_getElem? (i := 133) (by decide +kernel)))
theorem lm_X9_215 : LkM RX9 215 yX9_off := Or.inl (mt_6 _ (List.mem_of_getElem? (i := 137) (by decide +kernel)))
theorem lm_L_101 : LkM RL 101 yX9_fee := Or.inl (mt_6 _ (List.mem_of_getElem? (i := 140) (by decide +kernel)))
theorem lm_L_105 : LkM RL 105 yX9_fine := Or.inl (mt_6 _ (List.mem_of_getElem? (i := 144) (by decide +kernel)))
theorem lm_L_109 : LkM RL 109 yX9_feed := Or.inl (mt_6 _ (List.mem_of_getElem? (i := 148) (by decide +kernel)))
theorem lm_L_113 : LkM RL 113 yX9_trim := Or.inl (mt_6 _ (List.mem_of_getElem? (i := 152) (by decide +kernel)))
theorem lm_L_117 : LkM RL 117 yX9_text := Or.inl (mt_6 _ (List.mem_of_getElem? (i := 156) (by decide +kernel)))
theorem lm_X9_245 : LkM RX9 245 yX9_go := Or.inl (mt_6 _ (List.mem_of_getElem? (i := 160) (by decide +kernel)))
theorem lm_X9_233 : LkM RX9 233 yX9_isLetter := Or.inl (mt_6 _ (List.mem_of_getElem? (i := 164) (by decide +kernel)))
theorem lm_X9_239 : LkM RX9 239 yX9_isFigure := Or.inl (mt_6 _ (List.mem_of_getElem? (i := 168) (by decide +kernel)))
theorem lm_X9_276 : LkM RX9 276 yX9_takesKey := Or.inl (mt_6 _ (List.mem_of_getElem? (i := 172) (by decide +kernel)))
theorem lm_X9_279 : LkM RX9 279 yX9_takesE := Or.inl (mt_6 _ (List.mem_of_getElem? (i := 176) (by decide +kernel)))
theorem lm_X9_266 : LkM RX9 266 yX9_takesPart := Or.inl (mt_6 _ (List.mem_of_getElem? (i := 180) (by decide +kernel)))
theorem lm_X9_257 : LkM RX9 257 yX9_nameOf := Or.inl (mt_6 _ (List.mem_of_getElem? (i := 184) (by decide +kernel)))
theorem lm_X9_263 : LkM RX9 263 yX9_settle := Or.inl (mt_6 _ (List.mem_of_getElem? (i := 188) (by decide +kernel)))
theorem lm_X9_251 : LkM RX9 251 yX9_rank := Or.inl (mt_6 _ (List.mem_of_getElem? (i := 192) (by decide +kernel)))
theorem lm_X9_270 : LkM RX9 270 yX9_notsOpen := Or.inl (mt_6 _ (List.mem_of_getElem? (i := 195) (by decide +kernel)))
theorem lm_X9_273 : LkM RX9 273 yX9_signHere := Or.inl (mt_6 _ (List.mem_of_getElem? (i := 199) (by decide +kernel)))
theorem lm_L_121 : LkM RL 121 yX9_textTold := Or.inl (mt_6 _ (List.mem_of_getElem? (i := 203) (by decide +kernel)))
theorem lm_L_125 : LkM RL 125 yX9_why := Or.inl (mt_6 _ (List.mem_of_getElem? (i := 207) (by decide +kernel)))
theorem lm_L_129 : LkM RL 129 yX9_sheet := Or.inl (mt_6 _ (List.mem_of_getElem? (i := 211) (by decide +kernel)))
theorem lm_L_133 : LkM RL 133 yX9_mark := Or.inl (mt_6 _ (List.mem_of_getElem? (i := 216) (by decide +kernel)))
theorem lm_L_137 : LkM RL 137 yX9_pour := Or.inl (mt_6 _ (List.mem_of_getElem? (i := 223) (by decide +kernel)))
theorem lm_L_141 : LkM RL 141 yX9_reads := Or.inl (mt_6 _ (List.mem_of_getElem? (i := 227) (by decide +kernel)))
theorem lm_L_146 : LkM RL 146 yX9_copy := Or.inl (mt_6 _ (List.mem_of_getElem? (i := 231) (by decide +kernel)))
theorem lm_L_150 : LkM RL 150 yX9_lay := Or.inl (mt_6 _ (List.mem_of_getElem? (i := 235) (by decide +kernel)))
theorem lm_X9_289 : LkM RX9 289 yX9_isSlot := Or.inl (mt_6 _ (List.mem_of_getElem? (i := 239) (by decide +kernel)))
theorem lm_L_154 : LkM RL 154 yX9_ask := Or.inl (mt_7 _ (List.mem_of_getElem? (i := 2) (by decide +kernel)))
theorem lm_L_158 : LkM RL 158 yX9_item := Or.inl (mt_7 _ (List.mem_of_getElem? (i := 6) (by decide +kernel)))
theorem lm_L_162 : LkM RL 162 yX9_rest := Or.inl (mt_7 _ (List.mem_of_getElem? (i := 10) (by decide +kernel)))
theorem lm_L_166 : LkM RL 166 yX9_tell := Or.inl (mt_7 _ (List.mem_of_getElem? (i := 14) (by decide +kernel)))
theorem lm_L_170 : LkM RL 170 yX9_check := Or.inl (mt_7 _ (List.mem_of_getElem? (i := 18) (by decide +kernel)))
theorem lm_L_174 : LkM RL 174 yX9_keep := Or.inl (mt_7 _ (List.mem_of_getElem? (i := 22) (by decide +kernel)))
theorem lm_L_178 : LkM RL 178 yX9_back := Or.inl (mt_7 _ (List.mem_of_getElem? (i := 26) (by decide +kernel)))
theorem lm_L_182 : LkM RL 182 yX9_count := Or.inl (mt_7 _ (List.mem_of_getElem? (i := 30) (by decide +kernel)))
theorem lg_X1_9 : LkG RX1 9 1 0 := ⟨RX1, TX1, 6, rfl, by decide, (Or.inl (mt_1 _ (List.mem_of_getElem? (i := 43) (by decide +kernel))))⟩
theorem lp_X1_9 : LkP RX1 9 1 0 .int := ⟨RX1, TX1, 6, rfl, by decide, (Or.inl (mt_1 _ (List.mem_of_getElem? (i := 43) (by decide +kernel)))), rfl, by decide +kernel⟩
theorem lg_X8_91 : LkG RX8 91 1 0 := ⟨RX1, TX1, 6, rfl, by decide, (Or.inr ⟨"SkittleMen", (mt_1 _ (List.mem_of_getElem? (i := 44) (by decide +kernel)))⟩)⟩
theorem lp_X8_91 : LkP RX8 91 1 0 .int := ⟨RX1, TX1, 6, rfl, by decide, (Or.inr ⟨"SkittleMen", (mt_1 _ (List.mem_of_getElem? (i := 44) (by decide +kernel)))⟩), rfl, by decide +kernel⟩
theorem lg_X0_100 : LkG RX0 100 1 0 := ⟨RX1, TX1, 6, rfl, by decide, (Or.inr ⟨"SkittleMen", (mt_1 _ (List.mem_of_getElem? (i := 45) (by decide +kernel)))⟩)⟩
theorem lp_X0_100 : LkP RX0 100 1 0 .int := ⟨RX1, TX1, 6, rfl, by decide, (Or.inr ⟨"SkittleMen", (mt_1 _ (List.mem_of_getElem? (i := 45) (by decide +kernel)))⟩), rfl, by decide +kernel⟩
theorem lg_X1_15 : LkG RX1 15 1 1 := ⟨RX1, TX1, 6, rfl, by decide, (Or.inl (mt_1 _ (List.mem_of_getElem? (i := 46) (by decide +kernel))))⟩
theorem lp_X1_15 : LkP RX1 15 1 1 .int := ⟨RX1, TX1, 6, rfl, by decide, (Or.inl (mt_1 _ (List.mem_of_getElem? (i := 46) (by decide +kernel)))), rfl, by decide +kernel⟩
theorem lg_X8_96 : LkG RX8 96 1 1 := ⟨RX1, TX1, 6, rfl, by decide, (Or.inr ⟨"SkittleMen", (mt_1 _ (List.mem_of_getElem? (i := 47) (by decide +kernel)))⟩)⟩
theorem lp_X8_96 : LkP RX8 96 1 1 .int := ⟨RX1, TX1, 6, rfl, by decide, (Or.inr ⟨"SkittleMen", (mt_1 _ (List.mem_of_getElem? (i := 47) (by decide +kernel)))⟩), rfl, by decide +kernel⟩
theorem lg_X0_85 : LkG RX0 85 1 1 := ⟨RX1, TX1, 6, rfl, by decide, (Or.inr ⟨"SkittleMen", (mt_1 _ (List.mem_of_getElem? (i := 48) (by decide +kernel)))⟩)⟩
theorem lp_X0_85 : LkP RX0 85 1 1 .int := ⟨RX1, TX1, 6, rfl, by decide, (Or.inr ⟨"SkittleMen", (mt_1 _ (List.mem_of_getElem? (i := 48) (by decide +kernel)))⟩), rfl, by decide +kernel⟩
theorem lg_X1_18 : LkG RX1 18 1 2 := ⟨RX1, TX1, 6, rfl, by decide, (Or.inl (mt_1 _ (List.mem_of_getElem? (i := 49) (by decide +kernel))))⟩
theorem lp_X1_18 : LkP RX1 18 1 2 .int := ⟨RX1, TX1, 6, rfl, by decide, (Or.inl (mt_1 _ (List.mem_of_getElem? (i := 49) (by decide +kernel)))), rfl, by decide +kernel⟩
theorem lg_X8_99 : LkG RX8 99 1 2 := ⟨RX1, TX1, 6, rfl, by decide, (Or.inr ⟨"SkittleMen", (mt_1 _ (List.mem_of_getElem? (i := 50) (by decide +kernel)))⟩)⟩
theorem lp_X8_99 : LkP RX8 99 1 2 .int := ⟨RX1, TX1, 6, rfl, by decide, (Or.inr ⟨"SkittleMen", (mt_1 _ (List.mem_of_getElem? (i := 50) (by decide +kernel)))⟩), rfl, by decide +kernel⟩
theorem lg_X0_103 : LkG RX0 103 1 2 := ⟨RX1, TX1, 6, rfl, by decide, (Or.inr ⟨"SkittleMen", (mt_1 _ (List.mem_of_getElem? (i := 51) (by decide +kernel)))⟩)⟩
theorem lp_X0_103 : LkP RX0 103 1 2 .int := ⟨RX1, TX1, 6, rfl, by decide, (Or.inr ⟨"SkittleMen", (mt_1 _ (List.mem_of_getElem? (i := 51) (by decide +kernel)))⟩), rfl, by decide +kernel⟩
theorem lg_X1_21 : LkG RX1 21 1 3 := ⟨RX1, TX1, 6, rfl, by decide, (Or.inl (mt_1 _ (List.mem_of_getElem? (i := 52) (by decide +kernel))))⟩
theorem lp_X1_21 : LkP RX1 21 1 3 .int := ⟨RX1, TX1, 6, rfl, by decide, (Or.inl (mt_1 _ (List.mem_of_getElem? (i := 52) (by decide +kernel)))), rfl, by decide +kernel⟩
theorem lg_X8_102 : LkG RX8 102 1 3 := ⟨RX1, TX1, 6, rfl, by decide, (Or.inr ⟨"SkittleMen", (mt_1 _ (List.mem_of_getElem? (i := 53) (by decide +kernel)))⟩)⟩
theorem lp_X8_102 : LkP RX8 102 1 3 .int := ⟨RX1, TX1, 6, rfl, by decide, (Or.inr ⟨"SkittleMen", (mt_1 _ (List.mem_of_getElem? (i := 53) (by decide +kernel)))⟩), rfl, by decide +kernel⟩
theorem lg_X0_106 : LkG RX0 106 1 3 := ⟨RX1, TX1, 6, rfl, by decide, (Or.inr ⟨"SkittleMen", (mt_1 _ (List.mem_of_getElem? (i := 54) (by decide +kernel)))⟩)⟩
theorem lp_X0_106 : LkP RX0 106 1 3 .int := ⟨RX1, TX1, 6, rfl, by decide, (Or.inr ⟨"SkittleMen", (mt_1 _ (List.mem_of_getElem? (i := 54) (by decide +kernel)))⟩), rfl, by decide +kernel⟩
theorem lg_X1_24 : LkG RX1 24 1 4 := ⟨RX1, TX1, 6, rfl, by decide, (Or.inl (mt_1 _ (List.mem_of_getElem? (i := 55) (by decide +kernel))))⟩
theorem lp_X1_24 : LkP RX1 24 1 4 .int := ⟨RX1, TX1, 6, rfl, by decide, (Or.inl (mt_1 _ (List.mem_of_getElem? (i := 55) (by decide +kernel)))), rfl, by decide +kernel⟩
theorem lg_X8_105 : LkG RX8 105 1 4 := ⟨RX1, TX1, 6, rfl, by decide, (Or.inr ⟨"SkittleMen", (mt_1 _ (List.mem_of_getElem? (i := 56) (by decide +kernel)))⟩)⟩
theorem lp_X8_105 : LkP RX8 105 1 4 .int := ⟨RX1, TX1, 6, rfl, by decide, (Or.inr ⟨"SkittleMen", (mt_1 _ (List.mem_of_getElem? (i := 56) (by decide +kernel)))⟩), rfl, by decide +kernel⟩
theorem lg_X0_88 : LkG RX0 88 1 4 := ⟨RX1, TX1, 6, rfl, by decide, (Or.inr ⟨"SkittleMen", (mt_1 _ (List.mem_of_getElem? (i := 57) (by decide +kernel)))⟩)⟩
theorem lp_X0_88 : LkP RX0 88 1 4 .int := ⟨RX1, TX1, 6, rfl, by decide, (Or.inr ⟨"SkittleMen", (mt_1 _ (List.mem_of_getElem? (i := 57) (by decide +kernel)))⟩), rfl, by decide +kernel⟩
theorem lg_X1_27 : LkG RX1 27 1 5 := ⟨RX1, TX1, 6, rfl, by decide, (Or.inl (mt_1 _ (List.mem_of_getElem? (i := 58) (by decide +kernel))))⟩
theorem lp_X1_27 : LkP RX1 27 1 5 .boolean := ⟨RX1, TX1, 6, rfl, by decide, (Or.inl (mt_1 _ (List.mem_of_getElem? (i := 58) (by decide +kernel)))), rfl, by decide +kernel⟩
theorem lg_X8_108 : LkG RX8 108 1 5 := ⟨RX1, TX1, 6, rfl, by decide, (Or.inr ⟨"SkittleMen", (mt_1 _ (List.mem_of_getElem? (i := 59) (by decide +kernel)))⟩)⟩
theorem lp_X8_108 : LkP RX8 108 1 5 .boolean := ⟨RX1, TX1, 6, rfl, by decide, (Or.inr ⟨"SkittleMen", (mt_1 _ (List.mem_of_getElem? (i := 59) (by decide +kernel)))⟩), rfl, by decide +kernel⟩
theorem lg_X0_71 : LkG RX0 71 1 5 := ⟨RX1, TX1, 6, rfl, by decide, (Or.inr ⟨"SkittleMen", (mt_1 _ (List.mem_of_getElem? (i := 60) (by decide +kernel)))⟩)⟩
theorem lp_X0_71 : LkP RX0 71 1 5 .boolean := ⟨RX1, TX1, 6, rfl, by decide, (Or.inr ⟨"SkittleMen", (mt_1 _ (List.mem_of_getElem? (i := 60) (by decide +kernel)))⟩), rfl, by decide +kernel⟩
theorem lg_X0_11 : LkG RX0 11 0 0 := ⟨RX0, TX0, 10, rfl, by decide, (Or.inl (mt_1 _ (List.mem_of_getElem? (i := 79) (by decide +kernel))))⟩
theorem lf_X0_11 : Cond.fieldLink RX0 11 (TX0 0).1 (TX0 0).2.1 (TX0 0).2.2.1 ∈ lw_tbl := (mt_1 _ (List.mem_of_getElem? (i := 79) (by decide +kernel)))
theorem lg_X2_62 : LkG RX2 62 0 0 := ⟨RX0, TX0, 10, rfl, by decide, (Or.inr ⟨"SkittleMen", (mt_1 _ (List.mem_of_getElem? (i := 80) (by decide +kernel)))⟩)⟩
theorem lg_X8_87 : LkG RX8 87 0 0 := ⟨RX0, TX0, 10, rfl, by decide, (Or.inr ⟨"SkittleMen", (mt_1 _ (List.mem_of_getElem? (i := 81) (by decide +kernel)))⟩)⟩
theorem lg_X0_17 : LkG RX0 17 0 1 := ⟨RX0, TX0, 10, rfl, by decide, (Or.inl (mt_1 _ (List.mem_of_getElem? (i := 82) (by decide +kernel))))⟩
theorem lp_X0_17 : LkP RX0 17 0 1 .int := ⟨RX0, TX0, 10, rfl, by decide, (Or.inl (mt_1 _ (List.mem_of_getElem? (i := 82) (by decide +kernel)))), rfl, by decide +kernel⟩
theorem lg_X8_75 : LkG RX8 75 0 1 := ⟨RX0, TX0, 10, rfl, by decide, (Or.inr ⟨"SkittleMen", (mt_1 _ (List.mem_of_getElem? (i := 83) (by decide +kernel)))⟩)⟩
theorem lp_X8_75 : LkP RX8 75 0 1 .int := ⟨RX0, TX0, 10, rfl, by decide, (Or.inr ⟨"SkittleMen", (mt_1 _ (List.mem_of_getElem? (i := 83) (by decide +kernel)))⟩), rfl, by decide +kernel⟩
theorem lg_X0_21 : LkG RX0 21 0 2 := ⟨RX0, TX0, 10, rfl, by decide, (Or.inl (mt_1 _ (List.mem_of_getElem? (i := 84) (by decide +kernel))))⟩
theorem lp_X0_21 : LkP RX0 21 0 2 .int := ⟨RX0, TX0, 10, rfl, by decide, (Or.inl (mt_1 _ (List.mem_of_getElem? (i := 84) (by decide +kernel)))), rfl, by decide +kernel⟩
theorem lg_X8_137 : LkG RX8 137 0 2 := ⟨RX0, TX0, 10, rfl, by decide, (Or.inr ⟨"SkittleMen", (mt_1 _ (List.mem_of_getElem? (i := 85) (by decide +kernel)))⟩)⟩
theorem lp_X8_137 : LkP RX8 137 0 2 .int := ⟨RX0, TX0, 10, rfl, by decide, (Or.inr ⟨"SkittleMen", (mt_1 _ (List.mem_of_getElem? (i := 85) (by decide +kernel)))⟩), rfl, by decide +kernel⟩
theorem lg_X0_24 : LkG RX0 24 0 3 := ⟨RX0, TX0, 10, rfl, by decide, (Or.inl (mt_1 _ (List.mem_of_getElem? (i := 86) (by decide +kernel))))⟩
theorem lp_X0_24 : LkP RX0 24 0 3 .int := ⟨RX0, TX0, 10, rfl, by decide, (Or.inl (mt_1 _ (List.mem_of_getElem? (i := 86) (by decide +kernel)))), rfl, by decide +kernel⟩
theorem lg_X8_168 : LkG RX8 168 0 3 := ⟨RX0, TX0, 10, rfl, by decide, (Or.inr ⟨"SkittleMen", (mt_1 _ (List.mem_of_getElem? (i := 87) (by decide +kernel)))⟩)⟩
theorem lp_X8_168 : LkP RX8 168 0 3 .int := ⟨RX0, TX0, 10, rfl, by decide, (Or.inr ⟨"SkittleMen", (mt_1 _ (List.mem_of_getElem? (i := 87) (by decide +kernel)))⟩), rfl, by decide +kernel⟩
theorem lg_X0_27 : LkG RX0 27 0 4 := ⟨RX0, TX0, 10, rfl, by decide, (Or.inl (mt_1 _ (List.mem_of_getElem? (i := 88) (by decide +kernel))))⟩
theorem lp_X0_27 : LkP RX0 27 0 4 .int := ⟨RX0, TX0, 10, rfl, by decide, (Or.inl (mt_1 _ (List.mem_of_getElem? (i := 88) (by decide +kernel)))), rfl, by decide +kernel⟩
theorem lg_X8_171 : LkG RX8 171 0 4 := ⟨RX0, TX0, 10, rfl, by decide, (Or.inr ⟨"SkittleMen", (mt_1 _ (List.mem_of_getElem? (i := 89) (by decide +kernel)))⟩)⟩
theorem lp_X8_171 : LkP RX8 171 0 4 .int := ⟨RX0, TX0, 10, rfl, by decide, (Or.inr ⟨"SkittleMen", (mt_1 _ (List.mem_of_getElem? (i := 89) (by decide +kernel)))⟩), rfl, by decide +kernel⟩
theorem lg_X0_30 : LkG RX0 30 0 5 := ⟨RX0, TX0, 10, rfl, by decide, (Or.inl (mt_1 _ (List.mem_of_getElem? (i := 90) (by decide +kernel))))⟩
theorem lp_X0_30 : LkP RX0 30 0 5 .int := ⟨RX0, TX0, 10, rfl, by decide, (Or.inl (mt_1 _ (List.mem_of_getElem? (i := 90) (by decide +kernel)))), rfl, by decide +kernel⟩
theorem lg_X8_161 : LkG RX8 161 0 5 := ⟨RX0, TX0, 10, rfl, by decide, (Or.inr ⟨"SkittleMen", (mt_1 _ (List.mem_of_getElem? (i := 91) (by decide +kernel)))⟩)⟩
theorem lp_X8_161 : LkP RX8 161 0 5 .int := ⟨RX0, TX0, 10, rfl, by decide, (Or.inr ⟨"SkittleMen", (mt_1 _ (List.mem_of_getElem? (i := 91) (by decide +kernel)))⟩), rfl, by decide +kernel⟩
theorem lg_X0_33 : LkG RX0 33 0 6 := ⟨RX0, TX0, 10, rfl, by decide, (Or.inl (mt_1 _ (List.mem_of_getElem? (i := 92) (by decide +kernel))))⟩
theorem lp_X0_33 : LkP RX0 33 0 6 .int := ⟨RX0, TX0, 10, rfl, by decide, (Or.inl (mt_1 _ (List.mem_of_getElem? (i := 92) (by decide +kernel)))), rfl, by decide +kernel⟩
theorem lg_X8_158 : LkG RX8 158 0 6 := ⟨RX0, TX0, 10, rfl, by decide, (Or.inr ⟨"SkittleMen", (mt_1 _ (List.mem_of_getElem? (i := 93) (by decide +kernel)))⟩)⟩
theorem lp_X8_158 : LkP RX8 158 0 6 .int := ⟨RX0, TX0, 10, rfl, by decide, (Or.inr ⟨"SkittleMen", (mt_1 _ (List.mem_of_getElem? (i := 93) (by decide +kernel)))⟩), rfl, by decide +kernel⟩
theorem lg_X0_38 : LkG RX0 38 0 7 := ⟨RX0, TX0, 10, rfl, by decide, (Or.inl (mt_1 _ (List.mem_of_getElem? (i := 94) (by decide +kernel))))⟩
theorem lf_X0_38 : Cond.fieldLink RX0 38 (TX0 7).1 (TX0 7).2.1 (TX0 7).2.2.1 ∈ lw_tbl := (mt_1 _ (List.mem_of_getElem? (i := 94) (by decide +kernel)))
theorem lg_X8_273 : LkG RX8 273 0 7 := ⟨RX0, TX0, 10, rfl, by decide, (Or.inr ⟨"SkittleMen", (mt_1 _ (List.mem_of_getElem? (i := 95) (by decide +kernel)))⟩)⟩
theorem lg_X0_42 : LkG RX0 42 0 8 := ⟨RX0, TX0, 10, rfl, by decide, (Or.inl (mt_1 _ (List.mem_of_getElem? (i := 96) (by decide +kernel))))⟩
theorem lp_X0_42 : LkP RX0 42 0 8 .int := ⟨RX0, TX0, 10, rfl, by decide, (Or.inl (mt_1 _ (List.mem_of_getElem? (i := 96) (by decide +kernel)))), rfl, by decide +kernel⟩
theorem lg_X8_262 : LkG RX8 262 0 8 := ⟨RX0, TX0, 10, rfl, by decide, (Or.inr ⟨"SkittleMen", (mt_1 _ (List.mem_of_getElem? (i := 97) (by decide +kernel)))⟩)⟩
theorem lp_X8_262 : LkP RX8 262 0 8 .int := ⟨RX0, TX0, 10, rfl, by decide, (Or.inr ⟨"SkittleMen", (mt_1 _ (List.mem_of_getElem? (i := 97) (by decide +kernel)))⟩), rfl, by decide +kernel⟩
theorem lg_X0_45 : LkG RX0 45 0 9 := ⟨RX0, TX0, 10, rfl, by decide, (Or.inl (mt_1 _ (List.mem_of_getElem? (i := 98) (by decide +kernel))))⟩
theorem lf_X0_45 : Cond.fieldLink RX0 45 (TX0 9).1 (TX0 9).2.1 (TX0 9).2.2.1 ∈ lw_tbl := (mt_1 _ (List.mem_of_getElem? (i := 98) (by decide +kernel)))
theorem lg_X8_283 : LkG RX8 283 0 9 := ⟨RX0, TX0, 10, rfl, by decide, (Or.inr ⟨"SkittleMen", (mt_1 _ (List.mem_of_getElem? (i := 99) (by decide +kernel)))⟩)⟩
theorem lg_X2_11 : LkG RX2 11 2 0 := ⟨RX2, TX2, 11, rfl, by decide, (Or.inl (mt_1 _ (List.mem_of_getElem? (i := 127) (by decide +kernel))))⟩
theorem lf_X2_11 : Cond.fieldLink RX2 11 (TX2 0).1 (TX2 0).2.1 (TX2 0).2.2.1 ∈ lw_tbl := (mt_1 _ (List.mem_of_getElem? (i := 127) (by decide +kernel)))
theorem lg_X2_15 : LkG RX2 15 2 1 := ⟨RX2, TX2, 11, rfl, by decide, (Or.inl (mt_1 _ (List.mem_of_getElem? (i := 128) (by decide +kernel))))⟩
theorem lf_X2_15 : Cond.fieldLink RX2 15 (TX2 1).1 (TX2 1).2.1 (TX2 1).2.2.1 ∈ lw_tbl := (mt_1 _ (List.mem_of_getElem? (i := 128) (by decide +kernel)))
theorem lg_X2_18 : LkG RX2 18 2 2 := ⟨RX2, TX2, 11, rfl, by decide, (Or.inl (mt_1 _ (List.mem_of_getElem? (i := 129) (by decide +kernel))))⟩
theorem lf_X2_18 : Cond.fieldLink RX2 18 (TX2 2).1 (TX2 2).2.1 (TX2 2).2.2.1 ∈ lw_tbl := (mt_1 _ (List.mem_of_getElem? (i := 129) (by decide +kernel)))
theorem lg_X2_21 : LkG RX2 21 2 3 := ⟨RX2, TX2, 11, rfl, by decide, (Or.inl (mt_1 _ (List.mem_of_getElem? (i := 130) (by decide +kernel))))⟩
theorem lf_X2_21 : Cond.fieldLink RX2 21 (TX2 3).1 (TX2 3).2.1 (TX2 3).2.2.1 ∈ lw_tbl := (mt_1 _ (List.mem_of_getElem? (i := 130) (by decide +kernel)))
theorem lg_X2_24 : LkG RX2 24 2 4 := ⟨RX2, TX2, 11, rfl, by decide, (Or.inl (mt_1 _ (List.mem_of_getElem? (i := 131) (by decide +kernel))))⟩
theorem lp_X2_24 : LkP RX2 24 2 4 .int := ⟨RX2, TX2, 11, rfl, by decide, (Or.inl (mt_1 _ (List.mem_of_getElem? (i := 131) (by decide +kernel)))), rfl, by decide +kernel⟩
theorem lg_X2_28 : LkG RX2 28 2 5 := ⟨RX2, TX2, 11, rfl, by decide, (Or.inl (mt_1 _ (List.mem_of_getElem? (i := 132) (by decide +kernel))))⟩
theorem lp_X2_28 : LkP RX2 28 2 5 .int := ⟨RX2, TX2, 11, rfl, by decide, (Or.inl (mt_1 _ (List.mem_of_getElem? (i := 132) (by decide +kernel)))), rfl, by decide +kernel⟩
theorem lg_X2_31 : LkG RX2 31 2 6 := ⟨RX2, TX2, 11, rfl, by decide, (Or.inl (mt_1 _ (List.mem_of_getElem? (i := 133) (by decide +kernel))))⟩
theorem lp_X2_31 : LkP RX2 31 2 6 .int := ⟨RX2, TX2, 11, rfl, by decide, (Or.inl (mt_1 _ (List.mem_of_getElem? (i := 133) (by decide +kernel)))), rfl, by decide +kernel⟩
theorem lg_X2_34 : LkG RX2 34 2 7 := ⟨RX2, TX2, 11, rfl, by decide, (Or.inl (mt_1 _ (List.mem_of_getElem? (i := 134) (by decide +kernel))))⟩
theorem lp_X2_34 : LkP RX2 34 2 7 .int := ⟨RX2, TX2, 11, rfl, by decide, (Or.inl (mt_1 _ (List.mem_of_getElem? (i := 134) (by decide +kernel)))), rfl, by decide +kernel⟩
theorem lg_X8_191 : LkG RX8 191 2 7 := ⟨RX2, TX2, 11, rfl, by decide, (Or.inr ⟨"SkittleMen", (mt_1 _ (List.mem_of_getElem? (i := 135) (by decide +kernel)))⟩)⟩
theorem lp_X8_191 : LkP RX8 191 2 7 .int := ⟨RX2, TX2, 11, rfl, by decide, (Or.inr ⟨"SkittleMen", (mt_1 _ (List.mem_of_getElem? (i := 135) (by decide +kernel)))⟩), rfl, by decide +kernel⟩
theorem lg_X2_37 : LkG RX2 37 2 8 := ⟨RX2, TX2, 11, rfl, by decide, (Or.inl (mt_1 _ (List.mem_of_getElem? (i := 136) (by decide +kernel))))⟩
theorem lp_X2_37 : LkP RX2 37 2 8 .int := ⟨RX2, TX2, 11, rfl, by decide, (Or.inl (mt_1 _ (List.mem_of_getElem? (i := 136) (by decide +kernel)))), rfl, by decide +kernel⟩
theorem lg_X8_194 : LkG RX8 194 2 8 := ⟨RX2, TX2, 11, rfl, by decide, (Or.inr ⟨"SkittleMen", (mt_1 _ (List.mem_of_getElem? (i := 137) (by decide +kernel)))⟩)⟩
theorem lp_X8_194 : LkP RX8 194 2 8 .int := ⟨RX2, TX2, 11, rfl, by decide, (Or.inr ⟨"SkittleMen", (mt_1 _ (List.mem_of_getElem? (i := 137) (by decide +kernel)))⟩), rfl, by decide +kernel⟩
theorem lg_X2_40 : LkG RX2 40 2 9 := ⟨RX2, TX2, 11, rfl, by decide, (Or.inl (mt_1 _ (List.mem_of_getElem? (i := 138) (by decide +kernel))))⟩
theorem lp_X2_40 : LkP RX2 40 2 9 .int := ⟨RX2, TX2, 11, rfl, by decide, (Or.inl (mt_1 _ (List.mem_of_getElem? (i := 138) (by decide +kernel)))), rfl, by decide +kernel⟩
theorem lg_X8_197 : LkG RX8 197 2 9 := ⟨RX2, TX2, 11, rfl, by decide, (Or.inr ⟨"SkittleMen", (mt_1 _ (List.mem_of_getElem? (i := 139) (by decide +kernel)))⟩)⟩
theorem lp_X8_197 : LkP RX8 197 2 9 .int := ⟨RX2, TX2, 11, rfl, by decide, (Or.inr ⟨"SkittleMen", (mt_1 _ (List.mem_of_getElem? (i := 139) (by decide +kernel)))⟩), rfl, by decide +kernel⟩
theorem lg_X2_43 : LkG RX2 43 2 10 := ⟨RX2, TX2, 11, rfl, by decide, (Or.inl (mt_1 _ (List.mem_of_getElem? (i := 140) (by decide +kernel))))⟩
theorem lp_X2_43 : LkP RX2 43 2 10 .int := ⟨RX2, TX2, 11, rfl, by decide, (Or.inl (mt_1 _ (List.mem_of_getElem? (i := 140) (by decide +kernel)))), rfl, by decide +kernel⟩
theorem lg_X8_200 : LkG RX8 200 2 10 := ⟨RX2, TX2, 11, rfl, by decide, (Or.inr ⟨"SkittleMen", (mt_1 _ (List.mem_of_getElem? (i := 141) (by decide +kernel)))⟩)⟩
theorem lp_X8_200 : LkP RX8 200 2 10 .int := ⟨RX2, TX2, 11, rfl, by decide, (Or.inr ⟨"SkittleMen", (mt_1 _ (List.mem_of_getElem? (i := 141) (by decide +kernel)))⟩), rfl, by decide +kernel⟩
theorem lg_X5_9 : LkG RX5 9 5 0 := ⟨RX5, TX5, 2, rfl, by decide, (Or.inl (mt_1 _ (List.mem_of_getElem? (i := 177) (by decide +kernel))))⟩
theorem lf_X5_9 : Cond.fieldLink RX5 9 (TX5 0).1 (TX5 0).2.1 (TX5 0).2.2.1 ∈ lw_tbl := (mt_1 _ (List.mem_of_getElem? (i := 177) (by decide +kernel)))
theorem lg_X7_109 : LkG RX7 109 5 0 := ⟨RX5, TX5, 2, rfl, by decide, (Or.inr ⟨"SkittleMen", (mt_1 _ (List.mem_of_getElem? (i := 178) (by decide +kernel)))⟩)⟩
theorem lg_X5_15 : LkG RX5 15 5 1 := ⟨RX5, TX5, 2, rfl, by decide, (Or.inl (mt_1 _ (List.mem_of_getElem? (i := 179) (by decide +kernel))))⟩
theorem lp_X5_15 : LkP RX5 15 5 1 .int := ⟨RX5, TX5, 2, rfl, by decide, (Or.inl (mt_1 _ (List.mem_of_getElem? (i := 179) (by decide +kernel)))), rfl, by decide +kernel⟩
theorem lg_X7_95 : LkG RX7 95 5 1 := ⟨RX5, TX5, 2, rfl, by decide, (Or.inr ⟨"SkittleMen", (mt_1 _ (List.mem_of_getElem? (i := 180) (by decide +kernel)))⟩)⟩
theorem lp_X7_95 : LkP RX7 95 5 1 .int := ⟨RX5, TX5, 2, rfl, by decide, (Or.inr ⟨"SkittleMen", (mt_1 _ (List.mem_of_getElem? (i := 180) (by decide +kernel)))⟩), rfl, by decide +kernel⟩
theorem lg_X8_253 : LkG RX8 253 5 1 := ⟨RX5, TX5, 2, rfl, by decide, (Or.inr ⟨"SkittleMen", (mt_1 _ (List.mem_of_getElem? (i := 181) (by decide +kernel)))⟩)⟩
theorem lp_X8_253 : LkP RX8 253 5 1 .int := ⟨RX5, TX5, 2, rfl, by decide, (Or.inr ⟨"SkittleMen", (mt_1 _ (List.mem_of_getElem? (i := 181) (by decide +kernel)))⟩), rfl, by decide +kernel⟩
theorem lg_X7_12 : LkG RX7 12 7 0 := ⟨RX7, TX7, 14, rfl, by decide, (Or.inl (mt_1 _ (List.mem_of_getElem? (i := 188) (by decide +kernel))))⟩
theorem lf_X7_12 : Cond.fieldLink RX7 12 (TX7 0).1 (TX7 0).2.1 (TX7 0).2.2.1 ∈ lw_tbl := (mt_1 _ (List.mem_of_getElem? (i := 188) (by decide +kernel)))
theorem lg_X8_40 : LkG RX8 40 7 0 := ⟨RX7, TX7, 14, rfl, by decide, (Or.inr ⟨"SkittleMen", (mt_1 _ (List.mem_of_getElem? (i := 189) (by decide +kernel)))⟩)⟩
theorem lg_X7_18 : LkG RX7 18 7 1 := ⟨RX7, TX7, 14, rfl, by decide, (Or.inl (mt_1 _ (List.mem_of_getElem? (i := 190) (by decide +kernel))))⟩
theorem lp_X7_18 : LkP RX7 18 7 1 .int := ⟨RX7, TX7, 14, rfl, by decide, (Or.inl (mt_1 _ (List.mem_of_getElem? (i := 190) (by decide +kernel)))), rfl, by decide +kernel⟩
theorem lg_X7_22 : LkG RX7 22 7 2 := ⟨RX7, TX7, 14, rfl, by decide, (Or.inl (mt_1 _ (List.mem_of_getElem? (i := 191) (by decide +kernel))))⟩
theorem lp_X7_22 : LkP RX7 22 7 2 .int := ⟨RX7, TX7, 14, rfl, by decide, (Or.inl (mt_1 _ (List.mem_of_getElem? (i := 191) (by decide +kernel)))), rfl, by decide +kernel⟩
theorem lg_X7_25 : LkG RX7 25 7 3 := ⟨RX7, TX7, 14, rfl, by decide, (Or.inl (mt_1 _ (List.mem_of_getElem? (i := 192) (by decide +kernel))))⟩
theorem lp_X7_25 : LkP RX7 25 7 3 .int := ⟨RX7, TX7, 14, rfl, by decide, (Or.inl (mt_1 _ (List.mem_of_getElem? (i := 192) (by decide +kernel)))), rfl, by decide +kernel⟩
theorem lg_X7_28 : LkG RX7 28 7 4 := ⟨RX7, TX7, 14, rfl, by decide, (Or.inl (mt_1 _ (List.mem_of_getElem? (i := 193) (by decide +kernel))))⟩
theorem lp_X7_28 : LkP RX7 28 7 4 .boolean := ⟨RX7, TX7, 14, rfl, by decide, (Or.inl (mt_1 _ (List.mem_of_getElem? (i := 193) (by decide +kernel)))), rfl, by decide +kernel⟩
theorem lg_X7_32 : LkG RX7 32 7 5 := ⟨RX7, TX7, 14, rfl, by decide, (Or.inl (mt_1 _ (List.mem_of_getElem? (i := 194) (by decide +kernel))))⟩
theorem lp_X7_32 : LkP RX7 32 7 5 .boolean := ⟨RX7, TX7, 14, rfl, by decide, (Or.inl (mt_1 _ (List.mem_of_getElem? (i := 194) (by decide +kernel)))), rfl, by decide +kernel⟩
theorem lg_X7_35 : LkG RX7 35 7 6 := ⟨RX7, TX7, 14, rfl, by decide, (Or.inl (mt_1 _ (List.mem_of_getElem? (i := 195) (by decide +kernel))))⟩
theorem lp_X7_35 : LkP RX7 35 7 6 .int := ⟨RX7, TX7, 14, rfl, by decide, (Or.inl (mt_1 _ (List.mem_of_getElem? (i := 195) (by decide +kernel)))), rfl, by decide +kernel⟩
theorem lg_X7_38 : LkG RX7 38 7 7 := ⟨RX7, TX7, 14, rfl, by decide, (Or.inl (mt_1 _ (List.mem_of_getElem? (i := 196) (by decide +kernel))))⟩
theorem lp_X7_38 : LkP RX7 38 7 7 .int := ⟨RX7, TX7, 14, rfl, by decide, (Or.inl (mt_1 _ (List.mem_of_getElem? (i := 196) (by decide +kernel)))), rfl, by decide +kernel⟩
theorem lg_X7_41 : LkG RX7 41 7 8 := ⟨RX7, TX7, 14, rfl, by decide, (Or.inl (mt_1 _ (List.mem_of_getElem? (i := 197) (by decide +kernel))))⟩
theorem lp_X7_41 : LkP RX7 41 7 8 .int := ⟨RX7, TX7, 14, rfl, by decide, (Or.inl (mt_1 _ (List.mem_of_getElem? (i := 197) (by decide +kernel)))), rfl, by decide +kernel⟩
theorem lg_X7_44 : LkG RX7 44 7 9 := ⟨RX7, TX7, 14, rfl, by decide, (Or.inl (mt_1 _ (List.mem_of_getElem? (i := 198) (by decide +kernel))))⟩
theorem lp_X7_44 : LkP RX7 44 7 9 .int := ⟨RX7, TX7, 14, rfl, by decide, (Or.inl (mt_1 _ (List.mem_of_getElem? (i := 198) (by decide +kernel)))), rfl, by decide +kernel⟩
theorem lg_X7_47 : LkG RX7 47 7 10 := ⟨RX7, TX7, 14, rfl, by decide, (Or.inl (mt_1 _ (List.mem_of_getElem? (i := 199) (by decide +kernel))))⟩
theorem lf_X7_47 : Cond.fieldLink RX7 47 (TX7 10).1 (TX7 10).2.1 (TX7 10).2.2.1 ∈ lw_tbl := (mt_1 _ (List.mem_of_getElem? (i := 199) (by decide +kernel)))
theorem lg_X7_51 : LkG RX7 51 7 11 := ⟨RX7, TX7, 14, rfl, by decide, (Or.inl (mt_1 _ (List.mem_of_getElem? (i := 200) (by decide +kernel))))⟩
theorem lp_X7_51 : LkP RX7 51 7 11 .int := ⟨RX7, TX7, 14, rfl, by decide, (Or.inl (mt_1 _ (List.mem_of_getElem? (i := 200) (by decide +kernel)))), rfl, by decide +kernel⟩
theorem lg_X7_54 : LkG RX7 54 7 12 := ⟨RX7, TX7, 14, rfl, by decide, (Or.inl (mt_1 _ (List.mem_of_getElem? (i := 201) (by decide +kernel))))⟩
theorem lf_X7_54 : Cond.fieldLink RX7 54 (TX7 12).1 (TX7 12).2.1 (TX7 12).2.2.1 ∈ lw_tbl := (mt_1 _ (List.mem_of_getElem? (i := 201) (by decide +kernel)))
theorem lg_X7_57 : LkG RX7 57 7 13 := ⟨RX7, TX7, 14, rfl, by decide, (Or.inl (mt_1 _ (List.mem_of_getElem? (i := 202) (by decide +kernel))))⟩
theorem lp_X7_57 : LkP RX7 57 7 13 .int := ⟨RX7, TX7, 14, rfl, by decide, (Or.inl (mt_1 _ (List.mem_of_getElem? (i := 202) (by decide +kernel)))), rfl, by decide +kernel⟩
theorem lg_X3_11 : LkG RX3 11 3 0 := ⟨RX3, TX3, 3, rfl, by decide, (Or.inl (mt_2 _ (List.mem_of_getElem? (i := 1) (by decide +kernel))))⟩
theorem lp_X3_11 : LkP RX3 11 3 0 .int := ⟨RX3, TX3, 3, rfl, by decide, (Or.inl (mt_2 _ (List.mem_of_getElem? (i := 1) (by decide +kernel)))), rfl, by decide +kernel⟩
theorem lg_X8_293 : LkG RX8 293 3 0 := ⟨RX3, TX3, 3, rfl, by decide, (Or.inr ⟨"SkittleMen", (mt_2 _ (List.mem_of_getElem? (i := 2) (by decide +kernel)))⟩)⟩
theorem lp_X8_293 : LkP RX8 293 3 0 .int := ⟨RX3, TX3, 3, rfl, by decide, (Or.inr ⟨"SkittleMen", (mt_2 _ (List.mem_of_getElem? (i := 2) (by decide +kernel)))⟩), rfl, by decide +kernel⟩
theorem lg_X3_15 : LkG RX3 15 3 1 := ⟨RX3, TX3, 3, rfl, by decide, (Or.inl (mt_2 _ (List.mem_of_getElem? (i := 3) (by decide +kernel))))⟩
theorem lp_X3_15 : LkP RX3 15 3 1 .int := ⟨RX3, TX3, 3, rfl, by decide, (Or.inl (mt_2 _ (List.mem_of_getElem? (i := 3) (by decide +kernel)))), rfl, by decide +kernel⟩
theorem lg_X8_234 : LkG RX8 234 3 1 := ⟨RX3, TX3, 3, rfl, by decide, (Or.inr ⟨"SkittleMen", (mt_2 _ (List.mem_of_getElem? (i := 4) (by decide +kernel)))⟩)⟩
theorem lp_X8_234 : LkP RX8 234 3 1 .int := ⟨RX3, TX3, 3, rfl, by decide, (Or.inr ⟨"SkittleMen", (mt_2 _ (List.mem_of_getElem? (i := 4) (by decide +kernel)))⟩), rfl, by decide +kernel⟩
theorem lg_X3_18 : LkG RX3 18 3 2 := ⟨RX3, TX3, 3, rfl, by decide, (Or.inl (mt_2 _ (List.mem_of_getElem? (i := 5) (by decide +kernel))))⟩
theorem lf_X3_18 : Cond.fieldLink RX3 18 (TX3 2).1 (TX3 2).2.1 (TX3 2).2.2.1 ∈ lw_tbl := (mt_2 _ (List.mem_of_getElem? (i := 5) (by decide +kernel)))
theorem lg_X8_238 : LkG RX8 238 3 2 := ⟨RX3, TX3, 3, rfl, by decide, (Or.inr ⟨"SkittleMen", (mt_2 _ (List.mem_of_getElem? (i := 6) (by decide +kernel)))⟩)⟩
theorem lg_X4_9 : LkG RX4 9 4 0 := ⟨RX4, TX4, 4, rfl, by decide, (Or.inl (mt_2 _ (List.mem_of_getElem? (i := 23) (by decide +kernel))))⟩
theorem lp_X4_9 : LkP RX4 9 4 0 .int := ⟨RX4, TX4, 4, rfl, by decide, (Or.inl (mt_2 _ (List.mem_of_getElem? (i := 23) (by decide +kernel)))), rfl, by decide +kernel⟩
theorem lg_X8_314 : LkG RX8 314 4 0 := ⟨RX4, TX4, 4, rfl, by decide, (Or.inr ⟨"SkittleMen", (mt_2 _ (List.mem_of_getElem? (i := 24) (by decide +kernel)))⟩)⟩
theorem lp_X8_314 : LkP RX8 314 4 0 .int := ⟨RX4, TX4, 4, rfl, by decide, (Or.inr ⟨"SkittleMen", (mt_2 _ (List.mem_of_getElem? (i := 24) (by decide +kernel)))⟩), rfl, by decide +kernel⟩
theorem lg_X4_16 : LkG RX4 16 4 1 := ⟨RX4, TX4, 4, rfl, by decide, (Or.inl (mt_2 _ (List.mem_of_getElem? (i := 25) (by decide +kernel))))⟩
theorem lf_X4_16 : Cond.fieldLink RX4 16 (TX4 1).1 (TX4 1).2.1 (TX4 1).2.2.1 ∈ lw_tbl := (mt_2 _ (List.mem_of_getElem? (i := 25) (by decide +kernel)))
theorem lg_X8_317 : LkG RX8 317 4 1 := ⟨RX4, TX4, 4, rfl, by decide, (Or.inr ⟨"SkittleMen", (mt_2 _ (List.mem_of_getElem? (i := 26) (by decide +kernel)))⟩)⟩
theorem lg_X4_23 : LkG RX4 23 4 2 := ⟨RX4, TX4, 4, rfl, by decide, (Or.inl (mt_2 _ (List.mem_of_getElem? (i := 27) (by decide +kernel))))⟩
theorem lf_X4_23 : Cond.fieldLink RX4 23 (TX4 2).1 (TX4 2).2.1 (TX4 2).2.2.1 ∈ lw_tbl := (mt_2 _ (List.mem_of_getElem? (i := 27) (by decide +kernel)))
theorem lg_X8_324 : LkG RX8 324 4 2 := ⟨RX4, TX4, 4, rfl, by decide, (Or.inr ⟨"SkittleMen", (mt_2 _ (List.mem_of_getElem? (i := 28) (by decide +kernel)))⟩)⟩
theorem lg_X4_27 : LkG RX4 27 4 3 := ⟨RX4, TX4, 4, rfl, by decide, (Or.inl (mt_2 _ (List.mem_of_getElem? (i := 29) (by decide +kernel))))⟩
theorem lp_X4_27 : LkP RX4 27 4 3 .int := ⟨RX4, TX4, 4, rfl, by decide, (Or.inl (mt_2 _ (List.mem_of_getElem? (i := 29) (by decide +kernel)))), rfl, by decide +kernel⟩
theorem lg_X8_330 : LkG RX8 330 4 3 := ⟨RX4, TX4, 4, rfl, by decide, (Or.inr ⟨"SkittleMen", (mt_2 _ (List.mem_of_getElem? (i := 30) (by decide +kernel)))⟩)⟩
theorem lp_X8_330 : LkP RX8 330 4 3 .int := ⟨RX4, TX4, 4, rfl, by decide, (Or.inr ⟨"SkittleMen", (mt_2 _ (List.mem_of_getElem? (i := 30) (by decide +kernel)))⟩), rfl, by decide +kernel⟩
theorem lg_X8_10 : LkG RX8 10 8 0 := ⟨RX8, TX8, 12, rfl, by decide, (Or.inl (mt_2 _ (List.mem_of_getElem? (i := 40) (by decide +kernel))))⟩
theorem lf_X8_10 : Cond.fieldLink RX8 10 (TX8 0).1 (TX8 0).2.1 (TX8 0).2.2.1 ∈ lw_tbl := (mt_2 _ (List.mem_of_getElem? (i := 40) (by decide +kernel)))
theorem lg_X8_16 : LkG RX8 16 8 1 := ⟨RX8, TX8, 12, rfl, by decide, (Or.inl (mt_2 _ (List.mem_of_getElem? (i := 41) (by decide +kernel))))⟩
theorem lf_X8_16 : Cond.fieldLink RX8 16 (TX8 1).1 (TX8 1).2.1 (TX8 1).2.2.1 ∈ lw_tbl := (mt_2 _ (List.mem_of_getElem? (i := 41) (by decide +kernel)))
theorem lg_X8_19 : LkG RX8 19 8 2 := ⟨RX8, TX8, 12, rfl, by decide, (Or.inl (mt_2 _ (List.mem_of_getElem? (i := 42) (by decide +kernel))))⟩
theorem lf_X8_19 : Cond.fieldLink RX8 19 (TX8 2).1 (TX8 2).2.1 (TX8 2).2.2.1 ∈ lw_tbl := (mt_2 _ (List.mem_of_getElem? (i := 42) (by decide +kernel)))
theorem lg_X8_22 : LkG RX8 22 8 3 := ⟨RX8, TX8, 12, rfl, by decide, (Or.inl (mt_2 _ (List.mem_of_getElem? (i := 43) (by decide +kernel))))⟩
theorem lp_X8_22 : LkP RX8 22 8 3 .boolean := ⟨RX8, TX8, 12, rfl, by decide, (Or.inl (mt_2 _ (List.mem_of_getElem? (i := 43) (by decide +kernel)))), rfl, by decide +kernel⟩
theorem lg_X8_29 : LkG RX8 29 8 4 := ⟨RX8, TX8, 12, rfl, by decide, (Or.inl (mt_2 _ (List.mem_of_getElem? (i := 44) (by decide +kernel))))⟩
theorem lf_X8_29 : Cond.fieldLink RX8 29 (TX8 4).1 (TX8 4).2.1 (TX8 4).2.2.1 ∈ lw_tbl := (mt_2 _ (List.mem_of_getElem? (i := 44) (by decide +kernel)))
theorem lg_X8_36 : LkG RX8 36 8 5 := ⟨RX8, TX8, 12, rfl, by decide, (Or.inl (mt_2 _ (List.mem_of_getElem? (i := 45) (by decide +kernel))))⟩
theorem lf_X8_36 : Cond.fieldLink RX8 36 (TX8 5).1 (TX8 5).2.1 (TX8 5).2.2.1 ∈ lw_tbl := (mt_2 _ (List.mem_of_getElem? (i := 45) (by decide +kernel)))
theorem lg_X8_44 : LkG RX8 44 8 6 := ⟨RX8, TX8, 12, rfl, by decide, (Or.inl (mt_2 _ (List.mem_of_getElem? (i := 46) (by decide +kernel))))⟩
theorem lf_X8_44 : Cond.fieldLink RX8 44 (TX8 6).1 (TX8 6).2.1 (TX8 6).2.2.1 ∈ lw_tbl := (mt_2 _ (List.mem_of_getElem? (i := 46) (by decide +kernel)))
theorem lg_X8_47 : LkG RX8 47 8 7 := ⟨RX8, TX8, 12, rfl, by decide, (Or.inl (mt_2 _ (List.mem_of_getElem? (i := 47) (by decide +kernel))))⟩
theorem lf_X8_47 : Cond.fieldLink RX8 47 (TX8 7).1 (TX8 7).2.1 (TX8 7).2.2.1 ∈ lw_tbl := (mt_2 _ (List.mem_of_getElem? (i := 47) (by decide +kernel)))
theorem lg_X8_53 : LkG RX8 53 8 8 := ⟨RX8, TX8, 12, rfl, by decide, (Or.inl (mt_2 _ (List.mem_of_getElem? (i := 48) (by decide +kernel))))⟩
theorem lf_X8_53 : Cond.fieldLink RX8 53 (TX8 8).1 (TX8 8).2.1 (TX8 8).2.2.1 ∈ lw_tbl := (mt_2 _ (List.mem_of_getElem? (i := 48) (by decide +kernel)))
theorem lg_X8_57 : LkG RX8 57 8 9 := ⟨RX8, TX8, 12, rfl, by decide, (Or.inl (mt_2 _ (List.mem_of_getElem? (i := 49) (by decide +kernel))))⟩
theorem lf_X8_57 : Cond.fieldLink RX8 57 (TX8 9).1 (TX8 9).2.1 (TX8 9).2.2.1 ∈ lw_tbl := (mt_2 _ (List.mem_of_getElem? (i := 49) (by decide +kernel)))
theorem lg_X8_61 : LkG RX8 61 8 10 := ⟨RX8, TX8, 12, rfl, by decide, (Or.inl (mt_2 _ (List.mem_of_getElem? (i := 50) (by decide +kernel))))⟩
theorem lp_X8_61 : LkP RX8 61 8 10 .int := ⟨RX8, TX8, 12, rfl, by decide, (Or.inl (mt_2 _ (List.mem_of_getElem? (i := 50) (by decide +kernel)))), rfl, by decide +kernel⟩
theorem lg_X8_65 : LkG RX8 65 8 11 := ⟨RX8, TX8, 12, rfl, by decide, (Or.inl (mt_2 _ (List.mem_of_getElem? (i := 51) (by decide +kernel))))⟩
theorem lf_X8_65 : Cond.fieldLink RX8 65 (TX8 11).1 (TX8 11).2.1 (TX8 11).2.2.1 ∈ lw_tbl := (mt_2 _ (List.mem_of_getElem? (i := 51) (by decide +kernel)))
theorem ls_X1_35 : Cond.fieldLink RX1 35 (st_C 2) (st_N 2) "[I" ∈ lw_tbl ∨ ∃ h : String, Cond.fieldLinkNest RX1 35 (st_C 2) (st_N 2) "[I" h ∈ lw_tbl := (Or.inl (mt_2 _ (List.mem_of_getElem? (i := 172) (by decide +kernel))))
theorem ls_X0_147 : Cond.fieldLink RX0 147 (st_C 0) (st_N 0) "[I" ∈ lw_tbl ∨ ∃ h : String, Cond.fieldLinkNest RX0 147 (st_C 0) (st_N 0) "[I" h ∈ lw_tbl := (Or.inr ⟨"SkittleMen", (mt_2 _ (List.mem_of_getElem? (i := 204) (by decide +kernel)))⟩)
theorem ls_X0_157 : Cond.fieldLink RX0 157 (st_C 1) (st_N 1) "[I" ∈ lw_tbl ∨ ∃ h : String, Cond.fieldLinkNest RX0 157 (st_C 1) (st_N 1) "[I" h ∈ lw_tbl := (Or.inr ⟨"SkittleMen", (mt_2 _ (List.mem_of_getElem? (i := 208) (by decide +kernel)))⟩)
theorem ls_X2_90 : Cond.fieldLink RX2 90 (st_C 0) (st_N 0) "[I" ∈ lw_tbl ∨ ∃ h : String, Cond.fieldLinkNest RX2 90 (st_C 0) (st_N 0) "[I" h ∈ lw_tbl := (Or.inr ⟨"SkittleMen", (mt_3 _ (List.mem_of_getElem? (i := 68) (by decide +kernel)))⟩)
theorem ls_X2_101 : Cond.fieldLink RX2 101 (st_C 1) (st_N 1) "[I" ∈ lw_tbl ∨ ∃ h : String, Cond.fieldLinkNest RX2 101 (st_C 1) (st_N 1) "[I" h ∈ lw_tbl := (Or.inr ⟨"SkittleMen", (mt_3 _ (List.mem_of_getElem? (i := 69) (by decide +kernel)))⟩)
theorem lg_X6_7 : LkG RX6 7 6 0 := ⟨RX6, TX6, 4, rfl, by decide, (Or.inl (mt_4 _ (List.mem_of_getElem? (i := 161) (by decide +kernel))))⟩
theorem lf_X6_7 : Cond.fieldLink RX6 7 (TX6 0).1 (TX6 0).2.1 (TX6 0).2.2.1 ∈ lw_tbl := (mt_4 _ (List.mem_of_getElem? (i := 161) (by decide +kernel)))
theorem lg_X0_109 : LkG RX0 109 6 0 := ⟨RX6, TX6, 4, rfl, by decide, (Or.inr ⟨"SkittleMen", (mt_4 _ (List.mem_of_getElem? (i := 162) (by decide +kernel)))⟩)⟩
theorem lg_X8_277 : LkG RX8 277 6 0 := ⟨RX6, TX6, 4, rfl, by decide, (Or.inr ⟨"SkittleMen", (mt_4 _ (List.mem_of_getElem? (i := 163) (by decide +kernel)))⟩)⟩
theorem lg_X6_13 : LkG RX6 13 6 1 := ⟨RX6, TX6, 4, rfl, by decide, (Or.inl (mt_4 _ (List.mem_of_getElem? (i := 164) (by decide +kernel))))⟩
theorem lf_X6_13 : Cond.fieldLink RX6 13 (TX6 1).1 (TX6 1).2.1 (TX6 1).2.2.1 ∈ lw_tbl := (mt_4 _ (List.mem_of_getElem? (i := 164) (by decide +kernel)))
theorem lg_X8_280 : LkG RX8 280 6 1 := ⟨RX6, TX6, 4, rfl, by decide, (Or.inr ⟨"SkittleMen", (mt_4 _ (List.mem_of_getElem? (i := 165) (by decide +kernel)))⟩)⟩
theorem lg_X6_16 : LkG RX6 16 6 2 := ⟨RX6, TX6, 4, rfl, by decide, (Or.inl (mt_4 _ (List.mem_of_getElem? (i := 166) (by decide +kernel))))⟩
theorem lf_X6_16 : Cond.fieldLink RX6 16 (TX6 2).1 (TX6 2).2.1 (TX6 2).2.2.1 ∈ lw_tbl := (mt_4 _ (List.mem_of_getElem? (i := 166) (by decide +kernel)))
theorem lg_X6_26 : LkG RX6 26 6 3 := ⟨RX6, TX6, 4, rfl, by decide, (Or.inl (mt_4 _ (List.mem_of_getElem? (i := 167) (by decide +kernel))))⟩
theorem lf_X6_26 : Cond.fieldLink RX6 26 (TX6 3).1 (TX6 3).2.1 (TX6 3).2.2.1 ∈ lw_tbl := (mt_4 _ (List.mem_of_getElem? (i := 167) (by decide +kernel)))
theorem lg_X9_9 : LkG RX9 9 9 0 := ⟨RX9, TX9, 36, rfl, by decide, (Or.inl (mt_5 _ (List.mem_of_getElem? (i := 40) (by decide +kernel))))⟩
theorem lf_X9_9 : Cond.fieldLink RX9 9 (TX9 0).1 (TX9 0).2.1 (TX9 0).2.2.1 ∈ lw_tbl := (mt_5 _ (List.mem_of_getElem? (i := 40) (by decide +kernel)))
theorem lg_X9_13 : LkG RX9 13 9 1 := ⟨RX9, TX9, 36, rfl, by decide, (Or.inl (mt_5 _ (List.mem_of_getElem? (i := 41) (by decide +kernel))))⟩
theorem lf_X9_13 : Cond.fieldLink RX9 13 (TX9 1).1 (TX9 1).2.1 (TX9 1).2.2.1 ∈ lw_tbl := (mt_5 _ (List.mem_of_getElem? (i := 41) (by decide +kernel)))
theorem lg_X9_16 : LkG RX9 16 9 2 := ⟨RX9, TX9, 36, rfl, by decide, (Or.inl (mt_5 _ (List.mem_of_getElem? (i := 42) (by decide +kernel))))⟩
theorem lf_X9_16 : Cond.fieldLink RX9 16 (TX9 2).1 (TX9 2).2.1 (TX9 2).2.2.1 ∈ lw_tbl := (mt_5 _ (List.mem_of_getElem? (i := 42) (by decide +kernel)))
theorem lg_X9_295 : LkG RX9 295 9 3 := ⟨RX9, TX9, 36, rfl, by decide, (Or.inl (mt_5 _ (List.mem_of_getElem? (i := 43) (by decide +kernel))))⟩
theorem lp_X9_295 : LkP RX9 295 9 3 .boolean := ⟨RX9, TX9, 36, rfl, by decide, (Or.inl (mt_5 _ (List.mem_of_getElem? (i := 43) (by decide +kernel)))), rfl, by decide +kernel⟩
theorem lg_X9_188 : LkG RX9 188 9 4 := ⟨RX9, TX9, 36, rfl, by decide, (Or.inl (mt_5 _ (List.mem_of_getElem? (i := 44) (by decide +kernel))))⟩
theorem lp_X9_188 : LkP RX9 188 9 4 .int := ⟨RX9, TX9, 36, rfl, by decide, (Or.inl (mt_5 _ (List.mem_of_getElem? (i := 44) (by decide +kernel)))), rfl, by decide +kernel⟩
theorem lg_X9_19 : LkG RX9 19 9 5 := ⟨RX9, TX9, 36, rfl, by decide, (Or.inl (mt_5 _ (List.mem_of_getElem? (i := 45) (by decide +kernel))))⟩
theorem lf_X9_19 : Cond.fieldLink RX9 19 (TX9 5).1 (TX9 5).2.1 (TX9 5).2.2.1 ∈ lw_tbl := (mt_5 _ (List.mem_of_getElem? (i := 45) (by decide +kernel)))
theorem lg_X9_22 : LkG RX9 22 9 6 := ⟨RX9, TX9, 36, rfl, by decide, (Or.inl (mt_5 _ (List.mem_of_getElem? (i := 46) (by decide +kernel))))⟩
theorem lf_X9_22 : Cond.fieldLink RX9 22 (TX9 6).1 (TX9 6).2.1 (TX9 6).2.2.1 ∈ lw_tbl := (mt_5 _ (List.mem_of_getElem? (i := 46) (by decide +kernel)))
theorem lg_X9_25 : LkG RX9 25 9 7 := ⟨RX9, TX9, 36, rfl, by decide, (Or.inl (mt_5 _ (List.mem_of_getElem? (i := 47) (by decide +kernel))))⟩
theorem lf_X9_25 : Cond.fieldLink RX9 25 (TX9 7).1 (TX9 7).2.1 (TX9 7).2.2.1 ∈ lw_tbl := (mt_5 _ (List.mem_of_getElem? (i := 47) (by decide +kernel)))
theorem lg_X9_28 : LkG RX9 28 9 8 := ⟨RX9, TX9, 36, rfl, by decide, (Or.inl (mt_5 _ (List.mem_of_getElem? (i := 48) (by decide +kernel))))⟩
theorem lf_X9_28 : Cond.fieldLink RX9 28 (TX9 8).1 (TX9 8).2.1 (TX9 8).2.2.1 ∈ lw_tbl := (mt_5 _ (List.mem_of_getElem? (i := 48) (by decide +kernel)))
theorem lg_X9_218 : LkG RX9 218 9 9 := ⟨RX9, TX9, 36, rfl, by decide, (Or.inl (mt_5 _ (List.mem_of_getElem? (i := 49) (by decide +kernel))))⟩
theorem lp_X9_218 : LkP RX9 218 9 9 .int := ⟨RX9, TX9, 36, rfl, by decide, (Or.inl (mt_5 _ (List.mem_of_getElem? (i := 49) (by decide +kernel)))), rfl, by decide +kernel⟩
theorem lg_X9_221 : LkG RX9 221 9 10 := ⟨RX9, TX9, 36, rfl, by decide, (Or.inl (mt_5 _ (List.mem_of_getElem? (i := 50) (by decide +kernel))))⟩
theorem lp_X9_221 : LkP RX9 221 9 10 .int := ⟨RX9, TX9, 36, rfl, by decide, (Or.inl (mt_5 _ (List.mem_of_getElem? (i := 50) (by decide +kernel)))), rfl, by decide +kernel⟩
theorem lg_X9_224 : LkG RX9 224 9 11 := ⟨RX9, TX9, 36, rfl, by decide, (Or.inl (mt_5 _ (List.mem_of_getElem? (i := 51) (by decide +kernel))))⟩
theorem lp_X9_224 : LkP RX9 224 9 11 .int := ⟨RX9, TX9, 36, rfl, by decide, (Or.inl (mt_5 _ (List.mem_of_getElem? (i := 51) (by decide +kernel)))), rfl, by decide +kernel⟩
theorem lg_X9_230 : LkG RX9 230 9 12 := ⟨RX9, TX9, 36, rfl, by decide, (Or.inl (mt_5 _ (List.mem_of_getElem? (i := 52) (by decide +kernel))))⟩
theorem lp_X9_230 : LkP RX9 230 9 12 .int := ⟨RX9, TX9, 36, rfl, by decide, (Or.inl (mt_5 _ (List.mem_of_getElem? (i := 52) (by decide +kernel)))), rfl, by decide +kernel⟩
theorem lg_X9_236 : LkG RX9 236 9 13 := ⟨RX9, TX9, 36, rfl, by decide, (Or.inl (mt_5 _ (List.mem_of_getElem? (i := 53) (by decide +kernel))))⟩
theorem lp_X9_236 : LkP RX9 236 9 13 .int := ⟨RX9, TX9, 36, rfl, by decide, (Or.inl (mt_5 _ (List.mem_of_getElem? (i := 53) (by decide +kernel)))), rfl, by decide +kernel⟩
theorem lg_X9_227 : LkG RX9 227 9 14 := ⟨RX9, TX9, 36, rfl, by decide, (Or.inl (mt_5 _ (List.mem_of_getElem? (i := 54) (by decide +kernel))))⟩
theorem lp_X9_227 : LkP RX9 227 9 14 .int := ⟨RX9, TX9, 36, rfl, by decide, (Or.inl (mt_5 _ (List.mem_of_getElem? (i := 54) (by decide +kernel)))), rfl, by decide +kernel⟩
theorem lg_X9_242 : LkG RX9 242 9 15 := ⟨RX9, TX9, 36, rfl, by decide, (Or.inl (mt_5 _ (List.mem_of_getElem? (i := 55) (by decide +kernel))))⟩
theorem lp_X9_242 : LkP RX9 242 9 15 .int := ⟨RX9, TX9, 36, rfl, by decide, (Or.inl (mt_5 _ (List.mem_of_getElem? (i := 55) (by decide +kernel)))), rfl, by decide +kernel⟩
theorem lg_X9_31 : LkG RX9 31 9 16 := ⟨RX9, TX9, 36, rfl, by decide, (Or.inl (mt_5 _ (List.mem_of_getElem? (i := 56) (by decide +kernel))))⟩
theorem lf_X9_31 : Cond.fieldLink RX9 31 (TX9 16).1 (TX9 16).2.1 (TX9 16).2.2.1 ∈ lw_tbl := (mt_5 _ (List.mem_of_getElem? (i := 56) (by decide +kernel)))
theorem lg_X9_35 : LkG RX9 35 9 17 := ⟨RX9, TX9, 36, rfl, by decide, (Or.inl (mt_5 _ (List.mem_of_getElem? (i := 57) (by decide +kernel))))⟩
theorem lf_X9_35 : Cond.fieldLink RX9 35 (TX9 17).1 (TX9 17).2.1 (TX9 17).2.2.1 ∈ lw_tbl := (mt_5 _ (List.mem_of_getElem? (i := 57) (by decide +kernel)))
theorem lg_X9_38 : LkG RX9 38 9 18 := ⟨RX9, TX9, 36, rfl, by decide, (Or.inl (mt_5 _ (List.mem_of_getElem? (i := 58) (by decide +kernel))))⟩
theorem lf_X9_38 : Cond.fieldLink RX9 38 (TX9 18).1 (TX9 18).2.1 (TX9 18).2.2.1 ∈ lw_tbl := (mt_5 _ (List.mem_of_getElem? (i := 58) (by decide +kernel)))
theorem lg_X9_254 : LkG RX9 254 9 19 := ⟨RX9, TX9, 36, rfl, by decide, (Or.inl (mt_5 _ (List.mem_of_getElem? (i := 59) (by decide +kernel))))⟩
theorem lp_X9_254 : LkP RX9 254 9 19 .int := ⟨RX9, TX9, 36, rfl, by decide, (Or.inl (mt_5 _ (List.mem_of_getElem? (i := 59) (by decide +kernel)))), rfl, by decide +kernel⟩
theorem lg_X9_260 : LkG RX9 260 9 20 := ⟨RX9, TX9, 36, rfl, by decide, (Or.inl (mt_5 _ (List.mem_of_getElem? (i := 60) (by decide +kernel))))⟩
theorem lp_X9_260 : LkP RX9 260 9 20 .int := ⟨RX9, TX9, 36, rfl, by decide, (Or.inl (mt_5 _ (List.mem_of_getElem? (i := 60) (by decide +kernel)))), rfl, by decide +kernel⟩
theorem lg_X9_41 : LkG RX9 41 9 21 := ⟨RX9, TX9, 36, rfl, by decide, (Or.inl (mt_5 _ (List.mem_of_getElem? (i := 61) (by decide +kernel))))⟩
theorem lf_X9_41 : Cond.fieldLink RX9 41 (TX9 21).1 (TX9 21).2.1 (TX9 21).2.2.1 ∈ lw_tbl := (mt_5 _ (List.mem_of_getElem? (i := 61) (by decide +kernel)))
theorem lg_X9_248 : LkG RX9 248 9 22 := ⟨RX9, TX9, 36, rfl, by decide, (Or.inl (mt_5 _ (List.mem_of_getElem? (i := 62) (by decide +kernel))))⟩
theorem lp_X9_248 : LkP RX9 248 9 22 .int := ⟨RX9, TX9, 36, rfl, by decide, (Or.inl (mt_5 _ (List.mem_of_getElem? (i := 62) (by decide +kernel)))), rfl, by decide +kernel⟩
theorem lg_X9_44 : LkG RX9 44 9 23 := ⟨RX9, TX9, 36, rfl, by decide, (Or.inl (mt_5 _ (List.mem_of_getElem? (i := 63) (by decide +kernel))))⟩
theorem lf_X9_44 : Cond.fieldLink RX9 44 (TX9 23).1 (TX9 23).2.1 (TX9 23).2.2.1 ∈ lw_tbl := (mt_5 _ (List.mem_of_getElem? (i := 63) (by decide +kernel)))
theorem lg_X9_48 : LkG RX9 48 9 24 := ⟨RX9, TX9, 36, rfl, by decide, (Or.inl (mt_5 _ (List.mem_of_getElem? (i := 64) (by decide +kernel))))⟩
theorem lf_X9_48 : Cond.fieldLink RX9 48 (TX9 24).1 (TX9 24).2.1 (TX9 24).2.2.1 ∈ lw_tbl := (mt_5 _ (List.mem_of_getElem? (i := 64) (by decide +kernel)))
theorem lg_X9_51 : LkG RX9 51 9 25 := ⟨RX9, TX9, 36, rfl, by decide, (Or.inl (mt_5 _ (List.mem_of_getElem? (i := 65) (by decide +kernel))))⟩
theorem lf_X9_51 : Cond.fieldLink RX9 51 (TX9 25).1 (TX9 25).2.1 (TX9 25).2.2.1 ∈ lw_tbl := (mt_5 _ (List.mem_of_getElem? (i := 65) (by decide +kernel)))
theorem lg_X9_54 : LkG RX9 54 9 26 := ⟨RX9, TX9, 36, rfl, by decide, (Or.inl (mt_5 _ (List.mem_of_getElem? (i := 66) (by decide +kernel))))⟩
theorem lf_X9_54 : Cond.fieldLink RX9 54 (TX9 26).1 (TX9 26).2.1 (TX9 26).2.2.1 ∈ lw_tbl := (mt_5 _ (List.mem_of_getElem? (i := 66) (by decide +kernel)))
theorem lg_X9_57 : LkG RX9 57 9 27 := ⟨RX9, TX9, 36, rfl, by decide, (Or.inl (mt_5 _ (List.mem_of_getElem? (i := 67) (by decide +kernel))))⟩
theorem lf_X9_57 : Cond.fieldLink RX9 57 (TX9 27).1 (TX9 27).2.1 (TX9 27).2.2.1 ∈ lw_tbl := (mt_5 _ (List.mem_of_getElem? (i := 67) (by decide +kernel)))
theorem lg_X9_60 : LkG RX9 60 9 28 := ⟨RX9, TX9, 36, rfl, by decide, (Or.inl (mt_5 _ (List.mem_of_getElem? (i := 68) (by decide +kernel))))⟩
theorem lf_X9_60 : Cond.fieldLink RX9 60 (TX9 28).1 (TX9 28).2.1 (TX9 28).2.2.1 ∈ lw_tbl := (mt_5 _ (List.mem_of_getElem? (i := 68) (by decide +kernel)))
theorem lg_X9_63 : LkG RX9 63 9 29 := ⟨RX9, TX9, 36, rfl, by decide, (Or.inl (mt_5 _ (List.mem_of_getElem? (i := 69) (by decide +kernel))))⟩
theorem lf_X9_63 : Cond.fieldLink RX9 63 (TX9 29).1 (TX9 29).2.1 (TX9 29).2.2.1 ∈ lw_tbl := (mt_5 _ (List.mem_of_getElem? (i := 69) (by decide +kernel)))
theorem lg_X9_66 : LkG RX9 66 9 30 := ⟨RX9, TX9, 36, rfl, by decide, (Or.inl (mt_5 _ (List.mem_of_getElem? (i := 70) (by decide +kernel))))⟩
theorem lf_X9_66 : Cond.fieldLink RX9 66 (TX9 30).1 (TX9 30).2.1 (TX9 30).2.2.1 ∈ lw_tbl := (mt_5 _ (List.mem_of_getElem? (i := 70) (by decide +kernel)))
theorem lg_X9_69 : LkG RX9 69 9 31 := ⟨RX9, TX9, 36, rfl, by decide, (Or.inl (mt_5 _ (List.mem_of_getElem? (i := 71) (by decide +kernel))))⟩
theorem lf_X9_69 : Cond.fieldLink RX9 69 (TX9 31).1 (TX9 31).2.1 (TX9 31).2.2.1 ∈ lw_tbl := (mt_5 _ (List.mem_of_getElem? (i := 71) (by decide +kernel)))
theorem lg_X9_72 : LkG RX9 72 9 32 := ⟨RX9, TX9, 36, rfl, by decide, (Or.inl (mt_5 _ (List.mem_of_getElem? (i := 72) (by decide +kernel))))⟩
theorem lf_X9_72 : Cond.fieldLink RX9 72 (TX9 32).1 (TX9 32).2.1 (TX9 32).2.2.1 ∈ lw_tbl := (mt_5 _ (List.mem_of_getElem? (i := 72) (by decide +kernel)))
theorem lg_X9_75 : LkG RX9 75 9 33 := ⟨RX9, TX9, 36, rfl, by decide, (Or.inl (mt_5 _ (List.mem_of_getElem? (i := 73) (by decide +kernel))))⟩
theorem lf_X9_75 : Cond.fieldLink RX9 75 (TX9 33).1 (TX9 33).2.1 (TX9 33).2.2.1 ∈ lw_tbl := (mt_5 _ (List.mem_of_getElem? (i := 73) (by decide +kernel)))
theorem lg_X9_78 : LkG RX9 78 9 34 := ⟨RX9, TX9, 36, rfl, by decide, (Or.inl (mt_5 _ (List.mem_of_getElem? (i := 74) (by decide +kernel))))⟩
theorem lf_X9_78 : Cond.fieldLink RX9 78 (TX9 34).1 (TX9 34).2.1 (TX9 34).2.2.1 ∈ lw_tbl := (mt_5 _ (List.mem_of_getElem? (i := 74) (by decide +kernel)))
theorem lg_X9_292 : LkG RX9 292 9 35 := ⟨RX9, TX9, 36, rfl, by decide, (Or.inl (mt_5 _ (List.mem_of_getElem? (i := 75) (by decide +kernel))))⟩
theorem lp_X9_292 : LkP RX9 292 9 35 .int := ⟨RX9, TX9, 36, rfl, by decide, (Or.inl (mt_5 _ (List.mem_of_getElem? (i := 75) (by decide +kernel)))), rfl, by decide +kernel⟩
theorem ls_X9_147 : Cond.fieldLink RX9 147 (st_C 3) (st_N 3) "[I" ∈ lw_tbl ∨ ∃ h : String, Cond.fieldLinkNest RX9 147 (st_C 3) (st_N 3) "[I" h ∈ lw_tbl := (Or.inl (mt_6 _ (List.mem_of_getElem? (i := 23) (by decide +kernel))))
theorem ls_X9_156 : Cond.fieldLink RX9 156 (st_C 4) (st_N 4) "[I" ∈ lw_tbl ∨ ∃ h : String, Cond.fieldLinkNest RX9 156 (st_C 4) (st_N 4) "[I" h ∈ lw_tbl := (Or.inl (mt_6 _ (List.mem_of_getElem? (i := 25) (by decide +kernel))))
theorem lk_X0_50 : Cond.constant RX0 50 (-1000000005) ∈ lw_tbl := (mt_1 _ (List.mem_of_getElem? (i := 75) (by decide +kernel)))
theorem lk_X8_74 : Cond.constant RX8 74 (-1000000001) ∈ lw_tbl := (mt_2 _ (List.mem_of_getElem? (i := 84) (by decide +kernel)))
theorem lk_X8_78 : Cond.constant RX8 78 (-1000000003) ∈ lw_tbl := (mt_2 _ (List.mem_of_getElem? (i := 85) (by decide +kernel)))
theorem lk_X0_99 : Cond.constant RX0 99 (-1000000003) ∈ lw_tbl := (mt_2 _ (List.mem_of_getElem? (i := 90) (by decide +kernel)))
theorem lk_J6_265 : Cond.constant RJ6 265 (1431655765) ∈ lw_tbl := (mt_2 _ (List.mem_of_getElem? (i := 126) (by decide +kernel)))
theorem lk_J6_266 : Cond.constant RJ6 266 (858993459) ∈ lw_tbl := (mt_2 _ (List.mem_of_getElem? (i := 127) (by decide +kernel)))
theorem lk_J6_267 : Cond.constant RJ6 267 (252645135) ∈ lw_tbl := (mt_2 _ (List.mem_of_getElem? (i := 128) (by decide +kernel)))
theorem lk_X8_125 : Cond.constant RX8 125 (-1000000012) ∈ lw_tbl := (mt_2 _ (List.mem_of_getElem? (i := 174) (by decide +kernel)))
theorem lk_X8_136 : Cond.constant RX8 136 (-1000000002) ∈ lw_tbl := (mt_2 _ (List.mem_of_getElem? (i := 196) (by decide +kernel)))
theorem lk_X0_91 : Cond.constant RX0 91 (1103515245) ∈ lw_tbl := (mt_2 _ (List.mem_of_getElem? (i := 231) (by decide +kernel)))
theorem lk_X8_183 : Cond.constant RX8 183 (-1000000005) ∈ lw_tbl := (mt_3 _ (List.mem_of_getElem? (i := 35) (by decide +kernel)))
theorem lk_X2_120 : Cond.constant RX2 120 (-1000000005) ∈ lw_tbl := (mt_3 _ (List.mem_of_getElem? (i := 104) (by decide +kernel)))
theorem lk_X8_223 : Cond.constant RX8 223 (-1000000011) ∈ lw_tbl := (mt_3 _ (List.mem_of_getElem? (i := 144) (by decide +kernel)))
theorem lk_X3_38 : Cond.constant RX3 38 (-1000000005) ∈ lw_tbl := (mt_3 _ (List.mem_of_getElem? (i := 158) (by decide +kernel)))
theorem lk_J2_227 : Cond.constant RJ2 227 (65536) ∈ lw_tbl := (mt_4 _ (List.mem_of_getElem? (i := 90) (by decide +kernel)))
theorem lk_J11_110 : Cond.constant RJ11 110 (55232) ∈ lw_tbl := (mt_4 _ (List.mem_of_getElem? (i := 115) (by decide +kernel)))
theorem lk_J11_76 : Cond.constant RJ11 76 (56320) ∈ lw_tbl := (mt_4 _ (List.mem_of_getElem? (i := 119) (by decide +kernel)))
theorem lk_X8_290 : Cond.constant RX8 290 (-1000000014) ∈ lw_tbl := (mt_4 _ (List.mem_of_getElem? (i := 198) (by decide +kernel)))
theorem lk_X8_292 : Cond.constant RX8 292 (-1000000013) ∈ lw_tbl := (mt_4 _ (List.mem_of_getElem? (i := 204) (by decide +kernel)))
theorem lk_X8_296 : Cond.constant RX8 296 (-99999) ∈ lw_tbl := (mt_4 _ (List.mem_of_getElem? (i := 205) (by decide +kernel)))
theorem lk_X8_297 : Cond.constant RX8 297 (99999) ∈ lw_tbl := (mt_4 _ (List.mem_of_getElem? (i := 206) (by decide +kernel)))
theorem lk_X9_121 : Cond.constant RX9 121 (-1000000001) ∈ lw_tbl := (mt_5 _ (List.mem_of_getElem? (i := 161) (by decide +kernel)))
theorem lk_X9_122 : Cond.constant RX9 122 (-1000000003) ∈ lw_tbl := (mt_5 _ (List.mem_of_getElem? (i := 162) (by decide +kernel)))
theorem lk_X9_140 : Cond.constant RX9 140 (-1000000012) ∈ lw_tbl := (mt_5 _ (List.mem_of_getElem? (i := 231) (by decide +kernel)))
theorem lk_X9_162 : Cond.constant RX9 162 (-1000000002) ∈ lw_tbl := (mt_6 _ (List.mem_of_getElem? (i := 27) (by decide +kernel)))
theorem lk_X9_166 : Cond.constant RX9 166 (1103515245) ∈ lw_tbl := (mt_6 _ (List.mem_of_getElem? (i := 44) (by decide +kernel)))
theorem lk_X9_180 : Cond.constant RX9 180 (-1000000005) ∈ lw_tbl := (mt_6 _ (List.mem_of_getElem? (i := 69) (by decide +kernel)))
theorem lk_X9_214 : Cond.constant RX9 214 (-1000000011) ∈ lw_tbl := (mt_6 _ (List.mem_of_getElem? (i := 136) (by decide +kernel)))
theorem lk_X9_285 : Cond.constant RX9 285 (-1000000014) ∈ lw_tbl := (mt_6 _ (List.mem_of_getElem? (i := 215) (by decide +kernel)))
theorem lk_X9_286 : Cond.constant RX9 286 (-1000000013) ∈ lw_tbl := (mt_6 _ (List.mem_of_getElem? (i := 220) (by decide +kernel)))
theorem lk_X9_287 : Cond.constant RX9 287 (-99999) ∈ lw_tbl := (mt_6 _ (List.mem_of_getElem? (i := 221) (by decide +kernel)))
theorem lk_X9_288 : Cond.constant RX9 288 (99999) ∈ lw_tbl := (mt_6 _ (List.mem_of_getElem? (i := 222) (by decide +kernel)))
