/-! the machine does what the functions say: the class -/
abbrev kMJ6_bitCount_0f7a4 : kv_Me := (yJ6_bitCount_0f7a4, cJ6_bitCount_0f7a4, 1, some .int)
theorem koJ6_bitCount_0f7a4 : kv_ok kMJ6_bitCount_0f7a4 1 := ⟨⟨by decide, by decide, by decide +kernel⟩, kw3_10, kw1_20, by decide⟩
abbrev kMJ9_min_7cf53 : kv_Me := (yJ9_min_7cf53, cJ9_min_7cf53, 2, some .int)
theorem koJ9_min_7cf53 : kv_ok kMJ9_min_7cf53 2 := ⟨⟨by decide, by decide, by decide +kernel⟩, kw2_56, kw1_10, by decide⟩
abbrev kMJ9_max_7cf53 : kv_Me := (yJ9_max_7cf53, cJ9_max_7cf53, 2, some .int)
theorem koJ9_max_7cf53 : kv_ok kMJ9_max_7cf53 2 := ⟨⟨by decide, by decide, by decide +kernel⟩, kw2_53, kw1_10, by decide⟩
abbrev kMJ9_floorMod_7cf53 : kv_Me := (yJ9_floorMod_7cf53, cJ9_floorMod_7cf53, 3, some .int)
theorem koJ9_floorMod_7cf53 : kv_ok kMJ9_floorMod_7cf53 2 := ⟨⟨by decide, by decide, by decide +kernel⟩, kw3_194, kw1_10, by decide⟩
abbrev kMJ7_fill_53178 : kv_Me := (yJ7_fill_53178, cJ7_fill_53178, 4, none)
theorem koJ7_fill_53178 : kv_ok kMJ7_fill_53178 2 := ⟨⟨by decide, by decide, by decide +kernel⟩, kw2_203, kw1_19, by decide⟩
abbrev kMJ0_coder_7d493 : kv_Me := (yJ0_coder_7d493, cJ0_coder_7d493, 1, some .byte)
theorem koJ0_coder_7d493 : kv_ok kMJ0_coder_7d493 0 := ⟨⟨by decide, by decide, by decide +kernel⟩, kw2_44, kw1_8, by decide⟩
abbrev kMJ0_isLatin1_aae02 : kv_Me := (yJ0_isLatin1_aae02, cJ0_isLatin1_aae02, 1, some .boolean)
theorem koJ0_isLatin1_aae02 : kv_ok kMJ0_isLatin1_aae02 0 := ⟨⟨by decide, by decide, by decide +kernel⟩, kw2_34, kw1_8, by decide⟩
abbrev kMJ0_length_8abf5 : kv_Me := (yJ0_length_8abf5, cJ0_length_8abf5, 1, some .int)
theorem koJ0_length_8abf5 : kv_ok kMJ0_length_8abf5 0 := ⟨⟨by decide, by decide, by decide +kernel⟩, kw2_40, kw1_8, by decide⟩
abbrev kMJ1_canEncode_9a6ad : kv_Me := (yJ1_canEncode_9a6ad, cJ1_canEncode_9a6ad, 1, some .boolean)
theorem koJ1_canEncode_9a6ad : kv_ok kMJ1_canEncode_9a6ad 1 := ⟨⟨by decide, by decide, by decide +kernel⟩, kw2_50, kw1_9, by decide⟩
abbrev kMJ1_indexOfChar_4cfef : kv_Me := (yJ1_indexOfChar_4cfef, cJ1_indexOfChar_4cfef, 6, some .int)
theorem koJ1_indexOfChar_4cfef : kv_ok kMJ1_indexOfChar_4cfef 4 := ⟨⟨by decide, by decide, by decide +kernel⟩, kw2_59, kw1_9, by decide⟩
abbrev kMJ1_indexOf_4cfef : kv_Me := (yJ1_indexOf_4cfef, cJ1_indexOf_4cfef, 4, some .int)
theorem koJ1_indexOf_4cfef : kv_ok kMJ1_indexOf_4cfef 4 := ⟨⟨by decide, by decide, by decide +kernel⟩, kw2_47, kw1_9, by decide⟩
abbrev kMJ0_indexOf_7cf53 : kv_Me := (yJ0_indexOf_7cf53, cJ0_indexOf_7cf53, 3, some .int)
theorem koJ0_indexOf_7cf53 : kv_ok kMJ0_indexOf_7cf53 2 := ⟨⟨by decide, by decide, by decide +kernel⟩, kw2_30, kw1_8, by decide⟩
abbrev kMJ0_indexOf_0f7a4 : kv_Me := (yJ0_indexOf_0f7a4, cJ0_indexOf_0f7a4, 2, some .int)
theorem koJ0_indexOf_0f7a4 : kv_ok kMJ0_indexOf_0f7a4 1 := ⟨⟨by decide, by decide, by decide +kernel⟩, kw2_26, kw1_8, by decide⟩
abbrev kMX2_put : kv_Me := (yX2_put, cX2_put, 2, some .boolean)
theorem koX2_put : kv_ok kMX2_put 1 := ⟨⟨by decide, by decide, by decide +kernel⟩, kw1_229, kw1_2, by decide⟩
abbrev kMX10_letter : kv_Me := (yX10_letter, cX10_letter, 2, some .int)
theorem koX10_letter : kv_ok kMX10_letter 1 := ⟨⟨by decide, by decide, by decide +kernel⟩, kw1_225, kw1_1, by decide⟩
abbrev kMX10_blank : kv_Me := (yX10_blank, cX10_blank, 2, some .int)
theorem koX10_blank : kv_ok kMX10_blank 0 := ⟨⟨by decide, by decide, by decide +kernel⟩, kw1_233, kw1_1, by decide⟩
abbrev kMX2_tricksEnd : kv_Me := (yX2_tricksEnd, cX2_tricksEnd, 2, some .int)
theorem koX2_tricksEnd : kv_ok kMX2_tricksEnd 0 := ⟨⟨by decide, by decide, by decide +kernel⟩, kw2_5, kw1_2, by decide⟩
abbrev kMX2_digitAt : kv_Me := (yX2_digitAt, cX2_digitAt, 2, some .int)
theorem koX2_digitAt : kv_ok kMX2_digitAt 1 := ⟨⟨by decide, by decide, by decide +kernel⟩, kw2_17, kw1_2, by decide⟩
abbrev kMX2_isDigit : kv_Me := (yX2_isDigit, cX2_isDigit, 5, some .boolean)
theorem koX2_isDigit : kv_ok kMX2_isDigit 3 := ⟨⟨by decide, by decide, by decide +kernel⟩, kw2_13, kw1_2, by decide⟩
abbrev kMX2_isOfPeople : kv_Me := (yX2_isOfPeople, cX2_isOfPeople, 4, some .boolean)
theorem koX2_isOfPeople : kv_ok kMX2_isOfPeople 2 := ⟨⟨by decide, by decide, by decide +kernel⟩, kw2_9, kw1_2, by decide⟩
abbrev kMX2_isOfTricks : kv_Me := (yX2_isOfTricks, cX2_isOfTricks, 3, some .boolean)
theorem koX2_isOfTricks : kv_ok kMX2_isOfTricks 1 := ⟨⟨by decide, by decide, by decide +kernel⟩, kw2_21, kw1_2, by decide⟩
abbrev kMX2_firstFault : kv_Me := (yX2_firstFault, cX2_firstFault, 4, some .int)
theorem koX2_firstFault : kv_ok kMX2_firstFault 0 := ⟨⟨by decide, by decide, by decide +kernel⟩, kw2_1, kw1_2, by decide⟩
abbrev kMX10_fault : kv_Me := (yX10_fault, cX10_fault, 1, some .int)
theorem koX10_fault : kv_ok kMX10_fault 0 := ⟨⟨by decide, by decide, by decide +kernel⟩, kw1_237, kw1_1, by decide⟩
abbrev kMX10_isTrick : kv_Me := (yX10_isTrick, cX10_isTrick, 2, some .boolean)
theorem koX10_isTrick : kv_ok kMX10_isTrick 1 := ⟨⟨by decide, by decide, by decide +kernel⟩, kw2_211, kw1_1, by decide⟩
abbrev kMX10_has : kv_Me := (yX10_has, cX10_has, 2, some .boolean)
theorem koX10_has : kv_ok kMX10_has 2 := ⟨⟨by decide, by decide, by decide +kernel⟩, kw3_17, kw1_1, by decide⟩
abbrev kMX0_isDoneBy : kv_Me := (yX0_isDoneBy, cX0_isDoneBy, 7, some .boolean)
theorem koX0_isDoneBy : kv_ok kMX0_isDoneBy 3 := ⟨⟨by decide, by decide, by decide +kernel⟩, kw3_7, kw1_6, by decide⟩
abbrev kMX10_isDoneNow : kv_Me := (yX10_isDoneNow, cX10_isDoneNow, 2, some .boolean)
theorem koX10_isDoneNow : kv_ok kMX10_isDoneNow 1 := ⟨⟨by decide, by decide, by decide +kernel⟩, kw3_3, kw1_1, by decide⟩
abbrev kMX9_suitedFor : kv_Me := (yX9_suitedFor, cX9_suitedFor, 4, some .int)
theorem koX9_suitedFor : kv_ok kMX9_suitedFor 1 := ⟨⟨by decide, by decide, by decide +kernel⟩, kw3_45, kw1_3, by decide⟩
abbrev kMX0_clashesOf : kv_Me := (yX0_clashesOf, cX0_clashesOf, 4, some .int)
theorem koX0_clashesOf : kv_ok kMX0_clashesOf 1 := ⟨⟨by decide, by decide, by decide +kernel⟩, kw3_51, kw1_6, by decide⟩
abbrev kMX10_trick : kv_Me := (yX10_trick, cX10_trick, 4, some .int)
theorem koX10_trick : kv_ok kMX10_trick 2 := ⟨⟨by decide, by decide, by decide +kernel⟩, kw2_207, kw1_1, by decide⟩
abbrev kMX10_isOfKind : kv_Me := (yX10_isOfKind, cX10_isOfKind, 2, some .boolean)
theorem koX10_isOfKind : kv_ok kMX10_isOfKind 2 := ⟨⟨by decide, by decide, by decide +kernel⟩, kw3_78, kw1_1, by decide⟩
abbrev kMX10_as : kv_Me := (yX10_as, cX10_as, 3, some .int)
theorem koX10_as : kv_ok kMX10_as 2 := ⟨⟨by decide, by decide, by decide +kernel⟩, kw3_75, kw1_1, by decide⟩
abbrev kMX10_isNumber : kv_Me := (yX10_isNumber, cX10_isNumber, 2, some .boolean)
theorem koX10_isNumber : kv_ok kMX10_isNumber 1 := ⟨⟨by decide, by decide, by decide +kernel⟩, kw3_90, kw1_1, by decide⟩
abbrev kMX9_tricksOf : kv_Me := (yX9_tricksOf, cX9_tricksOf, 4, some .int)
theorem koX9_tricksOf : kv_ok kMX9_tricksOf 1 := ⟨⟨by decide, by decide, by decide +kernel⟩, kw3_95, kw1_3, by decide⟩
abbrev kMX0_busyHoursOf : kv_Me := (yX0_busyHoursOf, cX0_busyHoursOf, 4, some .int)
theorem koX0_busyHoursOf : kv_ok kMX0_busyHoursOf 1 := ⟨⟨by decide, by decide, by decide +kernel⟩, kw3_99, kw1_6, by decide⟩
abbrev kMX9_strongsOf : kv_Me := (yX9_strongsOf, cX9_strongsOf, 4, some .int)
theorem koX9_strongsOf : kv_ok kMX9_strongsOf 1 := ⟨⟨by decide, by decide, by decide +kernel⟩, kw3_103, kw1_3, by decide⟩
abbrev kMX0_trickToTry : kv_Me := (yX0_trickToTry, cX0_trickToTry, 7, some .int)
theorem koX0_trickToTry : kv_ok kMX0_trickToTry 1 := ⟨⟨by decide, by decide, by decide +kernel⟩, kw3_107, kw1_6, by decide⟩
abbrev kMX10_person : kv_Me := (yX10_person, cX10_person, 4, some .int)
theorem koX10_person : kv_ok kMX10_person 2 := ⟨⟨by decide, by decide, by decide +kernel⟩, kw3_86, kw1_1, by decide⟩
abbrev kMX10_mayBeCast : kv_Me := (yX10_mayBeCast, cX10_mayBeCast, 4, some .boolean)
theorem koX10_mayBeCast : kv_ok kMX10_mayBeCast 2 := ⟨⟨by decide, by decide, by decide +kernel⟩, kw3_126, kw1_1, by decide⟩
abbrev kMX10_cast : kv_Me := (yX10_cast, cX10_cast, 3, some .int)
theorem koX10_cast : kv_ok kMX10_cast 2 := ⟨⟨by decide, by decide, by decide +kernel⟩, kw3_122, kw1_1, by decide⟩
abbrev kMX10_drop : kv_Me := (yX10_drop, cX10_drop, 3, some .int)
theorem koX10_drop : kv_ok kMX10_drop 2 := ⟨⟨by decide, by decide, by decide +kernel⟩, kw3_131, kw1_1, by decide⟩
abbrev kMX10_clear : kv_Me := (yX10_clear, cX10_clear, 3, some .int)
theorem koX10_clear : kv_ok kMX10_clear 0 := ⟨⟨by decide, by decide, by decide +kernel⟩, kw3_135, kw1_1, by decide⟩
abbrev kMX10_hasShow : kv_Me := (yX10_hasShow, cX10_hasShow, 1, some .boolean)
theorem koX10_hasShow : kv_ok kMX10_hasShow 0 := ⟨⟨by decide, by decide, by decide +kernel⟩, kw3_143, kw1_1, by decide⟩
abbrev kMX4_prepare : kv_Me := (yX4_prepare, cX4_prepare, 5, none)
theorem koX4_prepare : kv_ok kMX4_prepare 2 := ⟨⟨by decide, by decide, by decide +kernel⟩, kw3_151, kw1_4, by decide⟩
abbrev kMX4_openWays : kv_Me := (yX4_openWays, cX4_openWays, 5, some .int)
theorem koX4_openWays : kv_ok kMX4_openWays 2 := ⟨⟨by decide, by decide, by decide +kernel⟩, kw3_171, kw1_4, by decide⟩
abbrev kMX4_stillOpen : kv_Me := (yX4_stillOpen, cX4_stillOpen, 4, some .int)
theorem koX4_stillOpen : kv_ok kMX4_stillOpen 1 := ⟨⟨by decide, by decide, by decide +kernel⟩, kw3_167, kw1_4, by decide⟩
abbrev kMX4_hindersLater : kv_Me := (yX4_hindersLater, cX4_hindersLater, 2, some .boolean)
theorem koX4_hindersLater : kv_ok kMX4_hindersLater 1 := ⟨⟨by decide, by decide, by decide +kernel⟩, kw3_179, kw1_4, by decide⟩
abbrev kMX4_choose : kv_Me := (yX4_choose, cX4_choose, 5, none)
theorem koX4_choose : kv_ok kMX4_choose 2 := ⟨⟨by decide, by decide, by decide +kernel⟩, kw3_163, kw1_4, by decide⟩
abbrev kMX4_search : kv_Me := (yX4_search, cX4_search, 3, some .int)
theorem koX4_search : kv_ok kMX4_search 2 := ⟨⟨by decide, by decide, by decide +kernel⟩, kw3_158, kw1_4, by decide⟩
abbrev kMX10_planMost : kv_Me := (yX10_planMost, cX10_planMost, 1, some .int)
theorem koX10_planMost : kv_ok kMX10_planMost 0 := ⟨⟨by decide, by decide, by decide +kernel⟩, kw3_147, kw1_1, by decide⟩
abbrev kMX10_fill : kv_Me := (yX10_fill, cX10_fill, 3, some .int)
theorem koX10_fill : kv_ok kMX10_fill 0 := ⟨⟨by decide, by decide, by decide +kernel⟩, kw3_139, kw1_1, by decide⟩
abbrev kMX9_holdRopes : kv_Me := (yX9_holdRopes, cX9_holdRopes, 3, none)
theorem koX9_holdRopes : kv_ok kMX9_holdRopes 1 := ⟨⟨by decide, by decide, by decide +kernel⟩, kw3_187, kw1_3, by decide⟩
abbrev kMX10_night : kv_Me := (yX10_night, cX10_night, 4, some .int)
theorem koX10_night : kv_ok kMX10_night 0 := ⟨⟨by decide, by decide, by decide +kernel⟩, kw3_183, kw1_1, by decide⟩
abbrev kMX10_move : kv_Me := (yX10_move, cX10_move, 2, some .int)
theorem koX10_move : kv_ok kMX10_move 1 := ⟨⟨by decide, by decide, by decide +kernel⟩, kw3_191, kw1_1, by decide⟩
abbrev kMX9_leave : kv_Me := (yX9_leave, cX9_leave, 3, none)
theorem koX9_leave : kv_ok kMX9_leave 1 := ⟨⟨by decide, by decide, by decide +kernel⟩, kw3_202, kw1_3, by decide⟩
abbrev kMX10_letGo : kv_Me := (yX10_letGo, cX10_letGo, 2, some .int)
theorem koX10_letGo : kv_ok kMX10_letGo 1 := ⟨⟨by decide, by decide, by decide +kernel⟩, kw3_198, kw1_1, by decide⟩
abbrev kMX9_join : kv_Me := (yX9_join, cX9_join, 3, none)
theorem koX9_join : kv_ok kMX9_join 2 := ⟨⟨by decide, by decide, by decide +kernel⟩, kw3_210, kw1_3, by decide⟩
abbrev kMX10_call : kv_Me := (yX10_call, cX10_call, 3, some .int)
theorem koX10_call : kv_ok kMX10_call 2 := ⟨⟨by decide, by decide, by decide +kernel⟩, kw3_206, kw1_1, by decide⟩
abbrev kMX10_most : kv_Me := (yX10_most, cX10_most, 3, some .int)
theorem koX10_most : kv_ok kMX10_most 1 := ⟨⟨by decide, by decide, by decide +kernel⟩, kw3_214, kw1_1, by decide⟩
abbrev kMX4_fewestOf : kv_Me := (yX4_fewestOf, cX4_fewestOf, 5, some .int)
theorem koX4_fewestOf : kv_ok kMX4_fewestOf 1 := ⟨⟨by decide, by decide, by decide +kernel⟩, kw3_222, kw1_4, by decide⟩
abbrev kMX10_fewest : kv_Me := (yX10_fewest, cX10_fewest, 3, some .int)
theorem koX10_fewest : kv_ok kMX10_fewest 1 := ⟨⟨by decide, by decide, by decide +kernel⟩, kw3_218, kw1_1, by decide⟩
abbrev kMX4_sparedOf : kv_Me := (yX4_sparedOf, cX4_sparedOf, 5, some .int)
theorem koX4_sparedOf : kv_ok kMX4_sparedOf 1 := ⟨⟨by decide, by decide, by decide +kernel⟩, kw3_232, kw1_4, by decide⟩
abbrev kMX10_spare : kv_Me := (yX10_spare, cX10_spare, 1, some .int)
theorem koX10_spare : kv_ok kMX10_spare 0 := ⟨⟨by decide, by decide, by decide +kernel⟩, kw3_228, kw1_1, by decide⟩
abbrev kMX0_wantedIn : kv_Me := (yX0_wantedIn, cX0_wantedIn, 4, some .int)
theorem koX0_wantedIn : kv_ok kMX0_wantedIn 1 := ⟨⟨by decide, by decide, by decide +kernel⟩, kw4_0, kw1_6, by decide⟩
abbrev kMX10_wants : kv_Me := (yX10_wants, cX10_wants, 2, some .int)
theorem koX10_wants : kv_ok kMX10_wants 1 := ⟨⟨by decide, by decide, by decide +kernel⟩, kw3_236, kw1_1, by decide⟩
abbrev kMX9_movesAhead : kv_Me := (yX9_movesAhead, cX9_movesAhead, 4, some .int)
theorem koX9_movesAhead : kv_ok kMX9_movesAhead 1 := ⟨⟨by decide, by decide, by decide +kernel⟩, kw4_17, kw1_3, by decide⟩
abbrev kMX10_movesBackFor : kv_Me := (yX10_movesBackFor, cX10_movesBackFor, 3, some .int)
theorem koX10_movesBackFor : kv_ok kMX10_movesBackFor 2 := ⟨⟨by decide, by decide, by decide +kernel⟩, kw4_27, kw1_1, by decide⟩
abbrev kMX10_movesOnFirst : kv_Me := (yX10_movesOnFirst, cX10_movesOnFirst, 4, some .int)
theorem koX10_movesOnFirst : kv_ok kMX10_movesOnFirst 1 := ⟨⟨by decide, by decide, by decide +kernel⟩, kw4_24, kw1_1, by decide⟩
abbrev kMX10_movesBackFirst : kv_Me := (yX10_movesBackFirst, cX10_movesBackFirst, 4, some .int)
theorem koX10_movesBackFirst : kv_ok kMX10_movesBackFirst 1 := ⟨⟨by decide, by decide, by decide +kernel⟩, kw4_31, kw1_1, by decide⟩
abbrev kMX10_fewestMoves : kv_Me := (yX10_fewestMoves, cX10_fewestMoves, 1, some .int)
theorem koX10_fewestMoves : kv_ok kMX10_fewestMoves 1 := ⟨⟨by decide, by decide, by decide +kernel⟩, kw4_21, kw1_1, by decide⟩
abbrev kMX10_firstMove : kv_Me := (yX10_firstMove, cX10_firstMove, 1, some .int)
theorem koX10_firstMove : kv_ok kMX10_firstMove 1 := ⟨⟨by decide, by decide, by decide +kernel⟩, kw4_34, kw1_1, by decide⟩
abbrev kMX10_route : kv_Me := (yX10_route, cX10_route, 4, some .int)
theorem koX10_route : kv_ok kMX10_route 2 := ⟨⟨by decide, by decide, by decide +kernel⟩, kw4_13, kw1_1, by decide⟩
abbrev kMX9_addSeen : kv_Me := (yX9_addSeen, cX9_addSeen, 3, some .boolean)
theorem koX9_addSeen : kv_ok kMX9_addSeen 2 := ⟨⟨by decide, by decide, by decide +kernel⟩, kw4_43, kw1_3, by decide⟩
abbrev kMX10_see : kv_Me := (yX10_see, cX10_see, 5, some .int)
theorem koX10_see : kv_ok kMX10_see 3 := ⟨⟨by decide, by decide, by decide +kernel⟩, kw4_38, kw1_1, by decide⟩
abbrev kMX10_forget : kv_Me := (yX10_forget, cX10_forget, 2, some .int)
theorem koX10_forget : kv_ok kMX10_forget 0 := ⟨⟨by decide, by decide, by decide +kernel⟩, kw4_47, kw1_1, by decide⟩
abbrev kMX7_drawStrong : kv_Me := (yX7_drawStrong, cX7_drawStrong, 1, some .int)
theorem koX7_drawStrong : kv_ok kMX7_drawStrong 0 := ⟨⟨by decide, by decide, by decide +kernel⟩, kw4_59, kw1_5, by decide⟩
abbrev kMX7_callUp : kv_Me := (yX7_callUp, cX7_callUp, 2, none)
theorem koX7_callUp : kv_ok kMX7_callUp 1 := ⟨⟨by decide, by decide, by decide +kernel⟩, kw4_67, kw1_5, by decide⟩
abbrev kMX7_busyFor : kv_Me := (yX7_busyFor, cX7_busyFor, 5, some .int)
theorem koX7_busyFor : kv_ok kMX7_busyFor 2 := ⟨⟨by decide, by decide, by decide +kernel⟩, kw4_77, kw1_5, by decide⟩
abbrev kMX7_take : kv_Me := (yX7_take, cX7_take, 6, some .int)
theorem koX7_take : kv_ok kMX7_take 2 := ⟨⟨by decide, by decide, by decide +kernel⟩, kw4_82, kw1_5, by decide⟩
abbrev kMX7_play : kv_Me := (yX7_play, cX7_play, 5, some .int)
theorem koX7_play : kv_ok kMX7_play 1 := ⟨⟨by decide, by decide, by decide +kernel⟩, kw4_71, kw1_5, by decide⟩
abbrev kMX7_sendHome : kv_Me := (yX7_sendHome, cX7_sendHome, 4, none)
theorem koX7_sendHome : kv_ok kMX7_sendHome 1 := ⟨⟨by decide, by decide, by decide +kernel⟩, kw4_89, kw1_5, by decide⟩
abbrev kMX7_go : kv_Me := (yX7_go, cX7_go, 5, none)
theorem koX7_go : kv_ok kMX7_go 3 := ⟨⟨by decide, by decide, by decide +kernel⟩, kw4_55, kw1_5, by decide⟩
abbrev kMX10_tours : kv_Me := (yX10_tours, cX10_tours, 4, some .int)
theorem koX10_tours : kv_ok kMX10_tours 3 := ⟨⟨by decide, by decide, by decide +kernel⟩, kw4_51, kw1_1, by decide⟩
abbrev kMX9_copyFrom : kv_Me := (yX9_copyFrom, cX9_copyFrom, 2, none)
theorem koX9_copyFrom : kv_ok kMX9_copyFrom 1 := ⟨⟨by decide, by decide, by decide +kernel⟩, kw4_97, kw1_3, by decide⟩
abbrev kMX10_image : kv_Me := (yX10_image, cX10_image, 1, some .int)
theorem koX10_image : kv_ok kMX10_image 0 := ⟨⟨by decide, by decide, by decide +kernel⟩, kw4_93, kw1_1, by decide⟩
abbrev kMX10_restore : kv_Me := (yX10_restore, cX10_restore, 1, some .int)
theorem koX10_restore : kv_ok kMX10_restore 0 := ⟨⟨by decide, by decide, by decide +kernel⟩, kw4_102, kw1_1, by decide⟩
abbrev kMX10_doneNow : kv_Me := (yX10_doneNow, cX10_doneNow, 3, some .int)
theorem koX10_doneNow : kv_ok kMX10_doneNow 0 := ⟨⟨by decide, by decide, by decide +kernel⟩, kw4_110, kw1_1, by decide⟩
abbrev kMX0_bound : kv_Me := (yX0_bound, cX0_bound, 3, some .int)
theorem koX0_bound : kv_ok kMX0_bound 0 := ⟨⟨by decide, by decide, by decide +kernel⟩, kw4_114, kw1_6, by decide⟩
abbrev kMX10_count : kv_Me := (yX10_count, cX10_count, 2, some .int)
theorem koX10_count : kv_ok kMX10_count 1 := ⟨⟨by decide, by decide, by decide +kernel⟩, kw4_106, kw1_1, by decide⟩
abbrev kMX10_digestOfShow : kv_Me := (yX10_digestOfShow, cX10_digestOfShow, 7, some .long)
theorem koX10_digestOfShow : kv_ok kMX10_digestOfShow 1 := ⟨⟨by decide, by decide, by decide +kernel⟩, kw4_124, kw1_1, by decide⟩
abbrev kMX10_digest : kv_Me := (yX10_digest, cX10_digest, 4, some .long)
theorem koX10_digest : kv_ok kMX10_digest 0 := ⟨⟨by decide, by decide, by decide +kernel⟩, kw4_119, kw1_1, by decide⟩
abbrev kMX2_isShow : kv_Me := (yX2_isShow, cX2_isShow, 2, some .boolean)
theorem koX2_isShow : kv_ok kMX2_isShow 0 := ⟨⟨by decide, by decide, by decide +kernel⟩, kw2_117, kw1_2, by decide⟩
abbrev kMX9_startAnew : kv_Me := (yX9_startAnew, cX9_startAnew, 2, none)
theorem koX9_startAnew : kv_ok kMX9_startAnew 1 := ⟨⟨by decide, by decide, by decide +kernel⟩, kw2_200, kw1_3, by decide⟩
abbrev kMX2_readPeople : kv_Me := (yX2_readPeople, cX2_readPeople, 5, none)
theorem koX2_readPeople : kv_ok kMX2_readPeople 2 := ⟨⟨by decide, by decide, by decide +kernel⟩, kw2_196, kw1_2, by decide⟩
set_option maxRecDepth 20000 in
set_option maxHeartbeats 4000000 in
theorem RJ6_bitCount_0f7a4_41 {Z : kv_Z} (e : Nat) {G : kg_G} : ∀ (l0 : Int32) (res : Int32), fJ6_bitCount_0f7a4_41 l0 = res → kv_V Z (e + 0) kMJ6_bitCount_0f7a4 41 [some (.int l0)] [] (kg_w G) (some (.int res)) (kg_w G) := by
  intro l0 res h
  unfold fJ6_bitCount_0f7a4_41 at h
  refine kr_iload_n dJ6_bitCount_0f7a4_41 rfl ?_
  refine kr_iload_n dJ6_bitCount_0f7a4_42 rfl ?_
  refine kr_bipush (v := 16) dJ6_bitCount_0f7a4_43 (by decide) ?_
  refine kr_iushr dJ6_bitCount_0f7a4_45 ?_
  refine kr_iadd dJ6_bitCount_0f7a4_46 ?_
  refine kr_istore_n (i := 0) (ls' := [some (.int (l0 + (((Int32.toUInt32 l0) >>> ((Int32.toUInt32 16) &&& Int32.toUInt32 31)).toInt32)))]) dJ6_bitCount_0f7a4_47 rfl (Nat.le_of_ble_eq_true rfl) rfl ?_
  refine kr_iload_n dJ6_bitCount_0f7a4_48 rfl ?_
  refine kr_bipush (v := 63) dJ6_bitCount_0f7a4_49 (by decide) ?_
  refine kr_iand dJ6_bitCount_0f7a4_51 ?_
  cases h
  exact kr_iret rfl dJ6_bitCount_0f7a4_52
set_option maxRecDepth 20000 in
set_option maxHeartbeats 4000000 in
theorem RJ6_bitCount_0f7a4_34 {Z : kv_Z} (e : Nat) {G : kg_G} : ∀ (l0 : Int32) (res : Int32), fJ6_bitCount_0f7a4_34 l0 = res → kv_V Z (e + 0) kMJ6_bitCount_0f7a4 34 [some (.int l0)] [] (kg_w G) (some (.int res)) (kg_w G) := by
  intro l0 res h
  unfold fJ6_bitCount_0f7a4_34 at h
  refine kr_iload_n dJ6_bitCount_0f7a4_34 rfl ?_
  refine kr_iload_n dJ6_bitCount_0f7a4_35 rfl ?_
  refine kr_bipush (v := 8) dJ6_bitCount_0f7a4_36 (by decide) ?_
  refine kr_iushr dJ6_bitCount_0f7a4_38 ?_
  refine kr_iadd dJ6_bitCount_0f7a4_39 ?_
  refine kr_istore_n (i := 0) (ls' := [some (.int (l0 + (((Int32.toUInt32 l0) >>> ((Int32.toUInt32 8) &&& Int32.toUInt32 31)).toInt32)))]) dJ6_bitCount_0f7a4_40 rfl (Nat.le_of_ble_eq_true rfl) rfl ?_
  exact RJ6_bitCount_0f7a4_41 e _ _ h
set_option maxRecDepth 20000 in
set_option maxHeartbeats 4000000 in
theorem RJ6_bitCount_0f7a4_24 {Z : kv_Z} (e : Nat) {G : kg_G} : ∀ (l0 : Int32) (res : Int32), fJ6_bitCount_0f7a4_24 l0 = res → kv_V Z (e + 0) kMJ6_bitCount_0f7a4 24 [some (.int l0)] [] (kg_w G) (some (.int res)) (kg_w G) := by
  intro l0 res h
  unfold fJ6_bitCount_0f7a4_24 at h
  refine kr_iload_n dJ6_bitCount_0f7a4_24 rfl ?_
  refine kr_iload_n dJ6_bitCount_0f7a4_25 rfl ?_
  refine kr_iconst (v := 4) dJ6_bitCount_0f7a4_26 (by decide) ?_
  refine kr_iushr dJ6_bitCount_0f7a4_27 ?_
  refine kr_iadd dJ6_bitCount_0f7a4_28 ?_
  refine kr_ldcw (x := 252645135) kw3_13 dJ6_bitCount_0f7a4_29 ?_
  refine kr_iand dJ6_bitCount_0f7a4_32 ?_
  refine kr_istore_n (i := 0) (ls' := [some (.int ((l0 + (((Int32.toUInt32 l0) >>> ((Int32.toUInt32 4) &&& Int32.toUInt32 31)).toInt32)) &&& 252645135))]) dJ6_bitCount_0f7a4_33 rfl (Nat.le_of_ble_eq_true rfl) rfl ?_
  exact RJ6_bitCount_0f7a4_34 e _ _ h
set_option maxRecDepth 20000 in
set_option maxHeartbeats 4000000 in
theorem RJ6_bitCount_0f7a4_10 {Z : kv_Z} (e : Nat) {G : kg_G} : ∀ (l0 : Int32) (res : Int32), fJ6_bitCount_0f7a4_10 l0 = res → kv_V Z (e + 0) kMJ6_bitCount_0f7a4 10 [some (.int l0)] [] (kg_w G) (some (.int res)) (kg_w G) := by
  intro l0 res h
  unfold fJ6_bitCount_0f7a4_10 at h
  refine kr_iload_n dJ6_bitCount_0f7a4_10 rfl ?_
  refine kr_ldcw (x := 858993459) kw3_12 dJ6_bitCount_0f7a4_11 ?_
  refine kr_iand dJ6_bitCount_0f7a4_14 ?_
  refine kr_iload_n dJ6_bitCount_0f7a4_15 rfl ?_
  refine kr_iconst (v := 2) dJ6_bitCount_0f7a4_16 (by decide) ?_
  refine kr_iushr dJ6_bitCount_0f7a4_17 ?_
  refine kr_ldcw (x := 858993459) kw3_12 dJ6_bitCount_0f7a4_18 ?_
  refine kr_iand dJ6_bitCount_0f7a4_21 ?_
  refine kr_iadd dJ6_bitCount_0f7a4_22 ?_
  refine kr_istore_n (i := 0) (ls' := [some (.int ((l0 &&& 858993459) + ((((Int32.toUInt32 l0) >>> ((Int32.toUInt32 2) &&& Int32.toUInt32 31)).toInt32) &&& 858993459)))]) dJ6_bitCount_0f7a4_23 rfl (Nat.le_of_ble_eq_true rfl) rfl ?_
  exact RJ6_bitCount_0f7a4_24 e _ _ h
set_option maxRecDepth 20000 in
set_option maxHeartbeats 4000000 in
theorem RJ6_bitCount_0f7a4 {Z : kv_Z} (e : Nat) {G : kg_G} {l0 : Int32} {res : Int32} (h : fJ6_bitCount_0f7a4 l0 = res) : kv_M Z (e + 0) kMJ6_bitCount_0f7a4 [.int l0] (kg_w G) (some (.int res)) (kg_w G) := by
  refine kv_M_of (ls := [some (.int l0)]) (by decide) (Nat.le_of_ble_eq_true rfl) rfl ?_
  unfold fJ6_bitCount_0f7a4 at h
  refine kr_iload_n dJ6_bitCount_0f7a4_0 rfl ?_
  refine kr_iload_n dJ6_bitCount_0f7a4_1 rfl ?_
  refine kr_iconst (v := 1) dJ6_bitCount_0f7a4_2 (by decide) ?_
  refine kr_iushr dJ6_bitCount_0f7a4_3 ?_
  refine kr_ldcw (x := 1431655765) kw3_11 dJ6_bitCount_0f7a4_4 ?_
  refine kr_iand dJ6_bitCount_0f7a4_7 ?_
  refine kr_isub dJ6_bitCount_0f7a4_8 ?_
  refine kr_istore_n (i := 0) (ls' := [some (.int (l0 - ((((Int32.toUInt32 l0) >>> ((Int32.toUInt32 1) &&& Int32.toUInt32 31)).toInt32) &&& 1431655765)))]) dJ6_bitCount_0f7a4_9 rfl (Nat.le_of_ble_eq_true rfl) rfl ?_
  exact RJ6_bitCount_0f7a4_10 e _ _ h
set_option maxRecDepth 20000 in
set_option maxHeartbeats 4000000 in
theorem RJ9_min_7cf53 {Z : kv_Z} (e : Nat) {G : kg_G} {l0 : Int32} {l1 : Int32} {res : Int32} (h : fJ9_min_7cf53 l0 l1 = res) : kv_M Z (e + 0) kMJ9_min_7cf53 [.int l0, .int l1] (kg_w G) (some (.int res)) (kg_w G) := by
  refine kv_M_ofF (ls := [some (.int l0), some (.int l1)]) (by decide +kernel) (Nat.le_of_ble_eq_true rfl) rfl ?_
  unfold fJ9_min_7cf53 at h
  refine kr_iload_n dJ9_min_7cf53_0 rfl ?_
  refine kr_iload_n dJ9_min_7cf53_1 rfl ?_
  refine kr_icmp_gt (tgt := 9) dJ9_min_7cf53_2 rfl (fun c2 => ?_) (fun c2 => ?_)
  · rw [if_pos c2] at h
    refine kr_iload_n dJ9_min_7cf53_9 rfl ?_
    cases h
    exact kr_iret rfl dJ9_min_7cf53_10
  · rw [if_neg c2] at h
    refine kr_iload_n dJ9_min_7cf53_5 rfl ?_
    refine kr_goto (tgt := 10) dJ9_min_7cf53_6 rfl ?_
    cases h
    exact kr_iret rfl dJ9_min_7cf53_10
set_option maxRecDepth 20000 in
set_option maxHeartbeats 4000000 in
theorem RJ9_max_7cf53 {Z : kv_Z} (e : Nat) {G : kg_G} {l0 : Int32} {l1 : Int32} {res : Int32} (h : fJ9_max_7cf53 l0 l1 = res) : kv_M Z (e + 0) kMJ9_max_7cf53 [.int l0, .int l1] (kg_w G) (some (.int res)) (kg_w G) := by
  refine kv_M_ofF (ls := [some (.int l0), some (.int l1)]) (by decide +kernel) (Nat.le_of_ble_eq_true rfl) rfl ?_
  unfold fJ9_max_7cf53 at h
  refine kr_iload_n dJ9_max_7cf53_0 rfl ?_
  refine kr_iload_n dJ9_max_7cf53_1 rfl ?_
  refine kr_icmp_lt (tgt := 9) dJ9_max_7cf53_2 rfl (fun c2 => ?_) (fun c2 => ?_)
  · rw [if_pos c2] at h
    refine kr_iload_n dJ9_max_7cf53_9 rfl ?_
    cases h
    exact kr_iret rfl dJ9_max_7cf53_10
  · rw [if_neg c2] at h
    refine kr_iload_n dJ9_max_7cf53_5 rfl ?_
    refine kr_goto (tgt := 10) dJ9_max_7cf53_6 rfl ?_
    cases h
    exact kr_iret rfl dJ9_max_7cf53_10
set_option maxRecDepth 20000 in
set_option maxHeartbeats 4000000 in
theorem RJ9_floorMod_7cf53 {Z : kv_Z} (e : Nat) {G : kg_G} {l0 : Int32} {l1 : Int32} {res : Int32} (h : fJ9_floorMod_7cf53 l0 l1 = some res) : kv_M Z (e + 0) kMJ9_floorMod_7cf53 [.int l0, .int l1] (kg_w G) (some (.int res)) (kg_w G) := by
  refine kv_M_ofF (ls := [some (.int l0), some (.int l1), none]) (by decide +kernel) (Nat.le_of_ble_eq_true rfl) rfl ?_
  unfold fJ9_floorMod_7cf53 at h
  refine kr_iload_n dJ9_floorMod_7cf53_0 rfl ?_
  refine kr_iload_n dJ9_floorMod_7cf53_1 rfl ?_
  obtain ⟨hv1, h⟩ := kx_ite h
  refine kr_irem dJ9_floorMod_7cf53_2 hv1 ?_
  refine kr_istore_n (i := 2) (ls' := [some (.int l0), some (.int l1), some (.int (l0 - l0 / l1 * l1))]) dJ9_floorMod_7cf53_3 rfl (Nat.le_of_ble_eq_true rfl) rfl ?_
  refine kr_iload_n dJ9_floorMod_7cf53_4 rfl ?_
  refine kr_iload_n dJ9_floorMod_7cf53_5 rfl ?_
  refine kr_ixor dJ9_floorMod_7cf53_6 ?_
  refine kr_if_ge (tgt := 18) dJ9_floorMod_7cf53_7 rfl (fun c7 => ?_) (fun c7 => ?_)
  · rw [if_pos c7] at h
    refine kr_iload_n dJ9_floorMod_7cf53_18 rfl ?_
    cases h
    exact kr_iret rfl dJ9_floorMod_7cf53_19
  · rw [if_neg c7] at h
    refine kr_iload_n dJ9_floorMod_7cf53_10 rfl ?_
    refine kr_if_eq (tgt := 18) dJ9_floorMod_7cf53_11 rfl (fun c11 => ?_) (fun c11 => ?_)
    · rw [if_pos c11] at h
      refine kr_iload_n dJ9_floorMod_7cf53_18 rfl ?_
      cases h
      exact kr_iret rfl dJ9_floorMod_7cf53_19
    · rw [if_neg c11] at h
      refine kr_iload_n dJ9_floorMod_7cf53_14 rfl ?_
      refine kr_iload_n dJ9_floorMod_7cf53_15 rfl ?_
      refine kr_iadd dJ9_floorMod_7cf53_16 ?_
      cases h
      exact kr_iret rfl dJ9_floorMod_7cf53_17
set_option maxRecDepth 20000 in
set_option maxHeartbeats 4000000 in
theorem RJ7_fill_53178_5 {Z : kv_Z} (e : Nat) {N : Nat} : ∀ (n : Nat) (G : kg_G) (a0 : Nat) (l1 : Int32) (l2 : Int32) (l3 : Int32) (res : kg_G), fJ7_fill_53178_5 N n G a0 l1 l2 l3 = some res → kv_V Z (e + 0) kMJ7_fill_53178 5 [some (.ref a0), some (.int l1), some (.int l2), some (.int l3)] [] (kg_w G) none (kg_w res) := by
  intro n
  induction n with
  | zero => intro G a0 l1 l2 l3 res h; exact absurd h (by intro z; cases z)
  | succ n ih =>
    intro G a0 l1 l2 l3 res h
    have hk5 := ih
    rw [fJ7_fill_53178_5] at h
    refine kr_iload_n dJ7_fill_53178_5 rfl ?_
    refine kr_iload_n dJ7_fill_53178_6 rfl ?_
    refine kr_icmp_ge (tgt := 20) dJ7_fill_53178_7 rfl (fun c7 => ?_) (fun c7 => ?_)
    · rw [if_pos c7] at h
      cases h
      exact kr_vret rfl dJ7_fill_53178_20
    · rw [if_neg c7] at h
      refine kr_aload_n dJ7_fill_53178_10 rfl ?_
      refine kr_iload_n dJ7_fill_53178_11 rfl ?_
      refine kr_iload_n dJ7_fill_53178_12 rfl ?_
      obtain ⟨v1, hv1, h⟩ := Option.bind_eq_some_iff.mp h
      refine kx_sd hv1 dJ7_fill_53178_13 ?_
      refine kr_iinc (v := l2 + 1) (ls' := [some (.ref a0), some (.int l1), some (.int (l2 + 1)), some (.int l3)]) dJ7_fill_53178_14 rfl rfl (Nat.le_of_ble_eq_true rfl) rfl ?_
      refine kr_goto (tgt := 5) dJ7_fill_53178_17 rfl ?_
      exact hk5 _ _ _ _ _ _ h
set_option maxRecDepth 20000 in
set_option maxHeartbeats 4000000 in
theorem RJ7_fill_53178 {Z : kv_Z} (e : Nat) {N : Nat} {G : kg_G} {a0 : Nat} {l1 : Int32} {res : kg_G} (h : fJ7_fill_53178 N G a0 l1 = some res) : kv_M Z (e + 0) kMJ7_fill_53178 [.ref a0, .int l1] (kg_w G) none (kg_w res) := by
  refine kv_M_of (ls := [some (.ref a0), some (.int l1), none, none]) (by decide) (Nat.le_of_ble_eq_true rfl) rfl ?_
  unfold fJ7_fill_53178 at h
  refine kr_iconst (v := 0) dJ7_fill_53178_0 (by decide) ?_
  refine kr_istore_n (i := 2) (ls' := [some (.ref a0), some (.int l1), some (.int 0), none]) dJ7_fill_53178_1 rfl (Nat.le_of_ble_eq_true rfl) rfl ?_
  refine kr_aload_n dJ7_fill_53178_2 rfl ?_
  obtain ⟨v1, hv1, h⟩ := Option.bind_eq_some_iff.mp h
  refine kx_le hv1 dJ7_fill_53178_3 ?_
  refine kr_istore_n (i := 3) (ls' := [some (.ref a0), some (.int l1), some (.int 0), some (.int v1)]) dJ7_fill_53178_4 rfl (Nat.le_of_ble_eq_true rfl) rfl ?_
  exact RJ7_fill_53178_5 e N _ _ _ _ _ _ h
set_option maxRecDepth 20000 in
set_option maxHeartbeats 4000000 in
theorem RJ0_coder_7d493 {Z : kv_Z} (e : Nat) {G : kg_G} {res : Int32} (h : fJ0_coder_7d493 = res) : kv_M Z (e + 0) kMJ0_coder_7d493 [.retAddr 0] (kg_w G) (some (.int res)) (kg_w G) := by
  refine kv_M_of (ls := [some (.retAddr 0)]) (by decide) (Nat.le_of_ble_eq_true rfl) rfl ?_
  unfold fJ0_coder_7d493 at h
  refine kr_getsX kw2_35 dJ0_coder_7d493_0 ?_
  refine kr_if_eq (tgt := 13) dJ0_coder_7d493_3 rfl (fun c3 => ?_) (fun c3 => ?_)
  · rw [if_pos c3] at h
    refine kr_iconst (v := 1) dJ0_coder_7d493_13 (by decide) ?_
    cases h
    exact kr_bret rfl (by decide) dJ0_coder_7d493_14
  · rw [if_neg c3] at h
    refine kr_aload_x dJ0_coder_7d493_6 rfl ?_
    refine kr_codX kw6_88 dJ0_coder_7d493_7 ?_
    refine kr_goto (tgt := 14) dJ0_coder_7d493_10 rfl ?_
    cases h
    exact kr_bret rfl (by decide) dJ0_coder_7d493_14
set_option maxRecDepth 20000 in
set_option maxHeartbeats 4000000 in
theorem RJ0_isLatin1_aae02 {Z : kv_Z} (e : Nat) {G : kg_G} {res : Int32} (h : fJ0_isLatin1_aae02 = res) : kv_M Z (e + 0) kMJ0_isLatin1_aae02 [.retAddr 0] (kg_w G) (some (.int res)) (kg_w G) := by
  refine kv_M_of (ls := [some (.retAddr 0)]) (by decide) (Nat.le_of_ble_eq_true rfl) rfl ?_
  unfold fJ0_isLatin1_aae02 at h
  refine kr_getsX kw2_35 dJ0_isLatin1_aae02_0 ?_
  refine kr_if_eq (tgt := 17) dJ0_isLatin1_aae02_3 rfl (fun c3 => ?_) (fun c3 => ?_)
  · rw [if_pos c3] at h
    refine kr_iconst (v := 0) dJ0_isLatin1_aae02_17 (by decide) ?_
    cases h
    exact kr_zret rfl (by decide) dJ0_isLatin1_aae02_18
  · rw [if_neg c3] at h
    refine kr_aload_x dJ0_isLatin1_aae02_6 rfl ?_
    refine kr_codX kw6_88 dJ0_isLatin1_aae02_7 ?_
    refine kr_if_ne (tgt := 17) dJ0_isLatin1_aae02_10 rfl (fun c10 => ?_) (fun c10 => ?_)
    · rw [if_pos c10] at h
      refine kr_iconst (v := 1) dJ0_isLatin1_aae02_13 (by decide) ?_
      refine kr_goto (tgt := 18) dJ0_isLatin1_aae02_14 rfl ?_
      cases h
      exact kr_zret rfl (by decide) dJ0_isLatin1_aae02_18
    · rw [if_neg c10] at h
      refine kr_iconst (v := 0) dJ0_isLatin1_aae02_17 (by decide) ?_
      cases h
      exact kr_zret rfl (by decide) dJ0_isLatin1_aae02_18
set_option maxRecDepth 20000 in
set_option maxHeartbeats 4000000 in
theorem RJ0_length_8abf5 {Z : kv_Z} (e : Nat) {G : kg_G} {res : Int32} (h : fJ0_length_8abf5 = res) : kv_M Z (e + 1) kMJ0_length_8abf5 [.retAddr 0] (kg_w G) (some (.int res)) (kg_w G) := by
  refine kv_M_of (ls := [some (.retAddr 0)]) (by decide) (Nat.le_of_ble_eq_true rfl) rfl ?_
  unfold fJ0_length_8abf5 at h
  refine kr_aload_x dJ0_length_8abf5_0 rfl ?_
  refine kr_getX kw6_89 dJ0_length_8abf5_1 ?_
  refine kr_lenY dJ0_length_8abf5_4 ?_
  refine kr_aload_x dJ0_length_8abf5_5 rfl ?_
  refine kr_callXi (M' := kMJ0_coder_7d493) (As := []) (st := [.int 5]) (RJ0_coder_7d493 (e + 0) rfl) koJ0_coder_7d493 rfl rfl kw2_41 kw2_42 kw2_43 rfl (Nat.le_of_ble_eq_true rfl) dJ0_length_8abf5_6 ?_
  refine kr_ishr dJ0_length_8abf5_9 ?_
  cases h
  exact kr_iret rfl dJ0_length_8abf5_10
set_option maxRecDepth 20000 in
set_option maxHeartbeats 4000000 in
theorem RJ1_canEncode_9a6ad {Z : kv_Z} (e : Nat) {G : kg_G} {l0 : Int32} {res : Int32} (h : fJ1_canEncode_9a6ad l0 = res) : kv_M Z (e + 0) kMJ1_canEncode_9a6ad [.int l0] (kg_w G) (some (.int res)) (kg_w G) := by
  refine kv_M_of (ls := [some (.int l0)]) (by decide) (Nat.le_of_ble_eq_true rfl) rfl ?_
  unfold fJ1_canEncode_9a6ad at h
  refine kr_iload_n dJ1_canEncode_9a6ad_0 rfl ?_
  refine kr_if_lt (tgt := 15) dJ1_canEncode_9a6ad_1 rfl (fun c1 => ?_) (fun c1 => ?_)
  · rw [if_pos c1] at h
    refine kr_iconst (v := 0) dJ1_canEncode_9a6ad_15 (by decide) ?_
    cases h
    exact kr_zret rfl (by decide) dJ1_canEncode_9a6ad_16
  · rw [if_neg c1] at h
    refine kr_iload_n dJ1_canEncode_9a6ad_4 rfl ?_
    refine kr_sipush (v := 255) dJ1_canEncode_9a6ad_5 (by decide) ?_
    refine kr_icmp_gt (tgt := 15) dJ1_canEncode_9a6ad_8 rfl (fun c8 => ?_) (fun c8 => ?_)
    · rw [if_pos c8] at h
      refine kr_iconst (v := 0) dJ1_canEncode_9a6ad_15 (by decide) ?_
      cases h
      exact kr_zret rfl (by decide) dJ1_canEncode_9a6ad_16
    · rw [if_neg c8] at h
      refine kr_iconst (v := 1) dJ1_canEncode_9a6ad_11 (by decide) ?_
      refine kr_goto (tgt := 16) dJ1_canEncode_9a6ad_12 rfl ?_
      cases h
      exact kr_zret rfl (by decide) dJ1_canEncode_9a6ad_16
set_option maxRecDepth 20000 in
set_option maxHeartbeats 4000000 in
theorem RJ1_indexOfChar_4cfef_7 {Z : kv_Z} (e : Nat) {N : Nat} {G : kg_G} : ∀ (n : Nat) (l3 : Int32) (l4 : Int32) (l5 : Int32) (res : Int32), fJ1_indexOfChar_4cfef_7 N n l3 l4 l5 = some res → kv_V Z (e + 0) kMJ1_indexOfChar_4cfef 7 [some (.retAddr 1), none, none, some (.int l3), some (.int l4), some (.int l5)] [] (kg_w G) (some (.int res)) (kg_w G) := by
  intro n
  induction n with
  | zero => intro l3 l4 l5 res h; exact absurd h (by intro z; cases z)
  | succ n ih =>
    intro l3 l4 l5 res h
    have hk7 := ih
    rw [fJ1_indexOfChar_4cfef_7] at h
    refine kr_iload dJ1_indexOfChar_4cfef_7 rfl ?_
    refine kr_iload_n dJ1_indexOfChar_4cfef_9 rfl ?_
    refine kr_icmp_ge (tgt := 31) dJ1_indexOfChar_4cfef_10 rfl (fun c10 => ?_) (fun c10 => ?_)
    · rw [if_pos c10] at h
      refine kr_iconst (v := (-1)) dJ1_indexOfChar_4cfef_31 (by decide) ?_
      cases h
      exact kr_iret rfl dJ1_indexOfChar_4cfef_32
    · rw [if_neg c10] at h
      refine kr_aload_y dJ1_indexOfChar_4cfef_13 rfl ?_
      refine kr_iload dJ1_indexOfChar_4cfef_14 rfl ?_
      obtain ⟨v1, hv1, h⟩ := Option.bind_eq_some_iff.mp h
      refine kx_aldY hv1 dJ1_indexOfChar_4cfef_16 ?_
      refine kr_iload dJ1_indexOfChar_4cfef_17 rfl ?_
      refine kr_icmp_ne (tgt := 25) dJ1_indexOfChar_4cfef_19 rfl (fun c19 => ?_) (fun c19 => ?_)
      · rw [if_pos c19] at h
        refine kr_iload dJ1_indexOfChar_4cfef_22 rfl ?_
        cases h
        exact kr_iret rfl dJ1_indexOfChar_4cfef_24
      · rw [if_neg c19] at h
        refine kr_iinc (v := l5 + 1) (ls' := [some (.retAddr 1), none, none, some (.int l3), some (.int l4), some (.int (l5 + 1))]) dJ1_indexOfChar_4cfef_25 rfl rfl (Nat.le_of_ble_eq_true rfl) rfl ?_
        refine kr_goto (tgt := 7) dJ1_indexOfChar_4cfef_28 rfl ?_
        exact hk7 _ _ _ _ h
set_option maxRecDepth 20000 in
set_option maxHeartbeats 4000000 in
theorem RJ1_indexOfChar_4cfef {Z : kv_Z} (e : Nat) {N : Nat} {G : kg_G} {l1 : Int32} {l2 : Int32} {l3 : Int32} {res : Int32} (h : fJ1_indexOfChar_4cfef N l1 l2 l3 = some res) : kv_M Z (e + 0) kMJ1_indexOfChar_4cfef [.retAddr 1, .int l1, .int l2, .int l3] (kg_w G) (some (.int res)) (kg_w G) := by
  refine kv_M_of (ls := [some (.retAddr 1), some (.int l1), some (.int l2), some (.int l3), none, none]) (by decide) (Nat.le_of_ble_eq_true rfl) rfl ?_
  unfold fJ1_indexOfChar_4cfef at h
  refine kr_iload_n dJ1_indexOfChar_4cfef_0 rfl ?_
  refine kr_i2b dJ1_indexOfChar_4cfef_1 ?_
  refine kr_istore (ls' := [some (.retAddr 1), some (.int l1), some (.int l2), some (.int l3), some (.int l1.toInt8.toInt32), none]) dJ1_indexOfChar_4cfef_2 (Nat.le_of_ble_eq_true rfl) rfl ?_
  refine kr_iload_n dJ1_indexOfChar_4cfef_4 rfl ?_
  refine kr_istore (ls' := [some (.retAddr 1), some (.int l1), some (.int l2), some (.int l3), some (.int l1.toInt8.toInt32), some (.int l2)]) dJ1_indexOfChar_4cfef_5 (Nat.le_of_ble_eq_true rfl) rfl ?_
  refine kv_loc (ls' := [some (.retAddr 1), none, none, some (.int l3), some (.int l1.toInt8.toInt32), some (.int l2)]) (And.intro rfl (And.intro rfl (And.intro rfl (And.intro rfl trivial)))) ?_
  exact RJ1_indexOfChar_4cfef_7 e N _ _ _ _ h
set_option maxRecDepth 20000 in
set_option maxHeartbeats 4000000 in
theorem RJ1_indexOf_4cfef {Z : kv_Z} (e : Nat) {N : Nat} {G : kg_G} {l1 : Int32} {l2 : Int32} {l3 : Int32} {res : Int32} (h : fJ1_indexOf_4cfef N l1 l2 l3 = some res) : kv_M Z (e + 1) kMJ1_indexOf_4cfef [.retAddr 1, .int l1, .int l2, .int l3] (kg_w G) (some (.int res)) (kg_w G) := by
  refine kv_M_of (ls := [some (.retAddr 1), some (.int l1), some (.int l2), some (.int l3)]) (by decide) (Nat.le_of_ble_eq_true rfl) rfl ?_
  unfold fJ1_indexOf_4cfef at h
  refine kr_iload_n dJ1_indexOf_4cfef_0 rfl ?_
  refine kr_callSi (M' := kMJ1_canEncode_9a6ad) (As := [.int l1]) (st := []) (RJ1_canEncode_9a6ad (e + 0) rfl) koJ1_canEncode_9a6ad rfl kw2_48 kw2_49 rfl (Nat.le_of_ble_eq_true rfl) dJ1_indexOf_4cfef_1 ?_
  refine kr_if_ne (tgt := 9) dJ1_indexOf_4cfef_4 rfl (fun c4 => ?_) (fun c4 => ?_)
  · rw [if_pos c4] at h
    refine kr_iconst (v := (-1)) dJ1_indexOf_4cfef_7 (by decide) ?_
    cases h
    exact kr_iret rfl dJ1_indexOf_4cfef_8
  · rw [if_neg c4] at h
    refine kr_iload_n dJ1_indexOf_4cfef_9 rfl ?_
    refine kr_iconst (v := 0) dJ1_indexOf_4cfef_10 (by decide) ?_
    refine kr_callSi (M' := kMJ9_max_7cf53) (As := [.int l2, .int 0]) (st := []) (RJ9_max_7cf53 (e + 0) rfl) koJ9_max_7cf53 rfl kw2_51 kw2_52 rfl (Nat.le_of_ble_eq_true rfl) dJ1_indexOf_4cfef_11 ?_
    refine kr_istore_n (i := 2) (ls' := [some (.retAddr 1), some (.int l1), some (.int (fJ9_max_7cf53 l2 0)), some (.int l3)]) dJ1_indexOf_4cfef_14 rfl (Nat.le_of_ble_eq_true rfl) rfl ?_
    refine kr_iload_n dJ1_indexOf_4cfef_15 rfl ?_
    refine kr_aload_y dJ1_indexOf_4cfef_16 rfl ?_
    refine kr_lenY dJ1_indexOf_4cfef_17 ?_
    refine kr_callSi (M' := kMJ9_min_7cf53) (As := [.int l3, .int 5]) (st := []) (RJ9_min_7cf53 (e + 0) rfl) koJ9_min_7cf53 rfl kw2_54 kw2_55 rfl (Nat.le_of_ble_eq_true rfl) dJ1_indexOf_4cfef_18 ?_
    refine kr_istore_n (i := 3) (ls' := [some (.retAddr 1), some (.int l1), some (.int (fJ9_max_7cf53 l2 0)), some (.int (fJ9_min_7cf53 l3 5))]) dJ1_indexOf_4cfef_21 rfl (Nat.le_of_ble_eq_true rfl) rfl ?_
    refine kr_iload_n dJ1_indexOf_4cfef_22 rfl ?_
    refine kr_iload_n dJ1_indexOf_4cfef_23 rfl ?_
    refine kr_icmp_lt (tgt := 29) dJ1_indexOf_4cfef_24 rfl (fun c24 => ?_) (fun c24 => ?_)
    · rw [if_pos c24] at h
      refine kr_aload_y dJ1_indexOf_4cfef_29 rfl ?_
      refine kr_iload_n dJ1_indexOf_4cfef_30 rfl ?_
      refine kr_iload_n dJ1_indexOf_4cfef_31 rfl ?_
      refine kr_iload_n dJ1_indexOf_4cfef_32 rfl ?_
      obtain ⟨v4, hv4, h⟩ := Option.bind_eq_some_iff.mp h
      refine kr_callSi (M' := kMJ1_indexOfChar_4cfef) (As := [.retAddr 1, .int l1, .int (fJ9_max_7cf53 l2 0), .int (fJ9_min_7cf53 l3 5)]) (st := []) (RJ1_indexOfChar_4cfef (e + 0) hv4) koJ1_indexOfChar_4cfef rfl kw2_57 kw2_58 rfl (Nat.le_of_ble_eq_true rfl) dJ1_indexOf_4cfef_33 ?_
      cases h
      exact kr_iret rfl dJ1_indexOf_4cfef_36
    · rw [if_neg c24] at h
      refine kr_iconst (v := (-1)) dJ1_indexOf_4cfef_27 (by decide) ?_
      cases h
      exact kr_iret rfl dJ1_indexOf_4cfef_28
set_option maxRecDepth 20000 in
set_option maxHeartbeats 4000000 in
theorem RJ0_indexOf_7cf53 {Z : kv_Z} (e : Nat) {N : Nat} {G : kg_G} {l1 : Int32} {l2 : Int32} {res : Int32} (h : fJ0_indexOf_7cf53 N l1 l2 = some res) : kv_M Z (e + 2) kMJ0_indexOf_7cf53 [.retAddr 0, .int l1, .int l2] (kg_w G) (some (.int res)) (kg_w G) := by
  refine kv_M_of (ls := [some (.retAddr 0), some (.int l1), some (.int l2)]) (by decide) (Nat.le_of_ble_eq_true rfl) rfl ?_
  unfold fJ0_indexOf_7cf53 at h
  refine kr_aload_x dJ0_indexOf_7cf53_0 rfl ?_
  refine kr_callXi (M' := kMJ0_isLatin1_aae02) (As := []) (st := []) (RJ0_isLatin1_aae02 (e + 1) rfl) koJ0_isLatin1_aae02 rfl rfl kw2_31 kw2_32 kw2_33 rfl (Nat.le_of_ble_eq_true rfl) dJ0_indexOf_7cf53_1 ?_
  refine kr_if_eq (tgt := 23) dJ0_indexOf_7cf53_4 rfl (fun c4 => ?_) (fun c4 => ?_)
  · rw [if_pos c4] at h
    cases h
  · rw [if_neg c4] at h
    refine kr_aload_x dJ0_indexOf_7cf53_7 rfl ?_
    refine kr_getX kw6_89 dJ0_indexOf_7cf53_8 ?_
    refine kr_iload_n dJ0_indexOf_7cf53_11 rfl ?_
    refine kr_iload_n dJ0_indexOf_7cf53_12 rfl ?_
    refine kr_aload_x dJ0_indexOf_7cf53_13 rfl ?_
    refine kr_callXi (M' := kMJ0_length_8abf5) (As := []) (st := [.int l2, .int l1, .retAddr 1]) (RJ0_length_8abf5 (e + 0) rfl) koJ0_length_8abf5 rfl rfl kw2_37 kw2_38 kw2_39 rfl (Nat.le_of_ble_eq_true rfl) dJ0_indexOf_7cf53_14 ?_
    obtain ⟨v3, hv3, h⟩ := Option.bind_eq_some_iff.mp h
    refine kr_callSi (M' := kMJ1_indexOf_4cfef) (As := [.retAddr 1, .int l1, .int l2, .int fJ0_length_8abf5]) (st := []) (RJ1_indexOf_4cfef (e + 0) hv3) koJ1_indexOf_4cfef rfl kw2_45 kw2_46 rfl (Nat.le_of_ble_eq_true rfl) dJ0_indexOf_7cf53_17 ?_
    refine kr_goto (tgt := 36) dJ0_indexOf_7cf53_20 rfl ?_
    cases h
    exact kr_iret rfl dJ0_indexOf_7cf53_36
set_option maxRecDepth 20000 in
set_option maxHeartbeats 4000000 in
theorem RJ0_indexOf_0f7a4 {Z : kv_Z} (e : Nat) {N : Nat} {G : kg_G} {l1 : Int32} {res : Int32} (h : fJ0_indexOf_0f7a4 N l1 = some res) : kv_M Z (e + 3) kMJ0_indexOf_0f7a4 [.retAddr 0, .int l1] (kg_w G) (some (.int res)) (kg_w G) := by
  refine kv_M_of (ls := [some (.retAddr 0), some (.int l1)]) (by decide) (Nat.le_of_ble_eq_true rfl) rfl ?_
  unfold fJ0_indexOf_0f7a4 at h
  refine kr_aload_x dJ0_indexOf_0f7a4_0 rfl ?_
  refine kr_iload_n dJ0_indexOf_0f7a4_1 rfl ?_
  refine kr_iconst (v := 0) dJ0_indexOf_0f7a4_2 (by decide) ?_
  obtain ⟨v1, hv1, h⟩ := Option.bind_eq_some_iff.mp h
  refine kr_callXi (M' := kMJ0_indexOf_7cf53) (As := [.int l1, .int 0]) (st := []) (RJ0_indexOf_7cf53 (e + 0) hv1) koJ0_indexOf_7cf53 rfl rfl kw2_27 kw2_28 kw2_29 rfl (Nat.le_of_ble_eq_true rfl) dJ0_indexOf_0f7a4_3 ?_
  cases h
  exact kr_iret rfl dJ0_indexOf_0f7a4_6
set_option maxRecDepth 20000 in
set_option maxHeartbeats 4000000 in
theorem RX2_put {Z : kv_Z} (e : Nat) {G : kg_G} {l1 : Int32} {res : Int32 × kg_G} (h : fX2_put G l1 = some res) : kv_M Z (e + 0) kMX2_put [.ref 1, .int l1] (kg_w G) (some (.int res.1)) (kg_w res.2) := by
  refine kv_M_of (ls := [some (.ref 1), some (.int l1)]) (by decide) (Nat.le_of_ble_eq_true rfl) rfl ?_
  unfold fX2_put at h
  refine kr_aload_n dX2_put_0 rfl ?_
  refine kx_g1_1 (G.1 1 1) rfl kw1_38 dX2_put_1 ?_
  refine kr_bipush (v := 36) dX2_put_4 (by decide) ?_
  refine kr_icmp_lt (tgt := 11) dX2_put_6 rfl (fun c6 => ?_) (fun c6 => ?_)
  · rw [if_pos c6] at h
    refine kr_aload_n dX2_put_11 rfl ?_
    refine kx_g1_0 kw1_36 dX2_put_12 ?_
    refine kr_aload_n dX2_put_15 rfl ?_
    refine kx_g1_1 (G.1 1 1) rfl kw1_38 dX2_put_16 ?_
    refine kr_iload_n dX2_put_19 rfl ?_
    obtain ⟨v1, hv1, h⟩ := Option.bind_eq_some_iff.mp h
    refine kx_s2 (G.2.1 2) rfl hv1 dX2_put_20 ?_
    refine kr_aload_n dX2_put_21 rfl ?_
    refine kr_dup dX2_put_22 rfl ?_
    refine kx_g1_1 (G.1 1 1) rfl kw1_38 dX2_put_23 ?_
    refine kr_iconst (v := 1) dX2_put_26 (by decide) ?_
    refine kr_iadd dX2_put_27 ?_
    refine kx_p1_1 kw1_38 dX2_put_28 ?_
    refine kr_iconst (v := 1) dX2_put_31 (by decide) ?_
    cases h
    exact kr_zret rfl (by decide) dX2_put_32
  · rw [if_neg c6] at h
    refine kr_iconst (v := 0) dX2_put_9 (by decide) ?_
    cases h
    exact kr_zret rfl (by decide) dX2_put_10
set_option maxRecDepth 20000 in
set_option maxHeartbeats 4000000 in
theorem RX10_letter {Z : kv_Z} (e : Nat) {G : kg_G} {l1 : Int32} {res : Int32 × kg_G} (h : fX10_letter G l1 = some res) : kv_M Z (e + 1) kMX10_letter [.ref 0, .int l1] (kg_w G) (some (.int res.1)) (kg_w res.2) := by
  refine kv_M_of (ls := [some (.ref 0), some (.int l1)]) (by decide) (Nat.le_of_ble_eq_true rfl) rfl ?_
  unfold fX10_letter at h
  refine kr_iload_n dX10_letter_0 rfl ?_
  refine kr_iconst (v := 1) dX10_letter_1 (by decide) ?_
  refine kr_icmp_lt (tgt := 11) dX10_letter_2 rfl (fun c2 => ?_) (fun c2 => ?_)
  · rw [if_pos c2] at h
    refine kr_bipush (v := (-102)) dX10_letter_11 (by decide) ?_
    cases h
    exact kr_iret rfl dX10_letter_13
  · rw [if_neg c2] at h
    refine kr_iload_n dX10_letter_5 rfl ?_
    refine kr_bipush (v := 126) dX10_letter_6 (by decide) ?_
    refine kr_icmp_le (tgt := 14) dX10_letter_8 rfl (fun c8 => ?_) (fun c8 => ?_)
    · rw [if_pos c8] at h
      refine kr_aload_n dX10_letter_14 rfl ?_
      refine kx_g0_0 kw1_188 dX10_letter_15 ?_
      refine kr_iload_n dX10_letter_18 rfl ?_
      obtain ⟨v1, hv1, h⟩ := Option.bind_eq_some_iff.mp h
      refine kr_callVi (M' := kMX2_put) (a := 1) (As := [.int l1]) (st := []) (RX2_put (e + 0) hv1) koX2_put rfl rfl rfl kw1_226 kw1_227 kw1_228 rfl (Nat.le_of_ble_eq_true rfl) dX10_letter_19 ?_
      refine kr_if_eq (tgt := 35) dX10_letter_22 rfl (fun c22 => ?_) (fun c22 => ?_)
      · rw [if_pos c22] at h
        refine kr_bipush (v := (-104)) dX10_letter_35 (by decide) ?_
        cases h
        exact kr_iret rfl dX10_letter_37
      · rw [if_neg c22] at h
        refine kr_aload_n dX10_letter_25 rfl ?_
        refine kx_g0_0 kw1_188 dX10_letter_26 ?_
        refine kx_g1_1 (v1.2.1 1 1) rfl kw1_39 dX10_letter_29 ?_
        refine kr_goto (tgt := 37) dX10_letter_32 rfl ?_
        cases h
        exact kr_iret rfl dX10_letter_37
    · rw [if_neg c8] at h
      refine kr_bipush (v := (-102)) dX10_letter_11 (by decide) ?_
      cases h
      exact kr_iret rfl dX10_letter_13
set_option maxRecDepth 20000 in
set_option maxHeartbeats 4000000 in
theorem RX10_blank {Z : kv_Z} (e : Nat) {G : kg_G} {res : Int32 × kg_G} (h : fX10_blank G = res) : kv_M Z (e + 0) kMX10_blank [.ref 0] (kg_w G) (some (.int res.1)) (kg_w res.2) := by
  refine kv_M_of (ls := [some (.ref 0), none]) (by decide) (Nat.le_of_ble_eq_true rfl) rfl ?_
  unfold fX10_blank at h
  refine kr_aload_n dX10_blank_0 rfl ?_
  refine kx_g0_0 kw1_188 dX10_blank_1 ?_
  refine kx_g1_1 (G.1 1 1) rfl kw1_39 dX10_blank_4 ?_
  refine kr_istore_n (i := 1) (ls' := [some (.ref 0), some (.int (G.1 1 1))]) dX10_blank_7 rfl (Nat.le_of_ble_eq_true rfl) rfl ?_
  refine kr_aload_n dX10_blank_8 rfl ?_
  refine kx_g0_0 kw1_188 dX10_blank_9 ?_
  refine kr_iconst (v := 0) dX10_blank_12 (by decide) ?_
  refine kx_p1_1 kw1_39 dX10_blank_13 ?_
  refine kr_iload_n dX10_blank_16 rfl ?_
  cases h
  exact kr_iret rfl dX10_blank_17
set_option maxRecDepth 20000 in
set_option maxHeartbeats 4000000 in
theorem RX2_tricksEnd_2 {Z : kv_Z} (e : Nat) {N : Nat} {G : kg_G} : ∀ (n : Nat) (l1 : Int32) (res : Int32), fX2_tricksEnd_2 N G n l1 = some res → kv_V Z (e + 0) kMX2_tricksEnd 2 [some (.ref 1), some (.int l1)] [] (kg_w G) (some (.int res)) (kg_w G) := by
  intro n
  induction n with
  | zero => intro l1 res h; exact absurd h (by intro z; cases z)
  | succ n ih =>
    intro l1 res h
    have hk2 := ih
    rw [fX2_tricksEnd_2] at h
    refine kr_iload_n dX2_tricksEnd_2 rfl ?_
    refine kr_aload_n dX2_tricksEnd_3 rfl ?_
    refine kx_g1_1 (G.1 1 1) rfl kw1_38 dX2_tricksEnd_4 ?_
    refine kr_icmp_ge (tgt := 29) dX2_tricksEnd_7 rfl (fun c7 => ?_) (fun c7 => ?_)
    · rw [if_pos c7] at h
      refine kr_aload_n dX2_tricksEnd_29 rfl ?_
      refine kx_g1_1 (G.1 1 1) rfl kw1_38 dX2_tricksEnd_30 ?_
      cases h
      exact kr_iret rfl dX2_tricksEnd_33
    · rw [if_neg c7] at h
      refine kr_aload_n dX2_tricksEnd_10 rfl ?_
      refine kx_g1_0 kw1_36 dX2_tricksEnd_11 ?_
      refine kr_iload_n dX2_tricksEnd_14 rfl ?_
      obtain ⟨v1, hv1, h⟩ := Option.bind_eq_some_iff.mp h
      refine kx_a2 (G.2.1 2) rfl hv1 dX2_tricksEnd_15 ?_
      refine kr_bipush (v := 59) dX2_tricksEnd_16 (by decide) ?_
      refine kr_icmp_ne (tgt := 23) dX2_tricksEnd_18 rfl (fun c18 => ?_) (fun c18 => ?_)
      · rw [if_pos c18] at h
        refine kr_iload_n dX2_tricksEnd_21 rfl ?_
        cases h
        exact kr_iret rfl dX2_tricksEnd_22
      · rw [if_neg c18] at h
        refine kr_iinc (v := l1 + 1) (ls' := [some (.ref 1), some (.int (l1 + 1))]) dX2_tricksEnd_23 rfl rfl (Nat.le_of_ble_eq_true rfl) rfl ?_
        refine kr_goto (tgt := 2) dX2_tricksEnd_26 rfl ?_
        exact hk2 _ _ h
set_option maxRecDepth 20000 in
set_option maxHeartbeats 4000000 in
theorem RX2_tricksEnd {Z : kv_Z} (e : Nat) {N : Nat} {G : kg_G} {res : Int32} (h : fX2_tricksEnd N G = some res) : kv_M Z (e + 0) kMX2_tricksEnd [.ref 1] (kg_w G) (some (.int res)) (kg_w G) := by
  refine kv_M_of (ls := [some (.ref 1), none]) (by decide) (Nat.le_of_ble_eq_true rfl) rfl ?_
  unfold fX2_tricksEnd at h
  refine kr_iconst (v := 0) dX2_tricksEnd_0 (by decide) ?_
  refine kr_istore_n (i := 1) (ls' := [some (.ref 1), some (.int 0)]) dX2_tricksEnd_1 rfl (Nat.le_of_ble_eq_true rfl) rfl ?_
  exact RX2_tricksEnd_2 e N _ _ h
set_option maxRecDepth 20000 in
set_option maxHeartbeats 4000000 in
theorem RX2_digitAt {Z : kv_Z} (e : Nat) {G : kg_G} {l1 : Int32} {res : Int32} (h : fX2_digitAt G l1 = some res) : kv_M Z (e + 0) kMX2_digitAt [.ref 1, .int l1] (kg_w G) (some (.int res)) (kg_w G) := by
  refine kv_M_of (ls := [some (.ref 1), some (.int l1)]) (by decide) (Nat.le_of_ble_eq_true rfl) rfl ?_
  unfold fX2_digitAt at h
  refine kr_iload_n dX2_digitAt_0 rfl ?_
  refine kr_if_lt (tgt := 22) dX2_digitAt_1 rfl (fun c1 => ?_) (fun c1 => ?_)
  · rw [if_pos c1] at h
    refine kr_iconst (v := (-1)) dX2_digitAt_22 (by decide) ?_
    cases h
    exact kr_iret rfl dX2_digitAt_23
  · rw [if_neg c1] at h
    refine kr_iload_n dX2_digitAt_4 rfl ?_
    refine kr_bipush (v := 36) dX2_digitAt_5 (by decide) ?_
    refine kr_icmp_ge (tgt := 22) dX2_digitAt_7 rfl (fun c7 => ?_) (fun c7 => ?_)
    · rw [if_pos c7] at h
      refine kr_iconst (v := (-1)) dX2_digitAt_22 (by decide) ?_
      cases h
      exact kr_iret rfl dX2_digitAt_23
    · rw [if_neg c7] at h
      refine kr_aload_n dX2_digitAt_10 rfl ?_
      refine kx_g1_0 kw1_36 dX2_digitAt_11 ?_
      refine kr_iload_n dX2_digitAt_14 rfl ?_
      obtain ⟨v1, hv1, h⟩ := Option.bind_eq_some_iff.mp h
      refine kx_a2 (G.2.1 2) rfl hv1 dX2_digitAt_15 ?_
      refine kr_bipush (v := 48) dX2_digitAt_16 (by decide) ?_
      refine kr_isub dX2_digitAt_18 ?_
      refine kr_goto (tgt := 23) dX2_digitAt_19 rfl ?_
      cases h
      exact kr_iret rfl dX2_digitAt_23
set_option maxRecDepth 20000 in
set_option maxHeartbeats 4000000 in
theorem RX2_isDigit {Z : kv_Z} (e : Nat) {G : kg_G} {l1 : Int32} {l2 : Int32} {l3 : Int32} {res : Int32} (h : fX2_isDigit G l1 l2 l3 = some res) : kv_M Z (e + 1) kMX2_isDigit [.ref 1, .int l1, .int l2, .int l3] (kg_w G) (some (.int res)) (kg_w G) := by
  refine kv_M_of (ls := [some (.ref 1), some (.int l1), some (.int l2), some (.int l3), none]) (by decide) (Nat.le_of_ble_eq_true rfl) rfl ?_
  unfold fX2_isDigit at h
  refine kr_aload_n dX2_isDigit_0 rfl ?_
  refine kr_iload_n dX2_isDigit_1 rfl ?_
  obtain ⟨v1, hv1, h⟩ := Option.bind_eq_some_iff.mp h
  refine kr_callVi (M' := kMX2_digitAt) (a := 1) (As := [.int l1]) (st := []) (RX2_digitAt (e + 0) hv1) koX2_digitAt rfl rfl rfl kw2_14 kw2_15 kw2_16 rfl (Nat.le_of_ble_eq_true rfl) dX2_isDigit_2 ?_
  refine kr_istore (ls' := [some (.ref 1), some (.int l1), some (.int l2), some (.int l3), some (.int v1)]) dX2_isDigit_5 (Nat.le_of_ble_eq_true rfl) rfl ?_
  refine kr_iload dX2_isDigit_7 rfl ?_
  refine kr_iload_n dX2_isDigit_9 rfl ?_
  refine kr_icmp_lt (tgt := 23) dX2_isDigit_10 rfl (fun c10 => ?_) (fun c10 => ?_)
  · rw [if_pos c10] at h
    refine kr_iconst (v := 0) dX2_isDigit_23 (by decide) ?_
    cases h
    exact kr_zret rfl (by decide) dX2_isDigit_24
  · rw [if_neg c10] at h
    refine kr_iload dX2_isDigit_13 rfl ?_
    refine kr_iload_n dX2_isDigit_15 rfl ?_
    refine kr_icmp_gt (tgt := 23) dX2_isDigit_16 rfl (fun c16 => ?_) (fun c16 => ?_)
    · rw [if_pos c16] at h
      refine kr_iconst (v := 0) dX2_isDigit_23 (by decide) ?_
      cases h
      exact kr_zret rfl (by decide) dX2_isDigit_24
    · rw [if_neg c16] at h
      refine kr_iconst (v := 1) dX2_isDigit_19 (by decide) ?_
      refine kr_goto (tgt := 24) dX2_isDigit_20 rfl ?_
      cases h
      exact kr_zret rfl (by decide) dX2_isDigit_24
set_option maxRecDepth 20000 in
set_option maxHeartbeats 4000000 in
theorem RX2_isOfPeople_27 {Z : kv_Z} (e : Nat) {G : kg_G} : ∀ (s1 : Int32) (s2 : Int32) (s3 : Int32) (res : Int32), fX2_isOfPeople_27 G s1 s2 s3 = some res → kv_V Z (e + 2) kMX2_isOfPeople 27 [none, none, none, none] [.int s3, .int s2, .int s1, .ref 1] (kg_w G) (some (.int res)) (kg_w G) := by
  intro s1 s2 s3 res h
  unfold fX2_isOfPeople_27 at h
  obtain ⟨v1, hv1, h⟩ := Option.bind_eq_some_iff.mp h
  refine kr_callVi (M' := kMX2_isDigit) (a := 1) (As := [.int s1, .int s2, .int s3]) (st := []) (RX2_isDigit (e + 0) hv1) koX2_isDigit rfl rfl rfl kw2_10 kw2_11 kw2_12 rfl (Nat.le_of_ble_eq_true rfl) dX2_isOfPeople_27 ?_
  refine kr_if_eq (tgt := 37) dX2_isOfPeople_30 rfl (fun c30 => ?_) (fun c30 => ?_)
  · rw [if_pos c30] at h
    refine kr_iconst (v := 0) dX2_isOfPeople_37 (by decide) ?_
    cases h
    exact kr_zret rfl (by decide) dX2_isOfPeople_38
  · rw [if_neg c30] at h
    refine kr_iconst (v := 1) dX2_isOfPeople_33 (by decide) ?_
    refine kr_goto (tgt := 38) dX2_isOfPeople_34 rfl ?_
    cases h
    exact kr_zret rfl (by decide) dX2_isOfPeople_38
set_option maxRecDepth 20000 in
set_option maxHeartbeats 4000000 in
theorem RX2_isOfPeople {Z : kv_Z} (e : Nat) {G : kg_G} {l1 : Int32} {l2 : Int32} {res : Int32} (h : fX2_isOfPeople G l1 l2 = some res) : kv_M Z (e + 2) kMX2_isOfPeople [.ref 1, .int l1, .int l2] (kg_w G) (some (.int res)) (kg_w G) := by
  refine kv_M_of (ls := [some (.ref 1), some (.int l1), some (.int l2), none]) (by decide) (Nat.le_of_ble_eq_true rfl) rfl ?_
  unfold fX2_isOfPeople at h
  refine kr_iload_n dX2_isOfPeople_0 rfl ?_
  refine kr_iload_n dX2_isOfPeople_1 rfl ?_
  refine kr_isub dX2_isOfPeople_2 ?_
  refine kr_iconst (v := 1) dX2_isOfPeople_3 (by decide) ?_
  refine kr_isub dX2_isOfPeople_4 ?_
  refine kr_istore_n (i := 3) (ls' := [some (.ref 1), some (.int l1), some (.int l2), some (.int ((l1 - l2) - 1))]) dX2_isOfPeople_5 rfl (Nat.le_of_ble_eq_true rfl) rfl ?_
  refine kr_iload_n dX2_isOfPeople_6 rfl ?_
  refine kr_bipush (v := 10) dX2_isOfPeople_7 (by decide) ?_
  refine kr_icmp_ge (tgt := 37) dX2_isOfPeople_9 rfl (fun c9 => ?_) (fun c9 => ?_)
  · rw [if_pos c9] at h
    refine kr_iconst (v := 0) dX2_isOfPeople_37 (by decide) ?_
    cases h
    exact kr_zret rfl (by decide) dX2_isOfPeople_38
  · rw [if_neg c9] at h
    refine kr_aload_n dX2_isOfPeople_12 rfl ?_
    refine kr_iload_n dX2_isOfPeople_13 rfl ?_
    refine kr_iconst (v := 0) dX2_isOfPeople_14 (by decide) ?_
    refine kr_iload_n dX2_isOfPeople_15 rfl ?_
    refine kr_iconst (v := 2) dX2_isOfPeople_16 (by decide) ?_
    refine kr_irem dX2_isOfPeople_17 (by decide) ?_
    refine kr_if_ne (tgt := 26) dX2_isOfPeople_18 rfl (fun c18 => ?_) (fun c18 => ?_)
    · rw [if_pos c18] at h
      refine kr_bipush (v := 9) dX2_isOfPeople_21 (by decide) ?_
      refine kr_goto (tgt := 27) dX2_isOfPeople_23 rfl ?_
      refine kv_loc (ls' := [none, none, none, none]) trivial ?_
      exact RX2_isOfPeople_27 e _ _ _ _ h
    · rw [if_neg c18] at h
      refine kr_iconst (v := 5) dX2_isOfPeople_26 (by decide) ?_
      refine kv_loc (ls' := [none, none, none, none]) trivial ?_
      exact RX2_isOfPeople_27 e _ _ _ _ h
set_option maxRecDepth 20000 in
set_option maxHeartbeats 4000000 in
theorem RX2_isOfTricks {Z : kv_Z} (e : Nat) {N : Nat} {G : kg_G} {l1 : Int32} {res : Int32} (h : fX2_isOfTricks N G l1 = some res) : kv_M Z (e + 4) kMX2_isOfTricks [.ref 1, .int l1] (kg_w G) (some (.int res)) (kg_w G) := by
  refine kv_M_of (ls := [some (.ref 1), some (.int l1), none]) (by decide) (Nat.le_of_ble_eq_true rfl) rfl ?_
  unfold fX2_isOfTricks at h
  refine kr_iload_n dX2_isOfTricks_0 rfl ?_
  refine kr_iconst (v := 5) dX2_isOfTricks_1 (by decide) ?_
  refine kr_idiv dX2_isOfTricks_2 (by decide) ?_
  refine kr_iconst (v := 1) dX2_isOfTricks_3 (by decide) ?_
  refine kr_iadd dX2_isOfTricks_4 ?_
  refine kr_istore_n (i := 2) (ls' := [some (.ref 1), some (.int l1), some (.int ((l1 / 5) + 1))]) dX2_isOfTricks_5 rfl (Nat.le_of_ble_eq_true rfl) rfl ?_
  refine kr_iload_n dX2_isOfTricks_6 rfl ?_
  refine kr_iconst (v := 5) dX2_isOfTricks_7 (by decide) ?_
  refine kr_irem dX2_isOfTricks_8 (by decide) ?_
  by_cases c9_0 : (l1 - l1 / 5 * 5) = 0
  · rw [if_pos c9_0] at h
    refine kr_tableIn (off := 31) (tgt := 40) dX2_isOfTricks_9 (by rw [c9_0]; decide) (by rw [c9_0]; decide) (by rw [c9_0]; decide) rfl ?_
    refine kr_ldcX rfl dX2_isOfTricks_40 ?_
    refine kr_aload_n dX2_isOfTricks_42 rfl ?_
    refine kx_g1_0 kw1_36 dX2_isOfTricks_43 ?_
    refine kr_iload_n dX2_isOfTricks_46 rfl ?_
    obtain ⟨v1, hv1, h⟩ := Option.bind_eq_some_iff.mp h
    refine kx_a2 (G.2.1 2) rfl hv1 dX2_isOfTricks_47 ?_
    refine kr_i2c dX2_isOfTricks_48 ?_
    obtain ⟨v2, hv2, h⟩ := Option.bind_eq_some_iff.mp h
    refine kr_callXi (M' := kMJ0_indexOf_0f7a4) (As := [.int ((v1.toUInt32 % 65536).toInt32)]) (st := []) (RJ0_indexOf_0f7a4 (e + 0) hv2) koJ0_indexOf_0f7a4 rfl rfl kw2_23 kw2_24 kw2_25 rfl (Nat.le_of_ble_eq_true rfl) dX2_isOfTricks_49 ?_
    refine kr_if_lt (tgt := 59) dX2_isOfTricks_52 rfl (fun c52 => ?_) (fun c52 => ?_)
    · rw [if_pos c52] at h
      refine kr_iconst (v := 0) dX2_isOfTricks_59 (by decide) ?_
      cases h
      exact kr_zret rfl (by decide) dX2_isOfTricks_60
    · rw [if_neg c52] at h
      refine kr_iconst (v := 1) dX2_isOfTricks_55 (by decide) ?_
      refine kr_goto (tgt := 60) dX2_isOfTricks_56 rfl ?_
      cases h
      exact kr_zret rfl (by decide) dX2_isOfTricks_60
  rw [if_neg c9_0] at h
  by_cases c9_1 : (l1 - l1 / 5 * 5) = 1
  · rw [if_pos c9_1] at h
    refine kr_tableIn (off := 52) (tgt := 61) dX2_isOfTricks_9 (by rw [c9_1]; decide) (by rw [c9_1]; decide) (by rw [c9_1]; decide) rfl ?_
    refine kr_aload_n dX2_isOfTricks_61 rfl ?_
    refine kr_iload_n dX2_isOfTricks_62 rfl ?_
    refine kr_iconst (v := 0) dX2_isOfTricks_63 (by decide) ?_
    refine kr_bipush (v := 7) dX2_isOfTricks_64 (by decide) ?_
    obtain ⟨v3, hv3, h⟩ := Option.bind_eq_some_iff.mp h
    refine kr_callVi (M' := kMX2_isDigit) (a := 1) (As := [.int l1, .int 0, .int 7]) (st := []) (RX2_isDigit (e + 2) hv3) koX2_isDigit rfl rfl rfl kw2_10 kw2_11 kw2_12 rfl (Nat.le_of_ble_eq_true rfl) dX2_isOfTricks_66 ?_
    obtain ⟨hz, h⟩ := kx_itn h
    cases h
    exact kr_zret rfl (kx_nar hz) dX2_isOfTricks_69
  rw [if_neg c9_1] at h
  by_cases c9_2 : (l1 - l1 / 5 * 5) = 2
  · rw [if_pos c9_2] at h
    refine kr_tableIn (off := 61) (tgt := 70) dX2_isOfTricks_9 (by rw [c9_2]; decide) (by rw [c9_2]; decide) (by rw [c9_2]; decide) rfl ?_
    refine kr_aload_n dX2_isOfTricks_70 rfl ?_
    refine kr_iload_n dX2_isOfTricks_71 rfl ?_
    refine kr_iconst (v := 1) dX2_isOfTricks_72 (by decide) ?_
    refine kr_iconst (v := 4) dX2_isOfTricks_73 (by decide) ?_
    obtain ⟨v4, hv4, h⟩ := Option.bind_eq_some_iff.mp h
    refine kr_callVi (M' := kMX2_isDigit) (a := 1) (As := [.int l1, .int 1, .int 4]) (st := []) (RX2_isDigit (e + 2) hv4) koX2_isDigit rfl rfl rfl kw2_10 kw2_11 kw2_12 rfl (Nat.le_of_ble_eq_true rfl) dX2_isOfTricks_74 ?_
    obtain ⟨hz, h⟩ := kx_itn h
    cases h
    exact kr_zret rfl (kx_nar hz) dX2_isOfTricks_77
  rw [if_neg c9_2] at h
  by_cases c9_3 : (l1 - l1 / 5 * 5) = 3
  · rw [if_pos c9_3] at h
    refine kr_tableIn (off := 69) (tgt := 78) dX2_isOfTricks_9 (by rw [c9_3]; decide) (by rw [c9_3]; decide) (by rw [c9_3]; decide) rfl ?_
    refine kr_aload_n dX2_isOfTricks_78 rfl ?_
    refine kr_iload_n dX2_isOfTricks_79 rfl ?_
    refine kr_iconst (v := 0) dX2_isOfTricks_80 (by decide) ?_
    refine kr_bipush (v := 9) dX2_isOfTricks_81 (by decide) ?_
    obtain ⟨v5, hv5, h⟩ := Option.bind_eq_some_iff.mp h
    refine kr_callVi (M' := kMX2_isDigit) (a := 1) (As := [.int l1, .int 0, .int 9]) (st := []) (RX2_isDigit (e + 2) hv5) koX2_isDigit rfl rfl rfl kw2_10 kw2_11 kw2_12 rfl (Nat.le_of_ble_eq_true rfl) dX2_isOfTricks_83 ?_
    obtain ⟨hz, h⟩ := kx_itn h
    cases h
    exact kr_zret rfl (kx_nar hz) dX2_isOfTricks_86
  rw [if_neg c9_3] at h
  refine kr_tableOut (tgt := 87) dX2_isOfTricks_9 (kx_out4 c9_0 c9_1 c9_2 c9_3) rfl ?_
  refine kr_aload_n dX2_isOfTricks_87 rfl ?_
  refine kx_g1_0 kw1_36 dX2_isOfTricks_88 ?_
  refine kr_iload_n dX2_isOfTricks_91 rfl ?_
  obtain ⟨v6, hv6, h⟩ := Option.bind_eq_some_iff.mp h
  refine kx_a2 (G.2.1 2) rfl hv6 dX2_isOfTricks_92 ?_
  refine kr_bipush (v := 44) dX2_isOfTricks_93 (by decide) ?_
  refine kr_icmp_ne (tgt := 111) dX2_isOfTricks_95 rfl (fun c95 => ?_) (fun c95 => ?_)
  · rw [if_pos c95] at h
    refine kr_iload_n dX2_isOfTricks_98 rfl ?_
    refine kr_iconst (v := 5) dX2_isOfTricks_99 (by decide) ?_
    refine kr_icmp_ge (tgt := 107) dX2_isOfTricks_100 rfl (fun c100 => ?_) (fun c100 => ?_)
    · rw [if_pos c100] at h
      refine kr_iconst (v := 0) dX2_isOfTricks_107 (by decide) ?_
      refine kr_goto (tgt := 132) dX2_isOfTricks_108 rfl ?_
      cases h
      exact kr_zret rfl (by decide) dX2_isOfTricks_132
    · rw [if_neg c100] at h
      refine kr_iconst (v := 1) dX2_isOfTricks_103 (by decide) ?_
      refine kr_goto (tgt := 132) dX2_isOfTricks_104 rfl ?_
      cases h
      exact kr_zret rfl (by decide) dX2_isOfTricks_132
  · rw [if_neg c95] at h
    refine kr_aload_n dX2_isOfTricks_111 rfl ?_
    refine kx_g1_0 kw1_36 dX2_isOfTricks_112 ?_
    refine kr_iload_n dX2_isOfTricks_115 rfl ?_
    obtain ⟨v7, hv7, h⟩ := Option.bind_eq_some_iff.mp h
    refine kx_a2 (G.2.1 2) rfl hv7 dX2_isOfTricks_116 ?_
    refine kr_bipush (v := 59) dX2_isOfTricks_117 (by decide) ?_
    refine kr_icmp_ne (tgt := 131) dX2_isOfTricks_119 rfl (fun c119 => ?_) (fun c119 => ?_)
    · rw [if_pos c119] at h
      refine kr_iload_n dX2_isOfTricks_122 rfl ?_
      refine kr_iconst (v := 2) dX2_isOfTricks_123 (by decide) ?_
      refine kr_icmp_lt (tgt := 131) dX2_isOfTricks_124 rfl (fun c124 => ?_) (fun c124 => ?_)
      · rw [if_pos c124] at h
        refine kr_iconst (v := 0) dX2_isOfTricks_131 (by decide) ?_
        cases h
        exact kr_zret rfl (by decide) dX2_isOfTricks_132
      · rw [if_neg c124] at h
        refine kr_iconst (v := 1) dX2_isOfTricks_127 (by decide) ?_
        refine kr_goto (tgt := 132) dX2_isOfTricks_128 rfl ?_
        cases h
        exact kr_zret rfl (by decide) dX2_isOfTricks_132
    · rw [if_neg c119] at h
      refine kr_iconst (v := 0) dX2_isOfTricks_131 (by decide) ?_
      cases h
      exact kr_zret rfl (by decide) dX2_isOfTricks_132
set_option maxRecDepth 20000 in
set_option maxHeartbeats 4000000 in
theorem RX2_firstFault_34 {Z : kv_Z} (e : Nat) {N : Nat} {G : kg_G} {k7 : Int32 → Int32 → Option (Int32)} (hk7 : ∀ (l1 : Int32) (l2 : Int32) (res : Int32), k7 l1 l2 = some res → kv_V Z (e + 5) kMX2_firstFault 7 [some (.ref 1), some (.int l1), some (.int l2), none] [] (kg_w G) (some (.int res)) (kg_w G)) : ∀ (l1 : Int32) (l2 : Int32) (s0 : Int32) (res : Int32), fX2_firstFault_34 N G k7 l1 l2 s0 = some res → kv_V Z (e + 5) kMX2_firstFault 34 [some (.ref 1), some (.int l1), some (.int l2), none] [.int s0] (kg_w G) (some (.int res)) (kg_w G) := by
  intro l1 l2 s0 res h
  unfold fX2_firstFault_34 at h
  refine kr_istore_n (i := 3) (ls' := [some (.ref 1), some (.int l1), some (.int l2), some (.int s0)]) dX2_firstFault_34 rfl (Nat.le_of_ble_eq_true rfl) rfl ?_
  refine kr_iload_n dX2_firstFault_35 rfl ?_
  refine kr_if_ne (tgt := 41) dX2_firstFault_36 rfl (fun c36 => ?_) (fun c36 => ?_)
  · rw [if_pos c36] at h
    refine kr_iload_n dX2_firstFault_39 rfl ?_
    cases h
    exact kr_iret rfl dX2_firstFault_40
  · rw [if_neg c36] at h
    refine kr_iinc (v := l2 + 1) (ls' := [some (.ref 1), some (.int l1), some (.int (l2 + 1)), some (.int s0)]) dX2_firstFault_41 rfl rfl (Nat.le_of_ble_eq_true rfl) rfl ?_
    refine kr_goto (tgt := 7) dX2_firstFault_44 rfl ?_
    refine kv_loc (ls' := [some (.ref 1), some (.int l1), some (.int (l2 + 1)), none]) (And.intro rfl (And.intro rfl (And.intro rfl trivial))) ?_
    exact hk7 _ _ _ h
set_option maxRecDepth 20000 in
set_option maxHeartbeats 4000000 in
theorem RX2_firstFault_7 {Z : kv_Z} (e : Nat) {N : Nat} {G : kg_G} : ∀ (n : Nat) (l1 : Int32) (l2 : Int32) (res : Int32), fX2_firstFault_7 N G n l1 l2 = some res → kv_V Z (e + 5) kMX2_firstFault 7 [some (.ref 1), some (.int l1), some (.int l2), none] [] (kg_w G) (some (.int res)) (kg_w G) := by
  intro n
  induction n with
  | zero => intro l1 l2 res h; exact absurd h (by intro z; cases z)
  | succ n ih =>
    intro l1 l2 res h
    have hk7 := ih
    rw [fX2_firstFault_7] at h
    refine kr_iload_n dX2_firstFault_7 rfl ?_
    refine kr_aload_n dX2_firstFault_8 rfl ?_
    refine kx_g1_1 (G.1 1 1) rfl kw1_38 dX2_firstFault_9 ?_
    refine kr_icmp_ge (tgt := 47) dX2_firstFault_12 rfl (fun c12 => ?_) (fun c12 => ?_)
    · rw [if_pos c12] at h
      refine kr_aload_n dX2_firstFault_47 rfl ?_
      refine kx_g1_1 (G.1 1 1) rfl kw1_38 dX2_firstFault_48 ?_
      cases h
      exact kr_iret rfl dX2_firstFault_51
    · rw [if_neg c12] at h
      refine kr_iload_n dX2_firstFault_15 rfl ?_
      refine kr_iload_n dX2_firstFault_16 rfl ?_
      refine kr_icmp_le (tgt := 29) dX2_firstFault_17 rfl (fun c17 => ?_) (fun c17 => ?_)
      · rw [if_pos c17] at h
        refine kr_aload_n dX2_firstFault_29 rfl ?_
        refine kr_iload_n dX2_firstFault_30 rfl ?_
        obtain ⟨v1, hv1, h⟩ := Option.bind_eq_some_iff.mp h
        refine kr_callVi (M' := kMX2_isOfTricks) (a := 1) (As := [.int l2]) (st := []) (RX2_isOfTricks (e + 0) hv1) koX2_isOfTricks rfl rfl rfl kw2_18 kw2_19 kw2_20 rfl (Nat.le_of_ble_eq_true rfl) dX2_firstFault_31 ?_
        exact RX2_firstFault_34 e hk7 _ _ _ _ h
      · rw [if_neg c17] at h
        refine kr_aload_n dX2_firstFault_20 rfl ?_
        refine kr_iload_n dX2_firstFault_21 rfl ?_
        refine kr_iload_n dX2_firstFault_22 rfl ?_
        obtain ⟨v2, hv2, h⟩ := Option.bind_eq_some_iff.mp h
        refine kr_callVi (M' := kMX2_isOfPeople) (a := 1) (As := [.int l2, .int l1]) (st := []) (RX2_isOfPeople (e + 2) hv2) koX2_isOfPeople rfl rfl rfl kw2_6 kw2_7 kw2_8 rfl (Nat.le_of_ble_eq_true rfl) dX2_firstFault_23 ?_
        refine kr_goto (tgt := 34) dX2_firstFault_26 rfl ?_
        exact RX2_firstFault_34 e hk7 _ _ _ _ h
set_option maxRecDepth 20000 in
set_option maxHeartbeats 4000000 in
theorem RX2_firstFault {Z : kv_Z} (e : Nat) {N : Nat} {G : kg_G} {res : Int32} (h : fX2_firstFault N G = some res) : kv_M Z (e + 5) kMX2_firstFault [.ref 1] (kg_w G) (some (.int res)) (kg_w G) := by
  refine kv_M_of (ls := [some (.ref 1), none, none, none]) (by decide) (Nat.le_of_ble_eq_true rfl) rfl ?_
  unfold fX2_firstFault at h
  refine kr_aload_n dX2_firstFault_0 rfl ?_
  obtain ⟨v1, hv1, h⟩ := Option.bind_eq_some_iff.mp h
  refine kr_callVi (M' := kMX2_tricksEnd) (a := 1) (As := []) (st := []) (RX2_tricksEnd (e + 4) hv1) koX2_tricksEnd rfl rfl rfl kw2_2 kw2_3 kw2_4 rfl (Nat.le_of_ble_eq_true rfl) dX2_firstFault_1 ?_
  refine kr_istore_n (i := 1) (ls' := [some (.ref 1), some (.int v1), none, none]) dX2_firstFault_4 rfl (Nat.le_of_ble_eq_true rfl) rfl ?_
  refine kr_iconst (v := 0) dX2_firstFault_5 (by decide) ?_
  refine kr_istore_n (i := 2) (ls' := [some (.ref 1), some (.int v1), some (.int 0), none]) dX2_firstFault_6 rfl (Nat.le_of_ble_eq_true rfl) rfl ?_
  exact RX2_firstFault_7 e N _ _ _ h
set_option maxRecDepth 20000 in
set_option maxHeartbeats 4000000 in
theorem RX10_fault {Z : kv_Z} (e : Nat) {N : Nat} {G : kg_G} {res : Int32} (h : fX10_fault N G = some res) : kv_M Z (e + 6) kMX10_fault [.ref 0] (kg_w G) (some (.int res)) (kg_w G) := by
  refine kv_M_of (ls := [some (.ref 0)]) (by decide) (Nat.le_of_ble_eq_true rfl) rfl ?_
  unfold fX10_fault at h
  refine kr_aload_n dX10_fault_0 rfl ?_
  refine kx_g0_0 kw1_188 dX10_fault_1 ?_
  obtain ⟨v1, hv1, h⟩ := Option.bind_eq_some_iff.mp h
  refine kr_callVi (M' := kMX2_firstFault) (a := 1) (As := []) (st := []) (RX2_firstFault (e + 0) hv1) koX2_firstFault rfl rfl rfl kw1_238 kw1_239 kw2_0 rfl (Nat.le_of_ble_eq_true rfl) dX10_fault_4 ?_
  cases h
  exact kr_iret rfl dX10_fault_7
set_option maxRecDepth 20000 in
set_option maxHeartbeats 4000000 in
theorem RX10_isTrick {Z : kv_Z} (e : Nat) {G : kg_G} {l1 : Int32} {res : Int32} (h : fX10_isTrick G l1 = some res) : kv_M Z (e + 0) kMX10_isTrick [.ref 0, .int l1] (kg_w G) (some (.int res)) (kg_w G) := by
  refine kv_M_of (ls := [some (.ref 0), some (.int l1)]) (by decide) (Nat.le_of_ble_eq_true rfl) rfl ?_
  unfold fX10_isTrick at h
  refine kr_iload_n dX10_isTrick_0 rfl ?_
  refine kr_if_lt (tgt := 20) dX10_isTrick_1 rfl (fun c1 => ?_) (fun c1 => ?_)
  · rw [if_pos c1] at h
    refine kr_iconst (v := 0) dX10_isTrick_20 (by decide) ?_
    cases h
    exact kr_zret rfl (by decide) dX10_isTrick_21
  · rw [if_neg c1] at h
    refine kr_iload_n dX10_isTrick_4 rfl ?_
    refine kr_aload_n dX10_isTrick_5 rfl ?_
    refine kx_g0_5 G.2.2.2.1 rfl kw1_193 dX10_isTrick_6 ?_
    obtain ⟨v1, hv1, h⟩ := Option.bind_eq_some_iff.mp h
    refine kx_bt hv1 kw1_180 dX10_isTrick_9 ?_
    obtain ⟨v2, hv2, h⟩ := Option.bind_eq_some_iff.mp h
    refine kx_tl hv2 dX10_isTrick_12 ?_
    refine kr_icmp_ge (tgt := 20) dX10_isTrick_13 rfl (fun c13 => ?_) (fun c13 => ?_)
    · rw [if_pos c13] at h
      refine kr_iconst (v := 0) dX10_isTrick_20 (by decide) ?_
      cases h
      exact kr_zret rfl (by decide) dX10_isTrick_21
    · rw [if_neg c13] at h
      refine kr_iconst (v := 1) dX10_isTrick_16 (by decide) ?_
      refine kr_goto (tgt := 21) dX10_isTrick_17 rfl ?_
      cases h
      exact kr_zret rfl (by decide) dX10_isTrick_21
set_option maxRecDepth 20000 in
set_option maxHeartbeats 4000000 in
theorem RX10_has {Z : kv_Z} (e : Nat) {G : kg_G} {l0 : Int32} {l1 : Int32} {res : Int32} (h : fX10_has l0 l1 = res) : kv_M Z (e + 0) kMX10_has [.int l0, .int l1] (kg_w G) (some (.int res)) (kg_w G) := by
  refine kv_M_of (ls := [some (.int l0), some (.int l1)]) (by decide) (Nat.le_of_ble_eq_true rfl) rfl ?_
  unfold fX10_has at h
  refine kr_iload_n dX10_has_0 rfl ?_
  refine kr_iload_n dX10_has_1 rfl ?_
  refine kr_iushr dX10_has_2 ?_
  refine kr_iconst (v := 1) dX10_has_3 (by decide) ?_
  refine kr_iand dX10_has_4 ?_
  refine kr_if_eq (tgt := 12) dX10_has_5 rfl (fun c5 => ?_) (fun c5 => ?_)
  · rw [if_pos c5] at h
    refine kr_iconst (v := 0) dX10_has_12 (by decide) ?_
    cases h
    exact kr_zret rfl (by decide) dX10_has_13
  · rw [if_neg c5] at h
    refine kr_iconst (v := 1) dX10_has_8 (by decide) ?_
    refine kr_goto (tgt := 13) dX10_has_9 rfl ?_
    cases h
    exact kr_zret rfl (by decide) dX10_has_13
set_option maxRecDepth 20000 in
set_option maxHeartbeats 4000000 in
theorem RX0_isDoneBy_28 {Z : kv_Z} (e : Nat) {N : Nat} {G : kg_G} : ∀ (n : Nat) (l2 : Int32) (a3 : Nat) (a4 : Nat) (l5 : Int32) (l6 : Int32) (res : Int32), fX0_isDoneBy_28 N G n l2 a3 a4 l5 l6 = some res → kv_V Z (e + 1) kMX0_isDoneBy 28 [none, none, some (.int l2), some (.ref a3), some (.ref a4), some (.int l5), some (.int l6)] [] (kg_w G) (some (.int res)) (kg_w G) := by
  intro n
  induction n with
  | zero => intro l2 a3 a4 l5 l6 res h; exact absurd h (by intro z; cases z)
  | succ n ih =>
    intro l2 a3 a4 l5 l6 res h
    have hk28 := ih
    rw [fX0_isDoneBy_28] at h
    refine kr_iload dX0_isDoneBy_28 rfl ?_
    refine kr_aload_n dX0_isDoneBy_30 rfl ?_
    obtain ⟨v1, hv1, h⟩ := Option.bind_eq_some_iff.mp h
    refine kx_le hv1 dX0_isDoneBy_31 ?_
    refine kr_icmp_ge (tgt := 73) dX0_isDoneBy_32 rfl (fun c32 => ?_) (fun c32 => ?_)
    · rw [if_pos c32] at h
      refine kr_aload dX0_isDoneBy_73 rfl ?_
      refine kr_iload dX0_isDoneBy_75 rfl ?_
      obtain ⟨v2, hv2, h⟩ := Option.bind_eq_some_iff.mp h
      refine kt_holdsWith (st := []) (e + 0) hv2 kw3_31 (Nat.le_of_ble_eq_true rfl) dX0_isDoneBy_77 ?_
      obtain ⟨hz, h⟩ := kx_itn h
      cases h
      exact kr_zret rfl (kx_nar hz) dX0_isDoneBy_80
    · rw [if_neg c32] at h
      refine kr_iload_n dX0_isDoneBy_35 rfl ?_
      refine kr_iload dX0_isDoneBy_36 rfl ?_
      refine kr_callSNi (M' := kMX10_has) (As := [.int l2, .int l6]) (st := []) (RX10_has (e + 0) rfl) koX10_has rfl (by decide) kw3_16 rfl (Nat.le_of_ble_eq_true rfl) dX0_isDoneBy_38 ?_
      refine kr_if_eq (tgt := 67) dX0_isDoneBy_41 rfl (fun c41 => ?_) (fun c41 => ?_)
      · rw [if_pos c41] at h
        refine kr_iinc (v := l6 + 1) (ls' := [none, none, some (.int l2), some (.ref a3), some (.ref a4), some (.int l5), some (.int (l6 + 1))]) dX0_isDoneBy_67 rfl rfl (Nat.le_of_ble_eq_true rfl) rfl ?_
        refine kr_goto (tgt := 28) dX0_isDoneBy_70 rfl ?_
        exact hk28 _ _ _ _ _ _ h
      · rw [if_neg c41] at h
        refine kr_aload dX0_isDoneBy_44 rfl ?_
        refine kr_aload_n dX0_isDoneBy_46 rfl ?_
        refine kr_iload dX0_isDoneBy_47 rfl ?_
        obtain ⟨v4, hv4, h⟩ := Option.bind_eq_some_iff.mp h
        refine kx_ld hv4 dX0_isDoneBy_49 ?_
        obtain ⟨v5, hv5, h⟩ := Option.bind_eq_some_iff.mp h
        refine kt_suits (st := []) (e + 0) hv5 kw3_18 (Nat.le_of_ble_eq_true rfl) dX0_isDoneBy_50 ?_
        refine kr_if_ne (tgt := 58) dX0_isDoneBy_53 rfl (fun c53 => ?_) (fun c53 => ?_)
        · rw [if_pos c53] at h
          refine kr_iconst (v := 0) dX0_isDoneBy_56 (by decide) ?_
          cases h
          exact kr_zret rfl (by decide) dX0_isDoneBy_57
        · rw [if_neg c53] at h
          refine kr_iload dX0_isDoneBy_58 rfl ?_
          refine kr_aload_n dX0_isDoneBy_60 rfl ?_
          refine kr_iload dX0_isDoneBy_61 rfl ?_
          obtain ⟨v6, hv6, h⟩ := Option.bind_eq_some_iff.mp h
          refine kx_ld hv6 dX0_isDoneBy_63 ?_
          refine kr_iadd dX0_isDoneBy_64 ?_
          refine kr_istore (ls' := [none, none, some (.int l2), some (.ref a3), some (.ref a4), some (.int (l5 + v6)), some (.int l6)]) dX0_isDoneBy_65 (Nat.le_of_ble_eq_true rfl) rfl ?_
          refine kr_iinc (v := l6 + 1) (ls' := [none, none, some (.int l2), some (.ref a3), some (.ref a4), some (.int (l5 + v6)), some (.int (l6 + 1))]) dX0_isDoneBy_67 rfl rfl (Nat.le_of_ble_eq_true rfl) rfl ?_
          refine kr_goto (tgt := 28) dX0_isDoneBy_70 rfl ?_
          exact hk28 _ _ _ _ _ _ h
set_option maxRecDepth 20000 in
set_option maxHeartbeats 4000000 in
theorem RX0_isDoneBy {Z : kv_Z} (e : Nat) {N : Nat} {G : kg_G} {a0 : Nat} {l1 : Int32} {l2 : Int32} {a3 : Nat} {res : Int32} (h : fX0_isDoneBy N G a0 l1 l2 a3 = some res) : kv_M Z (e + 1) kMX0_isDoneBy [.ref a0, .int l1, .int l2, .ref a3] (kg_w G) (some (.int res)) (kg_w G) := by
  refine kv_M_of (ls := [some (.ref a0), some (.int l1), some (.int l2), some (.ref a3), none, none, none]) (by decide) (Nat.le_of_ble_eq_true rfl) rfl ?_
  unfold fX0_isDoneBy at h
  refine kr_aload_n dX0_isDoneBy_0 rfl ?_
  obtain ⟨v1, hv1, h⟩ := Option.bind_eq_some_iff.mp h
  refine kx_bt hv1 kw1_177 dX0_isDoneBy_1 ?_
  refine kr_iload_n dX0_isDoneBy_4 rfl ?_
  obtain ⟨v2, hv2, h⟩ := Option.bind_eq_some_iff.mp h
  obtain ⟨v3, hv3, h⟩ := Option.bind_eq_some_iff.mp h
  refine kx_ta hv2 hv3 dX0_isDoneBy_5 ?_
  refine kr_astore (ls' := [some (.ref a0), some (.int l1), some (.int l2), some (.ref a3), some (.ref v3), none, none]) dX0_isDoneBy_6 (Nat.le_of_ble_eq_true rfl) rfl ?_
  refine kr_iload_n dX0_isDoneBy_8 rfl ?_
  refine kr_callSi (M' := kMJ6_bitCount_0f7a4) (As := [.int l2]) (st := []) (RJ6_bitCount_0f7a4 (e + 0) rfl) koJ6_bitCount_0f7a4 rfl kw3_8 kw3_9 rfl (Nat.le_of_ble_eq_true rfl) dX0_isDoneBy_9 ?_
  refine kr_aload dX0_isDoneBy_12 rfl ?_
  obtain ⟨v5, hv5, h⟩ := Option.bind_eq_some_iff.mp h
  refine kt_crew (st := [.int (fJ6_bitCount_0f7a4 l2)]) (e + 0) hv5 kw3_14 (Nat.le_of_ble_eq_true rfl) dX0_isDoneBy_14 ?_
  refine kr_icmp_eq (tgt := 22) dX0_isDoneBy_17 rfl (fun c17 => ?_) (fun c17 => ?_)
  · rw [if_pos c17] at h
    refine kr_iconst (v := 0) dX0_isDoneBy_22 (by decide) ?_
    refine kr_istore (ls' := [some (.ref a0), some (.int l1), some (.int l2), some (.ref a3), some (.ref v3), some (.int 0), none]) dX0_isDoneBy_23 (Nat.le_of_ble_eq_true rfl) rfl ?_
    refine kr_iconst (v := 0) dX0_isDoneBy_25 (by decide) ?_
    refine kr_istore (ls' := [some (.ref a0), some (.int l1), some (.int l2), some (.ref a3), some (.ref v3), some (.int 0), some (.int 0)]) dX0_isDoneBy_26 (Nat.le_of_ble_eq_true rfl) rfl ?_
    refine kv_loc (ls' := [none, none, some (.int l2), some (.ref a3), some (.ref v3), some (.int 0), some (.int 0)]) (And.intro rfl (And.intro rfl (And.intro rfl (And.intro rfl (And.intro rfl trivial))))) ?_
    exact RX0_isDoneBy_28 e N _ _ _ _ _ _ h
  · rw [if_neg c17] at h
    refine kr_iconst (v := 0) dX0_isDoneBy_20 (by decide) ?_
    cases h
    exact kr_zret rfl (by decide) dX0_isDoneBy_21
set_option maxRecDepth 20000 in
set_option maxHeartbeats 4000000 in
theorem RX10_isDoneNow {Z : kv_Z} (e : Nat) {N : Nat} {G : kg_G} {l1 : Int32} {res : Int32} (h : fX10_isDoneNow N G l1 = some res) : kv_M Z (e + 2) kMX10_isDoneNow [.ref 0, .int l1] (kg_w G) (some (.int res)) (kg_w G) := by
  refine kv_M_of (ls := [some (.ref 0), some (.int l1)]) (by decide) (Nat.le_of_ble_eq_true rfl) rfl ?_
  unfold fX10_isDoneNow at h
  refine kr_aload_n dX10_isDoneNow_0 rfl ?_
  refine kx_g0_5 G.2.2.2.1 rfl kw1_193 dX10_isDoneNow_1 ?_
  refine kr_iload_n dX10_isDoneNow_4 rfl ?_
  refine kr_aload_n dX10_isDoneNow_5 rfl ?_
  refine kx_g0_1 kw1_189 dX10_isDoneNow_6 ?_
  refine kx_g3_3 kw1_61 dX10_isDoneNow_9 ?_
  refine kr_iload_n dX10_isDoneNow_12 rfl ?_
  obtain ⟨v1, hv1, h⟩ := Option.bind_eq_some_iff.mp h
  refine kx_a7 (G.2.1 7) rfl hv1 dX10_isDoneNow_13 ?_
  refine kr_aload_n dX10_isDoneNow_14 rfl ?_
  refine kx_g0_1 kw1_189 dX10_isDoneNow_15 ?_
  refine kx_g3_0 kw1_53 dX10_isDoneNow_18 ?_
  obtain ⟨v3, hv3, h⟩ := Option.bind_eq_some_iff.mp h
  obtain ⟨v2, hv2, h⟩ := Option.bind_eq_some_iff.mp h
  refine kr_callVi (M' := kMX0_isDoneBy) (a := G.2.2.2.1) (As := [.int l1, .int v1, .ref 4]) (st := []) (RX0_isDoneBy (e + 0) hv2) koX0_isDoneBy rfl (kg_bl_w hv3) rfl kw3_4 kw3_5 kw3_6 rfl (Nat.le_of_ble_eq_true rfl) dX10_isDoneNow_21 ?_
  obtain ⟨hz, h⟩ := kx_itn h
  cases h
  exact kr_zret rfl (kx_nar hz) dX10_isDoneNow_24
set_option maxRecDepth 20000 in
set_option maxHeartbeats 4000000 in
theorem RX9_suitedFor_4 {Z : kv_Z} (e : Nat) {N : Nat} {G : kg_G} : ∀ (n : Nat) (a1 : Nat) (l2 : Int32) (l3 : Int32) (res : Int32), fX9_suitedFor_4 N G n a1 l2 l3 = some res → kv_V Z (e + 1) kMX9_suitedFor 4 [some (.ref 3), some (.ref a1), some (.int l2), some (.int l3)] [] (kg_w G) (some (.int res)) (kg_w G) := by
  intro n
  induction n with
  | zero => intro a1 l2 l3 res h; exact absurd h (by intro z; cases z)
  | succ n ih =>
    intro a1 l2 l3 res h
    have hk4 := ih
    rw [fX9_suitedFor_4] at h
    refine kr_iload_n dX9_suitedFor_4 rfl ?_
    refine kr_iconst (v := 5) dX9_suitedFor_5 (by decide) ?_
    refine kr_icmp_ge (tgt := 45) dX9_suitedFor_6 rfl (fun c6 => ?_) (fun c6 => ?_)
    · rw [if_pos c6] at h
      refine kr_iload_n dX9_suitedFor_45 rfl ?_
      cases h
      exact kr_iret rfl dX9_suitedFor_46
    · rw [if_neg c6] at h
      refine kr_aload_n dX9_suitedFor_9 rfl ?_
      refine kx_g3_6 (G.1 3 6) rfl kw1_64 dX9_suitedFor_10 ?_
      refine kr_iload_n dX9_suitedFor_13 rfl ?_
      refine kr_callSNi (M' := kMX10_has) (As := [.int (G.1 3 6), .int l3]) (st := []) (RX10_has (e + 0) rfl) koX10_has rfl (by decide) kw3_16 rfl (Nat.le_of_ble_eq_true rfl) dX9_suitedFor_14 ?_
      refine kr_if_eq (tgt := 39) dX9_suitedFor_17 rfl (fun c17 => ?_) (fun c17 => ?_)
      · rw [if_pos c17] at h
        refine kr_iinc (v := l3 + 1) (ls' := [some (.ref 3), some (.ref a1), some (.int l2), some (.int (l3 + 1))]) dX9_suitedFor_39 rfl rfl (Nat.le_of_ble_eq_true rfl) rfl ?_
        refine kr_goto (tgt := 4) dX9_suitedFor_42 rfl ?_
        exact hk4 _ _ _ _ h
      · rw [if_neg c17] at h
        refine kr_aload_n dX9_suitedFor_20 rfl ?_
        refine kr_aload_n dX9_suitedFor_21 rfl ?_
        refine kx_g3_0 kw1_52 dX9_suitedFor_22 ?_
        refine kr_iload_n dX9_suitedFor_25 rfl ?_
        obtain ⟨v2, hv2, h⟩ := Option.bind_eq_some_iff.mp h
        refine kx_a4 (G.2.1 4) rfl hv2 dX9_suitedFor_26 ?_
        obtain ⟨v3, hv3, h⟩ := Option.bind_eq_some_iff.mp h
        refine kt_suits (st := []) (e + 0) hv3 kw3_47 (Nat.le_of_ble_eq_true rfl) dX9_suitedFor_27 ?_
        refine kr_if_eq (tgt := 39) dX9_suitedFor_30 rfl (fun c30 => ?_) (fun c30 => ?_)
        · rw [if_pos c30] at h
          refine kr_iinc (v := l3 + 1) (ls' := [some (.ref 3), some (.ref a1), some (.int l2), some (.int (l3 + 1))]) dX9_suitedFor_39 rfl rfl (Nat.le_of_ble_eq_true rfl) rfl ?_
          refine kr_goto (tgt := 4) dX9_suitedFor_42 rfl ?_
          exact hk4 _ _ _ _ h
        · rw [if_neg c30] at h
          refine kr_iload_n dX9_suitedFor_33 rfl ?_
          refine kr_iconst (v := 1) dX9_suitedFor_34 (by decide) ?_
          refine kr_iload_n dX9_suitedFor_35 rfl ?_
          refine kr_ishl dX9_suitedFor_36 ?_
          refine kr_ior dX9_suitedFor_37 ?_
          refine kr_istore_n (i := 2) (ls' := [some (.ref 3), some (.ref a1), some (.int (l2 ||| (1 <<< (l3 &&& 31)))), some (.int l3)]) dX9_suitedFor_38 rfl (Nat.le_of_ble_eq_true rfl) rfl ?_
          refine kr_iinc (v := l3 + 1) (ls' := [some (.ref 3), some (.ref a1), some (.int (l2 ||| (1 <<< (l3 &&& 31)))), some (.int (l3 + 1))]) dX9_suitedFor_39 rfl rfl (Nat.le_of_ble_eq_true rfl) rfl ?_
          refine kr_goto (tgt := 4) dX9_suitedFor_42 rfl ?_
          exact hk4 _ _ _ _ h
set_option maxRecDepth 20000 in
set_option maxHeartbeats 4000000 in
theorem RX9_suitedFor {Z : kv_Z} (e : Nat) {N : Nat} {G : kg_G} {a1 : Nat} {res : Int32} (h : fX9_suitedFor N G a1 = some res) : kv_M Z (e + 1) kMX9_suitedFor [.ref 3, .ref a1] (kg_w G) (some (.int res)) (kg_w G) := by
  refine kv_M_of (ls := [some (.ref 3), some (.ref a1), none, none]) (by decide) (Nat.le_of_ble_eq_true rfl) rfl ?_
  unfold fX9_suitedFor at h
  refine kr_iconst (v := 0) dX9_suitedFor_0 (by decide) ?_
  refine kr_istore_n (i := 2) (ls' := [some (.ref 3), some (.ref a1), some (.int 0), none]) dX9_suitedFor_1 rfl (Nat.le_of_ble_eq_true rfl) rfl ?_
  refine kr_iconst (v := 0) dX9_suitedFor_2 (by decide) ?_
  refine kr_istore_n (i := 3) (ls' := [some (.ref 3), some (.ref a1), some (.int 0), some (.int 0)]) dX9_suitedFor_3 rfl (Nat.le_of_ble_eq_true rfl) rfl ?_
  exact RX9_suitedFor_4 e N _ _ _ _ h
set_option maxRecDepth 20000 in
set_option maxHeartbeats 4000000 in
theorem RX0_clashesOf_4 {Z : kv_Z} (e : Nat) {N : Nat} {G : kg_G} : ∀ (n : Nat) (a0 : Nat) (l1 : Int32) (l2 : Int32) (l3 : Int32) (res : Int32), fX0_clashesOf_4 N G n a0 l1 l2 l3 = some res → kv_V Z (e + 2) kMX0_clashesOf 4 [some (.ref a0), some (.int l1), some (.int l2), some (.int l3)] [] (kg_w G) (some (.int res)) (kg_w G) := by
  intro n
  induction n with
  | zero => intro a0 l1 l2 l3 res h; exact absurd h (by intro z; cases z)
  | succ n ih =>
    intro a0 l1 l2 l3 res h
    have hk4 := ih
    rw [fX0_clashesOf_4] at h
    refine kr_iload_n dX0_clashesOf_4 rfl ?_
    refine kr_aload_n dX0_clashesOf_5 rfl ?_
    obtain ⟨v1, hv1, h⟩ := Option.bind_eq_some_iff.mp h
    refine kx_bt hv1 kw1_177 dX0_clashesOf_6 ?_
    obtain ⟨v2, hv2, h⟩ := Option.bind_eq_some_iff.mp h
    refine kx_tl hv2 dX0_clashesOf_9 ?_
    refine kr_icmp_ge (tgt := 52) dX0_clashesOf_10 rfl (fun c10 => ?_) (fun c10 => ?_)
    · rw [if_pos c10] at h
      refine kr_iload_n dX0_clashesOf_52 rfl ?_
      cases h
      exact kr_iret rfl dX0_clashesOf_53
    · rw [if_neg c10] at h
      refine kr_iload_n dX0_clashesOf_13 rfl ?_
      refine kr_iload_n dX0_clashesOf_14 rfl ?_
      refine kr_icmp_eq (tgt := 46) dX0_clashesOf_15 rfl (fun c15 => ?_) (fun c15 => ?_)
      · rw [if_pos c15] at h
        refine kr_iinc (v := l3 + 1) (ls' := [some (.ref a0), some (.int l1), some (.int l2), some (.int (l3 + 1))]) dX0_clashesOf_46 rfl rfl (Nat.le_of_ble_eq_true rfl) rfl ?_
        refine kr_goto (tgt := 4) dX0_clashesOf_49 rfl ?_
        exact hk4 _ _ _ _ _ h
      · rw [if_neg c15] at h
        refine kr_aload_n dX0_clashesOf_18 rfl ?_
        obtain ⟨v3, hv3, h⟩ := Option.bind_eq_some_iff.mp h
        refine kx_bt hv3 kw1_177 dX0_clashesOf_19 ?_
        refine kr_iload_n dX0_clashesOf_22 rfl ?_
        obtain ⟨v4, hv4, h⟩ := Option.bind_eq_some_iff.mp h
        obtain ⟨v5, hv5, h⟩ := Option.bind_eq_some_iff.mp h
        refine kx_ta hv4 hv5 dX0_clashesOf_23 ?_
        obtain ⟨v6, hv6, h⟩ := Option.bind_eq_some_iff.mp h
        refine kt_busyHours (st := []) (e + 0) hv6 kw3_52 (Nat.le_of_ble_eq_true rfl) dX0_clashesOf_24 ?_
        refine kr_aload_n dX0_clashesOf_27 rfl ?_
        obtain ⟨v7, hv7, h⟩ := Option.bind_eq_some_iff.mp h
        refine kx_bt hv7 kw1_177 dX0_clashesOf_28 ?_
        refine kr_iload_n dX0_clashesOf_31 rfl ?_
        obtain ⟨v8, hv8, h⟩ := Option.bind_eq_some_iff.mp h
        obtain ⟨v9, hv9, h⟩ := Option.bind_eq_some_iff.mp h
        refine kx_ta hv8 hv9 dX0_clashesOf_32 ?_
        obtain ⟨v10, hv10, h⟩ := Option.bind_eq_some_iff.mp h
        refine kt_busyHours (st := [.int (tk_busyHours v6)]) (e + 0) hv10 kw3_52 (Nat.le_of_ble_eq_true rfl) dX0_clashesOf_33 ?_
        refine kr_iand dX0_clashesOf_36 ?_
        refine kr_if_eq (tgt := 46) dX0_clashesOf_37 rfl (fun c37 => ?_) (fun c37 => ?_)
        · rw [if_pos c37] at h
          refine kr_iinc (v := l3 + 1) (ls' := [some (.ref a0), some (.int l1), some (.int l2), some (.int (l3 + 1))]) dX0_clashesOf_46 rfl rfl (Nat.le_of_ble_eq_true rfl) rfl ?_
          refine kr_goto (tgt := 4) dX0_clashesOf_49 rfl ?_
          exact hk4 _ _ _ _ _ h
        · rw [if_neg c37] at h
          refine kr_iload_n dX0_clashesOf_40 rfl ?_
          refine kr_iconst (v := 1) dX0_clashesOf_41 (by decide) ?_
          refine kr_iload_n dX0_clashesOf_42 rfl ?_
          refine kr_ishl dX0_clashesOf_43 ?_
          refine kr_ior dX0_clashesOf_44 ?_
          refine kr_istore_n (i := 2) (ls' := [some (.ref a0), some (.int l1), some (.int (l2 ||| (1 <<< (l3 &&& 31)))), some (.int l3)]) dX0_clashesOf_45 rfl (Nat.le_of_ble_eq_true rfl) rfl ?_
          refine kr_iinc (v := l3 + 1) (ls' := [some (.ref a0), some (.int l1), some (.int (l2 ||| (1 <<< (l3 &&& 31)))), some (.int (l3 + 1))]) dX0_clashesOf_46 rfl rfl (Nat.le_of_ble_eq_true rfl) rfl ?_
          refine kr_goto (tgt := 4) dX0_clashesOf_49 rfl ?_
          exact hk4 _ _ _ _ _ h
set_option maxRecDepth 20000 in
set_option maxHeartbeats 4000000 in
theorem RX0_clashesOf {Z : kv_Z} (e : Nat) {N : Nat} {G : kg_G} {a0 : Nat} {l1 : Int32} {res : Int32} (h : fX0_clashesOf N G a0 l1 = some res) : kv_M Z (e + 2) kMX0_clashesOf [.ref a0, .int l1] (kg_w G) (some (.int res)) (kg_w G) := by
  refine kv_M_of (ls := [some (.ref a0), some (.int l1), none, none]) (by decide) (Nat.le_of_ble_eq_true rfl) rfl ?_
  unfold fX0_clashesOf at h
  refine kr_iconst (v := 0) dX0_clashesOf_0 (by decide) ?_
  refine kr_istore_n (i := 2) (ls' := [some (.ref a0), some (.int l1), some (.int 0), none]) dX0_clashesOf_1 rfl (Nat.le_of_ble_eq_true rfl) rfl ?_
  refine kr_iconst (v := 0) dX0_clashesOf_2 (by decide) ?_
  refine kr_istore_n (i := 3) (ls' := [some (.ref a0), some (.int l1), some (.int 0), some (.int 0)]) dX0_clashesOf_3 rfl (Nat.le_of_ble_eq_true rfl) rfl ?_
  exact RX0_clashesOf_4 e N _ _ _ _ _ h
set_option maxRecDepth 20000 in
set_option maxHeartbeats 4000000 in
theorem RX10_trick {Z : kv_Z} (e : Nat) {N : Nat} {G : kg_G} {l1 : Int32} {l2 : Int32} {res : Int32} (h : fX10_trick N G l1 l2 = some res) : kv_M Z (e + 3) kMX10_trick [.ref 0, .int l1, .int l2] (kg_w G) (some (.int res)) (kg_w G) := by
  refine kv_M_of (ls := [some (.ref 0), some (.int l1), some (.int l2), none]) (by decide) (Nat.le_of_ble_eq_true rfl) rfl ?_
  unfold fX10_trick at h
  refine kr_aload_n dX10_trick_0 rfl ?_
  refine kr_iload_n dX10_trick_1 rfl ?_
  obtain ⟨v1, hv1, h⟩ := Option.bind_eq_some_iff.mp h
  refine kr_callVi (M' := kMX10_isTrick) (a := 0) (As := [.int l1]) (st := []) (RX10_isTrick (e + 2) hv1) koX10_isTrick rfl rfl rfl kw2_208 kw2_210 kws_0 rfl (Nat.le_of_ble_eq_true rfl) dX10_trick_2 ?_
  refine kr_if_ne (tgt := 11) dX10_trick_5 rfl (fun c5 => ?_) (fun c5 => ?_)
  · rw [if_pos c5] at h
    refine kr_bipush (v := (-101)) dX10_trick_8 (by decide) ?_
    cases h
    exact kr_iret rfl dX10_trick_10
  · rw [if_neg c5] at h
    refine kr_aload_n dX10_trick_11 rfl ?_
    refine kx_g0_5 G.2.2.2.1 rfl kw1_193 dX10_trick_12 ?_
    obtain ⟨v2, hv2, h⟩ := Option.bind_eq_some_iff.mp h
    refine kx_bt hv2 kw1_180 dX10_trick_15 ?_
    refine kr_iload_n dX10_trick_18 rfl ?_
    obtain ⟨v3, hv3, h⟩ := Option.bind_eq_some_iff.mp h
    obtain ⟨v4, hv4, h⟩ := Option.bind_eq_some_iff.mp h
    refine kx_ta hv3 hv4 dX10_trick_19 ?_
    refine kr_astore_n (i := 3) (ls' := [some (.ref 0), some (.int l1), some (.int l2), some (.ref v4)]) dX10_trick_20 rfl (Nat.le_of_ble_eq_true rfl) rfl ?_
    refine kr_iload_n dX10_trick_21 rfl ?_
    by_cases c22_0 : l2 = 0
    · rw [if_pos c22_0] at h
      refine kr_tableIn (off := 50) (tgt := 72) dX10_trick_22 (by rw [c22_0]; decide) (by rw [c22_0]; decide) (by rw [c22_0]; decide) rfl ?_
      refine kr_aload_n dX10_trick_72 rfl ?_
      obtain ⟨v5, hv5, h⟩ := Option.bind_eq_some_iff.mp h
      refine kt_kind (st := []) (e + 2) hv5 kw2_212 (Nat.le_of_ble_eq_true rfl) dX10_trick_73 ?_
      cases h
      exact kr_iret rfl dX10_trick_76
    rw [if_neg c22_0] at h
    by_cases c22_1 : l2 = 1
    · rw [if_pos c22_1] at h
      refine kr_tableIn (off := 55) (tgt := 77) dX10_trick_22 (by rw [c22_1]; decide) (by rw [c22_1]; decide) (by rw [c22_1]; decide) rfl ?_
      refine kr_aload_n dX10_trick_77 rfl ?_
      obtain ⟨v6, hv6, h⟩ := Option.bind_eq_some_iff.mp h
      refine kx_t0 hv6 kw2_139 dX10_trick_78 ?_
      cases h
      exact kr_iret rfl dX10_trick_81
    rw [if_neg c22_1] at h
    by_cases c22_2 : l2 = 2
    · rw [if_pos c22_2] at h
      refine kr_tableIn (off := 60) (tgt := 82) dX10_trick_22 (by rw [c22_2]; decide) (by rw [c22_2]; decide) (by rw [c22_2]; decide) rfl ?_
      refine kr_aload_n dX10_trick_82 rfl ?_
      obtain ⟨v7, hv7, h⟩ := Option.bind_eq_some_iff.mp h
      refine kx_t1 hv7 kw2_141 dX10_trick_83 ?_
      cases h
      exact kr_iret rfl dX10_trick_86
    rw [if_neg c22_2] at h
    by_cases c22_3 : l2 = 3
    · rw [if_pos c22_3] at h
      refine kr_tableIn (off := 65) (tgt := 87) dX10_trick_22 (by rw [c22_3]; decide) (by rw [c22_3]; decide) (by rw [c22_3]; decide) rfl ?_
      refine kr_aload_n dX10_trick_87 rfl ?_
      obtain ⟨v8, hv8, h⟩ := Option.bind_eq_some_iff.mp h
      refine kx_t2 hv8 kw2_147 dX10_trick_88 ?_
      cases h
      exact kr_iret rfl dX10_trick_91
    rw [if_neg c22_3] at h
    by_cases c22_4 : l2 = 4
    · rw [if_pos c22_4] at h
      refine kr_tableIn (off := 70) (tgt := 92) dX10_trick_22 (by rw [c22_4]; decide) (by rw [c22_4]; decide) (by rw [c22_4]; decide) rfl ?_
      refine kr_aload_n dX10_trick_92 rfl ?_
      obtain ⟨v9, hv9, h⟩ := Option.bind_eq_some_iff.mp h
      refine kt_crew (st := []) (e + 2) hv9 kw2_229 (Nat.le_of_ble_eq_true rfl) dX10_trick_93 ?_
      cases h
      exact kr_iret rfl dX10_trick_96
    rw [if_neg c22_4] at h
    by_cases c22_5 : l2 = 5
    · rw [if_pos c22_5] at h
      refine kr_tableIn (off := 75) (tgt := 97) dX10_trick_22 (by rw [c22_5]; decide) (by rw [c22_5]; decide) (by rw [c22_5]; decide) rfl ?_
      refine kr_aload_n dX10_trick_97 rfl ?_
      refine kx_g0_1 kw1_189 dX10_trick_98 ?_
      refine kx_g3_3 kw1_61 dX10_trick_101 ?_
      refine kr_iload_n dX10_trick_104 rfl ?_
      obtain ⟨v10, hv10, h⟩ := Option.bind_eq_some_iff.mp h
      refine kx_a7 (G.2.1 7) rfl hv10 dX10_trick_105 ?_
      cases h
      exact kr_iret rfl dX10_trick_106
    rw [if_neg c22_5] at h
    by_cases c22_6 : l2 = 6
    · rw [if_pos c22_6] at h
      refine kr_tableIn (off := 85) (tgt := 107) dX10_trick_22 (by rw [c22_6]; decide) (by rw [c22_6]; decide) (by rw [c22_6]; decide) rfl ?_
      refine kr_aload_n dX10_trick_107 rfl ?_
      refine kr_iload_n dX10_trick_108 rfl ?_
      obtain ⟨v11, hv11, h⟩ := Option.bind_eq_some_iff.mp h
      refine kr_callVi (M' := kMX10_isDoneNow) (a := 0) (As := [.int l1]) (st := []) (RX10_isDoneNow (e + 0) hv11) koX10_isDoneNow rfl rfl rfl kw3_0 kw3_2 kws_1 rfl (Nat.le_of_ble_eq_true rfl) dX10_trick_109 ?_
      refine kr_if_eq (tgt := 119) dX10_trick_112 rfl (fun c112 => ?_) (fun c112 => ?_)
      · rw [if_pos c112] at h
        refine kr_iconst (v := 0) dX10_trick_119 (by decide) ?_
        cases h
        exact kr_iret rfl dX10_trick_120
      · rw [if_neg c112] at h
        refine kr_iconst (v := 1) dX10_trick_115 (by decide) ?_
        refine kr_goto (tgt := 120) dX10_trick_116 rfl ?_
        cases h
        exact kr_iret rfl dX10_trick_120
    rw [if_neg c22_6] at h
    by_cases c22_7 : l2 = 7
    · rw [if_pos c22_7] at h
      refine kr_tableIn (off := 99) (tgt := 121) dX10_trick_22 (by rw [c22_7]; decide) (by rw [c22_7]; decide) (by rw [c22_7]; decide) rfl ?_
      refine kr_aload_n dX10_trick_121 rfl ?_
      refine kx_g0_1 kw1_189 dX10_trick_122 ?_
      refine kr_aload_n dX10_trick_125 rfl ?_
      obtain ⟨v12, hv12, h⟩ := Option.bind_eq_some_iff.mp h
      refine kr_callVi (M' := kMX9_suitedFor) (a := 3) (As := [.ref v4]) (st := []) (RX9_suitedFor (e + 1) hv12) koX9_suitedFor rfl rfl rfl kw3_42 kw3_43 kw3_44 rfl (Nat.le_of_ble_eq_true rfl) dX10_trick_126 ?_
      cases h
      exact kr_iret rfl dX10_trick_129
    rw [if_neg c22_7] at h
    by_cases c22_8 : l2 = 8
    · rw [if_pos c22_8] at h
      refine kr_tableIn (off := 108) (tgt := 130) dX10_trick_22 (by rw [c22_8]; decide) (by rw [c22_8]; decide) (by rw [c22_8]; decide) rfl ?_
      refine kr_aload_n dX10_trick_130 rfl ?_
      refine kx_g0_5 G.2.2.2.1 rfl kw1_193 dX10_trick_131 ?_
      refine kr_iload_n dX10_trick_134 rfl ?_
      obtain ⟨v14, hv14, h⟩ := Option.bind_eq_some_iff.mp h
      obtain ⟨v13, hv13, h⟩ := Option.bind_eq_some_iff.mp h
      refine kr_callVi (M' := kMX0_clashesOf) (a := G.2.2.2.1) (As := [.int l1]) (st := []) (RX0_clashesOf (e + 0) hv13) koX0_clashesOf rfl (kg_bl_w hv14) rfl kw3_48 kw3_49 kw3_50 rfl (Nat.le_of_ble_eq_true rfl) dX10_trick_135 ?_
      cases h
      exact kr_iret rfl dX10_trick_138
    rw [if_neg c22_8] at h
    refine kr_tableOut (tgt := 139) dX10_trick_22 (kx_out9 c22_0 c22_1 c22_2 c22_3 c22_4 c22_5 c22_6 c22_7 c22_8) rfl ?_
    refine kr_bipush (v := (-102)) dX10_trick_139 (by decide) ?_
    cases h
    exact kr_iret rfl dX10_trick_141
set_option maxRecDepth 20000 in
set_option maxHeartbeats 4000000 in
theorem RX10_isOfKind {Z : kv_Z} (e : Nat) {G : kg_G} {a0 : Nat} {l1 : Int32} {res : Int32} (h : fX10_isOfKind G a0 l1 = some res) : kv_M Z (e + 0) kMX10_isOfKind [.ref a0, .int l1] (kg_w G) (some (.int res)) (kg_w G) := by
  refine kv_M_of (ls := [some (.ref a0), some (.int l1)]) (by decide) (Nat.le_of_ble_eq_true rfl) rfl ?_
  unfold fX10_isOfKind at h
  refine kr_iload_n dX10_isOfKind_0 rfl ?_
  by_cases c1_1 : l1 = 1
  · rw [if_pos c1_1] at h
    refine kr_tableIn (off := 31) (tgt := 32) dX10_isOfKind_1 (by rw [c1_1]; decide) (by rw [c1_1]; decide) (by rw [c1_1]; decide) rfl ?_
    refine kr_aload_n dX10_isOfKind_32 rfl ?_
    obtain ⟨v1, hv1, h⟩ := Option.bind_eq_some_iff.mp h
    refine kt_inst3 hv1 kw3_79 dX10_isOfKind_33 ?_
    obtain ⟨hz, h⟩ := kx_itn h
    cases h
    exact kr_zret rfl (kx_nar hz) dX10_isOfKind_36
  rw [if_neg c1_1] at h
  by_cases c1_2 : l1 = 2
  · rw [if_pos c1_2] at h
    refine kr_tableIn (off := 36) (tgt := 37) dX10_isOfKind_1 (by rw [c1_2]; decide) (by rw [c1_2]; decide) (by rw [c1_2]; decide) rfl ?_
    refine kr_aload_n dX10_isOfKind_37 rfl ?_
    obtain ⟨v2, hv2, h⟩ := Option.bind_eq_some_iff.mp h
    refine kt_inst6 hv2 kw3_80 dX10_isOfKind_38 ?_
    obtain ⟨hz, h⟩ := kx_itn h
    cases h
    exact kr_zret rfl (kx_nar hz) dX10_isOfKind_41
  rw [if_neg c1_2] at h
  by_cases c1_3 : l1 = 3
  · rw [if_pos c1_3] at h
    refine kr_tableIn (off := 41) (tgt := 42) dX10_isOfKind_1 (by rw [c1_3]; decide) (by rw [c1_3]; decide) (by rw [c1_3]; decide) rfl ?_
    refine kr_aload_n dX10_isOfKind_42 rfl ?_
    obtain ⟨v3, hv3, h⟩ := Option.bind_eq_some_iff.mp h
    refine kt_inst1 hv3 kw3_81 dX10_isOfKind_43 ?_
    obtain ⟨hz, h⟩ := kx_itn h
    cases h
    exact kr_zret rfl (kx_nar hz) dX10_isOfKind_46
  rw [if_neg c1_3] at h
  by_cases c1_4 : l1 = 4
  · rw [if_pos c1_4] at h
    refine kr_tableIn (off := 46) (tgt := 47) dX10_isOfKind_1 (by rw [c1_4]; decide) (by rw [c1_4]; decide) (by rw [c1_4]; decide) rfl ?_
    refine kr_aload_n dX10_isOfKind_47 rfl ?_
    obtain ⟨v4, hv4, h⟩ := Option.bind_eq_some_iff.mp h
    refine kt_inst5 hv4 kw3_82 dX10_isOfKind_48 ?_
    obtain ⟨hz, h⟩ := kx_itn h
    cases h
    exact kr_zret rfl (kx_nar hz) dX10_isOfKind_51
  rw [if_neg c1_4] at h
  refine kr_tableOut (tgt := 52) dX10_isOfKind_1 (by have q1 := lv_neT c1_1 (a := 1) (by decide); have q2 := lv_neT c1_2 (a := 2) (by decide); have q3 := lv_neT c1_3 (a := 3) (by decide); have q4 := lv_neT c1_4 (a := 4) (by decide); omega) rfl ?_
  refine kr_iconst (v := 1) dX10_isOfKind_52 (by decide) ?_
  cases h
  exact kr_zret rfl (by decide) dX10_isOfKind_53
set_option maxRecDepth 20000 in
set_option maxHeartbeats 4000000 in
theorem RX10_as {Z : kv_Z} (e : Nat) {G : kg_G} {l1 : Int32} {l2 : Int32} {res : Int32} (h : fX10_as G l1 l2 = some res) : kv_M Z (e + 1) kMX10_as [.ref 0, .int l1, .int l2] (kg_w G) (some (.int res)) (kg_w G) := by
  refine kv_M_of (ls := [some (.ref 0), some (.int l1), some (.int l2)]) (by decide) (Nat.le_of_ble_eq_true rfl) rfl ?_
  unfold fX10_as at h
  refine kr_aload_n dX10_as_0 rfl ?_
  refine kr_iload_n dX10_as_1 rfl ?_
  obtain ⟨v1, hv1, h⟩ := Option.bind_eq_some_iff.mp h
  refine kr_callVi (M' := kMX10_isTrick) (a := 0) (As := [.int l1]) (st := []) (RX10_isTrick (e + 0) hv1) koX10_isTrick rfl rfl rfl kw2_208 kw2_210 kws_0 rfl (Nat.le_of_ble_eq_true rfl) dX10_as_2 ?_
  refine kr_if_ne (tgt := 11) dX10_as_5 rfl (fun c5 => ?_) (fun c5 => ?_)
  · rw [if_pos c5] at h
    refine kr_bipush (v := (-101)) dX10_as_8 (by decide) ?_
    cases h
    exact kr_iret rfl dX10_as_10
  · rw [if_neg c5] at h
    refine kr_iload_n dX10_as_11 rfl ?_
    refine kr_if_lt (tgt := 20) dX10_as_12 rfl (fun c12 => ?_) (fun c12 => ?_)
    · rw [if_pos c12] at h
      refine kr_bipush (v := (-102)) dX10_as_20 (by decide) ?_
      cases h
      exact kr_iret rfl dX10_as_22
    · rw [if_neg c12] at h
      refine kr_iload_n dX10_as_15 rfl ?_
      refine kr_iconst (v := 5) dX10_as_16 (by decide) ?_
      refine kr_icmp_lt (tgt := 23) dX10_as_17 rfl (fun c17 => ?_) (fun c17 => ?_)
      · rw [if_pos c17] at h
        refine kr_aload_n dX10_as_23 rfl ?_
        refine kx_g0_5 G.2.2.2.1 rfl kw1_193 dX10_as_24 ?_
        obtain ⟨v2, hv2, h⟩ := Option.bind_eq_some_iff.mp h
        refine kx_bt hv2 kw1_180 dX10_as_27 ?_
        refine kr_iload_n dX10_as_30 rfl ?_
        obtain ⟨v3, hv3, h⟩ := Option.bind_eq_some_iff.mp h
        obtain ⟨v4, hv4, h⟩ := Option.bind_eq_some_iff.mp h
        refine kx_ta hv3 hv4 dX10_as_31 ?_
        refine kr_iload_n dX10_as_32 rfl ?_
        obtain ⟨v5, hv5, h⟩ := Option.bind_eq_some_iff.mp h
        refine kr_callSi (M' := kMX10_isOfKind) (As := [.ref v4, .int l2]) (st := []) (RX10_isOfKind (e + 0) hv5) koX10_isOfKind rfl kw3_76 kw3_77 rfl (Nat.le_of_ble_eq_true rfl) dX10_as_33 ?_
        refine kr_if_eq (tgt := 43) dX10_as_36 rfl (fun c36 => ?_) (fun c36 => ?_)
        · rw [if_pos c36] at h
          refine kr_iconst (v := (-1)) dX10_as_43 (by decide) ?_
          cases h
          exact kr_iret rfl dX10_as_44
        · rw [if_neg c36] at h
          refine kr_iload_n dX10_as_39 rfl ?_
          refine kr_goto (tgt := 44) dX10_as_40 rfl ?_
          cases h
          exact kr_iret rfl dX10_as_44
      · rw [if_neg c17] at h
        refine kr_bipush (v := (-102)) dX10_as_20 (by decide) ?_
        cases h
        exact kr_iret rfl dX10_as_22
set_option maxRecDepth 20000 in
set_option maxHeartbeats 4000000 in
theorem RX10_isNumber {Z : kv_Z} (e : Nat) {G : kg_G} {l1 : Int32} {res : Int32} (h : fX10_isNumber G l1 = some res) : kv_M Z (e + 0) kMX10_isNumber [.ref 0, .int l1] (kg_w G) (some (.int res)) (kg_w G) := by
  refine kv_M_of (ls := [some (.ref 0), some (.int l1)]) (by decide) (Nat.le_of_ble_eq_true rfl) rfl ?_
  unfold fX10_isNumber at h
  refine kr_iload_n dX10_isNumber_0 rfl ?_
  refine kr_if_lt (tgt := 19) dX10_isNumber_1 rfl (fun c1 => ?_) (fun c1 => ?_)
  · rw [if_pos c1] at h
    refine kr_iconst (v := 0) dX10_isNumber_19 (by decide) ?_
    cases h
    exact kr_zret rfl (by decide) dX10_isNumber_20
  · rw [if_neg c1] at h
    refine kr_iload_n dX10_isNumber_4 rfl ?_
    refine kr_aload_n dX10_isNumber_5 rfl ?_
    refine kx_g0_5 G.2.2.2.1 rfl kw1_193 dX10_isNumber_6 ?_
    obtain ⟨v1, hv1, h⟩ := Option.bind_eq_some_iff.mp h
    refine kx_bp hv1 kw1_182 dX10_isNumber_9 ?_
    refine kr_icmp_ge (tgt := 19) dX10_isNumber_12 rfl (fun c12 => ?_) (fun c12 => ?_)
    · rw [if_pos c12] at h
      refine kr_iconst (v := 0) dX10_isNumber_19 (by decide) ?_
      cases h
      exact kr_zret rfl (by decide) dX10_isNumber_20
    · rw [if_neg c12] at h
      refine kr_iconst (v := 1) dX10_isNumber_15 (by decide) ?_
      refine kr_goto (tgt := 20) dX10_isNumber_16 rfl ?_
      cases h
      exact kr_zret rfl (by decide) dX10_isNumber_20
set_option maxRecDepth 20000 in
set_option maxHeartbeats 4000000 in
theorem RX9_tricksOf_4 {Z : kv_Z} (e : Nat) {N : Nat} {G : kg_G} : ∀ (n : Nat) (l1 : Int32) (l2 : Int32) (l3 : Int32) (res : Int32), fX9_tricksOf_4 N G n l1 l2 l3 = some res → kv_V Z (e + 1) kMX9_tricksOf 4 [some (.ref 3), some (.int l1), some (.int l2), some (.int l3)] [] (kg_w G) (some (.int res)) (kg_w G) := by
  intro n
  induction n with
  | zero => intro l1 l2 l3 res h; exact absurd h (by intro z; cases z)
  | succ n ih =>
    intro l1 l2 l3 res h
    have hk4 := ih
    rw [fX9_tricksOf_4] at h
    refine kr_iload_n dX9_tricksOf_4 rfl ?_
    refine kr_iconst (v := 5) dX9_tricksOf_5 (by decide) ?_
    refine kr_icmp_ge (tgt := 34) dX9_tricksOf_6 rfl (fun c6 => ?_) (fun c6 => ?_)
    · rw [if_pos c6] at h
      refine kr_iload_n dX9_tricksOf_34 rfl ?_
      cases h
      exact kr_iret rfl dX9_tricksOf_35
    · rw [if_neg c6] at h
      refine kr_aload_n dX9_tricksOf_9 rfl ?_
      refine kx_g3_3 kw1_60 dX9_tricksOf_10 ?_
      refine kr_iload_n dX9_tricksOf_13 rfl ?_
      obtain ⟨v1, hv1, h⟩ := Option.bind_eq_some_iff.mp h
      refine kx_a7 (G.2.1 7) rfl hv1 dX9_tricksOf_14 ?_
      refine kr_iload_n dX9_tricksOf_15 rfl ?_
      refine kr_callSNi (M' := kMX10_has) (As := [.int v1, .int l1]) (st := []) (RX10_has (e + 0) rfl) koX10_has rfl (by decide) kw3_16 rfl (Nat.le_of_ble_eq_true rfl) dX9_tricksOf_16 ?_
      refine kr_if_eq (tgt := 28) dX9_tricksOf_19 rfl (fun c19 => ?_) (fun c19 => ?_)
      · rw [if_pos c19] at h
        refine kr_iinc (v := l3 + 1) (ls' := [some (.ref 3), some (.int l1), some (.int l2), some (.int (l3 + 1))]) dX9_tricksOf_28 rfl rfl (Nat.le_of_ble_eq_true rfl) rfl ?_
        refine kr_goto (tgt := 4) dX9_tricksOf_31 rfl ?_
        exact hk4 _ _ _ _ h
      · rw [if_neg c19] at h
        refine kr_iload_n dX9_tricksOf_22 rfl ?_
        refine kr_iconst (v := 1) dX9_tricksOf_23 (by decide) ?_
        refine kr_iload_n dX9_tricksOf_24 rfl ?_
        refine kr_ishl dX9_tricksOf_25 ?_
        refine kr_ior dX9_tricksOf_26 ?_
        refine kr_istore_n (i := 2) (ls' := [some (.ref 3), some (.int l1), some (.int (l2 ||| (1 <<< (l3 &&& 31)))), some (.int l3)]) dX9_tricksOf_27 rfl (Nat.le_of_ble_eq_true rfl) rfl ?_
        refine kr_iinc (v := l3 + 1) (ls' := [some (.ref 3), some (.int l1), some (.int (l2 ||| (1 <<< (l3 &&& 31)))), some (.int (l3 + 1))]) dX9_tricksOf_28 rfl rfl (Nat.le_of_ble_eq_true rfl) rfl ?_
        refine kr_goto (tgt := 4) dX9_tricksOf_31 rfl ?_
        exact hk4 _ _ _ _ h
set_option maxRecDepth 20000 in
set_option maxHeartbeats 4000000 in
theorem RX9_tricksOf {Z : kv_Z} (e : Nat) {N : Nat} {G : kg_G} {l1 : Int32} {res : Int32} (h : fX9_tricksOf N G l1 = some res) : kv_M Z (e + 1) kMX9_tricksOf [.ref 3, .int l1] (kg_w G) (some (.int res)) (kg_w G) := by
  refine kv_M_of (ls := [some (.ref 3), some (.int l1), none, none]) (by decide) (Nat.le_of_ble_eq_true rfl) rfl ?_
  unfold fX9_tricksOf at h
  refine kr_iconst (v := 0) dX9_tricksOf_0 (by decide) ?_
  refine kr_istore_n (i := 2) (ls' := [some (.ref 3), some (.int l1), some (.int 0), none]) dX9_tricksOf_1 rfl (Nat.le_of_ble_eq_true rfl) rfl ?_
  refine kr_iconst (v := 0) dX9_tricksOf_2 (by decide) ?_
  refine kr_istore_n (i := 3) (ls' := [some (.ref 3), some (.int l1), some (.int 0), some (.int 0)]) dX9_tricksOf_3 rfl (Nat.le_of_ble_eq_true rfl) rfl ?_
  exact RX9_tricksOf_4 e N _ _ _ _ h
set_option maxRecDepth 20000 in
set_option maxHeartbeats 4000000 in
theorem RX0_busyHoursOf_4 {Z : kv_Z} (e : Nat) {N : Nat} {G : kg_G} : ∀ (n : Nat) (a0 : Nat) (l1 : Int32) (l2 : Int32) (l3 : Int32) (res : Int32), fX0_busyHoursOf_4 N G n a0 l1 l2 l3 = some res → kv_V Z (e + 2) kMX0_busyHoursOf 4 [some (.ref a0), some (.int l1), some (.int l2), some (.int l3)] [] (kg_w G) (some (.int res)) (kg_w G) := by
  intro n
  induction n with
  | zero => intro a0 l1 l2 l3 res h; exact absurd h (by intro z; cases z)
  | succ n ih =>
    intro a0 l1 l2 l3 res h
    have hk4 := ih
    rw [fX0_busyHoursOf_4] at h
    refine kr_iload_n dX0_busyHoursOf_4 rfl ?_
    refine kr_aload_n dX0_busyHoursOf_5 rfl ?_
    obtain ⟨v1, hv1, h⟩ := Option.bind_eq_some_iff.mp h
    refine kx_bt hv1 kw1_177 dX0_busyHoursOf_6 ?_
    obtain ⟨v2, hv2, h⟩ := Option.bind_eq_some_iff.mp h
    refine kx_tl hv2 dX0_busyHoursOf_9 ?_
    refine kr_icmp_ge (tgt := 39) dX0_busyHoursOf_10 rfl (fun c10 => ?_) (fun c10 => ?_)
    · rw [if_pos c10] at h
      refine kr_iload_n dX0_busyHoursOf_39 rfl ?_
      cases h
      exact kr_iret rfl dX0_busyHoursOf_40
    · rw [if_neg c10] at h
      refine kr_iload_n dX0_busyHoursOf_13 rfl ?_
      refine kr_iload_n dX0_busyHoursOf_14 rfl ?_
      refine kr_callSNi (M' := kMX10_has) (As := [.int l1, .int l3]) (st := []) (RX10_has (e + 1) rfl) koX10_has rfl (by decide) kw3_16 rfl (Nat.le_of_ble_eq_true rfl) dX0_busyHoursOf_15 ?_
      refine kr_if_eq (tgt := 33) dX0_busyHoursOf_18 rfl (fun c18 => ?_) (fun c18 => ?_)
      · rw [if_pos c18] at h
        refine kr_iinc (v := l3 + 1) (ls' := [some (.ref a0), some (.int l1), some (.int l2), some (.int (l3 + 1))]) dX0_busyHoursOf_33 rfl rfl (Nat.le_of_ble_eq_true rfl) rfl ?_
        refine kr_goto (tgt := 4) dX0_busyHoursOf_36 rfl ?_
        exact hk4 _ _ _ _ _ h
      · rw [if_neg c18] at h
        refine kr_iload_n dX0_busyHoursOf_21 rfl ?_
        refine kr_aload_n dX0_busyHoursOf_22 rfl ?_
        obtain ⟨v4, hv4, h⟩ := Option.bind_eq_some_iff.mp h
        refine kx_bt hv4 kw1_177 dX0_busyHoursOf_23 ?_
        refine kr_iload_n dX0_busyHoursOf_26 rfl ?_
        obtain ⟨v5, hv5, h⟩ := Option.bind_eq_some_iff.mp h
        obtain ⟨v6, hv6, h⟩ := Option.bind_eq_some_iff.mp h
        refine kx_ta hv5 hv6 dX0_busyHoursOf_27 ?_
        obtain ⟨v7, hv7, h⟩ := Option.bind_eq_some_iff.mp h
        refine kt_busyHours (st := [.int l2]) (e + 0) hv7 kw3_52 (Nat.le_of_ble_eq_true rfl) dX0_busyHoursOf_28 ?_
        refine kr_ior dX0_busyHoursOf_31 ?_
        refine kr_istore_n (i := 2) (ls' := [some (.ref a0), some (.int l1), some (.int (l2 ||| (tk_busyHours v7))), some (.int l3)]) dX0_busyHoursOf_32 rfl (Nat.le_of_ble_eq_true rfl) rfl ?_
        refine kr_iinc (v := l3 + 1) (ls' := [some (.ref a0), some (.int l1), some (.int (l2 ||| (tk_busyHours v7))), some (.int (l3 + 1))]) dX0_busyHoursOf_33 rfl rfl (Nat.le_of_ble_eq_true rfl) rfl ?_
        refine kr_goto (tgt := 4) dX0_busyHoursOf_36 rfl ?_
        exact hk4 _ _ _ _ _ h
set_option maxRecDepth 20000 in
set_option maxHeartbeats 4000000 in
theorem RX0_busyHoursOf {Z : kv_Z} (e : Nat) {N : Nat} {G : kg_G} {a0 : Nat} {l1 : Int32} {res : Int32} (h : fX0_busyHoursOf N G a0 l1 = some res) : kv_M Z (e + 2) kMX0_busyHoursOf [.ref a0, .int l1] (kg_w G) (some (.int res)) (kg_w G) := by
  refine kv_M_of (ls := [some (.ref a0), some (.int l1), none, none]) (by decide) (Nat.le_of_ble_eq_true rfl) rfl ?_
  unfold fX0_busyHoursOf at h
  refine kr_iconst (v := 0) dX0_busyHoursOf_0 (by decide) ?_
  refine kr_istore_n (i := 2) (ls' := [some (.ref a0), some (.int l1), some (.int 0), none]) dX0_busyHoursOf_1 rfl (Nat.le_of_ble_eq_true rfl) rfl ?_
  refine kr_iconst (v := 0) dX0_busyHoursOf_2 (by decide) ?_
  refine kr_istore_n (i := 3) (ls' := [some (.ref a0), some (.int l1), some (.int 0), some (.int 0)]) dX0_busyHoursOf_3 rfl (Nat.le_of_ble_eq_true rfl) rfl ?_
  exact RX0_busyHoursOf_4 e N _ _ _ _ _ h
set_option maxRecDepth 20000 in
set_option maxHeartbeats 4000000 in
theorem RX9_strongsOf_6 {Z : kv_Z} (e : Nat) {N : Nat} {G : kg_G} : ∀ (n : Nat) (l1 : Int32) (l2 : Int32) (l3 : Int32) (res : Int32), fX9_strongsOf_6 N G n l1 l2 l3 = some res → kv_V Z (e + 0) kMX9_strongsOf 6 [some (.ref 3), some (.int l1), some (.int l2), some (.int l3)] [] (kg_w G) (some (.int res)) (kg_w G) := by
  intro n
  induction n with
  | zero => intro l1 l2 l3 res h; exact absurd h (by intro z; cases z)
  | succ n ih =>
    intro l1 l2 l3 res h
    have hk6 := ih
    rw [fX9_strongsOf_6] at h
    refine kr_iload_n dX9_strongsOf_6 rfl ?_
    refine kr_aload_n dX9_strongsOf_7 rfl ?_
    refine kx_g3_13 (G.1 3 13) rfl kw1_78 dX9_strongsOf_8 ?_
    refine kr_icmp_ge (tgt := 39) dX9_strongsOf_11 rfl (fun c11 => ?_) (fun c11 => ?_)
    · rw [if_pos c11] at h
      refine kr_iload_n dX9_strongsOf_39 rfl ?_
      cases h
      exact kr_iret rfl dX9_strongsOf_40
    · rw [if_neg c11] at h
      refine kr_aload_n dX9_strongsOf_14 rfl ?_
      refine kx_g3_4 kw1_62 dX9_strongsOf_15 ?_
      refine kr_iload_n dX9_strongsOf_18 rfl ?_
      obtain ⟨v1, hv1, h⟩ := Option.bind_eq_some_iff.mp h
      refine kx_a8 (G.2.1 8) rfl hv1 dX9_strongsOf_19 ?_
      refine kr_iload_n dX9_strongsOf_20 rfl ?_
      refine kr_icmp_ne (tgt := 33) dX9_strongsOf_21 rfl (fun c21 => ?_) (fun c21 => ?_)
      · rw [if_pos c21] at h
        refine kr_iload_n dX9_strongsOf_24 rfl ?_
        refine kr_aload_n dX9_strongsOf_25 rfl ?_
        refine kx_g3_5 kw1_63 dX9_strongsOf_26 ?_
        refine kr_iload_n dX9_strongsOf_29 rfl ?_
        obtain ⟨v2, hv2, h⟩ := Option.bind_eq_some_iff.mp h
        refine kx_a9 (G.2.1 9) rfl hv2 dX9_strongsOf_30 ?_
        refine kr_iand dX9_strongsOf_31 ?_
        refine kr_istore_n (i := 2) (ls' := [some (.ref 3), some (.int l1), some (.int (l2 &&& v2)), some (.int l3)]) dX9_strongsOf_32 rfl (Nat.le_of_ble_eq_true rfl) rfl ?_
        refine kr_iinc (v := l3 + 1) (ls' := [some (.ref 3), some (.int l1), some (.int (l2 &&& v2)), some (.int (l3 + 1))]) dX9_strongsOf_33 rfl rfl (Nat.le_of_ble_eq_true rfl) rfl ?_
        refine kr_goto (tgt := 6) dX9_strongsOf_36 rfl ?_
        exact hk6 _ _ _ _ h
      · rw [if_neg c21] at h
        refine kr_iinc (v := l3 + 1) (ls' := [some (.ref 3), some (.int l1), some (.int l2), some (.int (l3 + 1))]) dX9_strongsOf_33 rfl rfl (Nat.le_of_ble_eq_true rfl) rfl ?_
        refine kr_goto (tgt := 6) dX9_strongsOf_36 rfl ?_
        exact hk6 _ _ _ _ h
set_option maxRecDepth 20000 in
set_option maxHeartbeats 4000000 in
theorem RX9_strongsOf {Z : kv_Z} (e : Nat) {N : Nat} {G : kg_G} {l1 : Int32} {res : Int32} (h : fX9_strongsOf N G l1 = some res) : kv_M Z (e + 0) kMX9_strongsOf [.ref 3, .int l1] (kg_w G) (some (.int res)) (kg_w G) := by
  refine kv_M_of (ls := [some (.ref 3), some (.int l1), none, none]) (by decide) (Nat.le_of_ble_eq_true rfl) rfl ?_
  unfold fX9_strongsOf at h
  refine kr_sipush (v := 1023) dX9_strongsOf_0 (by decide) ?_
  refine kr_istore_n (i := 2) (ls' := [some (.ref 3), some (.int l1), some (.int 1023), none]) dX9_strongsOf_3 rfl (Nat.le_of_ble_eq_true rfl) rfl ?_
  refine kr_iconst (v := 0) dX9_strongsOf_4 (by decide) ?_
  refine kr_istore_n (i := 3) (ls' := [some (.ref 3), some (.int l1), some (.int 1023), some (.int 0)]) dX9_strongsOf_5 rfl (Nat.le_of_ble_eq_true rfl) rfl ?_
  exact RX9_strongsOf_6 e N _ _ _ _ h
set_option maxRecDepth 20000 in
set_option maxHeartbeats 4000000 in
theorem RX0_trickToTry_57 {Z : kv_Z} (e : Nat) {N : Nat} {G : kg_G} {k14 : Nat → Int32 → Int32 → Int32 → Int32 → Option (Int32)} (hk14 : ∀ (a0 : Nat) (l1 : Int32) (l2 : Int32) (l3 : Int32) (l4 : Int32) (res : Int32), k14 a0 l1 l2 l3 l4 = some res → kv_V Z (e + 2) kMX0_trickToTry 14 [some (.ref a0), some (.int l1), some (.int l2), some (.int l3), some (.int l4), none, none] [] (kg_w G) (some (.int res)) (kg_w G)) : ∀ (a0 : Nat) (l1 : Int32) (l2 : Int32) (l3 : Int32) (l4 : Int32) (l6 : Int32) (res : Int32), fX0_trickToTry_57 N G k14 a0 l1 l2 l3 l4 l6 = some res → kv_V Z (e + 2) kMX0_trickToTry 57 [some (.ref a0), some (.int l1), some (.int l2), some (.int l3), some (.int l4), none, some (.int l6)] [] (kg_w G) (some (.int res)) (kg_w G) := by
  intro a0 l1 l2 l3 l4 l6 res h
  unfold fX0_trickToTry_57 at h
  refine kr_iload dX0_trickToTry_57 rfl ?_
  refine kr_iload_n dX0_trickToTry_59 rfl ?_
  refine kr_icmp_ge (tgt := 69) dX0_trickToTry_60 rfl (fun c60 => ?_) (fun c60 => ?_)
  · rw [if_pos c60] at h
    refine kr_iinc (v := l4 + 1) (ls' := [some (.ref a0), some (.int l1), some (.int l2), some (.int l3), some (.int (l4 + 1)), none, some (.int l6)]) dX0_trickToTry_69 rfl rfl (Nat.le_of_ble_eq_true rfl) rfl ?_
    refine kr_goto (tgt := 14) dX0_trickToTry_72 rfl ?_
    refine kv_loc (ls' := [some (.ref a0), some (.int l1), some (.int l2), some (.int l3), some (.int (l4 + 1)), none, none]) (And.intro rfl (And.intro rfl (And.intro rfl (And.intro rfl (And.intro rfl trivial))))) ?_
    exact hk14 _ _ _ _ _ _ h
  · rw [if_neg c60] at h
    refine kr_iload dX0_trickToTry_63 rfl ?_
    refine kr_istore_n (i := 3) (ls' := [some (.ref a0), some (.int l1), some (.int l2), some (.int l6), some (.int l4), none, some (.int l6)]) dX0_trickToTry_65 rfl (Nat.le_of_ble_eq_true rfl) rfl ?_
    refine kr_iload dX0_trickToTry_66 rfl ?_
    refine kr_istore_n (i := 2) (ls' := [some (.ref a0), some (.int l1), some (.int l4), some (.int l6), some (.int l4), none, some (.int l6)]) dX0_trickToTry_68 rfl (Nat.le_of_ble_eq_true rfl) rfl ?_
    refine kr_iinc (v := l4 + 1) (ls' := [some (.ref a0), some (.int l1), some (.int l4), some (.int l6), some (.int (l4 + 1)), none, some (.int l6)]) dX0_trickToTry_69 rfl rfl (Nat.le_of_ble_eq_true rfl) rfl ?_
    refine kr_goto (tgt := 14) dX0_trickToTry_72 rfl ?_
    refine kv_loc (ls' := [some (.ref a0), some (.int l1), some (.int l4), some (.int l6), some (.int (l4 + 1)), none, none]) (And.intro rfl (And.intro rfl (And.intro rfl (And.intro rfl (And.intro rfl trivial))))) ?_
    exact hk14 _ _ _ _ _ _ h
