theorem tin_1 {w : Cond} (h : w ∈ tables_1_1) : w ∈ lw_tbl := List.mem_append_right _ (List.mem_append_left _ h)
theorem tin_2 {w : Cond} (h : w ∈ tables_1_2) : w ∈ lw_tbl := List.mem_append_right _ (List.mem_append_right _ (List.mem_append_left _ h))
theorem tin_3 {w : Cond} (h : w ∈ tables_1_3) : w ∈ lw_tbl := List.mem_append_right _ (List.mem_append_right _ (List.mem_append_right _ (List.mem_append_left _ h)))
theorem tin_4 {w : Cond} (h : w ∈ tables_1_4) : w ∈ lw_tbl := List.mem_append_right _ (List.mem_append_right _ (List.mem_append_right _ (List.mem_append_right _ (List.mem_append_left _ h))))
theorem tin_5 {w : Cond} (h : w ∈ tables_1_5) : w ∈ lw_tbl := List.mem_append_right _ (List.mem_append_right _ (List.mem_append_right _ (List.mem_append_right _ (List.mem_append_right _ (List.mem_append_left _ h)))))
theorem tin_6 {w : Cond} (h : w ∈ tables_1_6) : w ∈ lw_tbl := List.mem_append_right _ (List.mem_append_right _ (List.mem_append_right _ (List.mem_append_right _ (List.mem_append_right _ (List.mem_append_right _ (List.mem_append_left _ h))))))
theorem tin_7 {w : Cond} (h : w ∈ tables_1_7) : w ∈ lw_tbl := List.mem_append_right _ (List.mem_append_right _ (List.mem_append_right _ (List.mem_append_right _ (List.mem_append_right _ (List.mem_append_right _ (List.mem_append_right _ (List.mem_append_left _ h)))))))
theorem tin_8 {w : Cond} (h : w ∈ tables_1_8) : w ∈ lw_tbl := List.mem_append_right _ (List.mem_append_right _ (List.mem_append_right _ (List.mem_append_right _ (List.mem_append_right _ (List.mem_append_right _ (List.mem_append_right _ (List.mem_append_right _ (List.mem_append_left _ h))))))))
theorem tin_9 {w : Cond} (h : w ∈ tables_1_9) : w ∈ lw_tbl := List.mem_append_right _ (List.mem_append_right _ (List.mem_append_right _ (List.mem_append_right _ (List.mem_append_right _ (List.mem_append_right _ (List.mem_append_right _ (List.mem_append_right _ (List.mem_append_right _ (h)))))))))
theorem tin_0 {w : Cond} (h : w ∈ k2_sels lw_privs) : w ∈ lw_tbl := List.mem_append_left _ h
theorem tw_0 : Cond.selects RX0 yX0_countMissed yX0_countMissed ∈ TB := TB_of (tin_0 (List.mem_of_getElem? (i := 0) (by decide +kernel))) rfl
theorem tw_1 : Cond.selects RX8 yX8_split yX8_split ∈ TB := TB_of (tin_0 (List.mem_of_getElem? (i := 1) (by decide +kernel))) rfl
theorem tw_2 : Cond.selects RX8 yX8_endOfThing yX8_endOfThing ∈ TB := TB_of (tin_0 (List.mem_of_getElem? (i := 2) (by decide +kernel))) rfl
theorem tw_3 : Cond.selects RX8 yX8_thingOf yX8_thingOf ∈ TB := TB_of (tin_0 (List.mem_of_getElem? (i := 3) (by decide +kernel))) rfl
theorem tw_4 : Cond.selects RX8 yX8_wordOf yX8_wordOf ∈ TB := TB_of (tin_0 (List.mem_of_getElem? (i := 4) (by decide +kernel))) rfl
theorem tw_5 : Cond.selects RX8 yX8_indexIn yX8_indexIn ∈ TB := TB_of (tin_0 (List.mem_of_getElem? (i := 5) (by decide +kernel))) rfl
theorem tw_6 : Cond.selects RX8 yX8_here yX8_here ∈ TB := TB_of (tin_0 (List.mem_of_getElem? (i := 6) (by decide +kernel))) rfl
theorem tw_7 : Cond.selects RX8 yX8_readLine yX8_readLine ∈ TB := TB_of (tin_0 (List.mem_of_getElem? (i := 7) (by decide +kernel))) rfl
theorem tw_8 : Cond.selects RX8 yX8_take yX8_take ∈ TB := TB_of (tin_0 (List.mem_of_getElem? (i := 8) (by decide +kernel))) rfl
theorem tw_9 : Cond.selects RX8 yX8_readEither yX8_readEither ∈ TB := TB_of (tin_0 (List.mem_of_getElem? (i := 9) (by decide +kernel))) rfl
theorem tw_10 : Cond.selects RX8 yX8_readAll yX8_readAll ∈ TB := TB_of (tin_0 (List.mem_of_getElem? (i := 10) (by decide +kernel))) rfl
theorem tw_11 : Cond.selects RX8 yX8_readAtom yX8_readAtom ∈ TB := TB_of (tin_0 (List.mem_of_getElem? (i := 11) (by decide +kernel))) rfl
theorem tw_12 : Cond.selects RX8 yX8_write yX8_write ∈ TB := TB_of (tin_0 (List.mem_of_getElem? (i := 12) (by decide +kernel))) rfl
theorem tw_13 : Cond.selects RX8 yX8_readSum yX8_readSum ∈ TB := TB_of (tin_0 (List.mem_of_getElem? (i := 13) (by decide +kernel))) rfl
theorem tw_15 : Cond.selects RX11 yX11_checkDoor yX11_checkDoor ∈ TB := TB_of (tin_0 (List.mem_of_getElem? (i := 15) (by decide +kernel))) rfl
theorem tw_16 : Cond.selects RX11 yX11_checkHouse yX11_checkHouse ∈ TB := TB_of (tin_0 (List.mem_of_getElem? (i := 16) (by decide +kernel))) rfl
theorem tw_17 : Cond.selects RX11 yX11_checkPlaceIn yX11_checkPlaceIn ∈ TB := TB_of (tin_0 (List.mem_of_getElem? (i := 17) (by decide +kernel))) rfl
theorem tw_18 : Cond.selects RX11 yX11_checkPack yX11_checkPack ∈ TB := TB_of (tin_0 (List.mem_of_getElem? (i := 18) (by decide +kernel))) rfl
theorem tw_19 : Cond.selects RX11 yX11_checkPer yX11_checkPer ∈ TB := TB_of (tin_0 (List.mem_of_getElem? (i := 19) (by decide +kernel))) rfl
theorem tw_20 : Cond.selects RX11 yX11_checkSeconds yX11_checkSeconds ∈ TB := TB_of (tin_0 (List.mem_of_getElem? (i := 20) (by decide +kernel))) rfl
theorem tw_21 : Cond.selects RX11 yX11_checkClock yX11_checkClock ∈ TB := TB_of (tin_0 (List.mem_of_getElem? (i := 21) (by decide +kernel))) rfl
theorem tw_22 : Cond.selects RX11 yX11_checkPut yX11_checkPut ∈ TB := TB_of (tin_0 (List.mem_of_getElem? (i := 22) (by decide +kernel))) rfl
theorem tw_23 : Cond.selects RX11 yX11_checkLaw yX11_checkLaw ∈ TB := TB_of (tin_0 (List.mem_of_getElem? (i := 23) (by decide +kernel))) rfl
theorem tw_24 : Cond.selects RX9 yX9_isMet yX9_isMet ∈ TB := TB_of (tin_0 (List.mem_of_getElem? (i := 24) (by decide +kernel))) rfl
theorem tw_25 : Cond.selects RX5 yX5_sumBy yX5_sumBy ∈ TB := TB_of (tin_0 (List.mem_of_getElem? (i := 25) (by decide +kernel))) rfl
theorem tw_26 : Cond.selects RX6 yX6_ghostAt yX6_ghostAt ∈ TB := TB_of (tin_0 (List.mem_of_getElem? (i := 26) (by decide +kernel))) rfl
theorem tw_27 : Cond.selects RX6 yX6_alikeTo yX6_alikeTo ∈ TB := TB_of (tin_0 (List.mem_of_getElem? (i := 27) (by decide +kernel))) rfl
theorem tw_28 : Cond.selects RX6 yX6_swappedWith yX6_swappedWith ∈ TB := TB_of (tin_0 (List.mem_of_getElem? (i := 28) (by decide +kernel))) rfl
theorem tw_29 : Cond.selects RX11 yX11_checkRule yX11_checkRule ∈ TB := TB_of (tin_0 (List.mem_of_getElem? (i := 29) (by decide +kernel))) rfl
theorem tw_30 : Cond.selects RX2 yX2_saidCards yX2_saidCards ∈ TB := TB_of (tin_0 (List.mem_of_getElem? (i := 30) (by decide +kernel))) rfl
theorem tw_31 : Cond.selects RX1 yX1_findOwn yX1_findOwn ∈ TB := TB_of (tin_0 (List.mem_of_getElem? (i := 31) (by decide +kernel))) rfl
theorem tw_32 : Cond.selects RX1 yX1_spread yX1_spread ∈ TB := TB_of (tin_0 (List.mem_of_getElem? (i := 32) (by decide +kernel))) rfl
theorem tw_33 : Cond.selects RX1 yX1_takeIfBetter yX1_takeIfBetter ∈ TB := TB_of (tin_0 (List.mem_of_getElem? (i := 33) (by decide +kernel))) rfl
theorem tw_34 : Cond.selects RX11 yX11_checkPlanned yX11_checkPlanned ∈ TB := TB_of (tin_0 (List.mem_of_getElem? (i := 34) (by decide +kernel))) rfl
theorem tw_35 : Cond.selects RX3 yX3_settle yX3_settle ∈ TB := TB_of (tin_0 (List.mem_of_getElem? (i := 35) (by decide +kernel))) rfl
theorem tw_36 : Cond.selects RX11 yX11_oddsOfWhole yX11_oddsOfWhole ∈ TB := TB_of (tin_0 (List.mem_of_getElem? (i := 36) (by decide +kernel))) rfl
theorem tw_37 : Cond.selects RX11 yX11_isRate yX11_isRate ∈ TB := TB_of (tin_0 (List.mem_of_getElem? (i := 37) (by decide +kernel))) rfl
theorem tw_38 : Cond.selects RX11 yX11_nextWeekEdge yX11_nextWeekEdge ∈ TB := TB_of (tin_0 (List.mem_of_getElem? (i := 38) (by decide +kernel))) rfl
theorem tw_39 : Cond.selects RX0 yX0_sumUp yX0_sumUp ∈ TB := TB_of (tin_0 (List.mem_of_getElem? (i := 39) (by decide +kernel))) rfl
theorem tw_40 : Cond.selects RX0 yX0_gainAs yX0_gainAs ∈ TB := TB_of (tin_0 (List.mem_of_getElem? (i := 40) (by decide +kernel))) rfl
theorem tw_41 : Cond.selects RX12 yX12_keeps yX12_keeps ∈ TB := TB_of (tin_0 (List.mem_of_getElem? (i := 41) (by decide +kernel))) rfl
theorem tw_42 : Cond.selects RX12 yX12_readAll yX12_readAll ∈ TB := TB_of (tin_0 (List.mem_of_getElem? (i := 42) (by decide +kernel))) rfl
theorem tw_43 : Cond.selects RX12 yX12_blanks yX12_blanks ∈ TB := TB_of (tin_0 (List.mem_of_getElem? (i := 43) (by decide +kernel))) rfl
theorem tw_44 : Cond.selects RX12 yX12_isAt yX12_isAt ∈ TB := TB_of (tin_0 (List.mem_of_getElem? (i := 44) (by decide +kernel))) rfl
theorem tw_45 : Cond.selects RX12 yX12_readLine yX12_readLine ∈ TB := TB_of (tin_0 (List.mem_of_getElem? (i := 45) (by decide +kernel))) rfl
theorem tw_46 : Cond.selects RX12 yX12_letters yX12_letters ∈ TB := TB_of (tin_0 (List.mem_of_getElem? (i := 46) (by decide +kernel))) rfl
theorem tw_47 : Cond.selects RX12 yX12_isWord yX12_isWord ∈ TB := TB_of (tin_0 (List.mem_of_getElem? (i := 47) (by decide +kernel))) rfl
theorem tw_48 : Cond.selects RX12 yX12_number yX12_number ∈ TB := TB_of (tin_0 (List.mem_of_getElem? (i := 48) (by decide +kernel))) rfl
theorem tw_49 : Cond.selects RX12 yX12_sign yX12_sign ∈ TB := TB_of (tin_0 (List.mem_of_getElem? (i := 49) (by decide +kernel))) rfl
theorem tw_50 : Cond.selects RX12 yX12_factAt yX12_factAt ∈ TB := TB_of (tin_0 (List.mem_of_getElem? (i := 50) (by decide +kernel))) rfl
theorem tw_51 : Cond.selects RX12 yX12_passes yX12_passes ∈ TB := TB_of (tin_0 (List.mem_of_getElem? (i := 51) (by decide +kernel))) rfl
theorem tw_52 : Cond.selects RX12 yX12_readCond yX12_readCond ∈ TB := TB_of (tin_0 (List.mem_of_getElem? (i := 52) (by decide +kernel))) rfl
theorem tw_53 : Cond.selects RX12 yX12_readAllOf yX12_readAllOf ∈ TB := TB_of (tin_0 (List.mem_of_getElem? (i := 53) (by decide +kernel))) rfl
theorem tw_54 : Cond.selects RX12 yX12_readAtom yX12_readAtom ∈ TB := TB_of (tin_0 (List.mem_of_getElem? (i := 54) (by decide +kernel))) rfl
theorem tw_55 : Cond.selects RX12 yX12_emits yX12_emits ∈ TB := TB_of (tin_0 (List.mem_of_getElem? (i := 55) (by decide +kernel))) rfl
theorem tw_56 : Cond.selects RX12 yX12_tagAt yX12_tagAt ∈ TB := TB_of (tin_0 (List.mem_of_getElem? (i := 56) (by decide +kernel))) rfl
theorem tw_57 : Cond.selects RX12 yX12_readSum yX12_readSum ∈ TB := TB_of (tin_0 (List.mem_of_getElem? (i := 57) (by decide +kernel))) rfl
theorem tw_58 : Cond.selects RX12 yX12_readPart yX12_readPart ∈ TB := TB_of (tin_0 (List.mem_of_getElem? (i := 58) (by decide +kernel))) rfl
theorem tw_59 : Cond.selects RX12 yX12_throwsIf yX12_throwsIf ∈ TB := TB_of (tin_0 (List.mem_of_getElem? (i := 59) (by decide +kernel))) rfl
theorem tw_60 : Cond.selects RX12 yX12_dullOf yX12_dullOf ∈ TB := TB_of (tin_0 (List.mem_of_getElem? (i := 60) (by decide +kernel))) rfl
theorem tw_61 : Cond.selects RX12 yX12_noDoor yX12_noDoor ∈ TB := TB_of (tin_0 (List.mem_of_getElem? (i := 61) (by decide +kernel))) rfl
theorem tw_62 : Cond.selects RX12 yX12_none yX12_none ∈ TB := TB_of (tin_0 (List.mem_of_getElem? (i := 62) (by decide +kernel))) rfl
theorem tw_63 : Cond.selects RX12 yX12_doors yX12_doors ∈ TB := TB_of (tin_0 (List.mem_of_getElem? (i := 63) (by decide +kernel))) rfl
theorem tw_64 : Cond.selects RX12 yX12_sets yX12_sets ∈ TB := TB_of (tin_0 (List.mem_of_getElem? (i := 64) (by decide +kernel))) rfl
theorem tw_65 : Cond.selects RX12 yX12_noPlace yX12_noPlace ∈ TB := TB_of (tin_0 (List.mem_of_getElem? (i := 65) (by decide +kernel))) rfl
theorem tw_66 : Cond.selects RX12 yX12_noPack yX12_noPack ∈ TB := TB_of (tin_0 (List.mem_of_getElem? (i := 66) (by decide +kernel))) rfl
theorem tw_67 : Cond.selects RX12 yX12_of yX12_of ∈ TB := TB_of (tin_0 (List.mem_of_getElem? (i := 67) (by decide +kernel))) rfl
theorem tw_68 : Cond.selects RX12 yX12_cardOf yX12_cardOf ∈ TB := TB_of (tin_0 (List.mem_of_getElem? (i := 68) (by decide +kernel))) rfl
theorem tw_69 : Cond.selects RX12 yX12_isPut yX12_isPut ∈ TB := TB_of (tin_0 (List.mem_of_getElem? (i := 69) (by decide +kernel))) rfl
theorem tw_70 : Cond.selects RX12 yX12_touches yX12_touches ∈ TB := TB_of (tin_0 (List.mem_of_getElem? (i := 70) (by decide +kernel))) rfl
theorem tw_71 : Cond.selects RX12 yX12_places yX12_places ∈ TB := TB_of (tin_0 (List.mem_of_getElem? (i := 71) (by decide +kernel))) rfl
theorem tw_72 : Cond.selects RX12 yX12_ageOf yX12_ageOf ∈ TB := TB_of (tin_0 (List.mem_of_getElem? (i := 72) (by decide +kernel))) rfl
theorem tw_73 : Cond.selects RX12 yX12_asks yX12_asks ∈ TB := TB_of (tin_0 (List.mem_of_getElem? (i := 73) (by decide +kernel))) rfl
theorem tw_74 : Cond.selects RX12 yX12_supposes yX12_supposes ∈ TB := TB_of (tin_0 (List.mem_of_getElem? (i := 74) (by decide +kernel))) rfl
theorem tw_75 : Cond.selects RX12 yX12_oldAt yX12_oldAt ∈ TB := TB_of (tin_0 (List.mem_of_getElem? (i := 75) (by decide +kernel))) rfl
theorem tw_76 : Cond.selects RX12 yX12_placeAt yX12_placeAt ∈ TB := TB_of (tin_0 (List.mem_of_getElem? (i := 76) (by decide +kernel))) rfl
theorem tw_77 : Cond.selects RX12 yX12_likeAt yX12_likeAt ∈ TB := TB_of (tin_0 (List.mem_of_getElem? (i := 77) (by decide +kernel))) rfl
theorem tw_78 : Cond.selects RX12 yX12_lookOf yX12_lookOf ∈ TB := TB_of (tin_0 (List.mem_of_getElem? (i := 78) (by decide +kernel))) rfl
theorem tw_79 : Cond.selects RX12 yX12_noLaw yX12_noLaw ∈ TB := TB_of (tin_0 (List.mem_of_getElem? (i := 79) (by decide +kernel))) rfl
theorem tw_80 : Cond.selects RX12 yX12_heldOf yX12_heldOf ∈ TB := TB_of (tin_0 (List.mem_of_getElem? (i := 80) (by decide +kernel))) rfl
theorem tw_81 : Cond.selects RX12 yX12_held yX12_held ∈ TB := TB_of (tin_0 (List.mem_of_getElem? (i := 81) (by decide +kernel))) rfl
theorem tw_82 : Cond.selects RX12 yX12_told yX12_told ∈ TB := TB_of (tin_0 (List.mem_of_getElem? (i := 82) (by decide +kernel))) rfl
theorem tw_83 : Cond.selects RX12 yX12_holdsLine yX12_holdsLine ∈ TB := TB_of (tin_0 (List.mem_of_getElem? (i := 83) (by decide +kernel))) rfl
theorem tw_84 : Cond.selects RX12 yX12_awaitedIn yX12_awaitedIn ∈ TB := TB_of (tin_0 (List.mem_of_getElem? (i := 84) (by decide +kernel))) rfl
theorem tw_85 : Cond.selects RX12 yX12_kindOf yX12_kindOf ∈ TB := TB_of (tin_0 (List.mem_of_getElem? (i := 85) (by decide +kernel))) rfl
theorem tw_86 : Cond.selects RX12 yX12_slip yX12_slip ∈ TB := TB_of (tin_0 (List.mem_of_getElem? (i := 86) (by decide +kernel))) rfl
theorem tw_87 : Cond.selects RX12 yX12_ghostOf yX12_ghostOf ∈ TB := TB_of (tin_0 (List.mem_of_getElem? (i := 87) (by decide +kernel))) rfl
theorem tw_88 : Cond.selects RX12 yX12_cardAt yX12_cardAt ∈ TB := TB_of (tin_0 (List.mem_of_getElem? (i := 88) (by decide +kernel))) rfl
theorem tw_89 : Cond.selects RX12 yX12_alikeOf yX12_alikeOf ∈ TB := TB_of (tin_0 (List.mem_of_getElem? (i := 89) (by decide +kernel))) rfl
theorem tw_90 : Cond.selects RX12 yX12_draw yX12_draw ∈ TB := TB_of (tin_0 (List.mem_of_getElem? (i := 90) (by decide +kernel))) rfl
theorem tw_91 : Cond.selects RX12 yX12_allWeights yX12_allWeights ∈ TB := TB_of (tin_0 (List.mem_of_getElem? (i := 91) (by decide +kernel))) rfl
theorem tw_92 : Cond.selects RX12 yX12_weightOf yX12_weightOf ∈ TB := TB_of (tin_0 (List.mem_of_getElem? (i := 92) (by decide +kernel))) rfl
theorem tw_93 : Cond.selects RX12 yX12_kindsOf yX12_kindsOf ∈ TB := TB_of (tin_0 (List.mem_of_getElem? (i := 93) (by decide +kernel))) rfl
theorem tw_94 : Cond.selects RX12 yX12_noRule yX12_noRule ∈ TB := TB_of (tin_0 (List.mem_of_getElem? (i := 94) (by decide +kernel))) rfl
theorem tw_95 : Cond.selects RX12 yX12_scored yX12_scored ∈ TB := TB_of (tin_0 (List.mem_of_getElem? (i := 95) (by decide +kernel))) rfl
theorem tw_96 : Cond.selects RX12 yX12_lackMany yX12_lackMany ∈ TB := TB_of (tin_0 (List.mem_of_getElem? (i := 96) (by decide +kernel))) rfl
theorem tw_97 : Cond.selects RX12 yX12_isSaid yX12_isSaid ∈ TB := TB_of (tin_0 (List.mem_of_getElem? (i := 97) (by decide +kernel))) rfl
theorem tw_98 : Cond.selects RX12 yX12_lackOf yX12_lackOf ∈ TB := TB_of (tin_0 (List.mem_of_getElem? (i := 98) (by decide +kernel))) rfl
theorem tw_99 : Cond.selects RX12 yX12_guesses yX12_guesses ∈ TB := TB_of (tin_0 (List.mem_of_getElem? (i := 99) (by decide +kernel))) rfl
theorem tw_100 : Cond.selects RX12 yX12_awaitedBy yX12_awaitedBy ∈ TB := TB_of (tin_0 (List.mem_of_getElem? (i := 100) (by decide +kernel))) rfl
theorem tw_101 : Cond.selects RX12 yX12_awaitedAt yX12_awaitedAt ∈ TB := TB_of (tin_0 (List.mem_of_getElem? (i := 101) (by decide +kernel))) rfl
theorem tw_102 : Cond.selects RX12 yX12_oddsOf yX12_oddsOf ∈ TB := TB_of (tin_0 (List.mem_of_getElem? (i := 102) (by decide +kernel))) rfl
theorem tw_103 : Cond.selects RX12 yX12_heldBy yX12_heldBy ∈ TB := TB_of (tin_0 (List.mem_of_getElem? (i := 103) (by decide +kernel))) rfl
theorem tw_104 : Cond.selects RX12 yX12_exchanges yX12_exchanges ∈ TB := TB_of (tin_0 (List.mem_of_getElem? (i := 104) (by decide +kernel))) rfl
theorem tw_105 : Cond.initialized RL ∈ TB := TB_of (tin_1 (List.mem_of_getElem? (i := 0) (by decide +kernel))) rfl
theorem tw_106 : Cond.initialized RX11 ∈ TB := TB_of (tin_1 (List.mem_of_getElem? (i := 1) (by decide +kernel))) rfl
theorem tw_107 : Cond.initialized RX8 ∈ TB := TB_of (tin_1 (List.mem_of_getElem? (i := 2) (by decide +kernel))) rfl
theorem tw_108 : Cond.initialized RX7 ∈ TB := TB_of (tin_1 (List.mem_of_getElem? (i := 3) (by decide +kernel))) rfl
theorem tw_109 : Cond.initialized RX2 ∈ TB := TB_of (tin_1 (List.mem_of_getElem? (i := 4) (by decide +kernel))) rfl
theorem tw_110 : Cond.initialized RX4 ∈ TB := TB_of (tin_1 (List.mem_of_getElem? (i := 5) (by decide +kernel))) rfl
theorem tw_111 : Cond.initialized RX9 ∈ TB := TB_of (tin_1 (List.mem_of_getElem? (i := 6) (by decide +kernel))) rfl
theorem tw_112 : Cond.initialized RX5 ∈ TB := TB_of (tin_1 (List.mem_of_getElem? (i := 7) (by decide +kernel))) rfl
theorem tw_113 : Cond.initialized RX6 ∈ TB := TB_of (tin_1 (List.mem_of_getElem? (i := 8) (by decide +kernel))) rfl
theorem tw_114 : Cond.initialized RX1 ∈ TB := TB_of (tin_1 (List.mem_of_getElem? (i := 9) (by decide +kernel))) rfl
theorem tw_115 : Cond.initialized RX3 ∈ TB := TB_of (tin_1 (List.mem_of_getElem? (i := 10) (by decide +kernel))) rfl
theorem tw_116 : Cond.initialized RX0 ∈ TB := TB_of (tin_1 (List.mem_of_getElem? (i := 11) (by decide +kernel))) rfl
theorem tw_117 : Cond.initialized RX12 ∈ TB := TB_of (tin_1 (List.mem_of_getElem? (i := 12) (by decide +kernel))) rfl
theorem tw_118 : Cond.initialized RJ0 ∈ TB := TB_of (tin_1 (List.mem_of_getElem? (i := 13) (by decide +kernel))) rfl
theorem tw_119 : Cond.initialized RJ1 ∈ TB := TB_of (tin_1 (List.mem_of_getElem? (i := 14) (by decide +kernel))) rfl
theorem tw_120 : Cond.initialized RJ3 ∈ TB := TB_of (tin_1 (List.mem_of_getElem? (i := 15) (by decide +kernel))) rfl
theorem tw_121 : Cond.initialized RJ2 ∈ TB := TB_of (tin_1 (List.mem_of_getElem? (i := 16) (by decide +kernel))) rfl
theorem tw_122 : Cond.initialized RX10 ∈ TB := TB_of (tin_1 (List.mem_of_getElem? (i := 17) (by decide +kernel))) rfl
theorem tw_123 : Cond.initialized RJ7 ∈ TB := TB_of (tin_1 (List.mem_of_getElem? (i := 18) (by decide +kernel))) rfl
theorem tw_124 : Cond.initialized RJ9 ∈ TB := TB_of (tin_1 (List.mem_of_getElem? (i := 19) (by decide +kernel))) rfl
theorem tw_125 : Cond.initialized RJ10 ∈ TB := TB_of (tin_1 (List.mem_of_getElem? (i := 20) (by decide +kernel))) rfl
theorem tw_126 : Cond.initialized "java/lang/Throwable" ∈ TB := TB_of (tin_1 (List.mem_of_getElem? (i := 21) (by decide +kernel))) rfl
theorem tw_127 : Cond.initialized "java/lang/Exception" ∈ TB := TB_of (tin_1 (List.mem_of_getElem? (i := 22) (by decide +kernel))) rfl
theorem tw_128 : Cond.initialized "java/lang/RuntimeException" ∈ TB := TB_of (tin_1 (List.mem_of_getElem? (i := 23) (by decide +kernel))) rfl
theorem tw_129 : Cond.initialized "java/lang/IllegalArgumentException" ∈ TB := TB_of (tin_1 (List.mem_of_getElem? (i := 24) (by decide +kernel))) rfl
theorem tw_130 : Cond.initialized "java/lang/UnsupportedOperationException" ∈ TB := TB_of (tin_1 (List.mem_of_getElem? (i := 25) (by decide +kernel))) rfl
theorem tw_131 : Cond.initialized "java/lang/IndexOutOfBoundsException" ∈ TB := TB_of (tin_1 (List.mem_of_getElem? (i := 26) (by decide +kernel))) rfl
theorem tw_132 : Cond.initialized "java/lang/IllegalStateException" ∈ TB := TB_of (tin_1 (List.mem_of_getElem? (i := 27) (by decide +kernel))) rfl
theorem tw_133 : Cond.initialized "java/util/NoSuchElementException" ∈ TB := TB_of (tin_1 (List.mem_of_getElem? (i := 28) (by decide +kernel))) rfl
theorem tw_134 : Cond.initialized RJ6 ∈ TB := TB_of (tin_1 (List.mem_of_getElem? (i := 29) (by decide +kernel))) rfl
theorem tw_135 : Cond.classLink RL 8 RX11 ∈ TB := TB_of (tin_1 (List.mem_of_getElem? (i := 30) (by decide +kernel))) rfl
theorem tw_136 : Cond.instantiable RX11 9 ∈ TB := TB_of (tin_1 (List.mem_of_getElem? (i := 31) (by decide +kernel))) rfl
theorem tw_137 : Cond.methodLink RL 128 yX11_init ∈ TB := TB_of (tin_1 (List.mem_of_getElem? (i := 32) (by decide +kernel))) rfl
theorem tw_138 : Cond.instanceMethod yX11_init ∈ TB := TB_of (tin_1 (List.mem_of_getElem? (i := 33) (by decide +kernel))) rfl
theorem tw_139 : Cond.code yX11_init cX11_init 1 none ∈ TB := TB_of (tin_1 (List.mem_of_getElem? (i := 34) (by decide +kernel))) rfl
theorem tw_143 : Cond.classLink RX11 7 RX8 ∈ TB := TB_of (tin_1 (List.mem_of_getElem? (i := 38) (by decide +kernel))) rfl
theorem tw_144 : Cond.instantiable RX8 12 ∈ TB := TB_of (tin_1 (List.mem_of_getElem? (i := 39) (by decide +kernel))) rfl
theorem tw_146 : Cond.instanceMethod yX8_init ∈ TB := TB_of (tin_1 (List.mem_of_getElem? (i := 41) (by decide +kernel))) rfl
theorem tw_147 : Cond.code yX8_init cX8_init 1 none ∈ TB := TB_of (tin_1 (List.mem_of_getElem? (i := 42) (by decide +kernel))) rfl
theorem tw_149 : Cond.fieldLink RX8 11 RX8 "bytes" "[I" ∈ TB := TB_of (tin_1 (List.mem_of_getElem? (i := 44) (by decide +kernel))) rfl
theorem tw_150 : Cond.fieldLink RX8 15 RX8 "length" "I" ∈ TB := TB_of (tin_1 (List.mem_of_getElem? (i := 45) (by decide +kernel))) rfl
theorem tw_151 : Cond.fieldLink RX11 84 RX8 "length" "I" ∈ TB := TB_of (tin_1 (List.mem_of_getElem? (i := 46) (by decide +kernel))) rfl
theorem tw_152 : Cond.fieldLink RX8 19 RX8 "things" "[I" ∈ TB := TB_of (tin_1 (List.mem_of_getElem? (i := 47) (by decide +kernel))) rfl
theorem tw_153 : Cond.fieldLink RX8 22 RX8 "begins" "[I" ∈ TB := TB_of (tin_1 (List.mem_of_getElem? (i := 48) (by decide +kernel))) rfl
theorem tw_154 : Cond.fieldLink RX8 27 RX8 "amounts" "[I" ∈ TB := TB_of (tin_1 (List.mem_of_getElem? (i := 49) (by decide +kernel))) rfl
theorem tw_155 : Cond.fieldLink RX8 30 RX8 "times" "[I" ∈ TB := TB_of (tin_1 (List.mem_of_getElem? (i := 50) (by decide +kernel))) rfl
theorem tw_156 : Cond.fieldLink RX8 33 RX8 "ends" "[I" ∈ TB := TB_of (tin_1 (List.mem_of_getElem? (i := 51) (by decide +kernel))) rfl
theorem tw_157 : Cond.fieldLink RX8 36 RX8 "code" "[I" ∈ TB := TB_of (tin_1 (List.mem_of_getElem? (i := 52) (by decide +kernel))) rfl
theorem tw_158 : Cond.fieldLink RX8 39 RX8 "wrongByte" "I" ∈ TB := TB_of (tin_1 (List.mem_of_getElem? (i := 53) (by decide +kernel))) rfl
theorem tw_159 : Cond.fieldLink RX11 121 RX8 "wrongByte" "I" ∈ TB := TB_of (tin_1 (List.mem_of_getElem? (i := 54) (by decide +kernel))) rfl
theorem tw_160 : Cond.fieldLink RX8 42 RX8 "at" "I" ∈ TB := TB_of (tin_1 (List.mem_of_getElem? (i := 55) (by decide +kernel))) rfl
theorem tw_161 : Cond.fieldLink RX8 45 RX8 "lines" "I" ∈ TB := TB_of (tin_1 (List.mem_of_getElem? (i := 56) (by decide +kernel))) rfl
theorem tw_162 : Cond.fieldLink RX8 48 RX8 "written" "I" ∈ TB := TB_of (tin_1 (List.mem_of_getElem? (i := 57) (by decide +kernel))) rfl
theorem tw_189 : Cond.classLink RX11 16 RX7 ∈ TB := TB_of (tin_1 (List.mem_of_getElem? (i := 84) (by decide +kernel))) rfl
theorem tw_190 : Cond.instantiable RX7 17 ∈ TB := TB_of (tin_1 (List.mem_of_getElem? (i := 85) (by decide +kernel))) rfl
theorem tw_191 : Cond.methodLink RX11 18 yX7_init ∈ TB := TB_of (tin_1 (List.mem_of_getElem? (i := 86) (by decide +kernel))) rfl
theorem tw_192 : Cond.instanceMethod yX7_init ∈ TB := TB_of (tin_1 (List.mem_of_getElem? (i := 87) (by decide +kernel))) rfl
theorem tw_193 : Cond.code yX7_init cX7_init 2 none ∈ TB := TB_of (tin_1 (List.mem_of_getElem? (i := 88) (by decide +kernel))) rfl
theorem tw_195 : Cond.classLink RX7 28 RX2 ∈ TB := TB_of (tin_1 (List.mem_of_getElem? (i := 90) (by decide +kernel))) rfl
theorem tw_197 : Cond.classLink RX7 43 RX10 ∈ TB := TB_of (tin_1 (List.mem_of_getElem? (i := 92) (by decide +kernel))) rfl
theorem tw_199 : Cond.instantiable RX2 6 ∈ TB := TB_of (tin_1 (List.mem_of_getElem? (i := 94) (by decide +kernel))) rfl
theorem tw_201 : Cond.instanceMethod yX2_init ∈ TB := TB_of (tin_1 (List.mem_of_getElem? (i := 96) (by decide +kernel))) rfl
theorem tw_202 : Cond.code yX2_init cX2_init 1 none ∈ TB := TB_of (tin_1 (List.mem_of_getElem? (i := 97) (by decide +kernel))) rfl
theorem tw_204 : Cond.classLink RX2 25 RX4 ∈ TB := TB_of (tin_1 (List.mem_of_getElem? (i := 99) (by decide +kernel))) rfl
theorem tw_205 : Cond.instantiable RX4 8 ∈ TB := TB_of (tin_1 (List.mem_of_getElem? (i := 100) (by decide +kernel))) rfl
theorem tw_207 : Cond.instanceMethod yX4_init ∈ TB := TB_of (tin_1 (List.mem_of_getElem? (i := 102) (by decide +kernel))) rfl
theorem tw_208 : Cond.code yX4_init cX4_init 1 none ∈ TB := TB_of (tin_1 (List.mem_of_getElem? (i := 103) (by decide +kernel))) rfl
theorem tw_210 : Cond.fieldLink RX4 7 RX4 "house" "I" ∈ TB := TB_of (tin_1 (List.mem_of_getElem? (i := 105) (by decide +kernel))) rfl
theorem tw_211 : Cond.fieldLink RX6 87 RX4 "house" "I" ∈ TB := TB_of (tin_1 (List.mem_of_getElem? (i := 106) (by decide +kernel))) rfl
theorem tw_212 : Cond.fieldLink RX2 74 RX4 "house" "I" ∈ TB := TB_of (tin_1 (List.mem_of_getElem? (i := 107) (by decide +kernel))) rfl
theorem tw_213 : Cond.fieldLink RX5 154 RX4 "house" "I" ∈ TB := TB_of (tin_1 (List.mem_of_getElem? (i := 108) (by decide +kernel))) rfl
theorem tw_214 : Cond.fieldLink RX4 13 RX4 "door" "I" ∈ TB := TB_of (tin_1 (List.mem_of_getElem? (i := 109) (by decide +kernel))) rfl
theorem tw_215 : Cond.fieldLink RX6 67 RX4 "door" "I" ∈ TB := TB_of (tin_1 (List.mem_of_getElem? (i := 110) (by decide +kernel))) rfl
theorem tw_216 : Cond.fieldLink RX5 132 RX4 "door" "I" ∈ TB := TB_of (tin_1 (List.mem_of_getElem? (i := 111) (by decide +kernel))) rfl
theorem tw_217 : Cond.fieldLink RX2 71 RX4 "door" "I" ∈ TB := TB_of (tin_1 (List.mem_of_getElem? (i := 112) (by decide +kernel))) rfl
theorem tw_218 : Cond.fieldLink RX11 250 RX4 "door" "I" ∈ TB := TB_of (tin_1 (List.mem_of_getElem? (i := 113) (by decide +kernel))) rfl
theorem tw_219 : Cond.fieldLink RX4 16 RX4 "per" "I" ∈ TB := TB_of (tin_1 (List.mem_of_getElem? (i := 114) (by decide +kernel))) rfl
theorem tw_220 : Cond.fieldLink RX2 52 RX4 "per" "I" ∈ TB := TB_of (tin_1 (List.mem_of_getElem? (i := 115) (by decide +kernel))) rfl
theorem tw_221 : Cond.fieldLink RX5 123 RX4 "per" "I" ∈ TB := TB_of (tin_1 (List.mem_of_getElem? (i := 116) (by decide +kernel))) rfl
theorem tw_222 : Cond.fieldLink RX4 19 RX4 "seconds" "I" ∈ TB := TB_of (tin_1 (List.mem_of_getElem? (i := 117) (by decide +kernel))) rfl
theorem tw_223 : Cond.fieldLink RX5 129 RX4 "seconds" "I" ∈ TB := TB_of (tin_1 (List.mem_of_getElem? (i := 118) (by decide +kernel))) rfl
theorem tw_224 : Cond.fieldLink RX4 22 RX4 "gone" "I" ∈ TB := TB_of (tin_1 (List.mem_of_getElem? (i := 119) (by decide +kernel))) rfl
theorem tw_225 : Cond.fieldLink RX5 82 RX4 "gone" "I" ∈ TB := TB_of (tin_1 (List.mem_of_getElem? (i := 120) (by decide +kernel))) rfl
theorem tw_226 : Cond.fieldLink RX11 241 RX4 "gone" "I" ∈ TB := TB_of (tin_1 (List.mem_of_getElem? (i := 121) (by decide +kernel))) rfl
theorem tw_227 : Cond.fieldLink RX4 25 RX4 "touched" "I" ∈ TB := TB_of (tin_1 (List.mem_of_getElem? (i := 122) (by decide +kernel))) rfl
theorem tw_228 : Cond.fieldLink RX4 28 RX4 "pace" "I" ∈ TB := TB_of (tin_1 (List.mem_of_getElem? (i := 123) (by decide +kernel))) rfl
theorem tw_229 : Cond.fieldLink RX4 31 RX4 "order" "I" ∈ TB := TB_of (tin_1 (List.mem_of_getElem? (i := 124) (by decide +kernel))) rfl
theorem tw_230 : Cond.fieldLink RX5 111 RX4 "order" "I" ∈ TB := TB_of (tin_1 (List.mem_of_getElem? (i := 125) (by decide +kernel))) rfl
theorem tw_231 : Cond.fieldLink RX6 93 RX4 "order" "I" ∈ TB := TB_of (tin_1 (List.mem_of_getElem? (i := 126) (by decide +kernel))) rfl
theorem tw_232 : Cond.fieldLink RX11 223 RX4 "order" "I" ∈ TB := TB_of (tin_1 (List.mem_of_getElem? (i := 127) (by decide +kernel))) rfl
theorem tw_250 : Cond.fieldLink RX2 9 RX2 "start" "I" ∈ TB := TB_of (tin_1 (List.mem_of_getElem? (i := 145) (by decide +kernel))) rfl
theorem tw_251 : Cond.fieldLink RX2 15 RX2 "step" "I" ∈ TB := TB_of (tin_1 (List.mem_of_getElem? (i := 146) (by decide +kernel))) rfl
theorem tw_252 : Cond.fieldLink RX2 18 RX2 "size" "I" ∈ TB := TB_of (tin_1 (List.mem_of_getElem? (i := 147) (by decide +kernel))) rfl
theorem tw_253 : Cond.fieldLink RX1 66 RX2 "size" "I" ∈ TB := TB_of (tin_1 (List.mem_of_getElem? (i := 148) (by decide +kernel))) rfl
theorem tw_254 : Cond.fieldLink RX0 51 RX2 "size" "I" ∈ TB := TB_of (tin_1 (List.mem_of_getElem? (i := 149) (by decide +kernel))) rfl
theorem tw_255 : Cond.fieldLink RX5 126 RX2 "size" "I" ∈ TB := TB_of (tin_1 (List.mem_of_getElem? (i := 150) (by decide +kernel))) rfl
theorem tw_256 : Cond.fieldLink RX11 288 RX2 "size" "I" ∈ TB := TB_of (tin_1 (List.mem_of_getElem? (i := 151) (by decide +kernel))) rfl
theorem tw_257 : Cond.fieldLink RX2 21 RX2 "isPut" "Z" ∈ TB := TB_of (tin_1 (List.mem_of_getElem? (i := 152) (by decide +kernel))) rfl
theorem tw_258 : Cond.fieldLink RX0 56 RX2 "isPut" "Z" ∈ TB := TB_of (tin_1 (List.mem_of_getElem? (i := 153) (by decide +kernel))) rfl
theorem tw_259 : Cond.fieldLink RX7 85 RX2 "isPut" "Z" ∈ TB := TB_of (tin_1 (List.mem_of_getElem? (i := 154) (by decide +kernel))) rfl
theorem tw_260 : Cond.fieldLink RX5 150 RX2 "isPut" "Z" ∈ TB := TB_of (tin_1 (List.mem_of_getElem? (i := 155) (by decide +kernel))) rfl
theorem tw_261 : Cond.fieldLink RX11 185 RX2 "isPut" "Z" ∈ TB := TB_of (tin_1 (List.mem_of_getElem? (i := 156) (by decide +kernel))) rfl
theorem tw_262 : Cond.fieldLink RX2 28 RX2 "putting" "LMemoryHouse$Putting;" ∈ TB := TB_of (tin_1 (List.mem_of_getElem? (i := 157) (by decide +kernel))) rfl
theorem tw_263 : Cond.fieldLink RX5 36 RX2 "putting" "LMemoryHouse$Putting;" ∈ TB := TB_of (tin_1 (List.mem_of_getElem? (i := 158) (by decide +kernel))) rfl
theorem tw_264 : Cond.fieldLink RX0 81 RX2 "putting" "LMemoryHouse$Putting;" ∈ TB := TB_of (tin_1 (List.mem_of_getElem? (i := 159) (by decide +kernel))) rfl
theorem tw_265 : Cond.fieldLink RX6 63 RX2 "putting" "LMemoryHouse$Putting;" ∈ TB := TB_of (tin_1 (List.mem_of_getElem? (i := 160) (by decide +kernel))) rfl
theorem tw_266 : Cond.fieldLink RX11 211 RX2 "putting" "LMemoryHouse$Putting;" ∈ TB := TB_of (tin_1 (List.mem_of_getElem? (i := 161) (by decide +kernel))) rfl
theorem tw_267 : Cond.fieldLink RX2 32 RX2 "said" "[I" ∈ TB := TB_of (tin_1 (List.mem_of_getElem? (i := 162) (by decide +kernel))) rfl
theorem tw_268 : Cond.fieldLink RX6 25 RX2 "said" "[I" ∈ TB := TB_of (tin_1 (List.mem_of_getElem? (i := 163) (by decide +kernel))) rfl
theorem tw_269 : Cond.fieldLink RX1 69 RX2 "said" "[I" ∈ TB := TB_of (tin_1 (List.mem_of_getElem? (i := 164) (by decide +kernel))) rfl
theorem tw_270 : Cond.fieldLink RX0 64 RX2 "said" "[I" ∈ TB := TB_of (tin_1 (List.mem_of_getElem? (i := 165) (by decide +kernel))) rfl
theorem tw_271 : Cond.fieldLink RX11 265 RX2 "said" "[I" ∈ TB := TB_of (tin_1 (List.mem_of_getElem? (i := 166) (by decide +kernel))) rfl
theorem tw_285 : Cond.fieldLink RX7 9 RX7 "dulls" "[I" ∈ TB := TB_of (tin_1 (List.mem_of_getElem? (i := 180) (by decide +kernel))) rfl
theorem tw_286 : Cond.fieldLink RX5 56 RX7 "dulls" "[I" ∈ TB := TB_of (tin_1 (List.mem_of_getElem? (i := 181) (by decide +kernel))) rfl
theorem tw_287 : Cond.fieldLink RX0 75 RX7 "dulls" "[I" ∈ TB := TB_of (tin_1 (List.mem_of_getElem? (i := 182) (by decide +kernel))) rfl
theorem tw_288 : Cond.fieldLink RX11 131 RX7 "dulls" "[I" ∈ TB := TB_of (tin_1 (List.mem_of_getElem? (i := 183) (by decide +kernel))) rfl
theorem tw_289 : Cond.fieldLink RX7 15 RX7 "houseCount" "I" ∈ TB := TB_of (tin_1 (List.mem_of_getElem? (i := 184) (by decide +kernel))) rfl
theorem tw_290 : Cond.fieldLink RX11 137 RX7 "houseCount" "I" ∈ TB := TB_of (tin_1 (List.mem_of_getElem? (i := 185) (by decide +kernel))) rfl
theorem tw_291 : Cond.fieldLink RX7 19 RX7 "doors" "[I" ∈ TB := TB_of (tin_1 (List.mem_of_getElem? (i := 186) (by decide +kernel))) rfl
theorem tw_292 : Cond.fieldLink RX5 101 RX7 "doors" "[I" ∈ TB := TB_of (tin_1 (List.mem_of_getElem? (i := 187) (by decide +kernel))) rfl
theorem tw_293 : Cond.fieldLink RX11 203 RX7 "doors" "[I" ∈ TB := TB_of (tin_1 (List.mem_of_getElem? (i := 188) (by decide +kernel))) rfl
theorem tw_294 : Cond.fieldLink RX7 22 RX7 "looks" "[I" ∈ TB := TB_of (tin_1 (List.mem_of_getElem? (i := 189) (by decide +kernel))) rfl
theorem tw_295 : Cond.fieldLink RX11 152 RX7 "looks" "[I" ∈ TB := TB_of (tin_1 (List.mem_of_getElem? (i := 190) (by decide +kernel))) rfl
theorem tw_296 : Cond.fieldLink RX7 25 RX7 "packCount" "I" ∈ TB := TB_of (tin_1 (List.mem_of_getElem? (i := 191) (by decide +kernel))) rfl
theorem tw_297 : Cond.fieldLink RX0 41 RX7 "packCount" "I" ∈ TB := TB_of (tin_1 (List.mem_of_getElem? (i := 192) (by decide +kernel))) rfl
theorem tw_298 : Cond.fieldLink RX6 84 RX7 "packCount" "I" ∈ TB := TB_of (tin_1 (List.mem_of_getElem? (i := 193) (by decide +kernel))) rfl
theorem tw_299 : Cond.fieldLink RX11 161 RX7 "packCount" "I" ∈ TB := TB_of (tin_1 (List.mem_of_getElem? (i := 194) (by decide +kernel))) rfl
theorem tw_300 : Cond.fieldLink RX5 147 RX7 "packCount" "I" ∈ TB := TB_of (tin_1 (List.mem_of_getElem? (i := 195) (by decide +kernel))) rfl
theorem tw_301 : Cond.fieldLink RX7 30 RX7 "packs" "[LMemoryHouse$Pack;" ∈ TB := TB_of (tin_1 (List.mem_of_getElem? (i := 196) (by decide +kernel))) rfl
theorem tw_302 : Cond.fieldLink RX5 30 RX7 "packs" "[LMemoryHouse$Pack;" ∈ TB := TB_of (tin_1 (List.mem_of_getElem? (i := 197) (by decide +kernel))) rfl
theorem tw_303 : Cond.fieldLink RX6 19 RX7 "packs" "[LMemoryHouse$Pack;" ∈ TB := TB_of (tin_1 (List.mem_of_getElem? (i := 198) (by decide +kernel))) rfl
theorem tw_304 : Cond.fieldLink RX0 47 RX7 "packs" "[LMemoryHouse$Pack;" ∈ TB := TB_of (tin_1 (List.mem_of_getElem? (i := 199) (by decide +kernel))) rfl
theorem tw_305 : Cond.fieldLink RX11 166 RX7 "packs" "[LMemoryHouse$Pack;" ∈ TB := TB_of (tin_1 (List.mem_of_getElem? (i := 200) (by decide +kernel))) rfl
theorem tw_306 : Cond.fieldLink RX7 34 RX7 "putCount" "I" ∈ TB := TB_of (tin_1 (List.mem_of_getElem? (i := 201) (by decide +kernel))) rfl
theorem tw_307 : Cond.fieldLink RX5 108 RX7 "putCount" "I" ∈ TB := TB_of (tin_1 (List.mem_of_getElem? (i := 202) (by decide +kernel))) rfl
theorem tw_308 : Cond.fieldLink RX11 220 RX7 "putCount" "I" ∈ TB := TB_of (tin_1 (List.mem_of_getElem? (i := 203) (by decide +kernel))) rfl
theorem tw_309 : Cond.fieldLink RX7 37 RX7 "clock" "I" ∈ TB := TB_of (tin_1 (List.mem_of_getElem? (i := 204) (by decide +kernel))) rfl
theorem tw_310 : Cond.fieldLink RX5 45 RX7 "clock" "I" ∈ TB := TB_of (tin_1 (List.mem_of_getElem? (i := 205) (by decide +kernel))) rfl
theorem tw_311 : Cond.fieldLink RX0 88 RX7 "clock" "I" ∈ TB := TB_of (tin_1 (List.mem_of_getElem? (i := 206) (by decide +kernel))) rfl
theorem tw_312 : Cond.fieldLink RX11 226 RX7 "clock" "I" ∈ TB := TB_of (tin_1 (List.mem_of_getElem? (i := 207) (by decide +kernel))) rfl
theorem tw_313 : Cond.fieldLink RX7 40 RX7 "lawCount" "I" ∈ TB := TB_of (tin_1 (List.mem_of_getElem? (i := 208) (by decide +kernel))) rfl
theorem tw_314 : Cond.fieldLink RX11 99 RX7 "lawCount" "I" ∈ TB := TB_of (tin_1 (List.mem_of_getElem? (i := 209) (by decide +kernel))) rfl
theorem tw_315 : Cond.fieldLink RX7 45 RX7 "laws" "[LMemoryHouse$Text;" ∈ TB := TB_of (tin_1 (List.mem_of_getElem? (i := 210) (by decide +kernel))) rfl
theorem tw_316 : Cond.fieldLink RX11 107 RX7 "laws" "[LMemoryHouse$Text;" ∈ TB := TB_of (tin_1 (List.mem_of_getElem? (i := 211) (by decide +kernel))) rfl
theorem tw_317 : Cond.fieldLink RX7 49 RX7 "ruleCount" "I" ∈ TB := TB_of (tin_1 (List.mem_of_getElem? (i := 212) (by decide +kernel))) rfl
theorem tw_318 : Cond.fieldLink RX11 113 RX7 "ruleCount" "I" ∈ TB := TB_of (tin_1 (List.mem_of_getElem? (i := 213) (by decide +kernel))) rfl
theorem tw_319 : Cond.fieldLink RX7 52 RX7 "rules" "[LMemoryHouse$Text;" ∈ TB := TB_of (tin_1 (List.mem_of_getElem? (i := 214) (by decide +kernel))) rfl
theorem tw_320 : Cond.fieldLink RX11 118 RX7 "rules" "[LMemoryHouse$Text;" ∈ TB := TB_of (tin_1 (List.mem_of_getElem? (i := 215) (by decide +kernel))) rfl
theorem tw_321 : Cond.fieldLink RX7 55 RX7 "momentCount" "I" ∈ TB := TB_of (tin_1 (List.mem_of_getElem? (i := 216) (by decide +kernel))) rfl
theorem tw_322 : Cond.fieldLink RX5 70 RX7 "momentCount" "I" ∈ TB := TB_of (tin_1 (List.mem_of_getElem? (i := 217) (by decide +kernel))) rfl
theorem tw_323 : Cond.fieldLink RX11 370 RX7 "momentCount" "I" ∈ TB := TB_of (tin_1 (List.mem_of_getElem? (i := 218) (by decide +kernel))) rfl
theorem tw_324 : Cond.fieldLink RX7 58 RX7 "moments" "[I" ∈ TB := TB_of (tin_1 (List.mem_of_getElem? (i := 219) (by decide +kernel))) rfl
theorem tw_325 : Cond.fieldLink RX5 85 RX7 "moments" "[I" ∈ TB := TB_of (tin_1 (List.mem_of_getElem? (i := 220) (by decide +kernel))) rfl
theorem tw_326 : Cond.fieldLink RX11 375 RX7 "moments" "[I" ∈ TB := TB_of (tin_1 (List.mem_of_getElem? (i := 221) (by decide +kernel))) rfl
theorem tw_327 : Cond.fieldLink RX7 61 RX7 "chances" "[I" ∈ TB := TB_of (tin_1 (List.mem_of_getElem? (i := 222) (by decide +kernel))) rfl
theorem tw_328 : Cond.fieldLink RX11 436 RX7 "chances" "[I" ∈ TB := TB_of (tin_1 (List.mem_of_getElem? (i := 223) (by decide +kernel))) rfl
theorem tw_329 : Cond.fieldLink RX7 64 RX7 "weekCount" "I" ∈ TB := TB_of (tin_1 (List.mem_of_getElem? (i := 224) (by decide +kernel))) rfl
theorem tw_330 : Cond.fieldLink RX11 447 RX7 "weekCount" "I" ∈ TB := TB_of (tin_1 (List.mem_of_getElem? (i := 225) (by decide +kernel))) rfl
theorem tw_331 : Cond.fieldLink RX7 67 RX7 "weeks" "[I" ∈ TB := TB_of (tin_1 (List.mem_of_getElem? (i := 226) (by decide +kernel))) rfl
theorem tw_332 : Cond.fieldLink RX11 452 RX7 "weeks" "[I" ∈ TB := TB_of (tin_1 (List.mem_of_getElem? (i := 227) (by decide +kernel))) rfl
theorem tw_368 : Cond.classLink RX11 23 RX9 ∈ TB := TB_of (tin_2 (List.mem_of_getElem? (i := 23) (by decide +kernel))) rfl
theorem tw_369 : Cond.instantiable RX9 2 ∈ TB := TB_of (tin_2 (List.mem_of_getElem? (i := 24) (by decide +kernel))) rfl
theorem tw_371 : Cond.instanceMethod yX9_init ∈ TB := TB_of (tin_2 (List.mem_of_getElem? (i := 26) (by decide +kernel))) rfl
theorem tw_372 : Cond.code yX9_init cX9_init 1 none ∈ TB := TB_of (tin_2 (List.mem_of_getElem? (i := 27) (by decide +kernel))) rfl
theorem tw_374 : Cond.fieldLink RX9 11 RX9 "facts" "[I" ∈ TB := TB_of (tin_2 (List.mem_of_getElem? (i := 29) (by decide +kernel))) rfl
theorem tw_375 : Cond.fieldLink RX5 114 RX9 "facts" "[I" ∈ TB := TB_of (tin_2 (List.mem_of_getElem? (i := 30) (by decide +kernel))) rfl
theorem tw_376 : Cond.fieldLink RX9 15 RX9 "stack" "[I" ∈ TB := TB_of (tin_2 (List.mem_of_getElem? (i := 31) (by decide +kernel))) rfl
theorem tw_382 : Cond.classLink RX11 30 RX5 ∈ TB := TB_of (tin_2 (List.mem_of_getElem? (i := 37) (by decide +kernel))) rfl
theorem tw_383 : Cond.instantiable RX5 4 ∈ TB := TB_of (tin_2 (List.mem_of_getElem? (i := 38) (by decide +kernel))) rfl
theorem tw_384 : Cond.methodLink RX11 32 yX5_init ∈ TB := TB_of (tin_2 (List.mem_of_getElem? (i := 39) (by decide +kernel))) rfl
theorem tw_385 : Cond.instanceMethod yX5_init ∈ TB := TB_of (tin_2 (List.mem_of_getElem? (i := 40) (by decide +kernel))) rfl
theorem tw_386 : Cond.code yX5_init cX5_init 3 none ∈ TB := TB_of (tin_2 (List.mem_of_getElem? (i := 41) (by decide +kernel))) rfl
theorem tw_388 : Cond.classLink RX5 9 RX4 ∈ TB := TB_of (tin_2 (List.mem_of_getElem? (i := 43) (by decide +kernel))) rfl
theorem tw_390 : Cond.fieldLink RX5 22 RX5 "now" "LMemoryHouse$State;" ∈ TB := TB_of (tin_2 (List.mem_of_getElem? (i := 45) (by decide +kernel))) rfl
theorem tw_391 : Cond.fieldLink RX5 26 RX5 "teller" "LMemoryHouse$Teller;" ∈ TB := TB_of (tin_2 (List.mem_of_getElem? (i := 46) (by decide +kernel))) rfl
theorem tw_392 : Cond.fieldLink RX5 12 RX5 "trial" "LMemoryHouse$Putting;" ∈ TB := TB_of (tin_2 (List.mem_of_getElem? (i := 47) (by decide +kernel))) rfl
theorem tw_393 : Cond.fieldLink RX5 18 RX5 "touchedSums" "[I" ∈ TB := TB_of (tin_2 (List.mem_of_getElem? (i := 48) (by decide +kernel))) rfl
theorem tw_403 : Cond.classLink RX11 39 RX6 ∈ TB := TB_of (tin_2 (List.mem_of_getElem? (i := 58) (by decide +kernel))) rfl
theorem tw_404 : Cond.instantiable RX6 2 ∈ TB := TB_of (tin_2 (List.mem_of_getElem? (i := 59) (by decide +kernel))) rfl
theorem tw_405 : Cond.methodLink RX11 41 yX6_init ∈ TB := TB_of (tin_2 (List.mem_of_getElem? (i := 60) (by decide +kernel))) rfl
theorem tw_406 : Cond.instanceMethod yX6_init ∈ TB := TB_of (tin_2 (List.mem_of_getElem? (i := 61) (by decide +kernel))) rfl
theorem tw_407 : Cond.code yX6_init cX6_init 2 none ∈ TB := TB_of (tin_2 (List.mem_of_getElem? (i := 62) (by decide +kernel))) rfl
theorem tw_409 : Cond.fieldLink RX6 15 RX6 "now" "LMemoryHouse$State;" ∈ TB := TB_of (tin_2 (List.mem_of_getElem? (i := 64) (by decide +kernel))) rfl
theorem tw_410 : Cond.fieldLink RX6 9 RX6 "slips" "[I" ∈ TB := TB_of (tin_2 (List.mem_of_getElem? (i := 65) (by decide +kernel))) rfl
theorem tw_416 : Cond.classLink RX11 48 RX1 ∈ TB := TB_of (tin_2 (List.mem_of_getElem? (i := 71) (by decide +kernel))) rfl
theorem tw_417 : Cond.instantiable RX1 6 ∈ TB := TB_of (tin_2 (List.mem_of_getElem? (i := 72) (by decide +kernel))) rfl
theorem tw_418 : Cond.methodLink RX11 50 yX1_init ∈ TB := TB_of (tin_2 (List.mem_of_getElem? (i := 73) (by decide +kernel))) rfl
theorem tw_419 : Cond.instanceMethod yX1_init ∈ TB := TB_of (tin_2 (List.mem_of_getElem? (i := 74) (by decide +kernel))) rfl
theorem tw_420 : Cond.code yX1_init cX1_init 2 none ∈ TB := TB_of (tin_2 (List.mem_of_getElem? (i := 75) (by decide +kernel))) rfl
theorem tw_422 : Cond.fieldLink RX1 29 RX1 "teller" "LMemoryHouse$Teller;" ∈ TB := TB_of (tin_2 (List.mem_of_getElem? (i := 77) (by decide +kernel))) rfl
theorem tw_423 : Cond.fieldLink RX1 9 RX1 "own" "[I" ∈ TB := TB_of (tin_2 (List.mem_of_getElem? (i := 78) (by decide +kernel))) rfl
theorem tw_424 : Cond.fieldLink RX1 15 RX1 "ways" "[I" ∈ TB := TB_of (tin_2 (List.mem_of_getElem? (i := 79) (by decide +kernel))) rfl
theorem tw_425 : Cond.fieldLink RX1 18 RX1 "best" "I" ∈ TB := TB_of (tin_2 (List.mem_of_getElem? (i := 80) (by decide +kernel))) rfl
theorem tw_426 : Cond.fieldLink RX11 354 RX1 "best" "I" ∈ TB := TB_of (tin_2 (List.mem_of_getElem? (i := 81) (by decide +kernel))) rfl
theorem tw_427 : Cond.fieldLink RX1 22 RX1 "above" "J" ∈ TB := TB_of (tin_2 (List.mem_of_getElem? (i := 82) (by decide +kernel))) rfl
theorem tw_428 : Cond.fieldLink RX11 357 RX1 "above" "J" ∈ TB := TB_of (tin_2 (List.mem_of_getElem? (i := 83) (by decide +kernel))) rfl
theorem tw_429 : Cond.fieldLink RX1 26 RX1 "below" "J" ∈ TB := TB_of (tin_2 (List.mem_of_getElem? (i := 84) (by decide +kernel))) rfl
theorem tw_430 : Cond.fieldLink RX11 361 RX1 "below" "J" ∈ TB := TB_of (tin_2 (List.mem_of_getElem? (i := 85) (by decide +kernel))) rfl
theorem tw_444 : Cond.classLink RX11 57 RX3 ∈ TB := TB_of (tin_2 (List.mem_of_getElem? (i := 99) (by decide +kernel))) rfl
theorem tw_445 : Cond.instantiable RX3 6 ∈ TB := TB_of (tin_2 (List.mem_of_getElem? (i := 100) (by decide +kernel))) rfl
theorem tw_447 : Cond.instanceMethod yX3_init ∈ TB := TB_of (tin_2 (List.mem_of_getElem? (i := 102) (by decide +kernel))) rfl
theorem tw_448 : Cond.code yX3_init cX3_init 1 none ∈ TB := TB_of (tin_2 (List.mem_of_getElem? (i := 103) (by decide +kernel))) rfl
theorem tw_450 : Cond.fieldLink RX3 9 RX3 "packs" "[I" ∈ TB := TB_of (tin_2 (List.mem_of_getElem? (i := 105) (by decide +kernel))) rfl
theorem tw_451 : Cond.fieldLink RX3 15 RX3 "worths" "[I" ∈ TB := TB_of (tin_2 (List.mem_of_getElem? (i := 106) (by decide +kernel))) rfl
theorem tw_452 : Cond.fieldLink RX3 18 RX3 "tried" "[I" ∈ TB := TB_of (tin_2 (List.mem_of_getElem? (i := 107) (by decide +kernel))) rfl
theorem tw_453 : Cond.fieldLink RX3 21 RX3 "best" "[I" ∈ TB := TB_of (tin_2 (List.mem_of_getElem? (i := 108) (by decide +kernel))) rfl
theorem tw_454 : Cond.fieldLink RX3 24 RX3 "size" "I" ∈ TB := TB_of (tin_2 (List.mem_of_getElem? (i := 109) (by decide +kernel))) rfl
theorem tw_455 : Cond.fieldLink RX3 28 RX3 "bestSum" "I" ∈ TB := TB_of (tin_2 (List.mem_of_getElem? (i := 110) (by decide +kernel))) rfl
theorem tw_456 : Cond.fieldLink RX11 426 RX3 "bestSum" "I" ∈ TB := TB_of (tin_2 (List.mem_of_getElem? (i := 111) (by decide +kernel))) rfl
theorem tw_470 : Cond.classLink RX11 64 RX0 ∈ TB := TB_of (tin_2 (List.mem_of_getElem? (i := 125) (by decide +kernel))) rfl
theorem tw_471 : Cond.instantiable RX0 6 ∈ TB := TB_of (tin_2 (List.mem_of_getElem? (i := 126) (by decide +kernel))) rfl
theorem tw_472 : Cond.methodLink RX11 66 yX0_init ∈ TB := TB_of (tin_2 (List.mem_of_getElem? (i := 127) (by decide +kernel))) rfl
theorem tw_473 : Cond.instanceMethod yX0_init ∈ TB := TB_of (tin_2 (List.mem_of_getElem? (i := 128) (by decide +kernel))) rfl
theorem tw_474 : Cond.code yX0_init cX0_init 3 none ∈ TB := TB_of (tin_2 (List.mem_of_getElem? (i := 129) (by decide +kernel))) rfl
theorem tw_476 : Cond.fieldLink RX0 24 RX0 "now" "LMemoryHouse$State;" ∈ TB := TB_of (tin_2 (List.mem_of_getElem? (i := 131) (by decide +kernel))) rfl
theorem tw_477 : Cond.fieldLink RX0 28 RX0 "recall" "LMemoryHouse$Recall;" ∈ TB := TB_of (tin_2 (List.mem_of_getElem? (i := 132) (by decide +kernel))) rfl
theorem tw_478 : Cond.fieldLink RX0 9 RX0 "times" "[I" ∈ TB := TB_of (tin_2 (List.mem_of_getElem? (i := 133) (by decide +kernel))) rfl
theorem tw_479 : Cond.fieldLink RX0 15 RX0 "missed" "[I" ∈ TB := TB_of (tin_2 (List.mem_of_getElem? (i := 134) (by decide +kernel))) rfl
theorem tw_480 : Cond.fieldLink RX0 18 RX0 "sums" "[I" ∈ TB := TB_of (tin_2 (List.mem_of_getElem? (i := 135) (by decide +kernel))) rfl
theorem tw_481 : Cond.fieldLink RX0 21 RX0 "present" "[I" ∈ TB := TB_of (tin_2 (List.mem_of_getElem? (i := 136) (by decide +kernel))) rfl
theorem tw_495 : Cond.fieldLink RX11 10 RX11 "tape" "LMemoryHouse$Tape;" ∈ TB := TB_of (tin_2 (List.mem_of_getElem? (i := 150) (by decide +kernel))) rfl
theorem tw_496 : Cond.fieldLink RX11 19 RX11 "now" "LMemoryHouse$State;" ∈ TB := TB_of (tin_2 (List.mem_of_getElem? (i := 151) (by decide +kernel))) rfl
theorem tw_497 : Cond.fieldLink RX11 26 RX11 "teller" "LMemoryHouse$Teller;" ∈ TB := TB_of (tin_2 (List.mem_of_getElem? (i := 152) (by decide +kernel))) rfl
theorem tw_498 : Cond.fieldLink RX11 35 RX11 "recall" "LMemoryHouse$Recall;" ∈ TB := TB_of (tin_2 (List.mem_of_getElem? (i := 153) (by decide +kernel))) rfl
theorem tw_499 : Cond.fieldLink RX11 44 RX11 "slips" "LMemoryHouse$Slips;" ∈ TB := TB_of (tin_2 (List.mem_of_getElem? (i := 154) (by decide +kernel))) rfl
theorem tw_500 : Cond.fieldLink RX11 53 RX11 "guesser" "LMemoryHouse$Guesser;" ∈ TB := TB_of (tin_2 (List.mem_of_getElem? (i := 155) (by decide +kernel))) rfl
theorem tw_501 : Cond.fieldLink RX11 60 RX11 "planner" "LMemoryHouse$Planner;" ∈ TB := TB_of (tin_2 (List.mem_of_getElem? (i := 156) (by decide +kernel))) rfl
theorem tw_502 : Cond.fieldLink RX11 69 RX11 "exchange" "LMemoryHouse$Exchange;" ∈ TB := TB_of (tin_2 (List.mem_of_getElem? (i := 157) (by decide +kernel))) rfl
theorem tw_503 : Cond.fieldLink RX11 73 RX11 "kept" "LMemoryHouse$State;" ∈ TB := TB_of (tin_2 (List.mem_of_getElem? (i := 158) (by decide +kernel))) rfl
theorem tw_523 : Cond.methodLink RL 132 yX11_feed ∈ TB := TB_of (tin_2 (List.mem_of_getElem? (i := 178) (by decide +kernel))) rfl
theorem tw_524 : Cond.instanceMethod yX11_feed ∈ TB := TB_of (tin_2 (List.mem_of_getElem? (i := 179) (by decide +kernel))) rfl
theorem tw_525 : Cond.selects RX11 yX11_feed yX11_feed ∈ TB := TB_of (tin_2 (List.mem_of_getElem? (i := 180) (by decide +kernel))) rfl
theorem tw_526 : Cond.code yX11_feed cX11_feed 6 (some .int) ∈ TB := TB_of (tin_2 (List.mem_of_getElem? (i := 181) (by decide +kernel))) rfl
theorem tw_527 : Cond.methodLink RX11 76 yX8_hasRoomForFive ∈ TB := TB_of (tin_2 (List.mem_of_getElem? (i := 182) (by decide +kernel))) rfl
theorem tw_528 : Cond.instanceMethod yX8_hasRoomForFive ∈ TB := TB_of (tin_2 (List.mem_of_getElem? (i := 183) (by decide +kernel))) rfl
theorem tw_529 : Cond.selects RX8 yX8_hasRoomForFive yX8_hasRoomForFive ∈ TB := TB_of (tin_2 (List.mem_of_getElem? (i := 184) (by decide +kernel))) rfl
theorem tw_530 : Cond.code yX8_hasRoomForFive cX8_hasRoomForFive 1 (some .boolean) ∈ TB := TB_of (tin_2 (List.mem_of_getElem? (i := 185) (by decide +kernel))) rfl
theorem tw_531 : Cond.methodLink RX11 80 yX8_addNumber ∈ TB := TB_of (tin_2 (List.mem_of_getElem? (i := 186) (by decide +kernel))) rfl
theorem tw_532 : Cond.instanceMethod yX8_addNumber ∈ TB := TB_of (tin_2 (List.mem_of_getElem? (i := 187) (by decide +kernel))) rfl
theorem tw_533 : Cond.selects RX8 yX8_addNumber yX8_addNumber ∈ TB := TB_of (tin_2 (List.mem_of_getElem? (i := 188) (by decide +kernel))) rfl
theorem tw_534 : Cond.code yX8_addNumber cX8_addNumber 3 none ∈ TB := TB_of (tin_2 (List.mem_of_getElem? (i := 189) (by decide +kernel))) rfl
theorem tw_535 : Cond.methodLink RL 136 yX11_end ∈ TB := TB_of (tin_2 (List.mem_of_getElem? (i := 190) (by decide +kernel))) rfl
theorem tw_536 : Cond.instanceMethod yX11_end ∈ TB := TB_of (tin_2 (List.mem_of_getElem? (i := 191) (by decide +kernel))) rfl
theorem tw_537 : Cond.selects RX11 yX11_end yX11_end ∈ TB := TB_of (tin_2 (List.mem_of_getElem? (i := 192) (by decide +kernel))) rfl
theorem tw_538 : Cond.code yX11_end cX11_end 2 (some .boolean) ∈ TB := TB_of (tin_2 (List.mem_of_getElem? (i := 193) (by decide +kernel))) rfl
theorem tw_539 : Cond.methodLink RL 153 yX11_fault ∈ TB := TB_of (tin_2 (List.mem_of_getElem? (i := 194) (by decide +kernel))) rfl
theorem tw_540 : Cond.instanceMethod yX11_fault ∈ TB := TB_of (tin_2 (List.mem_of_getElem? (i := 195) (by decide +kernel))) rfl
theorem tw_541 : Cond.selects RX11 yX11_fault yX11_fault ∈ TB := TB_of (tin_2 (List.mem_of_getElem? (i := 196) (by decide +kernel))) rfl
theorem tw_542 : Cond.code yX11_fault cX11_fault 1 (some .int) ∈ TB := TB_of (tin_2 (List.mem_of_getElem? (i := 197) (by decide +kernel))) rfl
theorem tw_543 : Cond.methodLink RL 226 yX11_moments ∈ TB := TB_of (tin_2 (List.mem_of_getElem? (i := 198) (by decide +kernel))) rfl
theorem tw_544 : Cond.instanceMethod yX11_moments ∈ TB := TB_of (tin_2 (List.mem_of_getElem? (i := 199) (by decide +kernel))) rfl
theorem tw_545 : Cond.selects RX11 yX11_moments yX11_moments ∈ TB := TB_of (tin_2 (List.mem_of_getElem? (i := 200) (by decide +kernel))) rfl
theorem tw_546 : Cond.code yX11_moments cX11_moments 2 (some .int) ∈ TB := TB_of (tin_2 (List.mem_of_getElem? (i := 201) (by decide +kernel))) rfl
theorem tw_547 : Cond.methodLink RL 237 yX11_unlike ∈ TB := TB_of (tin_2 (List.mem_of_getElem? (i := 202) (by decide +kernel))) rfl
theorem tw_548 : Cond.instanceMethod yX11_unlike ∈ TB := TB_of (tin_2 (List.mem_of_getElem? (i := 203) (by decide +kernel))) rfl
theorem tw_549 : Cond.selects RX11 yX11_unlike yX11_unlike ∈ TB := TB_of (tin_2 (List.mem_of_getElem? (i := 204) (by decide +kernel))) rfl
theorem tw_550 : Cond.code yX11_unlike cX11_unlike 7 (some .int) ∈ TB := TB_of (tin_2 (List.mem_of_getElem? (i := 205) (by decide +kernel))) rfl
theorem tw_551 : Cond.methodLink RX11 397 yX7_doorsThatLook ∈ TB := TB_of (tin_2 (List.mem_of_getElem? (i := 206) (by decide +kernel))) rfl
theorem tw_552 : Cond.instanceMethod yX7_doorsThatLook ∈ TB := TB_of (tin_2 (List.mem_of_getElem? (i := 207) (by decide +kernel))) rfl
theorem tw_553 : Cond.selects RX7 yX7_doorsThatLook yX7_doorsThatLook ∈ TB := TB_of (tin_2 (List.mem_of_getElem? (i := 208) (by decide +kernel))) rfl
theorem tw_554 : Cond.code yX7_doorsThatLook cX7_doorsThatLook 6 (some .int) ∈ TB := TB_of (tin_2 (List.mem_of_getElem? (i := 209) (by decide +kernel))) rfl
theorem tw_555 : Cond.methodLink RX7 81 yX7_lookOf ∈ TB := TB_of (tin_2 (List.mem_of_getElem? (i := 210) (by decide +kernel))) rfl
theorem tw_556 : Cond.instanceMethod yX7_lookOf ∈ TB := TB_of (tin_2 (List.mem_of_getElem? (i := 211) (by decide +kernel))) rfl
theorem tw_557 : Cond.selects RX7 yX7_lookOf yX7_lookOf ∈ TB := TB_of (tin_2 (List.mem_of_getElem? (i := 212) (by decide +kernel))) rfl
theorem tw_558 : Cond.code yX7_lookOf cX7_lookOf 3 (some .int) ∈ TB := TB_of (tin_2 (List.mem_of_getElem? (i := 213) (by decide +kernel))) rfl
theorem tw_559 : Cond.methodLink RL 265 yX11_dullest ∈ TB := TB_of (tin_2 (List.mem_of_getElem? (i := 214) (by decide +kernel))) rfl
theorem tw_560 : Cond.instanceMethod yX11_dullest ∈ TB := TB_of (tin_2 (List.mem_of_getElem? (i := 215) (by decide +kernel))) rfl
theorem tw_561 : Cond.selects RX11 yX11_dullest yX11_dullest ∈ TB := TB_of (tin_2 (List.mem_of_getElem? (i := 216) (by decide +kernel))) rfl
theorem tw_562 : Cond.code yX11_dullest cX11_dullest 1 (some .int) ∈ TB := TB_of (tin_2 (List.mem_of_getElem? (i := 217) (by decide +kernel))) rfl
theorem tw_563 : Cond.methodLink RX11 467 yX0_mostMissed ∈ TB := TB_of (tin_2 (List.mem_of_getElem? (i := 218) (by decide +kernel))) rfl
theorem tw_564 : Cond.instanceMethod yX0_mostMissed ∈ TB := TB_of (tin_2 (List.mem_of_getElem? (i := 219) (by decide +kernel))) rfl
theorem tw_565 : Cond.selects RX0 yX0_mostMissed yX0_mostMissed ∈ TB := TB_of (tin_2 (List.mem_of_getElem? (i := 220) (by decide +kernel))) rfl
theorem tw_566 : Cond.code yX0_mostMissed cX0_mostMissed 3 (some .int) ∈ TB := TB_of (tin_2 (List.mem_of_getElem? (i := 221) (by decide +kernel))) rfl
theorem tw_567 : Cond.methodLink RX0 32 yX0_countMissed ∈ TB := TB_of (tin_2 (List.mem_of_getElem? (i := 222) (by decide +kernel))) rfl
theorem tw_569 : Cond.instanceMethod yX0_countMissed ∈ TB := TB_of (tin_2 (List.mem_of_getElem? (i := 224) (by decide +kernel))) rfl
theorem tw_570 : Cond.code yX0_countMissed cX0_countMissed 5 none ∈ TB := TB_of (tin_2 (List.mem_of_getElem? (i := 225) (by decide +kernel))) rfl
theorem tw_571 : Cond.methodLink RX0 35 yJ7_fill_53178 ∈ TB := TB_of (tin_2 (List.mem_of_getElem? (i := 226) (by decide +kernel))) rfl
theorem tw_572 : Cond.static yJ7_fill_53178 ∈ TB := TB_of (tin_2 (List.mem_of_getElem? (i := 227) (by decide +kernel))) rfl
theorem tw_573 : Cond.code yJ7_fill_53178 cJ7_fill_53178 4 none ∈ TB := TB_of (tin_2 (List.mem_of_getElem? (i := 228) (by decide +kernel))) rfl
theorem tw_574 : Cond.methodLink RX0 60 yX2_cardAt ∈ TB := TB_of (tin_2 (List.mem_of_getElem? (i := 229) (by decide +kernel))) rfl
theorem tw_575 : Cond.instanceMethod yX2_cardAt ∈ TB := TB_of (tin_2 (List.mem_of_getElem? (i := 230) (by decide +kernel))) rfl
theorem tw_576 : Cond.selects RX2 yX2_cardAt yX2_cardAt ∈ TB := TB_of (tin_2 (List.mem_of_getElem? (i := 231) (by decide +kernel))) rfl
theorem tw_577 : Cond.code yX2_cardAt cX2_cardAt 2 (some .int) ∈ TB := TB_of (tin_2 (List.mem_of_getElem? (i := 232) (by decide +kernel))) rfl
theorem tw_578 : Cond.methodLink RL 272 yX11_image ∈ TB := TB_of (tin_2 (List.mem_of_getElem? (i := 233) (by decide +kernel))) rfl
theorem tw_579 : Cond.instanceMethod yX11_image ∈ TB := TB_of (tin_2 (List.mem_of_getElem? (i := 234) (by decide +kernel))) rfl
theorem tw_580 : Cond.selects RX11 yX11_image yX11_image ∈ TB := TB_of (tin_2 (List.mem_of_getElem? (i := 235) (by decide +kernel))) rfl
theorem tw_581 : Cond.code yX11_image cX11_image 1 none ∈ TB := TB_of (tin_2 (List.mem_of_getElem? (i := 236) (by decide +kernel))) rfl
theorem tw_582 : Cond.methodLink RX11 474 yX7_copyFrom ∈ TB := TB_of (tin_2 (List.mem_of_getElem? (i := 237) (by decide +kernel))) rfl
theorem tw_583 : Cond.instanceMethod yX7_copyFrom ∈ TB := TB_of (tin_2 (List.mem_of_getElem? (i := 238) (by decide +kernel))) rfl
theorem tw_584 : Cond.selects RX7 yX7_copyFrom yX7_copyFrom ∈ TB := TB_of (tin_2 (List.mem_of_getElem? (i := 239) (by decide +kernel))) rfl
theorem tw_585 : Cond.code yX7_copyFrom cX7_copyFrom 3 none ∈ TB := TB_of (tin_3 (List.mem_of_getElem? (i := 0) (by decide +kernel))) rfl
theorem tw_589 : Cond.methodLink RX7 77 yX2_copyFrom ∈ TB := TB_of (tin_3 (List.mem_of_getElem? (i := 4) (by decide +kernel))) rfl
theorem tw_590 : Cond.instanceMethod yX2_copyFrom ∈ TB := TB_of (tin_3 (List.mem_of_getElem? (i := 5) (by decide +kernel))) rfl
theorem tw_591 : Cond.selects RX2 yX2_copyFrom yX2_copyFrom ∈ TB := TB_of (tin_3 (List.mem_of_getElem? (i := 6) (by decide +kernel))) rfl
theorem tw_592 : Cond.code yX2_copyFrom cX2_copyFrom 2 none ∈ TB := TB_of (tin_3 (List.mem_of_getElem? (i := 7) (by decide +kernel))) rfl
theorem tw_593 : Cond.methodLink RX2 42 yX4_copyFrom ∈ TB := TB_of (tin_3 (List.mem_of_getElem? (i := 8) (by decide +kernel))) rfl
theorem tw_594 : Cond.instanceMethod yX4_copyFrom ∈ TB := TB_of (tin_3 (List.mem_of_getElem? (i := 9) (by decide +kernel))) rfl
theorem tw_595 : Cond.selects RX4 yX4_copyFrom yX4_copyFrom ∈ TB := TB_of (tin_3 (List.mem_of_getElem? (i := 10) (by decide +kernel))) rfl
theorem tw_596 : Cond.code yX4_copyFrom cX4_copyFrom 2 none ∈ TB := TB_of (tin_3 (List.mem_of_getElem? (i := 11) (by decide +kernel))) rfl
theorem tw_598 : Cond.methodLink RL 276 yX11_back ∈ TB := TB_of (tin_3 (List.mem_of_getElem? (i := 13) (by decide +kernel))) rfl
theorem tw_599 : Cond.instanceMethod yX11_back ∈ TB := TB_of (tin_3 (List.mem_of_getElem? (i := 14) (by decide +kernel))) rfl
theorem tw_600 : Cond.selects RX11 yX11_back yX11_back ∈ TB := TB_of (tin_3 (List.mem_of_getElem? (i := 15) (by decide +kernel))) rfl
theorem tw_601 : Cond.code yX11_back cX11_back 1 (some .boolean) ∈ TB := TB_of (tin_3 (List.mem_of_getElem? (i := 16) (by decide +kernel))) rfl
theorem tw_602 : Cond.methodLink RL 281 yX11_count ∈ TB := TB_of (tin_3 (List.mem_of_getElem? (i := 17) (by decide +kernel))) rfl
theorem tw_603 : Cond.instanceMethod yX11_count ∈ TB := TB_of (tin_3 (List.mem_of_getElem? (i := 18) (by decide +kernel))) rfl
theorem tw_604 : Cond.selects RX11 yX11_count yX11_count ∈ TB := TB_of (tin_3 (List.mem_of_getElem? (i := 19) (by decide +kernel))) rfl
theorem tw_605 : Cond.code yX11_count cX11_count 2 (some .int) ∈ TB := TB_of (tin_3 (List.mem_of_getElem? (i := 20) (by decide +kernel))) rfl
theorem tw_606 : Cond.methodLink RX11 477 yX7_doorsInAll ∈ TB := TB_of (tin_3 (List.mem_of_getElem? (i := 21) (by decide +kernel))) rfl
theorem tw_607 : Cond.instanceMethod yX7_doorsInAll ∈ TB := TB_of (tin_3 (List.mem_of_getElem? (i := 22) (by decide +kernel))) rfl
theorem tw_608 : Cond.selects RX7 yX7_doorsInAll yX7_doorsInAll ∈ TB := TB_of (tin_3 (List.mem_of_getElem? (i := 23) (by decide +kernel))) rfl
theorem tw_609 : Cond.code yX7_doorsInAll cX7_doorsInAll 3 (some .int) ∈ TB := TB_of (tin_3 (List.mem_of_getElem? (i := 24) (by decide +kernel))) rfl
theorem tw_610 : Cond.methodLink RX11 480 yX7_rightInAll ∈ TB := TB_of (tin_3 (List.mem_of_getElem? (i := 25) (by decide +kernel))) rfl
theorem tw_611 : Cond.instanceMethod yX7_rightInAll ∈ TB := TB_of (tin_3 (List.mem_of_getElem? (i := 26) (by decide +kernel))) rfl
theorem tw_612 : Cond.selects RX7 yX7_rightInAll yX7_rightInAll ∈ TB := TB_of (tin_3 (List.mem_of_getElem? (i := 27) (by decide +kernel))) rfl
theorem tw_613 : Cond.code yX7_rightInAll cX7_rightInAll 3 (some .int) ∈ TB := TB_of (tin_3 (List.mem_of_getElem? (i := 28) (by decide +kernel))) rfl
theorem tw_614 : Cond.methodLink RX7 89 yX2_rightOnes ∈ TB := TB_of (tin_3 (List.mem_of_getElem? (i := 29) (by decide +kernel))) rfl
theorem tw_615 : Cond.instanceMethod yX2_rightOnes ∈ TB := TB_of (tin_3 (List.mem_of_getElem? (i := 30) (by decide +kernel))) rfl
theorem tw_616 : Cond.selects RX2 yX2_rightOnes yX2_rightOnes ∈ TB := TB_of (tin_3 (List.mem_of_getElem? (i := 31) (by decide +kernel))) rfl
theorem tw_617 : Cond.code yX2_rightOnes cX2_rightOnes 3 (some .int) ∈ TB := TB_of (tin_3 (List.mem_of_getElem? (i := 32) (by decide +kernel))) rfl
theorem tw_618 : Cond.methodLink RX2 68 yX2_cardAt ∈ TB := TB_of (tin_3 (List.mem_of_getElem? (i := 33) (by decide +kernel))) rfl
theorem tw_619 : Cond.methodLink RL 141 yL_law ∈ TB := TB_of (tin_3 (List.mem_of_getElem? (i := 34) (by decide +kernel))) rfl
theorem tw_622 : Cond.classLink RL 13 "java/lang/IllegalArgumentException" ∈ TB := TB_of (tin_3 (List.mem_of_getElem? (i := 37) (by decide +kernel))) rfl
theorem tw_623 : Cond.classLink RL 15 "java/lang/UnsupportedOperationException" ∈ TB := TB_of (tin_3 (List.mem_of_getElem? (i := 38) (by decide +kernel))) rfl
theorem tw_624 : Cond.methodLink RL 7 yX11_law ∈ TB := TB_of (tin_3 (List.mem_of_getElem? (i := 39) (by decide +kernel))) rfl
theorem tw_625 : Cond.instanceMethod yX11_law ∈ TB := TB_of (tin_3 (List.mem_of_getElem? (i := 40) (by decide +kernel))) rfl
theorem tw_626 : Cond.selects RX11 yX11_law yX11_law ∈ TB := TB_of (tin_3 (List.mem_of_getElem? (i := 41) (by decide +kernel))) rfl
theorem tw_627 : Cond.code yX11_law cX11_law 2 (some .int) ∈ TB := TB_of (tin_3 (List.mem_of_getElem? (i := 42) (by decide +kernel))) rfl
theorem tw_628 : Cond.methodLink RX11 88 yX8_read ∈ TB := TB_of (tin_3 (List.mem_of_getElem? (i := 43) (by decide +kernel))) rfl
theorem tw_629 : Cond.instanceMethod yX8_read ∈ TB := TB_of (tin_3 (List.mem_of_getElem? (i := 44) (by decide +kernel))) rfl
theorem tw_630 : Cond.selects RX8 yX8_read yX8_read ∈ TB := TB_of (tin_3 (List.mem_of_getElem? (i := 45) (by decide +kernel))) rfl
theorem tw_631 : Cond.code yX8_read cX8_read 5 (some (.object "MemoryHouse$Text")) ∈ TB := TB_of (tin_3 (List.mem_of_getElem? (i := 46) (by decide +kernel))) rfl
theorem tw_632 : Cond.methodLink RX8 51 yX8_split ∈ TB := TB_of (tin_3 (List.mem_of_getElem? (i := 47) (by decide +kernel))) rfl
theorem tw_634 : Cond.instanceMethod yX8_split ∈ TB := TB_of (tin_3 (List.mem_of_getElem? (i := 49) (by decide +kernel))) rfl
theorem tw_635 : Cond.code yX8_split cX8_split 6 none ∈ TB := TB_of (tin_3 (List.mem_of_getElem? (i := 50) (by decide +kernel))) rfl
theorem tw_636 : Cond.methodLink RX8 76 yX8_endOfThing ∈ TB := TB_of (tin_3 (List.mem_of_getElem? (i := 51) (by decide +kernel))) rfl
theorem tw_638 : Cond.instanceMethod yX8_endOfThing ∈ TB := TB_of (tin_3 (List.mem_of_getElem? (i := 53) (by decide +kernel))) rfl
theorem tw_639 : Cond.code yX8_endOfThing cX8_endOfThing 5 (some .int) ∈ TB := TB_of (tin_3 (List.mem_of_getElem? (i := 54) (by decide +kernel))) rfl
theorem tw_640 : Cond.methodLink RX8 84 yX8_isLetter ∈ TB := TB_of (tin_3 (List.mem_of_getElem? (i := 55) (by decide +kernel))) rfl
theorem tw_641 : Cond.static yX8_isLetter ∈ TB := TB_of (tin_3 (List.mem_of_getElem? (i := 56) (by decide +kernel))) rfl
theorem tw_642 : Cond.code yX8_isLetter cX8_isLetter 1 (some .boolean) ∈ TB := TB_of (tin_3 (List.mem_of_getElem? (i := 57) (by decide +kernel))) rfl
theorem tw_643 : Cond.methodLink RX8 87 yX8_isDigit ∈ TB := TB_of (tin_3 (List.mem_of_getElem? (i := 58) (by decide +kernel))) rfl
theorem tw_644 : Cond.static yX8_isDigit ∈ TB := TB_of (tin_3 (List.mem_of_getElem? (i := 59) (by decide +kernel))) rfl
theorem tw_645 : Cond.code yX8_isDigit cX8_isDigit 1 (some .boolean) ∈ TB := TB_of (tin_3 (List.mem_of_getElem? (i := 60) (by decide +kernel))) rfl
theorem tw_646 : Cond.methodLink RX8 80 yX8_thingOf ∈ TB := TB_of (tin_3 (List.mem_of_getElem? (i := 61) (by decide +kernel))) rfl
theorem tw_648 : Cond.instanceMethod yX8_thingOf ∈ TB := TB_of (tin_3 (List.mem_of_getElem? (i := 63) (by decide +kernel))) rfl
theorem tw_649 : Cond.code yX8_thingOf cX8_thingOf 6 (some .int) ∈ TB := TB_of (tin_3 (List.mem_of_getElem? (i := 64) (by decide +kernel))) rfl
theorem tw_650 : Cond.methodLink RX8 90 yX8_wordOf ∈ TB := TB_of (tin_3 (List.mem_of_getElem? (i := 65) (by decide +kernel))) rfl
theorem tw_652 : Cond.instanceMethod yX8_wordOf ∈ TB := TB_of (tin_3 (List.mem_of_getElem? (i := 67) (by decide +kernel))) rfl
theorem tw_653 : Cond.code yX8_wordOf cX8_wordOf 7 (some .int) ∈ TB := TB_of (tin_3 (List.mem_of_getElem? (i := 68) (by decide +kernel))) rfl
theorem tw_655 : Cond.methodLink RX8 95 yX8_indexIn ∈ TB := TB_of (tin_3 (List.mem_of_getElem? (i := 70) (by decide +kernel))) rfl
theorem tw_657 : Cond.instanceMethod yX8_indexIn ∈ TB := TB_of (tin_3 (List.mem_of_getElem? (i := 72) (by decide +kernel))) rfl
theorem tw_658 : Cond.code yX8_indexIn cX8_indexIn 8 (some .int) ∈ TB := TB_of (tin_3 (List.mem_of_getElem? (i := 73) (by decide +kernel))) rfl
theorem tw_659 : Cond.methodLink RX8 107 yJ0_length_8abf5 ∈ TB := TB_of (tin_3 (List.mem_of_getElem? (i := 74) (by decide +kernel))) rfl
theorem tw_660 : Cond.instanceMethod yJ0_length_8abf5 ∈ TB := TB_of (tin_3 (List.mem_of_getElem? (i := 75) (by decide +kernel))) rfl
theorem tw_661 : Cond.selects RJ0 yJ0_length_8abf5 yJ0_length_8abf5 ∈ TB := TB_of (tin_3 (List.mem_of_getElem? (i := 76) (by decide +kernel))) rfl
theorem tw_662 : Cond.code yJ0_length_8abf5 cJ0_length_8abf5 1 (some .int) ∈ TB := TB_of (tin_3 (List.mem_of_getElem? (i := 77) (by decide +kernel))) rfl
theorem tw_663 : Cond.methodLink RJ0 335 yJ0_coder_7d493 ∈ TB := TB_of (tin_3 (List.mem_of_getElem? (i := 78) (by decide +kernel))) rfl
theorem tw_664 : Cond.instanceMethod yJ0_coder_7d493 ∈ TB := TB_of (tin_3 (List.mem_of_getElem? (i := 79) (by decide +kernel))) rfl
theorem tw_665 : Cond.selects RJ0 yJ0_coder_7d493 yJ0_coder_7d493 ∈ TB := TB_of (tin_3 (List.mem_of_getElem? (i := 80) (by decide +kernel))) rfl
theorem tw_666 : Cond.code yJ0_coder_7d493 cJ0_coder_7d493 1 (some .byte) ∈ TB := TB_of (tin_3 (List.mem_of_getElem? (i := 81) (by decide +kernel))) rfl
theorem tw_667 : Cond.fieldLink RJ0 38 RJ0 "COMPACT_STRINGS" "Z" ∈ TB := TB_of (tin_3 (List.mem_of_getElem? (i := 82) (by decide +kernel))) rfl
theorem tw_669 : Cond.methodLink RX8 111 yJ0_charAt_5068e ∈ TB := TB_of (tin_3 (List.mem_of_getElem? (i := 84) (by decide +kernel))) rfl
theorem tw_670 : Cond.instanceMethod yJ0_charAt_5068e ∈ TB := TB_of (tin_3 (List.mem_of_getElem? (i := 85) (by decide +kernel))) rfl
theorem tw_671 : Cond.selects RJ0 yJ0_charAt_5068e yJ0_charAt_5068e ∈ TB := TB_of (tin_3 (List.mem_of_getElem? (i := 86) (by decide +kernel))) rfl
theorem tw_672 : Cond.code yJ0_charAt_5068e cJ0_charAt_5068e 2 (some .char) ∈ TB := TB_of (tin_3 (List.mem_of_getElem? (i := 87) (by decide +kernel))) rfl
theorem tw_673 : Cond.methodLink RJ0 492 yJ0_isLatin1_aae02 ∈ TB := TB_of (tin_3 (List.mem_of_getElem? (i := 88) (by decide +kernel))) rfl
theorem tw_674 : Cond.instanceMethod yJ0_isLatin1_aae02 ∈ TB := TB_of (tin_3 (List.mem_of_getElem? (i := 89) (by decide +kernel))) rfl
theorem tw_675 : Cond.selects RJ0 yJ0_isLatin1_aae02 yJ0_isLatin1_aae02 ∈ TB := TB_of (tin_3 (List.mem_of_getElem? (i := 90) (by decide +kernel))) rfl
theorem tw_676 : Cond.code yJ0_isLatin1_aae02 cJ0_isLatin1_aae02 1 (some .boolean) ∈ TB := TB_of (tin_3 (List.mem_of_getElem? (i := 91) (by decide +kernel))) rfl
theorem tw_677 : Cond.methodLink RJ0 495 yJ1_charAt_3b067 ∈ TB := TB_of (tin_3 (List.mem_of_getElem? (i := 92) (by decide +kernel))) rfl
theorem tw_678 : Cond.static yJ1_charAt_3b067 ∈ TB := TB_of (tin_3 (List.mem_of_getElem? (i := 93) (by decide +kernel))) rfl
theorem tw_679 : Cond.code yJ1_charAt_3b067 cJ1_charAt_3b067 2 (some .char) ∈ TB := TB_of (tin_3 (List.mem_of_getElem? (i := 94) (by decide +kernel))) rfl
theorem tw_680 : Cond.methodLink RJ1 9 yJ0_checkIndex_df160 ∈ TB := TB_of (tin_3 (List.mem_of_getElem? (i := 95) (by decide +kernel))) rfl
theorem tw_681 : Cond.static yJ0_checkIndex_df160 ∈ TB := TB_of (tin_3 (List.mem_of_getElem? (i := 96) (by decide +kernel))) rfl
theorem tw_682 : Cond.code yJ0_checkIndex_df160 cJ0_checkIndex_df160 2 none ∈ TB := TB_of (tin_3 (List.mem_of_getElem? (i := 97) (by decide +kernel))) rfl
theorem tw_683 : Cond.fieldLink RJ0 1053 RJ3 "SIOOBE_FORMATTER" "Ljava/util/function/BiFunction;" ∈ TB := TB_of (tin_3 (List.mem_of_getElem? (i := 98) (by decide +kernel))) rfl
theorem tw_685 : Cond.methodLink RJ0 1059 yJ3_checkIndex_8e157 ∈ TB := TB_of (tin_3 (List.mem_of_getElem? (i := 100) (by decide +kernel))) rfl
theorem tw_686 : Cond.static yJ3_checkIndex_8e157 ∈ TB := TB_of (tin_3 (List.mem_of_getElem? (i := 101) (by decide +kernel))) rfl
theorem tw_687 : Cond.code yJ3_checkIndex_8e157 cJ3_checkIndex_8e157 3 (some .int) ∈ TB := TB_of (tin_3 (List.mem_of_getElem? (i := 102) (by decide +kernel))) rfl
theorem tw_688 : Cond.methodLink RJ0 498 yJ2_charAt_3b067 ∈ TB := TB_of (tin_3 (List.mem_of_getElem? (i := 103) (by decide +kernel))) rfl
theorem tw_689 : Cond.static yJ2_charAt_3b067 ∈ TB := TB_of (tin_3 (List.mem_of_getElem? (i := 104) (by decide +kernel))) rfl
theorem tw_690 : Cond.code yJ2_charAt_3b067 cJ2_charAt_3b067 2 (some .char) ∈ TB := TB_of (tin_3 (List.mem_of_getElem? (i := 105) (by decide +kernel))) rfl
theorem tw_691 : Cond.methodLink RJ2 67 yJ2_checkIndex_2214a ∈ TB := TB_of (tin_3 (List.mem_of_getElem? (i := 106) (by decide +kernel))) rfl
theorem tw_692 : Cond.static yJ2_checkIndex_2214a ∈ TB := TB_of (tin_3 (List.mem_of_getElem? (i := 107) (by decide +kernel))) rfl
theorem tw_693 : Cond.code yJ2_checkIndex_2214a cJ2_checkIndex_2214a 2 none ∈ TB := TB_of (tin_3 (List.mem_of_getElem? (i := 108) (by decide +kernel))) rfl
theorem tw_694 : Cond.methodLink RJ2 48 yJ2_length_9d52b ∈ TB := TB_of (tin_3 (List.mem_of_getElem? (i := 109) (by decide +kernel))) rfl
theorem tw_695 : Cond.static yJ2_length_9d52b ∈ TB := TB_of (tin_3 (List.mem_of_getElem? (i := 110) (by decide +kernel))) rfl
theorem tw_696 : Cond.code yJ2_length_9d52b cJ2_length_9d52b 1 (some .int) ∈ TB := TB_of (tin_3 (List.mem_of_getElem? (i := 111) (by decide +kernel))) rfl
theorem tw_697 : Cond.methodLink RJ2 414 yJ0_checkIndex_df160 ∈ TB := TB_of (tin_3 (List.mem_of_getElem? (i := 112) (by decide +kernel))) rfl
theorem tw_698 : Cond.methodLink RJ2 71 yJ2_getChar_3b067 ∈ TB := TB_of (tin_3 (List.mem_of_getElem? (i := 113) (by decide +kernel))) rfl
theorem tw_699 : Cond.static yJ2_getChar_3b067 ∈ TB := TB_of (tin_3 (List.mem_of_getElem? (i := 114) (by decide +kernel))) rfl
theorem tw_700 : Cond.code yJ2_getChar_3b067 cJ2_getChar_3b067 2 (some .char) ∈ TB := TB_of (tin_3 (List.mem_of_getElem? (i := 115) (by decide +kernel))) rfl
theorem tw_701 : Cond.fieldLink RJ2 44 RJ2 "$assertionsDisabled" "Z" ∈ TB := TB_of (tin_3 (List.mem_of_getElem? (i := 116) (by decide +kernel))) rfl
theorem tw_703 : Cond.fieldLink RJ2 59 RJ2 "HI_BYTE_SHIFT" "I" ∈ TB := TB_of (tin_3 (List.mem_of_getElem? (i := 118) (by decide +kernel))) rfl
theorem tw_705 : Cond.fieldLink RJ2 63 RJ2 "LO_BYTE_SHIFT" "I" ∈ TB := TB_of (tin_3 (List.mem_of_getElem? (i := 120) (by decide +kernel))) rfl
theorem tw_711 : Cond.methodLink RX8 55 yX8_here ∈ TB := TB_of (tin_3 (List.mem_of_getElem? (i := 126) (by decide +kernel))) rfl
theorem tw_713 : Cond.instanceMethod yX8_here ∈ TB := TB_of (tin_3 (List.mem_of_getElem? (i := 128) (by decide +kernel))) rfl
theorem tw_714 : Cond.code yX8_here cX8_here 1 (some .int) ∈ TB := TB_of (tin_3 (List.mem_of_getElem? (i := 129) (by decide +kernel))) rfl
theorem tw_715 : Cond.methodLink RX8 59 yX8_readLine ∈ TB := TB_of (tin_3 (List.mem_of_getElem? (i := 130) (by decide +kernel))) rfl
theorem tw_717 : Cond.instanceMethod yX8_readLine ∈ TB := TB_of (tin_3 (List.mem_of_getElem? (i := 132) (by decide +kernel))) rfl
theorem tw_718 : Cond.code yX8_readLine cX8_readLine 4 (some .boolean) ∈ TB := TB_of (tin_3 (List.mem_of_getElem? (i := 133) (by decide +kernel))) rfl
theorem tw_719 : Cond.methodLink RX8 63 yX8_take ∈ TB := TB_of (tin_3 (List.mem_of_getElem? (i := 134) (by decide +kernel))) rfl
theorem tw_721 : Cond.instanceMethod yX8_take ∈ TB := TB_of (tin_3 (List.mem_of_getElem? (i := 136) (by decide +kernel))) rfl
theorem tw_722 : Cond.code yX8_take cX8_take 2 (some .boolean) ∈ TB := TB_of (tin_3 (List.mem_of_getElem? (i := 137) (by decide +kernel))) rfl
theorem tw_723 : Cond.methodLink RX8 115 yX8_readEither ∈ TB := TB_of (tin_3 (List.mem_of_getElem? (i := 138) (by decide +kernel))) rfl
theorem tw_725 : Cond.instanceMethod yX8_readEither ∈ TB := TB_of (tin_3 (List.mem_of_getElem? (i := 140) (by decide +kernel))) rfl
theorem tw_726 : Cond.code yX8_readEither cX8_readEither 3 (some .boolean) ∈ TB := TB_of (tin_3 (List.mem_of_getElem? (i := 141) (by decide +kernel))) rfl
theorem tw_727 : Cond.methodLink RX8 118 yX8_readAll ∈ TB := TB_of (tin_3 (List.mem_of_getElem? (i := 142) (by decide +kernel))) rfl
theorem tw_729 : Cond.instanceMethod yX8_readAll ∈ TB := TB_of (tin_3 (List.mem_of_getElem? (i := 144) (by decide +kernel))) rfl
theorem tw_730 : Cond.code yX8_readAll cX8_readAll 3 (some .boolean) ∈ TB := TB_of (tin_3 (List.mem_of_getElem? (i := 145) (by decide +kernel))) rfl
theorem tw_731 : Cond.methodLink RX8 125 yX8_readAtom ∈ TB := TB_of (tin_3 (List.mem_of_getElem? (i := 146) (by decide +kernel))) rfl
theorem tw_733 : Cond.instanceMethod yX8_readAtom ∈ TB := TB_of (tin_3 (List.mem_of_getElem? (i := 148) (by decide +kernel))) rfl
theorem tw_734 : Cond.code yX8_readAtom cX8_readAtom 4 (some .boolean) ∈ TB := TB_of (tin_3 (List.mem_of_getElem? (i := 149) (by decide +kernel))) rfl
theorem tw_735 : Cond.methodLink RX8 121 yX8_write ∈ TB := TB_of (tin_3 (List.mem_of_getElem? (i := 150) (by decide +kernel))) rfl
theorem tw_737 : Cond.instanceMethod yX8_write ∈ TB := TB_of (tin_3 (List.mem_of_getElem? (i := 152) (by decide +kernel))) rfl
theorem tw_738 : Cond.code yX8_write cX8_write 2 none ∈ TB := TB_of (tin_3 (List.mem_of_getElem? (i := 153) (by decide +kernel))) rfl
theorem tw_739 : Cond.methodLink RX8 128 yX8_readSum ∈ TB := TB_of (tin_3 (List.mem_of_getElem? (i := 154) (by decide +kernel))) rfl
theorem tw_741 : Cond.instanceMethod yX8_readSum ∈ TB := TB_of (tin_3 (List.mem_of_getElem? (i := 156) (by decide +kernel))) rfl
theorem tw_742 : Cond.code yX8_readSum cX8_readSum 3 (some .boolean) ∈ TB := TB_of (tin_3 (List.mem_of_getElem? (i := 157) (by decide +kernel))) rfl
theorem tw_743 : Cond.classLink RX8 25 RX10 ∈ TB := TB_of (tin_3 (List.mem_of_getElem? (i := 158) (by decide +kernel))) rfl
theorem tw_744 : Cond.instantiable RX10 4 ∈ TB := TB_of (tin_3 (List.mem_of_getElem? (i := 159) (by decide +kernel))) rfl
theorem tw_745 : Cond.methodLink RX8 67 yJ7_copyOf_59c91 ∈ TB := TB_of (tin_3 (List.mem_of_getElem? (i := 160) (by decide +kernel))) rfl
theorem tw_746 : Cond.static yJ7_copyOf_59c91 ∈ TB := TB_of (tin_3 (List.mem_of_getElem? (i := 161) (by decide +kernel))) rfl
theorem tw_747 : Cond.code yJ7_copyOf_59c91 cJ7_copyOf_59c91 3 (some (.array .int)) ∈ TB := TB_of (tin_3 (List.mem_of_getElem? (i := 162) (by decide +kernel))) rfl
theorem tw_754 : Cond.classLink RJ7 317 "[I" ∈ TB := TB_of (tin_3 (List.mem_of_getElem? (i := 169) (by decide +kernel))) rfl
theorem tw_755 : Cond.methodLink RJ7 304 yJ9_min_7cf53 ∈ TB := TB_of (tin_3 (List.mem_of_getElem? (i := 170) (by decide +kernel))) rfl
theorem tw_756 : Cond.static yJ9_min_7cf53 ∈ TB := TB_of (tin_3 (List.mem_of_getElem? (i := 171) (by decide +kernel))) rfl
theorem tw_757 : Cond.code yJ9_min_7cf53 cJ9_min_7cf53 2 (some .int) ∈ TB := TB_of (tin_3 (List.mem_of_getElem? (i := 172) (by decide +kernel))) rfl
theorem tw_759 : Cond.methodLink RX8 73 yX10_init ∈ TB := TB_of (tin_3 (List.mem_of_getElem? (i := 174) (by decide +kernel))) rfl
theorem tw_760 : Cond.instanceMethod yX10_init ∈ TB := TB_of (tin_3 (List.mem_of_getElem? (i := 175) (by decide +kernel))) rfl
theorem tw_761 : Cond.code yX10_init cX10_init 5 none ∈ TB := TB_of (tin_3 (List.mem_of_getElem? (i := 176) (by decide +kernel))) rfl
theorem tw_763 : Cond.fieldLink RX10 7 RX10 "amounts" "[I" ∈ TB := TB_of (tin_3 (List.mem_of_getElem? (i := 178) (by decide +kernel))) rfl
theorem tw_764 : Cond.fieldLink RX9 18 RX10 "amounts" "[I" ∈ TB := TB_of (tin_3 (List.mem_of_getElem? (i := 179) (by decide +kernel))) rfl
theorem tw_765 : Cond.fieldLink RX10 13 RX10 "times" "[I" ∈ TB := TB_of (tin_3 (List.mem_of_getElem? (i := 180) (by decide +kernel))) rfl
theorem tw_766 : Cond.fieldLink RX9 30 RX10 "times" "[I" ∈ TB := TB_of (tin_3 (List.mem_of_getElem? (i := 181) (by decide +kernel))) rfl
theorem tw_767 : Cond.fieldLink RX10 16 RX10 "ends" "[I" ∈ TB := TB_of (tin_3 (List.mem_of_getElem? (i := 182) (by decide +kernel))) rfl
theorem tw_768 : Cond.fieldLink RX9 23 RX10 "ends" "[I" ∈ TB := TB_of (tin_3 (List.mem_of_getElem? (i := 183) (by decide +kernel))) rfl
theorem tw_769 : Cond.fieldLink RX10 19 RX10 "code" "[I" ∈ TB := TB_of (tin_3 (List.mem_of_getElem? (i := 184) (by decide +kernel))) rfl
theorem tw_770 : Cond.fieldLink RX9 39 RX10 "code" "[I" ∈ TB := TB_of (tin_3 (List.mem_of_getElem? (i := 185) (by decide +kernel))) rfl
theorem tw_781 : Cond.classLink RX11 92 "java/lang/IllegalArgumentException" ∈ TB := TB_of (tin_3 (List.mem_of_getElem? (i := 196) (by decide +kernel))) rfl
theorem tw_782 : Cond.instantiable "java/lang/IllegalArgumentException" 6 ∈ TB := TB_of (tin_3 (List.mem_of_getElem? (i := 197) (by decide +kernel))) rfl
theorem tw_802 : Cond.fieldLink "java/lang/Throwable" 198 "java/lang/Throwable" "backtrace" "Ljava/lang/Object;" ∈ TB := TB_of (tin_3 (List.mem_of_getElem? (i := 217) (by decide +kernel))) rfl
theorem tw_807 : Cond.fieldLink "java/lang/Throwable" 13 "java/lang/Throwable" "UNASSIGNED_STACK" "[Ljava/lang/StackTraceElement;" ∈ TB := TB_of (tin_3 (List.mem_of_getElem? (i := 222) (by decide +kernel))) rfl
theorem tw_809 : Cond.fieldLink "java/lang/Throwable" 20 "java/lang/Throwable" "SUPPRESSED_SENTINEL" "Ljava/util/List;" ∈ TB := TB_of (tin_3 (List.mem_of_getElem? (i := 224) (by decide +kernel))) rfl
theorem tw_822 : Cond.instantiable "java/lang/Throwable" 6 ∈ TB := TB_of (tin_3 (List.mem_of_getElem? (i := 237) (by decide +kernel))) rfl
theorem tw_838 : Cond.fieldLink "java/lang/Throwable" 31 "java/lang/Throwable" "detailMessage" "Ljava/lang/String;" ∈ TB := TB_of (tin_4 (List.mem_of_getElem? (i := 13) (by decide +kernel))) rfl
theorem tw_839 : Cond.fieldLink "java/lang/Throwable" 7 "java/lang/Throwable" "cause" "Ljava/lang/Throwable;" ∈ TB := TB_of (tin_4 (List.mem_of_getElem? (i := 14) (by decide +kernel))) rfl
theorem tw_840 : Cond.fieldLink "java/lang/Throwable" 17 "java/lang/Throwable" "stackTrace" "[Ljava/lang/StackTraceElement;" ∈ TB := TB_of (tin_4 (List.mem_of_getElem? (i := 15) (by decide +kernel))) rfl
theorem tw_841 : Cond.fieldLink "java/lang/Throwable" 24 "java/lang/Throwable" "suppressedExceptions" "Ljava/util/List;" ∈ TB := TB_of (tin_4 (List.mem_of_getElem? (i := 16) (by decide +kernel))) rfl
theorem tw_850 : Cond.classLink RX11 102 "java/lang/UnsupportedOperationException" ∈ TB := TB_of (tin_4 (List.mem_of_getElem? (i := 25) (by decide +kernel))) rfl
theorem tw_851 : Cond.instantiable "java/lang/UnsupportedOperationException" 6 ∈ TB := TB_of (tin_4 (List.mem_of_getElem? (i := 26) (by decide +kernel))) rfl
theorem tw_866 : Cond.methodLink RL 150 yL_rule ∈ TB := TB_of (tin_4 (List.mem_of_getElem? (i := 41) (by decide +kernel))) rfl
theorem tw_869 : Cond.methodLink RL 17 yX11_rule ∈ TB := TB_of (tin_4 (List.mem_of_getElem? (i := 44) (by decide +kernel))) rfl
theorem tw_870 : Cond.instanceMethod yX11_rule ∈ TB := TB_of (tin_4 (List.mem_of_getElem? (i := 45) (by decide +kernel))) rfl
theorem tw_871 : Cond.selects RX11 yX11_rule yX11_rule ∈ TB := TB_of (tin_4 (List.mem_of_getElem? (i := 46) (by decide +kernel))) rfl
theorem tw_872 : Cond.code yX11_rule cX11_rule 2 (some .int) ∈ TB := TB_of (tin_4 (List.mem_of_getElem? (i := 47) (by decide +kernel))) rfl
theorem tw_875 : Cond.methodLink RL 157 yL_dull ∈ TB := TB_of (tin_4 (List.mem_of_getElem? (i := 50) (by decide +kernel))) rfl
theorem tw_878 : Cond.classLink RL 24 "java/lang/IndexOutOfBoundsException" ∈ TB := TB_of (tin_4 (List.mem_of_getElem? (i := 53) (by decide +kernel))) rfl
theorem tw_879 : Cond.methodLink RL 20 yX11_dull ∈ TB := TB_of (tin_4 (List.mem_of_getElem? (i := 54) (by decide +kernel))) rfl
theorem tw_880 : Cond.instanceMethod yX11_dull ∈ TB := TB_of (tin_4 (List.mem_of_getElem? (i := 55) (by decide +kernel))) rfl
theorem tw_881 : Cond.selects RX11 yX11_dull yX11_dull ∈ TB := TB_of (tin_4 (List.mem_of_getElem? (i := 56) (by decide +kernel))) rfl
theorem tw_882 : Cond.code yX11_dull cX11_dull 5 (some .int) ∈ TB := TB_of (tin_4 (List.mem_of_getElem? (i := 57) (by decide +kernel))) rfl
theorem tw_883 : Cond.classLink RX11 124 "java/lang/IndexOutOfBoundsException" ∈ TB := TB_of (tin_4 (List.mem_of_getElem? (i := 58) (by decide +kernel))) rfl
theorem tw_884 : Cond.instantiable "java/lang/IndexOutOfBoundsException" 6 ∈ TB := TB_of (tin_4 (List.mem_of_getElem? (i := 59) (by decide +kernel))) rfl
theorem tw_900 : Cond.methodLink RL 161 yL_house ∈ TB := TB_of (tin_4 (List.mem_of_getElem? (i := 75) (by decide +kernel))) rfl
theorem tw_903 : Cond.methodLink RL 26 yX11_house ∈ TB := TB_of (tin_4 (List.mem_of_getElem? (i := 78) (by decide +kernel))) rfl
theorem tw_904 : Cond.instanceMethod yX11_house ∈ TB := TB_of (tin_4 (List.mem_of_getElem? (i := 79) (by decide +kernel))) rfl
theorem tw_905 : Cond.selects RX11 yX11_house yX11_house ∈ TB := TB_of (tin_4 (List.mem_of_getElem? (i := 80) (by decide +kernel))) rfl
theorem tw_906 : Cond.code yX11_house cX11_house 2 (some .int) ∈ TB := TB_of (tin_4 (List.mem_of_getElem? (i := 81) (by decide +kernel))) rfl
theorem tw_909 : Cond.methodLink RX11 142 yX7_addHouse ∈ TB := TB_of (tin_4 (List.mem_of_getElem? (i := 84) (by decide +kernel))) rfl
theorem tw_910 : Cond.instanceMethod yX7_addHouse ∈ TB := TB_of (tin_4 (List.mem_of_getElem? (i := 85) (by decide +kernel))) rfl
theorem tw_911 : Cond.selects RX7 yX7_addHouse yX7_addHouse ∈ TB := TB_of (tin_4 (List.mem_of_getElem? (i := 86) (by decide +kernel))) rfl
theorem tw_912 : Cond.code yX7_addHouse cX7_addHouse 3 (some .int) ∈ TB := TB_of (tin_4 (List.mem_of_getElem? (i := 87) (by decide +kernel))) rfl
theorem tw_913 : Cond.methodLink RL 165 yL_look ∈ TB := TB_of (tin_4 (List.mem_of_getElem? (i := 88) (by decide +kernel))) rfl
theorem tw_916 : Cond.methodLink RL 30 yX11_look ∈ TB := TB_of (tin_4 (List.mem_of_getElem? (i := 91) (by decide +kernel))) rfl
theorem tw_917 : Cond.instanceMethod yX11_look ∈ TB := TB_of (tin_4 (List.mem_of_getElem? (i := 92) (by decide +kernel))) rfl
theorem tw_918 : Cond.selects RX11 yX11_look yX11_look ∈ TB := TB_of (tin_4 (List.mem_of_getElem? (i := 93) (by decide +kernel))) rfl
theorem tw_919 : Cond.code yX11_look cX11_look 4 none ∈ TB := TB_of (tin_4 (List.mem_of_getElem? (i := 94) (by decide +kernel))) rfl
theorem tw_920 : Cond.methodLink RX11 146 yX11_checkDoor ∈ TB := TB_of (tin_4 (List.mem_of_getElem? (i := 95) (by decide +kernel))) rfl
theorem tw_922 : Cond.instanceMethod yX11_checkDoor ∈ TB := TB_of (tin_4 (List.mem_of_getElem? (i := 97) (by decide +kernel))) rfl
theorem tw_923 : Cond.code yX11_checkDoor cX11_checkDoor 3 none ∈ TB := TB_of (tin_4 (List.mem_of_getElem? (i := 98) (by decide +kernel))) rfl
theorem tw_924 : Cond.methodLink RX11 400 yX11_checkHouse ∈ TB := TB_of (tin_4 (List.mem_of_getElem? (i := 99) (by decide +kernel))) rfl
theorem tw_926 : Cond.instanceMethod yX11_checkHouse ∈ TB := TB_of (tin_4 (List.mem_of_getElem? (i := 101) (by decide +kernel))) rfl
theorem tw_927 : Cond.code yX11_checkHouse cX11_checkHouse 2 none ∈ TB := TB_of (tin_4 (List.mem_of_getElem? (i := 102) (by decide +kernel))) rfl
theorem tw_931 : Cond.methodLink RL 169 yL_pack ∈ TB := TB_of (tin_4 (List.mem_of_getElem? (i := 106) (by decide +kernel))) rfl
theorem tw_934 : Cond.methodLink RL 34 yX11_pack ∈ TB := TB_of (tin_4 (List.mem_of_getElem? (i := 109) (by decide +kernel))) rfl
theorem tw_935 : Cond.instanceMethod yX11_pack ∈ TB := TB_of (tin_4 (List.mem_of_getElem? (i := 110) (by decide +kernel))) rfl
theorem tw_936 : Cond.selects RX11 yX11_pack yX11_pack ∈ TB := TB_of (tin_4 (List.mem_of_getElem? (i := 111) (by decide +kernel))) rfl
theorem tw_937 : Cond.code yX11_pack cX11_pack 4 (some .int) ∈ TB := TB_of (tin_4 (List.mem_of_getElem? (i := 112) (by decide +kernel))) rfl
theorem tw_938 : Cond.methodLink RX11 155 yX11_isStep ∈ TB := TB_of (tin_4 (List.mem_of_getElem? (i := 113) (by decide +kernel))) rfl
theorem tw_939 : Cond.static yX11_isStep ∈ TB := TB_of (tin_4 (List.mem_of_getElem? (i := 114) (by decide +kernel))) rfl
theorem tw_940 : Cond.code yX11_isStep cX11_isStep 1 (some .boolean) ∈ TB := TB_of (tin_4 (List.mem_of_getElem? (i := 115) (by decide +kernel))) rfl
theorem tw_943 : Cond.methodLink RX11 170 yX2_begin ∈ TB := TB_of (tin_4 (List.mem_of_getElem? (i := 118) (by decide +kernel))) rfl
theorem tw_944 : Cond.instanceMethod yX2_begin ∈ TB := TB_of (tin_4 (List.mem_of_getElem? (i := 119) (by decide +kernel))) rfl
theorem tw_945 : Cond.selects RX2 yX2_begin yX2_begin ∈ TB := TB_of (tin_4 (List.mem_of_getElem? (i := 120) (by decide +kernel))) rfl
theorem tw_946 : Cond.code yX2_begin cX2_begin 4 none ∈ TB := TB_of (tin_4 (List.mem_of_getElem? (i := 121) (by decide +kernel))) rfl
theorem tw_947 : Cond.methodLink RX2 36 yJ7_fill_53178 ∈ TB := TB_of (tin_4 (List.mem_of_getElem? (i := 122) (by decide +kernel))) rfl
theorem tw_948 : Cond.methodLink RL 172 yL_card ∈ TB := TB_of (tin_4 (List.mem_of_getElem? (i := 123) (by decide +kernel))) rfl
theorem tw_951 : Cond.methodLink RL 37 yX11_card ∈ TB := TB_of (tin_4 (List.mem_of_getElem? (i := 126) (by decide +kernel))) rfl
theorem tw_952 : Cond.instanceMethod yX11_card ∈ TB := TB_of (tin_4 (List.mem_of_getElem? (i := 127) (by decide +kernel))) rfl
theorem tw_953 : Cond.selects RX11 yX11_card yX11_card ∈ TB := TB_of (tin_4 (List.mem_of_getElem? (i := 128) (by decide +kernel))) rfl
theorem tw_954 : Cond.code yX11_card cX11_card 3 (some .int) ∈ TB := TB_of (tin_4 (List.mem_of_getElem? (i := 129) (by decide +kernel))) rfl
theorem tw_955 : Cond.methodLink RX11 176 yX11_checkPlaceIn ∈ TB := TB_of (tin_4 (List.mem_of_getElem? (i := 130) (by decide +kernel))) rfl
theorem tw_957 : Cond.instanceMethod yX11_checkPlaceIn ∈ TB := TB_of (tin_4 (List.mem_of_getElem? (i := 132) (by decide +kernel))) rfl
theorem tw_958 : Cond.code yX11_checkPlaceIn cX11_checkPlaceIn 3 none ∈ TB := TB_of (tin_4 (List.mem_of_getElem? (i := 133) (by decide +kernel))) rfl
theorem tw_959 : Cond.methodLink RX11 182 yX11_checkPack ∈ TB := TB_of (tin_4 (List.mem_of_getElem? (i := 134) (by decide +kernel))) rfl
theorem tw_961 : Cond.instanceMethod yX11_checkPack ∈ TB := TB_of (tin_4 (List.mem_of_getElem? (i := 136) (by decide +kernel))) rfl
theorem tw_962 : Cond.code yX11_checkPack cX11_checkPack 2 none ∈ TB := TB_of (tin_4 (List.mem_of_getElem? (i := 137) (by decide +kernel))) rfl
theorem tw_965 : Cond.methodLink RX11 179 yX2_cardAt ∈ TB := TB_of (tin_4 (List.mem_of_getElem? (i := 140) (by decide +kernel))) rfl
theorem tw_966 : Cond.methodLink RL 176 yL_put ∈ TB := TB_of (tin_4 (List.mem_of_getElem? (i := 141) (by decide +kernel))) rfl
theorem tw_969 : Cond.classLink RL 45 "java/lang/IllegalStateException" ∈ TB := TB_of (tin_4 (List.mem_of_getElem? (i := 144) (by decide +kernel))) rfl
theorem tw_970 : Cond.methodLink RL 41 yX11_put ∈ TB := TB_of (tin_4 (List.mem_of_getElem? (i := 145) (by decide +kernel))) rfl
theorem tw_971 : Cond.instanceMethod yX11_put ∈ TB := TB_of (tin_4 (List.mem_of_getElem? (i := 146) (by decide +kernel))) rfl
theorem tw_972 : Cond.selects RX11 yX11_put yX11_put ∈ TB := TB_of (tin_4 (List.mem_of_getElem? (i := 147) (by decide +kernel))) rfl
theorem tw_973 : Cond.code yX11_put cX11_put 8 (some .int) ∈ TB := TB_of (tin_4 (List.mem_of_getElem? (i := 148) (by decide +kernel))) rfl
theorem tw_974 : Cond.classLink RX11 189 "java/lang/IllegalStateException" ∈ TB := TB_of (tin_4 (List.mem_of_getElem? (i := 149) (by decide +kernel))) rfl
theorem tw_975 : Cond.instantiable "java/lang/IllegalStateException" 6 ∈ TB := TB_of (tin_4 (List.mem_of_getElem? (i := 150) (by decide +kernel))) rfl
theorem tw_990 : Cond.methodLink RX11 194 yX11_checkPer ∈ TB := TB_of (tin_4 (List.mem_of_getElem? (i := 165) (by decide +kernel))) rfl
theorem tw_992 : Cond.instanceMethod yX11_checkPer ∈ TB := TB_of (tin_4 (List.mem_of_getElem? (i := 167) (by decide +kernel))) rfl
theorem tw_993 : Cond.code yX11_checkPer cX11_checkPer 2 none ∈ TB := TB_of (tin_4 (List.mem_of_getElem? (i := 168) (by decide +kernel))) rfl
theorem tw_995 : Cond.methodLink RX11 197 yX11_checkSeconds ∈ TB := TB_of (tin_4 (List.mem_of_getElem? (i := 170) (by decide +kernel))) rfl
theorem tw_997 : Cond.instanceMethod yX11_checkSeconds ∈ TB := TB_of (tin_4 (List.mem_of_getElem? (i := 172) (by decide +kernel))) rfl
theorem tw_998 : Cond.code yX11_checkSeconds cX11_checkSeconds 2 none ∈ TB := TB_of (tin_4 (List.mem_of_getElem? (i := 173) (by decide +kernel))) rfl
theorem tw_1000 : Cond.methodLink RX11 200 yX2_placesBy ∈ TB := TB_of (tin_4 (List.mem_of_getElem? (i := 175) (by decide +kernel))) rfl
theorem tw_1001 : Cond.instanceMethod yX2_placesBy ∈ TB := TB_of (tin_4 (List.mem_of_getElem? (i := 176) (by decide +kernel))) rfl
theorem tw_1002 : Cond.selects RX2 yX2_placesBy yX2_placesBy ∈ TB := TB_of (tin_4 (List.mem_of_getElem? (i := 177) (by decide +kernel))) rfl
theorem tw_1003 : Cond.code yX2_placesBy cX2_placesBy 2 (some .int) ∈ TB := TB_of (tin_4 (List.mem_of_getElem? (i := 178) (by decide +kernel))) rfl
theorem tw_1005 : Cond.methodLink RX11 208 yX11_checkClock ∈ TB := TB_of (tin_4 (List.mem_of_getElem? (i := 180) (by decide +kernel))) rfl
theorem tw_1007 : Cond.instanceMethod yX11_checkClock ∈ TB := TB_of (tin_4 (List.mem_of_getElem? (i := 182) (by decide +kernel))) rfl
theorem tw_1008 : Cond.code yX11_checkClock cX11_checkClock 2 none ∈ TB := TB_of (tin_4 (List.mem_of_getElem? (i := 183) (by decide +kernel))) rfl
theorem tw_1009 : Cond.constant RX11 501 1000000 ∈ TB := TB_of (tin_4 (List.mem_of_getElem? (i := 184) (by decide +kernel))) rfl
theorem tw_1011 : Cond.methodLink RX11 215 yX4_begin ∈ TB := TB_of (tin_4 (List.mem_of_getElem? (i := 186) (by decide +kernel))) rfl
theorem tw_1012 : Cond.instanceMethod yX4_begin ∈ TB := TB_of (tin_4 (List.mem_of_getElem? (i := 187) (by decide +kernel))) rfl
theorem tw_1013 : Cond.selects RX4 yX4_begin yX4_begin ∈ TB := TB_of (tin_4 (List.mem_of_getElem? (i := 188) (by decide +kernel))) rfl
theorem tw_1014 : Cond.code yX4_begin cX4_begin 5 none ∈ TB := TB_of (tin_4 (List.mem_of_getElem? (i := 189) (by decide +kernel))) rfl
theorem tw_1015 : Cond.methodLink RX11 229 yX4_touchFrom ∈ TB := TB_of (tin_4 (List.mem_of_getElem? (i := 190) (by decide +kernel))) rfl
theorem tw_1016 : Cond.instanceMethod yX4_touchFrom ∈ TB := TB_of (tin_4 (List.mem_of_getElem? (i := 191) (by decide +kernel))) rfl
theorem tw_1017 : Cond.selects RX4 yX4_touchFrom yX4_touchFrom ∈ TB := TB_of (tin_4 (List.mem_of_getElem? (i := 192) (by decide +kernel))) rfl
theorem tw_1018 : Cond.code yX4_touchFrom cX4_touchFrom 3 none ∈ TB := TB_of (tin_4 (List.mem_of_getElem? (i := 193) (by decide +kernel))) rfl
theorem tw_1019 : Cond.methodLink RL 180 yL_later ∈ TB := TB_of (tin_4 (List.mem_of_getElem? (i := 194) (by decide +kernel))) rfl
theorem tw_1022 : Cond.methodLink RL 47 yX11_later ∈ TB := TB_of (tin_4 (List.mem_of_getElem? (i := 197) (by decide +kernel))) rfl
theorem tw_1023 : Cond.instanceMethod yX11_later ∈ TB := TB_of (tin_4 (List.mem_of_getElem? (i := 198) (by decide +kernel))) rfl
theorem tw_1024 : Cond.selects RX11 yX11_later yX11_later ∈ TB := TB_of (tin_4 (List.mem_of_getElem? (i := 199) (by decide +kernel))) rfl
theorem tw_1025 : Cond.code yX11_later cX11_later 2 (some .int) ∈ TB := TB_of (tin_4 (List.mem_of_getElem? (i := 200) (by decide +kernel))) rfl
theorem tw_1027 : Cond.methodLink RL 183 yL_go ∈ TB := TB_of (tin_4 (List.mem_of_getElem? (i := 202) (by decide +kernel))) rfl
theorem tw_1030 : Cond.methodLink RL 50 yX11_go ∈ TB := TB_of (tin_4 (List.mem_of_getElem? (i := 205) (by decide +kernel))) rfl
theorem tw_1031 : Cond.instanceMethod yX11_go ∈ TB := TB_of (tin_4 (List.mem_of_getElem? (i := 206) (by decide +kernel))) rfl
theorem tw_1032 : Cond.selects RX11 yX11_go yX11_go ∈ TB := TB_of (tin_4 (List.mem_of_getElem? (i := 207) (by decide +kernel))) rfl
theorem tw_1033 : Cond.code yX11_go cX11_go 5 (some .int) ∈ TB := TB_of (tin_4 (List.mem_of_getElem? (i := 208) (by decide +kernel))) rfl
theorem tw_1034 : Cond.methodLink RX11 234 yX11_checkPut ∈ TB := TB_of (tin_4 (List.mem_of_getElem? (i := 209) (by decide +kernel))) rfl
theorem tw_1036 : Cond.instanceMethod yX11_checkPut ∈ TB := TB_of (tin_4 (List.mem_of_getElem? (i := 211) (by decide +kernel))) rfl
theorem tw_1037 : Cond.code yX11_checkPut cX11_checkPut 2 none ∈ TB := TB_of (tin_4 (List.mem_of_getElem? (i := 212) (by decide +kernel))) rfl
theorem tw_1039 : Cond.methodLink RX11 237 yX2_places ∈ TB := TB_of (tin_4 (List.mem_of_getElem? (i := 214) (by decide +kernel))) rfl
theorem tw_1040 : Cond.instanceMethod yX2_places ∈ TB := TB_of (tin_4 (List.mem_of_getElem? (i := 215) (by decide +kernel))) rfl
theorem tw_1041 : Cond.selects RX2 yX2_places yX2_places ∈ TB := TB_of (tin_4 (List.mem_of_getElem? (i := 216) (by decide +kernel))) rfl
theorem tw_1042 : Cond.code yX2_places cX2_places 1 (some .int) ∈ TB := TB_of (tin_4 (List.mem_of_getElem? (i := 217) (by decide +kernel))) rfl
theorem tw_1043 : Cond.methodLink RX2 55 yX2_placesBy ∈ TB := TB_of (tin_4 (List.mem_of_getElem? (i := 218) (by decide +kernel))) rfl
theorem tw_1044 : Cond.methodLink RL 186 yL_about ∈ TB := TB_of (tin_4 (List.mem_of_getElem? (i := 219) (by decide +kernel))) rfl
theorem tw_1047 : Cond.classLink RL 56 "java/util/NoSuchElementException" ∈ TB := TB_of (tin_4 (List.mem_of_getElem? (i := 222) (by decide +kernel))) rfl
theorem tw_1048 : Cond.methodLink RL 53 yX11_about ∈ TB := TB_of (tin_4 (List.mem_of_getElem? (i := 223) (by decide +kernel))) rfl
theorem tw_1049 : Cond.instanceMethod yX11_about ∈ TB := TB_of (tin_4 (List.mem_of_getElem? (i := 224) (by decide +kernel))) rfl
theorem tw_1050 : Cond.selects RX11 yX11_about yX11_about ∈ TB := TB_of (tin_4 (List.mem_of_getElem? (i := 225) (by decide +kernel))) rfl
theorem tw_1051 : Cond.code yX11_about cX11_about 7 (some .int) ∈ TB := TB_of (tin_4 (List.mem_of_getElem? (i := 226) (by decide +kernel))) rfl
theorem tw_1052 : Cond.methodLink RX11 244 yX2_placeOf ∈ TB := TB_of (tin_4 (List.mem_of_getElem? (i := 227) (by decide +kernel))) rfl
theorem tw_1053 : Cond.instanceMethod yX2_placeOf ∈ TB := TB_of (tin_4 (List.mem_of_getElem? (i := 228) (by decide +kernel))) rfl
theorem tw_1054 : Cond.selects RX2 yX2_placeOf yX2_placeOf ∈ TB := TB_of (tin_4 (List.mem_of_getElem? (i := 229) (by decide +kernel))) rfl
theorem tw_1055 : Cond.code yX2_placeOf cX2_placeOf 2 (some .int) ∈ TB := TB_of (tin_4 (List.mem_of_getElem? (i := 230) (by decide +kernel))) rfl
theorem tw_1056 : Cond.methodLink RX11 247 yX2_roleOf ∈ TB := TB_of (tin_4 (List.mem_of_getElem? (i := 231) (by decide +kernel))) rfl
theorem tw_1057 : Cond.instanceMethod yX2_roleOf ∈ TB := TB_of (tin_4 (List.mem_of_getElem? (i := 232) (by decide +kernel))) rfl
theorem tw_1058 : Cond.selects RX2 yX2_roleOf yX2_roleOf ∈ TB := TB_of (tin_4 (List.mem_of_getElem? (i := 233) (by decide +kernel))) rfl
theorem tw_1059 : Cond.code yX2_roleOf cX2_roleOf 2 (some .int) ∈ TB := TB_of (tin_4 (List.mem_of_getElem? (i := 234) (by decide +kernel))) rfl
theorem tw_1060 : Cond.methodLink RX2 59 yX2_placeOf ∈ TB := TB_of (tin_4 (List.mem_of_getElem? (i := 235) (by decide +kernel))) rfl
theorem tw_1061 : Cond.methodLink RX11 253 yX4_ageOf ∈ TB := TB_of (tin_4 (List.mem_of_getElem? (i := 236) (by decide +kernel))) rfl
theorem tw_1062 : Cond.instanceMethod yX4_ageOf ∈ TB := TB_of (tin_4 (List.mem_of_getElem? (i := 237) (by decide +kernel))) rfl
theorem tw_1063 : Cond.selects RX4 yX4_ageOf yX4_ageOf ∈ TB := TB_of (tin_4 (List.mem_of_getElem? (i := 238) (by decide +kernel))) rfl
theorem tw_1064 : Cond.code yX4_ageOf cX4_ageOf 3 (some .int) ∈ TB := TB_of (tin_4 (List.mem_of_getElem? (i := 239) (by decide +kernel))) rfl
theorem tw_1065 : Cond.methodLink RX11 257 yX5_oldAt ∈ TB := TB_of (tin_5 (List.mem_of_getElem? (i := 0) (by decide +kernel))) rfl
theorem tw_1066 : Cond.instanceMethod yX5_oldAt ∈ TB := TB_of (tin_5 (List.mem_of_getElem? (i := 1) (by decide +kernel))) rfl
theorem tw_1067 : Cond.selects RX5 yX5_oldAt yX5_oldAt ∈ TB := TB_of (tin_5 (List.mem_of_getElem? (i := 2) (by decide +kernel))) rfl
theorem tw_1068 : Cond.code yX5_oldAt cX5_oldAt 7 (some .int) ∈ TB := TB_of (tin_5 (List.mem_of_getElem? (i := 3) (by decide +kernel))) rfl
theorem tw_1069 : Cond.methodLink RX5 157 yX2_placeAt ∈ TB := TB_of (tin_5 (List.mem_of_getElem? (i := 4) (by decide +kernel))) rfl
theorem tw_1070 : Cond.instanceMethod yX2_placeAt ∈ TB := TB_of (tin_5 (List.mem_of_getElem? (i := 5) (by decide +kernel))) rfl
theorem tw_1071 : Cond.selects RX2 yX2_placeAt yX2_placeAt ∈ TB := TB_of (tin_5 (List.mem_of_getElem? (i := 6) (by decide +kernel))) rfl
theorem tw_1072 : Cond.code yX2_placeAt cX2_placeAt 4 (some .int) ∈ TB := TB_of (tin_5 (List.mem_of_getElem? (i := 7) (by decide +kernel))) rfl
theorem tw_1073 : Cond.methodLink RX11 261 yX5_likeAt ∈ TB := TB_of (tin_5 (List.mem_of_getElem? (i := 8) (by decide +kernel))) rfl
theorem tw_1074 : Cond.instanceMethod yX5_likeAt ∈ TB := TB_of (tin_5 (List.mem_of_getElem? (i := 9) (by decide +kernel))) rfl
theorem tw_1075 : Cond.selects RX5 yX5_likeAt yX5_likeAt ∈ TB := TB_of (tin_5 (List.mem_of_getElem? (i := 10) (by decide +kernel))) rfl
theorem tw_1076 : Cond.code yX5_likeAt cX5_likeAt 8 (some .int) ∈ TB := TB_of (tin_5 (List.mem_of_getElem? (i := 11) (by decide +kernel))) rfl
theorem tw_1077 : Cond.methodLink RX5 160 yX7_lookOf ∈ TB := TB_of (tin_5 (List.mem_of_getElem? (i := 12) (by decide +kernel))) rfl
theorem tw_1078 : Cond.methodLink RX5 98 yX2_placesBy ∈ TB := TB_of (tin_5 (List.mem_of_getElem? (i := 13) (by decide +kernel))) rfl
theorem tw_1079 : Cond.classLink RX11 268 "java/util/NoSuchElementException" ∈ TB := TB_of (tin_5 (List.mem_of_getElem? (i := 14) (by decide +kernel))) rfl
theorem tw_1080 : Cond.instantiable "java/util/NoSuchElementException" 6 ∈ TB := TB_of (tin_5 (List.mem_of_getElem? (i := 15) (by decide +kernel))) rfl
theorem tw_1095 : Cond.methodLink RL 189 yL_holds ∈ TB := TB_of (tin_5 (List.mem_of_getElem? (i := 30) (by decide +kernel))) rfl
theorem tw_1098 : Cond.methodLink RL 58 yX11_holds ∈ TB := TB_of (tin_5 (List.mem_of_getElem? (i := 33) (by decide +kernel))) rfl
theorem tw_1099 : Cond.instanceMethod yX11_holds ∈ TB := TB_of (tin_5 (List.mem_of_getElem? (i := 34) (by decide +kernel))) rfl
theorem tw_1100 : Cond.selects RX11 yX11_holds yX11_holds ∈ TB := TB_of (tin_5 (List.mem_of_getElem? (i := 35) (by decide +kernel))) rfl
theorem tw_1101 : Cond.code yX11_holds cX11_holds 4 (some .int) ∈ TB := TB_of (tin_5 (List.mem_of_getElem? (i := 36) (by decide +kernel))) rfl
theorem tw_1102 : Cond.methodLink RX11 273 yX11_checkLaw ∈ TB := TB_of (tin_5 (List.mem_of_getElem? (i := 37) (by decide +kernel))) rfl
theorem tw_1104 : Cond.instanceMethod yX11_checkLaw ∈ TB := TB_of (tin_5 (List.mem_of_getElem? (i := 39) (by decide +kernel))) rfl
theorem tw_1105 : Cond.code yX11_checkLaw cX11_checkLaw 2 none ∈ TB := TB_of (tin_5 (List.mem_of_getElem? (i := 40) (by decide +kernel))) rfl
theorem tw_1107 : Cond.methodLink RX11 276 yX5_heldNow ∈ TB := TB_of (tin_5 (List.mem_of_getElem? (i := 42) (by decide +kernel))) rfl
theorem tw_1108 : Cond.instanceMethod yX5_heldNow ∈ TB := TB_of (tin_5 (List.mem_of_getElem? (i := 43) (by decide +kernel))) rfl
theorem tw_1109 : Cond.selects RX5 yX5_heldNow yX5_heldNow ∈ TB := TB_of (tin_5 (List.mem_of_getElem? (i := 44) (by decide +kernel))) rfl
theorem tw_1110 : Cond.code yX5_heldNow cX5_heldNow 6 (some .int) ∈ TB := TB_of (tin_5 (List.mem_of_getElem? (i := 45) (by decide +kernel))) rfl
theorem tw_1111 : Cond.methodLink RX5 41 yX2_placeOf ∈ TB := TB_of (tin_5 (List.mem_of_getElem? (i := 46) (by decide +kernel))) rfl
theorem tw_1112 : Cond.methodLink RX5 49 yX5_facePlace ∈ TB := TB_of (tin_5 (List.mem_of_getElem? (i := 47) (by decide +kernel))) rfl
theorem tw_1113 : Cond.instanceMethod yX5_facePlace ∈ TB := TB_of (tin_5 (List.mem_of_getElem? (i := 48) (by decide +kernel))) rfl
theorem tw_1114 : Cond.selects RX5 yX5_facePlace yX5_facePlace ∈ TB := TB_of (tin_5 (List.mem_of_getElem? (i := 49) (by decide +kernel))) rfl
theorem tw_1115 : Cond.code yX5_facePlace cX5_facePlace 7 none ∈ TB := TB_of (tin_5 (List.mem_of_getElem? (i := 50) (by decide +kernel))) rfl
theorem tw_1116 : Cond.methodLink RX5 135 yX5_oldAt ∈ TB := TB_of (tin_5 (List.mem_of_getElem? (i := 51) (by decide +kernel))) rfl
theorem tw_1117 : Cond.methodLink RX5 139 yX5_likeAt ∈ TB := TB_of (tin_5 (List.mem_of_getElem? (i := 52) (by decide +kernel))) rfl
theorem tw_1118 : Cond.methodLink RX5 143 yX4_ageOf ∈ TB := TB_of (tin_5 (List.mem_of_getElem? (i := 53) (by decide +kernel))) rfl
theorem tw_1119 : Cond.methodLink RX5 53 yX2_roleOf ∈ TB := TB_of (tin_5 (List.mem_of_getElem? (i := 54) (by decide +kernel))) rfl
theorem tw_1120 : Cond.methodLink RX5 59 yX2_cardAt ∈ TB := TB_of (tin_5 (List.mem_of_getElem? (i := 55) (by decide +kernel))) rfl
theorem tw_1121 : Cond.methodLink RX5 62 yX5_heldWith ∈ TB := TB_of (tin_5 (List.mem_of_getElem? (i := 56) (by decide +kernel))) rfl
theorem tw_1122 : Cond.instanceMethod yX5_heldWith ∈ TB := TB_of (tin_5 (List.mem_of_getElem? (i := 57) (by decide +kernel))) rfl
theorem tw_1123 : Cond.selects RX5 yX5_heldWith yX5_heldWith ∈ TB := TB_of (tin_5 (List.mem_of_getElem? (i := 58) (by decide +kernel))) rfl
theorem tw_1124 : Cond.code yX5_heldWith cX5_heldWith 4 (some .int) ∈ TB := TB_of (tin_5 (List.mem_of_getElem? (i := 59) (by decide +kernel))) rfl
theorem tw_1125 : Cond.methodLink RX5 119 yX9_heldBy ∈ TB := TB_of (tin_5 (List.mem_of_getElem? (i := 60) (by decide +kernel))) rfl
theorem tw_1126 : Cond.instanceMethod yX9_heldBy ∈ TB := TB_of (tin_5 (List.mem_of_getElem? (i := 61) (by decide +kernel))) rfl
theorem tw_1127 : Cond.selects RX9 yX9_heldBy yX9_heldBy ∈ TB := TB_of (tin_5 (List.mem_of_getElem? (i := 62) (by decide +kernel))) rfl
theorem tw_1128 : Cond.code yX9_heldBy cX9_heldBy 4 (some .int) ∈ TB := TB_of (tin_5 (List.mem_of_getElem? (i := 63) (by decide +kernel))) rfl
theorem tw_1129 : Cond.methodLink RX9 33 yX9_tell ∈ TB := TB_of (tin_5 (List.mem_of_getElem? (i := 64) (by decide +kernel))) rfl
theorem tw_1130 : Cond.instanceMethod yX9_tell ∈ TB := TB_of (tin_5 (List.mem_of_getElem? (i := 65) (by decide +kernel))) rfl
theorem tw_1131 : Cond.selects RX9 yX9_tell yX9_tell ∈ TB := TB_of (tin_5 (List.mem_of_getElem? (i := 66) (by decide +kernel))) rfl
theorem tw_1132 : Cond.code yX9_tell cX9_tell 8 (some .long) ∈ TB := TB_of (tin_5 (List.mem_of_getElem? (i := 67) (by decide +kernel))) rfl
theorem tw_1133 : Cond.methodLink RX9 26 yX9_isMet ∈ TB := TB_of (tin_5 (List.mem_of_getElem? (i := 68) (by decide +kernel))) rfl
theorem tw_1135 : Cond.instanceMethod yX9_isMet ∈ TB := TB_of (tin_5 (List.mem_of_getElem? (i := 70) (by decide +kernel))) rfl
theorem tw_1136 : Cond.code yX9_isMet cX9_isMet 9 (some .boolean) ∈ TB := TB_of (tin_5 (List.mem_of_getElem? (i := 71) (by decide +kernel))) rfl
theorem tw_1137 : Cond.constantLong RX9 37 100 ∈ TB := TB_of (tin_5 (List.mem_of_getElem? (i := 72) (by decide +kernel))) rfl
theorem tw_1138 : Cond.methodLink RL 192 yL_awaited ∈ TB := TB_of (tin_5 (List.mem_of_getElem? (i := 73) (by decide +kernel))) rfl
theorem tw_1141 : Cond.methodLink RL 61 yX11_awaited ∈ TB := TB_of (tin_5 (List.mem_of_getElem? (i := 76) (by decide +kernel))) rfl
theorem tw_1142 : Cond.instanceMethod yX11_awaited ∈ TB := TB_of (tin_5 (List.mem_of_getElem? (i := 77) (by decide +kernel))) rfl
theorem tw_1143 : Cond.selects RX11 yX11_awaited yX11_awaited ∈ TB := TB_of (tin_5 (List.mem_of_getElem? (i := 78) (by decide +kernel))) rfl
theorem tw_1144 : Cond.code yX11_awaited cX11_awaited 3 (some .int) ∈ TB := TB_of (tin_5 (List.mem_of_getElem? (i := 79) (by decide +kernel))) rfl
theorem tw_1145 : Cond.methodLink RX11 280 yX5_sumAt ∈ TB := TB_of (tin_5 (List.mem_of_getElem? (i := 80) (by decide +kernel))) rfl
theorem tw_1146 : Cond.instanceMethod yX5_sumAt ∈ TB := TB_of (tin_5 (List.mem_of_getElem? (i := 81) (by decide +kernel))) rfl
theorem tw_1147 : Cond.selects RX5 yX5_sumAt yX5_sumAt ∈ TB := TB_of (tin_5 (List.mem_of_getElem? (i := 82) (by decide +kernel))) rfl
theorem tw_1148 : Cond.code yX5_sumAt cX5_sumAt 4 (some .int) ∈ TB := TB_of (tin_5 (List.mem_of_getElem? (i := 83) (by decide +kernel))) rfl
theorem tw_1149 : Cond.methodLink RX5 66 yX5_sumBy ∈ TB := TB_of (tin_5 (List.mem_of_getElem? (i := 84) (by decide +kernel))) rfl
theorem tw_1151 : Cond.instanceMethod yX5_sumBy ∈ TB := TB_of (tin_5 (List.mem_of_getElem? (i := 86) (by decide +kernel))) rfl
theorem tw_1152 : Cond.code yX5_sumBy cX5_sumBy 10 (some .int) ∈ TB := TB_of (tin_5 (List.mem_of_getElem? (i := 87) (by decide +kernel))) rfl
theorem tw_1153 : Cond.methodLink RL 195 yL_say ∈ TB := TB_of (tin_5 (List.mem_of_getElem? (i := 88) (by decide +kernel))) rfl
theorem tw_1156 : Cond.methodLink RL 64 yX11_say ∈ TB := TB_of (tin_5 (List.mem_of_getElem? (i := 91) (by decide +kernel))) rfl
theorem tw_1157 : Cond.instanceMethod yX11_say ∈ TB := TB_of (tin_5 (List.mem_of_getElem? (i := 92) (by decide +kernel))) rfl
theorem tw_1158 : Cond.selects RX11 yX11_say yX11_say ∈ TB := TB_of (tin_5 (List.mem_of_getElem? (i := 93) (by decide +kernel))) rfl
theorem tw_1159 : Cond.code yX11_say cX11_say 4 (some .int) ∈ TB := TB_of (tin_5 (List.mem_of_getElem? (i := 94) (by decide +kernel))) rfl
theorem tw_1161 : Cond.methodLink RX11 285 yX6_kindOf ∈ TB := TB_of (tin_5 (List.mem_of_getElem? (i := 96) (by decide +kernel))) rfl
theorem tw_1162 : Cond.instanceMethod yX6_kindOf ∈ TB := TB_of (tin_5 (List.mem_of_getElem? (i := 97) (by decide +kernel))) rfl
theorem tw_1163 : Cond.selects RX6 yX6_kindOf yX6_kindOf ∈ TB := TB_of (tin_5 (List.mem_of_getElem? (i := 98) (by decide +kernel))) rfl
theorem tw_1164 : Cond.code yX6_kindOf cX6_kindOf 6 (some .int) ∈ TB := TB_of (tin_5 (List.mem_of_getElem? (i := 99) (by decide +kernel))) rfl
theorem tw_1165 : Cond.methodLink RX6 30 yX2_cardAt ∈ TB := TB_of (tin_5 (List.mem_of_getElem? (i := 100) (by decide +kernel))) rfl
theorem tw_1166 : Cond.methodLink RX6 34 yX6_find ∈ TB := TB_of (tin_5 (List.mem_of_getElem? (i := 101) (by decide +kernel))) rfl
theorem tw_1167 : Cond.instanceMethod yX6_find ∈ TB := TB_of (tin_5 (List.mem_of_getElem? (i := 102) (by decide +kernel))) rfl
theorem tw_1168 : Cond.selects RX6 yX6_find yX6_find ∈ TB := TB_of (tin_5 (List.mem_of_getElem? (i := 103) (by decide +kernel))) rfl
theorem tw_1169 : Cond.code yX6_find cX6_find 7 none ∈ TB := TB_of (tin_5 (List.mem_of_getElem? (i := 104) (by decide +kernel))) rfl
theorem tw_1170 : Cond.methodLink RX6 54 yX2_placeOf ∈ TB := TB_of (tin_5 (List.mem_of_getElem? (i := 105) (by decide +kernel))) rfl
theorem tw_1171 : Cond.methodLink RX6 57 yX2_roleOf ∈ TB := TB_of (tin_5 (List.mem_of_getElem? (i := 106) (by decide +kernel))) rfl
theorem tw_1172 : Cond.methodLink RX6 60 yX2_cardWith ∈ TB := TB_of (tin_5 (List.mem_of_getElem? (i := 107) (by decide +kernel))) rfl
theorem tw_1173 : Cond.instanceMethod yX2_cardWith ∈ TB := TB_of (tin_5 (List.mem_of_getElem? (i := 108) (by decide +kernel))) rfl
theorem tw_1174 : Cond.selects RX2 yX2_cardWith yX2_cardWith ∈ TB := TB_of (tin_5 (List.mem_of_getElem? (i := 109) (by decide +kernel))) rfl
theorem tw_1175 : Cond.code yX2_cardWith cX2_cardWith 4 (some .int) ∈ TB := TB_of (tin_5 (List.mem_of_getElem? (i := 110) (by decide +kernel))) rfl
theorem tw_1176 : Cond.methodLink RX6 73 yX6_ghostAt ∈ TB := TB_of (tin_5 (List.mem_of_getElem? (i := 111) (by decide +kernel))) rfl
theorem tw_1178 : Cond.instanceMethod yX6_ghostAt ∈ TB := TB_of (tin_5 (List.mem_of_getElem? (i := 113) (by decide +kernel))) rfl
theorem tw_1179 : Cond.code yX6_ghostAt cX6_ghostAt 11 (some .int) ∈ TB := TB_of (tin_5 (List.mem_of_getElem? (i := 114) (by decide +kernel))) rfl
theorem tw_1180 : Cond.methodLink RX6 90 yX2_placeAt ∈ TB := TB_of (tin_5 (List.mem_of_getElem? (i := 115) (by decide +kernel))) rfl
theorem tw_1181 : Cond.methodLink RX6 77 yX6_alikeTo ∈ TB := TB_of (tin_5 (List.mem_of_getElem? (i := 116) (by decide +kernel))) rfl
theorem tw_1183 : Cond.instanceMethod yX6_alikeTo ∈ TB := TB_of (tin_5 (List.mem_of_getElem? (i := 118) (by decide +kernel))) rfl
theorem tw_1184 : Cond.code yX6_alikeTo cX6_alikeTo 8 (some .int) ∈ TB := TB_of (tin_5 (List.mem_of_getElem? (i := 119) (by decide +kernel))) rfl
theorem tw_1185 : Cond.methodLink RX6 96 yX7_lookOf ∈ TB := TB_of (tin_5 (List.mem_of_getElem? (i := 120) (by decide +kernel))) rfl
theorem tw_1186 : Cond.methodLink RX6 99 yX2_places ∈ TB := TB_of (tin_5 (List.mem_of_getElem? (i := 121) (by decide +kernel))) rfl
theorem tw_1187 : Cond.methodLink RX6 81 yX6_swappedWith ∈ TB := TB_of (tin_5 (List.mem_of_getElem? (i := 122) (by decide +kernel))) rfl
theorem tw_1189 : Cond.instanceMethod yX6_swappedWith ∈ TB := TB_of (tin_5 (List.mem_of_getElem? (i := 124) (by decide +kernel))) rfl
theorem tw_1190 : Cond.code yX6_swappedWith cX6_swappedWith 5 (some .int) ∈ TB := TB_of (tin_5 (List.mem_of_getElem? (i := 125) (by decide +kernel))) rfl
theorem tw_1191 : Cond.methodLink RX6 102 yX2_cardsAt ∈ TB := TB_of (tin_5 (List.mem_of_getElem? (i := 126) (by decide +kernel))) rfl
theorem tw_1192 : Cond.instanceMethod yX2_cardsAt ∈ TB := TB_of (tin_5 (List.mem_of_getElem? (i := 127) (by decide +kernel))) rfl
theorem tw_1193 : Cond.selects RX2 yX2_cardsAt yX2_cardsAt ∈ TB := TB_of (tin_5 (List.mem_of_getElem? (i := 128) (by decide +kernel))) rfl
theorem tw_1194 : Cond.code yX2_cardsAt cX2_cardsAt 2 (some .int) ∈ TB := TB_of (tin_5 (List.mem_of_getElem? (i := 129) (by decide +kernel))) rfl
theorem tw_1195 : Cond.methodLink RX2 62 yJ9_min_7cf53 ∈ TB := TB_of (tin_5 (List.mem_of_getElem? (i := 130) (by decide +kernel))) rfl
theorem tw_1196 : Cond.methodLink RL 198 yL_kind ∈ TB := TB_of (tin_5 (List.mem_of_getElem? (i := 131) (by decide +kernel))) rfl
theorem tw_1199 : Cond.methodLink RL 67 yX11_kind ∈ TB := TB_of (tin_5 (List.mem_of_getElem? (i := 134) (by decide +kernel))) rfl
theorem tw_1200 : Cond.instanceMethod yX11_kind ∈ TB := TB_of (tin_5 (List.mem_of_getElem? (i := 135) (by decide +kernel))) rfl
theorem tw_1201 : Cond.selects RX11 yX11_kind yX11_kind ∈ TB := TB_of (tin_5 (List.mem_of_getElem? (i := 136) (by decide +kernel))) rfl
theorem tw_1202 : Cond.code yX11_kind cX11_kind 3 (some .int) ∈ TB := TB_of (tin_5 (List.mem_of_getElem? (i := 137) (by decide +kernel))) rfl
theorem tw_1203 : Cond.methodLink RL 201 yL_run ∈ TB := TB_of (tin_5 (List.mem_of_getElem? (i := 138) (by decide +kernel))) rfl
theorem tw_1206 : Cond.methodLink RL 70 yX11_run ∈ TB := TB_of (tin_5 (List.mem_of_getElem? (i := 141) (by decide +kernel))) rfl
theorem tw_1207 : Cond.instanceMethod yX11_run ∈ TB := TB_of (tin_5 (List.mem_of_getElem? (i := 142) (by decide +kernel))) rfl
theorem tw_1208 : Cond.selects RX11 yX11_run yX11_run ∈ TB := TB_of (tin_5 (List.mem_of_getElem? (i := 143) (by decide +kernel))) rfl
theorem tw_1209 : Cond.code yX11_run cX11_run 7 (some .int) ∈ TB := TB_of (tin_5 (List.mem_of_getElem? (i := 144) (by decide +kernel))) rfl
theorem tw_1210 : Cond.methodLink RX11 291 yX11_nextSeed ∈ TB := TB_of (tin_5 (List.mem_of_getElem? (i := 145) (by decide +kernel))) rfl
theorem tw_1211 : Cond.static yX11_nextSeed ∈ TB := TB_of (tin_5 (List.mem_of_getElem? (i := 146) (by decide +kernel))) rfl
theorem tw_1212 : Cond.code yX11_nextSeed cX11_nextSeed 1 (some .int) ∈ TB := TB_of (tin_5 (List.mem_of_getElem? (i := 147) (by decide +kernel))) rfl
theorem tw_1213 : Cond.constant RX11 508 1103515245 ∈ TB := TB_of (tin_5 (List.mem_of_getElem? (i := 148) (by decide +kernel))) rfl
theorem tw_1214 : Cond.methodLink RX11 294 yX11_drawOf ∈ TB := TB_of (tin_5 (List.mem_of_getElem? (i := 149) (by decide +kernel))) rfl
theorem tw_1215 : Cond.static yX11_drawOf ∈ TB := TB_of (tin_5 (List.mem_of_getElem? (i := 150) (by decide +kernel))) rfl
theorem tw_1216 : Cond.code yX11_drawOf cX11_drawOf 1 (some .int) ∈ TB := TB_of (tin_5 (List.mem_of_getElem? (i := 151) (by decide +kernel))) rfl
theorem tw_1217 : Cond.methodLink RX11 297 yX6_drawn ∈ TB := TB_of (tin_5 (List.mem_of_getElem? (i := 152) (by decide +kernel))) rfl
theorem tw_1218 : Cond.instanceMethod yX6_drawn ∈ TB := TB_of (tin_5 (List.mem_of_getElem? (i := 153) (by decide +kernel))) rfl
theorem tw_1219 : Cond.selects RX6 yX6_drawn yX6_drawn ∈ TB := TB_of (tin_5 (List.mem_of_getElem? (i := 154) (by decide +kernel))) rfl
theorem tw_1220 : Cond.code yX6_drawn cX6_drawn 7 (some .int) ∈ TB := TB_of (tin_5 (List.mem_of_getElem? (i := 155) (by decide +kernel))) rfl
theorem tw_1221 : Cond.methodLink RX6 44 yX6_allWeights ∈ TB := TB_of (tin_5 (List.mem_of_getElem? (i := 156) (by decide +kernel))) rfl
theorem tw_1222 : Cond.instanceMethod yX6_allWeights ∈ TB := TB_of (tin_5 (List.mem_of_getElem? (i := 157) (by decide +kernel))) rfl
theorem tw_1223 : Cond.selects RX6 yX6_allWeights yX6_allWeights ∈ TB := TB_of (tin_5 (List.mem_of_getElem? (i := 158) (by decide +kernel))) rfl
theorem tw_1224 : Cond.code yX6_allWeights cX6_allWeights 3 (some .int) ∈ TB := TB_of (tin_5 (List.mem_of_getElem? (i := 159) (by decide +kernel))) rfl
theorem tw_1225 : Cond.methodLink RX6 41 yX6_weightOf ∈ TB := TB_of (tin_5 (List.mem_of_getElem? (i := 160) (by decide +kernel))) rfl
theorem tw_1226 : Cond.instanceMethod yX6_weightOf ∈ TB := TB_of (tin_5 (List.mem_of_getElem? (i := 161) (by decide +kernel))) rfl
theorem tw_1227 : Cond.selects RX6 yX6_weightOf yX6_weightOf ∈ TB := TB_of (tin_5 (List.mem_of_getElem? (i := 162) (by decide +kernel))) rfl
theorem tw_1228 : Cond.code yX6_weightOf cX6_weightOf 2 (some .int) ∈ TB := TB_of (tin_5 (List.mem_of_getElem? (i := 163) (by decide +kernel))) rfl
theorem tw_1229 : Cond.fieldLink RX6 38 RX6 "WEIGHTS" "[I" ∈ TB := TB_of (tin_5 (List.mem_of_getElem? (i := 164) (by decide +kernel))) rfl
theorem tw_1231 : Cond.methodLink RX6 48 yJ9_max_7cf53 ∈ TB := TB_of (tin_5 (List.mem_of_getElem? (i := 166) (by decide +kernel))) rfl
theorem tw_1232 : Cond.static yJ9_max_7cf53 ∈ TB := TB_of (tin_5 (List.mem_of_getElem? (i := 167) (by decide +kernel))) rfl
theorem tw_1233 : Cond.code yJ9_max_7cf53 cJ9_max_7cf53 2 (some .int) ∈ TB := TB_of (tin_5 (List.mem_of_getElem? (i := 168) (by decide +kernel))) rfl
theorem tw_1234 : Cond.methodLink RX11 301 yX2_rightOnes ∈ TB := TB_of (tin_5 (List.mem_of_getElem? (i := 169) (by decide +kernel))) rfl
theorem tw_1235 : Cond.methodLink RL 204 yL_odds ∈ TB := TB_of (tin_5 (List.mem_of_getElem? (i := 170) (by decide +kernel))) rfl
theorem tw_1238 : Cond.methodLink RL 73 yX11_odds ∈ TB := TB_of (tin_5 (List.mem_of_getElem? (i := 173) (by decide +kernel))) rfl
theorem tw_1239 : Cond.instanceMethod yX11_odds ∈ TB := TB_of (tin_5 (List.mem_of_getElem? (i := 174) (by decide +kernel))) rfl
theorem tw_1240 : Cond.selects RX11 yX11_odds yX11_odds ∈ TB := TB_of (tin_5 (List.mem_of_getElem? (i := 175) (by decide +kernel))) rfl
theorem tw_1241 : Cond.code yX11_odds cX11_odds 13 (some .int) ∈ TB := TB_of (tin_5 (List.mem_of_getElem? (i := 176) (by decide +kernel))) rfl
theorem tw_1243 : Cond.constantLong RX11 306 100 ∈ TB := TB_of (tin_5 (List.mem_of_getElem? (i := 178) (by decide +kernel))) rfl
theorem tw_1244 : Cond.methodLink RX11 308 yX6_find ∈ TB := TB_of (tin_5 (List.mem_of_getElem? (i := 179) (by decide +kernel))) rfl
theorem tw_1245 : Cond.methodLink RX11 311 yX6_weightOf ∈ TB := TB_of (tin_5 (List.mem_of_getElem? (i := 180) (by decide +kernel))) rfl
theorem tw_1246 : Cond.methodLink RX11 314 yX6_allWeights ∈ TB := TB_of (tin_5 (List.mem_of_getElem? (i := 181) (by decide +kernel))) rfl
theorem tw_1247 : Cond.methodLink RX11 317 yX11_commonPart ∈ TB := TB_of (tin_5 (List.mem_of_getElem? (i := 182) (by decide +kernel))) rfl
theorem tw_1248 : Cond.static yX11_commonPart ∈ TB := TB_of (tin_5 (List.mem_of_getElem? (i := 183) (by decide +kernel))) rfl
theorem tw_1249 : Cond.code yX11_commonPart cX11_commonPart 11 (some .long) ∈ TB := TB_of (tin_5 (List.mem_of_getElem? (i := 184) (by decide +kernel))) rfl
theorem tw_1250 : Cond.methodLink RL 208 yL_kinds ∈ TB := TB_of (tin_5 (List.mem_of_getElem? (i := 185) (by decide +kernel))) rfl
theorem tw_1253 : Cond.methodLink RL 77 yX11_kinds ∈ TB := TB_of (tin_5 (List.mem_of_getElem? (i := 188) (by decide +kernel))) rfl
theorem tw_1254 : Cond.instanceMethod yX11_kinds ∈ TB := TB_of (tin_5 (List.mem_of_getElem? (i := 189) (by decide +kernel))) rfl
theorem tw_1255 : Cond.selects RX11 yX11_kinds yX11_kinds ∈ TB := TB_of (tin_5 (List.mem_of_getElem? (i := 190) (by decide +kernel))) rfl
theorem tw_1256 : Cond.code yX11_kinds cX11_kinds 5 (some .int) ∈ TB := TB_of (tin_5 (List.mem_of_getElem? (i := 191) (by decide +kernel))) rfl
theorem tw_1258 : Cond.methodLink RL 211 yL_score ∈ TB := TB_of (tin_5 (List.mem_of_getElem? (i := 193) (by decide +kernel))) rfl
theorem tw_1261 : Cond.methodLink RL 80 yX11_score ∈ TB := TB_of (tin_5 (List.mem_of_getElem? (i := 196) (by decide +kernel))) rfl
theorem tw_1262 : Cond.instanceMethod yX11_score ∈ TB := TB_of (tin_5 (List.mem_of_getElem? (i := 197) (by decide +kernel))) rfl
theorem tw_1263 : Cond.selects RX11 yX11_score yX11_score ∈ TB := TB_of (tin_5 (List.mem_of_getElem? (i := 198) (by decide +kernel))) rfl
theorem tw_1264 : Cond.code yX11_score cX11_score 4 (some .int) ∈ TB := TB_of (tin_5 (List.mem_of_getElem? (i := 199) (by decide +kernel))) rfl
theorem tw_1265 : Cond.methodLink RX11 323 yX11_checkRule ∈ TB := TB_of (tin_5 (List.mem_of_getElem? (i := 200) (by decide +kernel))) rfl
theorem tw_1267 : Cond.instanceMethod yX11_checkRule ∈ TB := TB_of (tin_5 (List.mem_of_getElem? (i := 202) (by decide +kernel))) rfl
theorem tw_1268 : Cond.code yX11_checkRule cX11_checkRule 2 none ∈ TB := TB_of (tin_5 (List.mem_of_getElem? (i := 203) (by decide +kernel))) rfl
theorem tw_1270 : Cond.methodLink RX11 326 yX2_blanks ∈ TB := TB_of (tin_5 (List.mem_of_getElem? (i := 205) (by decide +kernel))) rfl
theorem tw_1271 : Cond.instanceMethod yX2_blanks ∈ TB := TB_of (tin_5 (List.mem_of_getElem? (i := 206) (by decide +kernel))) rfl
theorem tw_1272 : Cond.selects RX2 yX2_blanks yX2_blanks ∈ TB := TB_of (tin_5 (List.mem_of_getElem? (i := 207) (by decide +kernel))) rfl
theorem tw_1273 : Cond.code yX2_blanks cX2_blanks 3 (some .int) ∈ TB := TB_of (tin_5 (List.mem_of_getElem? (i := 208) (by decide +kernel))) rfl
theorem tw_1274 : Cond.methodLink RX11 329 yX9_scoreOf ∈ TB := TB_of (tin_5 (List.mem_of_getElem? (i := 209) (by decide +kernel))) rfl
theorem tw_1275 : Cond.instanceMethod yX9_scoreOf ∈ TB := TB_of (tin_5 (List.mem_of_getElem? (i := 210) (by decide +kernel))) rfl
theorem tw_1276 : Cond.selects RX9 yX9_scoreOf yX9_scoreOf ∈ TB := TB_of (tin_5 (List.mem_of_getElem? (i := 211) (by decide +kernel))) rfl
theorem tw_1277 : Cond.code yX9_scoreOf cX9_scoreOf 5 (some .long) ∈ TB := TB_of (tin_5 (List.mem_of_getElem? (i := 212) (by decide +kernel))) rfl
theorem tw_1278 : Cond.methodLink RL 214 yL_fits ∈ TB := TB_of (tin_5 (List.mem_of_getElem? (i := 213) (by decide +kernel))) rfl
theorem tw_1281 : Cond.methodLink RL 83 yX11_fits ∈ TB := TB_of (tin_5 (List.mem_of_getElem? (i := 216) (by decide +kernel))) rfl
theorem tw_1282 : Cond.instanceMethod yX11_fits ∈ TB := TB_of (tin_5 (List.mem_of_getElem? (i := 217) (by decide +kernel))) rfl
theorem tw_1283 : Cond.selects RX11 yX11_fits yX11_fits ∈ TB := TB_of (tin_5 (List.mem_of_getElem? (i := 218) (by decide +kernel))) rfl
theorem tw_1284 : Cond.code yX11_fits cX11_fits 6 (some .int) ∈ TB := TB_of (tin_5 (List.mem_of_getElem? (i := 219) (by decide +kernel))) rfl
theorem tw_1286 : Cond.methodLink RX11 335 yJ9_abs_0f7a4 ∈ TB := TB_of (tin_5 (List.mem_of_getElem? (i := 221) (by decide +kernel))) rfl
theorem tw_1287 : Cond.static yJ9_abs_0f7a4 ∈ TB := TB_of (tin_5 (List.mem_of_getElem? (i := 222) (by decide +kernel))) rfl
theorem tw_1288 : Cond.code yJ9_abs_0f7a4 cJ9_abs_0f7a4 1 (some .int) ∈ TB := TB_of (tin_5 (List.mem_of_getElem? (i := 223) (by decide +kernel))) rfl
theorem tw_1289 : Cond.methodLink RL 217 yL_lacks ∈ TB := TB_of (tin_5 (List.mem_of_getElem? (i := 224) (by decide +kernel))) rfl
theorem tw_1292 : Cond.methodLink RL 86 yX11_lacks ∈ TB := TB_of (tin_5 (List.mem_of_getElem? (i := 227) (by decide +kernel))) rfl
theorem tw_1293 : Cond.instanceMethod yX11_lacks ∈ TB := TB_of (tin_5 (List.mem_of_getElem? (i := 228) (by decide +kernel))) rfl
theorem tw_1294 : Cond.selects RX11 yX11_lacks yX11_lacks ∈ TB := TB_of (tin_5 (List.mem_of_getElem? (i := 229) (by decide +kernel))) rfl
theorem tw_1295 : Cond.code yX11_lacks cX11_lacks 4 (some .int) ∈ TB := TB_of (tin_5 (List.mem_of_getElem? (i := 230) (by decide +kernel))) rfl
theorem tw_1297 : Cond.methodLink RX11 342 yX2_lackCount ∈ TB := TB_of (tin_5 (List.mem_of_getElem? (i := 232) (by decide +kernel))) rfl
theorem tw_1298 : Cond.instanceMethod yX2_lackCount ∈ TB := TB_of (tin_5 (List.mem_of_getElem? (i := 233) (by decide +kernel))) rfl
theorem tw_1299 : Cond.selects RX2 yX2_lackCount yX2_lackCount ∈ TB := TB_of (tin_5 (List.mem_of_getElem? (i := 234) (by decide +kernel))) rfl
theorem tw_1300 : Cond.code yX2_lackCount cX2_lackCount 5 (some .int) ∈ TB := TB_of (tin_5 (List.mem_of_getElem? (i := 235) (by decide +kernel))) rfl
theorem tw_1301 : Cond.methodLink RX2 77 yX2_saidCards ∈ TB := TB_of (tin_5 (List.mem_of_getElem? (i := 236) (by decide +kernel))) rfl
theorem tw_1303 : Cond.instanceMethod yX2_saidCards ∈ TB := TB_of (tin_5 (List.mem_of_getElem? (i := 238) (by decide +kernel))) rfl
theorem tw_1304 : Cond.code yX2_saidCards cX2_saidCards 4 (some .long) ∈ TB := TB_of (tin_5 (List.mem_of_getElem? (i := 239) (by decide +kernel))) rfl
theorem tw_1305 : Cond.methodLink RX11 345 yX2_lackAt ∈ TB := TB_of (tin_6 (List.mem_of_getElem? (i := 0) (by decide +kernel))) rfl
theorem tw_1306 : Cond.instanceMethod yX2_lackAt ∈ TB := TB_of (tin_6 (List.mem_of_getElem? (i := 1) (by decide +kernel))) rfl
theorem tw_1307 : Cond.selects RX2 yX2_lackAt yX2_lackAt ∈ TB := TB_of (tin_6 (List.mem_of_getElem? (i := 2) (by decide +kernel))) rfl
theorem tw_1308 : Cond.code yX2_lackAt cX2_lackAt 6 (some .int) ∈ TB := TB_of (tin_6 (List.mem_of_getElem? (i := 3) (by decide +kernel))) rfl
theorem tw_1309 : Cond.methodLink RL 220 yL_guess ∈ TB := TB_of (tin_6 (List.mem_of_getElem? (i := 4) (by decide +kernel))) rfl
theorem tw_1312 : Cond.methodLink RL 89 yX11_guess ∈ TB := TB_of (tin_6 (List.mem_of_getElem? (i := 7) (by decide +kernel))) rfl
theorem tw_1313 : Cond.instanceMethod yX11_guess ∈ TB := TB_of (tin_6 (List.mem_of_getElem? (i := 8) (by decide +kernel))) rfl
theorem tw_1314 : Cond.selects RX11 yX11_guess yX11_guess ∈ TB := TB_of (tin_6 (List.mem_of_getElem? (i := 9) (by decide +kernel))) rfl
theorem tw_1315 : Cond.code yX11_guess cX11_guess 6 (some .int) ∈ TB := TB_of (tin_6 (List.mem_of_getElem? (i := 10) (by decide +kernel))) rfl
theorem tw_1317 : Cond.methodLink RX11 350 yX1_weigh ∈ TB := TB_of (tin_6 (List.mem_of_getElem? (i := 12) (by decide +kernel))) rfl
theorem tw_1318 : Cond.instanceMethod yX1_weigh ∈ TB := TB_of (tin_6 (List.mem_of_getElem? (i := 13) (by decide +kernel))) rfl
theorem tw_1319 : Cond.selects RX1 yX1_weigh yX1_weigh ∈ TB := TB_of (tin_6 (List.mem_of_getElem? (i := 14) (by decide +kernel))) rfl
theorem tw_1320 : Cond.code yX1_weigh cX1_weigh 7 none ∈ TB := TB_of (tin_6 (List.mem_of_getElem? (i := 15) (by decide +kernel))) rfl
theorem tw_1321 : Cond.methodLink RX1 33 yX2_lackCount ∈ TB := TB_of (tin_6 (List.mem_of_getElem? (i := 16) (by decide +kernel))) rfl
theorem tw_1322 : Cond.methodLink RX1 39 yJ9_min_7cf53 ∈ TB := TB_of (tin_6 (List.mem_of_getElem? (i := 17) (by decide +kernel))) rfl
theorem tw_1323 : Cond.methodLink RX1 45 yX2_blanks ∈ TB := TB_of (tin_6 (List.mem_of_getElem? (i := 18) (by decide +kernel))) rfl
theorem tw_1324 : Cond.methodLink RX1 48 yX1_findOwn ∈ TB := TB_of (tin_6 (List.mem_of_getElem? (i := 19) (by decide +kernel))) rfl
theorem tw_1326 : Cond.instanceMethod yX1_findOwn ∈ TB := TB_of (tin_6 (List.mem_of_getElem? (i := 21) (by decide +kernel))) rfl
theorem tw_1327 : Cond.code yX1_findOwn cX1_findOwn 7 none ∈ TB := TB_of (tin_6 (List.mem_of_getElem? (i := 22) (by decide +kernel))) rfl
theorem tw_1328 : Cond.methodLink RX1 72 yX2_lackAt ∈ TB := TB_of (tin_6 (List.mem_of_getElem? (i := 23) (by decide +kernel))) rfl
theorem tw_1329 : Cond.methodLink RX1 76 yX2_cardAt ∈ TB := TB_of (tin_6 (List.mem_of_getElem? (i := 24) (by decide +kernel))) rfl
theorem tw_1330 : Cond.methodLink RX1 52 yJ7_fill_53178 ∈ TB := TB_of (tin_6 (List.mem_of_getElem? (i := 25) (by decide +kernel))) rfl
theorem tw_1331 : Cond.methodLink RX1 58 yX1_spread ∈ TB := TB_of (tin_6 (List.mem_of_getElem? (i := 26) (by decide +kernel))) rfl
theorem tw_1333 : Cond.instanceMethod yX1_spread ∈ TB := TB_of (tin_6 (List.mem_of_getElem? (i := 28) (by decide +kernel))) rfl
theorem tw_1334 : Cond.code yX1_spread cX1_spread 7 none ∈ TB := TB_of (tin_6 (List.mem_of_getElem? (i := 29) (by decide +kernel))) rfl
theorem tw_1335 : Cond.methodLink RX1 62 yX1_takeIfBetter ∈ TB := TB_of (tin_6 (List.mem_of_getElem? (i := 30) (by decide +kernel))) rfl
theorem tw_1337 : Cond.instanceMethod yX1_takeIfBetter ∈ TB := TB_of (tin_6 (List.mem_of_getElem? (i := 32) (by decide +kernel))) rfl
theorem tw_1338 : Cond.code yX1_takeIfBetter cX1_takeIfBetter 11 none ∈ TB := TB_of (tin_6 (List.mem_of_getElem? (i := 33) (by decide +kernel))) rfl
theorem tw_1339 : Cond.methodLink RX1 79 yX2_rightOnes ∈ TB := TB_of (tin_6 (List.mem_of_getElem? (i := 34) (by decide +kernel))) rfl
theorem tw_1340 : Cond.methodLink RX1 82 yX9_scoreOf ∈ TB := TB_of (tin_6 (List.mem_of_getElem? (i := 35) (by decide +kernel))) rfl
theorem tw_1341 : Cond.methodLink RL 223 yL_moment ∈ TB := TB_of (tin_6 (List.mem_of_getElem? (i := 36) (by decide +kernel))) rfl
theorem tw_1344 : Cond.methodLink RL 92 yX11_moment ∈ TB := TB_of (tin_6 (List.mem_of_getElem? (i := 39) (by decide +kernel))) rfl
theorem tw_1345 : Cond.instanceMethod yX11_moment ∈ TB := TB_of (tin_6 (List.mem_of_getElem? (i := 40) (by decide +kernel))) rfl
theorem tw_1346 : Cond.selects RX11 yX11_moment yX11_moment ∈ TB := TB_of (tin_6 (List.mem_of_getElem? (i := 41) (by decide +kernel))) rfl
theorem tw_1347 : Cond.code yX11_moment cX11_moment 2 (some .int) ∈ TB := TB_of (tin_6 (List.mem_of_getElem? (i := 42) (by decide +kernel))) rfl
theorem tw_1348 : Cond.methodLink RX11 364 yX7_lastMoment ∈ TB := TB_of (tin_6 (List.mem_of_getElem? (i := 43) (by decide +kernel))) rfl
theorem tw_1349 : Cond.instanceMethod yX7_lastMoment ∈ TB := TB_of (tin_6 (List.mem_of_getElem? (i := 44) (by decide +kernel))) rfl
theorem tw_1350 : Cond.selects RX7 yX7_lastMoment yX7_lastMoment ∈ TB := TB_of (tin_6 (List.mem_of_getElem? (i := 45) (by decide +kernel))) rfl
theorem tw_1351 : Cond.code yX7_lastMoment cX7_lastMoment 1 (some .int) ∈ TB := TB_of (tin_6 (List.mem_of_getElem? (i := 46) (by decide +kernel))) rfl
theorem tw_1352 : Cond.constant RX11 367 99999 ∈ TB := TB_of (tin_6 (List.mem_of_getElem? (i := 47) (by decide +kernel))) rfl
theorem tw_1355 : Cond.methodLink RL 230 yL_again ∈ TB := TB_of (tin_6 (List.mem_of_getElem? (i := 50) (by decide +kernel))) rfl
theorem tw_1358 : Cond.methodLink RL 95 yX11_again ∈ TB := TB_of (tin_6 (List.mem_of_getElem? (i := 53) (by decide +kernel))) rfl
theorem tw_1359 : Cond.instanceMethod yX11_again ∈ TB := TB_of (tin_6 (List.mem_of_getElem? (i := 54) (by decide +kernel))) rfl
theorem tw_1360 : Cond.selects RX11 yX11_again yX11_again ∈ TB := TB_of (tin_6 (List.mem_of_getElem? (i := 55) (by decide +kernel))) rfl
theorem tw_1361 : Cond.code yX11_again cX11_again 12 (some .int) ∈ TB := TB_of (tin_6 (List.mem_of_getElem? (i := 56) (by decide +kernel))) rfl
theorem tw_1363 : Cond.methodLink RX11 380 yX5_forgetTouches ∈ TB := TB_of (tin_6 (List.mem_of_getElem? (i := 58) (by decide +kernel))) rfl
theorem tw_1364 : Cond.instanceMethod yX5_forgetTouches ∈ TB := TB_of (tin_6 (List.mem_of_getElem? (i := 59) (by decide +kernel))) rfl
theorem tw_1365 : Cond.selects RX5 yX5_forgetTouches yX5_forgetTouches ∈ TB := TB_of (tin_6 (List.mem_of_getElem? (i := 60) (by decide +kernel))) rfl
theorem tw_1366 : Cond.code yX5_forgetTouches cX5_forgetTouches 1 none ∈ TB := TB_of (tin_6 (List.mem_of_getElem? (i := 61) (by decide +kernel))) rfl
theorem tw_1367 : Cond.methodLink RX5 92 yJ7_fill_53178 ∈ TB := TB_of (tin_6 (List.mem_of_getElem? (i := 62) (by decide +kernel))) rfl
theorem tw_1368 : Cond.methodLink RX11 383 yX5_sumTouched ∈ TB := TB_of (tin_6 (List.mem_of_getElem? (i := 63) (by decide +kernel))) rfl
theorem tw_1369 : Cond.instanceMethod yX5_sumTouched ∈ TB := TB_of (tin_6 (List.mem_of_getElem? (i := 64) (by decide +kernel))) rfl
theorem tw_1370 : Cond.selects RX5 yX5_sumTouched yX5_sumTouched ∈ TB := TB_of (tin_6 (List.mem_of_getElem? (i := 65) (by decide +kernel))) rfl
theorem tw_1371 : Cond.code yX5_sumTouched cX5_sumTouched 8 (some .int) ∈ TB := TB_of (tin_6 (List.mem_of_getElem? (i := 66) (by decide +kernel))) rfl
theorem tw_1372 : Cond.methodLink RX5 73 yJ6_bitCount_0f7a4 ∈ TB := TB_of (tin_6 (List.mem_of_getElem? (i := 67) (by decide +kernel))) rfl
theorem tw_1373 : Cond.static yJ6_bitCount_0f7a4 ∈ TB := TB_of (tin_6 (List.mem_of_getElem? (i := 68) (by decide +kernel))) rfl
theorem tw_1374 : Cond.code yJ6_bitCount_0f7a4 cJ6_bitCount_0f7a4 1 (some .int) ∈ TB := TB_of (tin_6 (List.mem_of_getElem? (i := 69) (by decide +kernel))) rfl
theorem tw_1375 : Cond.constant RJ6 265 1431655765 ∈ TB := TB_of (tin_6 (List.mem_of_getElem? (i := 70) (by decide +kernel))) rfl
theorem tw_1376 : Cond.constant RJ6 266 858993459 ∈ TB := TB_of (tin_6 (List.mem_of_getElem? (i := 71) (by decide +kernel))) rfl
theorem tw_1377 : Cond.constant RJ6 267 252645135 ∈ TB := TB_of (tin_6 (List.mem_of_getElem? (i := 72) (by decide +kernel))) rfl
theorem tw_1378 : Cond.methodLink RX5 78 yX4_copyFrom ∈ TB := TB_of (tin_6 (List.mem_of_getElem? (i := 73) (by decide +kernel))) rfl
theorem tw_1379 : Cond.methodLink RX5 88 yX4_touchFrom ∈ TB := TB_of (tin_6 (List.mem_of_getElem? (i := 74) (by decide +kernel))) rfl
theorem tw_1380 : Cond.methodLink RX11 387 yJ6_bitCount_0f7a4 ∈ TB := TB_of (tin_6 (List.mem_of_getElem? (i := 75) (by decide +kernel))) rfl
theorem tw_1381 : Cond.methodLink RL 233 yL_houses ∈ TB := TB_of (tin_6 (List.mem_of_getElem? (i := 76) (by decide +kernel))) rfl
theorem tw_1384 : Cond.methodLink RL 98 yX11_houses ∈ TB := TB_of (tin_6 (List.mem_of_getElem? (i := 79) (by decide +kernel))) rfl
theorem tw_1385 : Cond.instanceMethod yX11_houses ∈ TB := TB_of (tin_6 (List.mem_of_getElem? (i := 80) (by decide +kernel))) rfl
theorem tw_1386 : Cond.selects RX11 yX11_houses yX11_houses ∈ TB := TB_of (tin_6 (List.mem_of_getElem? (i := 81) (by decide +kernel))) rfl
theorem tw_1387 : Cond.code yX11_houses cX11_houses 6 (some .int) ∈ TB := TB_of (tin_6 (List.mem_of_getElem? (i := 82) (by decide +kernel))) rfl
theorem tw_1389 : Cond.methodLink RX11 394 yX5_heldByTurns ∈ TB := TB_of (tin_6 (List.mem_of_getElem? (i := 84) (by decide +kernel))) rfl
theorem tw_1390 : Cond.instanceMethod yX5_heldByTurns ∈ TB := TB_of (tin_6 (List.mem_of_getElem? (i := 85) (by decide +kernel))) rfl
theorem tw_1391 : Cond.selects RX5 yX5_heldByTurns yX5_heldByTurns ∈ TB := TB_of (tin_6 (List.mem_of_getElem? (i := 86) (by decide +kernel))) rfl
theorem tw_1392 : Cond.code yX5_heldByTurns cX5_heldByTurns 4 (some .int) ∈ TB := TB_of (tin_6 (List.mem_of_getElem? (i := 87) (by decide +kernel))) rfl
theorem tw_1393 : Cond.methodLink RL 242 yL_per ∈ TB := TB_of (tin_6 (List.mem_of_getElem? (i := 88) (by decide +kernel))) rfl
theorem tw_1396 : Cond.methodLink RL 102 yX11_per ∈ TB := TB_of (tin_6 (List.mem_of_getElem? (i := 91) (by decide +kernel))) rfl
theorem tw_1397 : Cond.instanceMethod yX11_per ∈ TB := TB_of (tin_6 (List.mem_of_getElem? (i := 92) (by decide +kernel))) rfl
theorem tw_1398 : Cond.selects RX11 yX11_per yX11_per ∈ TB := TB_of (tin_6 (List.mem_of_getElem? (i := 93) (by decide +kernel))) rfl
theorem tw_1399 : Cond.code yX11_per cX11_per 12 (some .int) ∈ TB := TB_of (tin_6 (List.mem_of_getElem? (i := 94) (by decide +kernel))) rfl
theorem tw_1401 : Cond.methodLink RX11 405 yJ9_min_7cf53 ∈ TB := TB_of (tin_6 (List.mem_of_getElem? (i := 96) (by decide +kernel))) rfl
theorem tw_1402 : Cond.methodLink RX11 408 yX5_sumIfPut ∈ TB := TB_of (tin_6 (List.mem_of_getElem? (i := 97) (by decide +kernel))) rfl
theorem tw_1403 : Cond.instanceMethod yX5_sumIfPut ∈ TB := TB_of (tin_6 (List.mem_of_getElem? (i := 98) (by decide +kernel))) rfl
theorem tw_1404 : Cond.selects RX5 yX5_sumIfPut yX5_sumIfPut ∈ TB := TB_of (tin_6 (List.mem_of_getElem? (i := 99) (by decide +kernel))) rfl
theorem tw_1405 : Cond.code yX5_sumIfPut cX5_sumIfPut 6 (some .int) ∈ TB := TB_of (tin_6 (List.mem_of_getElem? (i := 100) (by decide +kernel))) rfl
theorem tw_1406 : Cond.methodLink RX5 104 yX4_begin ∈ TB := TB_of (tin_6 (List.mem_of_getElem? (i := 101) (by decide +kernel))) rfl
theorem tw_1407 : Cond.methodLink RL 245 yL_plan ∈ TB := TB_of (tin_6 (List.mem_of_getElem? (i := 102) (by decide +kernel))) rfl
theorem tw_1410 : Cond.methodLink RL 105 yX11_plan ∈ TB := TB_of (tin_6 (List.mem_of_getElem? (i := 105) (by decide +kernel))) rfl
theorem tw_1411 : Cond.instanceMethod yX11_plan ∈ TB := TB_of (tin_6 (List.mem_of_getElem? (i := 106) (by decide +kernel))) rfl
theorem tw_1412 : Cond.selects RX11 yX11_plan yX11_plan ∈ TB := TB_of (tin_6 (List.mem_of_getElem? (i := 107) (by decide +kernel))) rfl
theorem tw_1413 : Cond.code yX11_plan cX11_plan 8 (some .int) ∈ TB := TB_of (tin_6 (List.mem_of_getElem? (i := 108) (by decide +kernel))) rfl
theorem tw_1414 : Cond.methodLink RX11 412 yX11_checkPlanned ∈ TB := TB_of (tin_6 (List.mem_of_getElem? (i := 109) (by decide +kernel))) rfl
theorem tw_1416 : Cond.instanceMethod yX11_checkPlanned ∈ TB := TB_of (tin_6 (List.mem_of_getElem? (i := 111) (by decide +kernel))) rfl
theorem tw_1417 : Cond.code yX11_checkPlanned cX11_checkPlanned 3 none ∈ TB := TB_of (tin_6 (List.mem_of_getElem? (i := 112) (by decide +kernel))) rfl
theorem tw_1420 : Cond.methodLink RX11 415 yX3_begin ∈ TB := TB_of (tin_6 (List.mem_of_getElem? (i := 115) (by decide +kernel))) rfl
theorem tw_1421 : Cond.instanceMethod yX3_begin ∈ TB := TB_of (tin_6 (List.mem_of_getElem? (i := 116) (by decide +kernel))) rfl
theorem tw_1422 : Cond.selects RX3 yX3_begin yX3_begin ∈ TB := TB_of (tin_6 (List.mem_of_getElem? (i := 117) (by decide +kernel))) rfl
theorem tw_1423 : Cond.code yX3_begin cX3_begin 1 none ∈ TB := TB_of (tin_6 (List.mem_of_getElem? (i := 118) (by decide +kernel))) rfl
theorem tw_1424 : Cond.methodLink RX3 31 yJ7_fill_53178 ∈ TB := TB_of (tin_6 (List.mem_of_getElem? (i := 119) (by decide +kernel))) rfl
theorem tw_1425 : Cond.methodLink RX11 417 yX3_addPack ∈ TB := TB_of (tin_6 (List.mem_of_getElem? (i := 120) (by decide +kernel))) rfl
theorem tw_1426 : Cond.instanceMethod yX3_addPack ∈ TB := TB_of (tin_6 (List.mem_of_getElem? (i := 121) (by decide +kernel))) rfl
theorem tw_1427 : Cond.selects RX3 yX3_addPack yX3_addPack ∈ TB := TB_of (tin_6 (List.mem_of_getElem? (i := 122) (by decide +kernel))) rfl
theorem tw_1428 : Cond.code yX3_addPack cX3_addPack 2 none ∈ TB := TB_of (tin_6 (List.mem_of_getElem? (i := 123) (by decide +kernel))) rfl
theorem tw_1429 : Cond.methodLink RX11 420 yX3_setWorth ∈ TB := TB_of (tin_6 (List.mem_of_getElem? (i := 124) (by decide +kernel))) rfl
theorem tw_1430 : Cond.instanceMethod yX3_setWorth ∈ TB := TB_of (tin_6 (List.mem_of_getElem? (i := 125) (by decide +kernel))) rfl
theorem tw_1431 : Cond.selects RX3 yX3_setWorth yX3_setWorth ∈ TB := TB_of (tin_6 (List.mem_of_getElem? (i := 126) (by decide +kernel))) rfl
theorem tw_1432 : Cond.code yX3_setWorth cX3_setWorth 3 none ∈ TB := TB_of (tin_6 (List.mem_of_getElem? (i := 127) (by decide +kernel))) rfl
theorem tw_1433 : Cond.methodLink RX11 423 yX3_search ∈ TB := TB_of (tin_6 (List.mem_of_getElem? (i := 128) (by decide +kernel))) rfl
theorem tw_1434 : Cond.instanceMethod yX3_search ∈ TB := TB_of (tin_6 (List.mem_of_getElem? (i := 129) (by decide +kernel))) rfl
theorem tw_1435 : Cond.selects RX3 yX3_search yX3_search ∈ TB := TB_of (tin_6 (List.mem_of_getElem? (i := 130) (by decide +kernel))) rfl
theorem tw_1436 : Cond.code yX3_search cX3_search 1 none ∈ TB := TB_of (tin_6 (List.mem_of_getElem? (i := 131) (by decide +kernel))) rfl
theorem tw_1437 : Cond.methodLink RX3 37 yX3_settle ∈ TB := TB_of (tin_6 (List.mem_of_getElem? (i := 132) (by decide +kernel))) rfl
theorem tw_1439 : Cond.instanceMethod yX3_settle ∈ TB := TB_of (tin_6 (List.mem_of_getElem? (i := 134) (by decide +kernel))) rfl
theorem tw_1440 : Cond.code yX3_settle cX3_settle 6 none ∈ TB := TB_of (tin_6 (List.mem_of_getElem? (i := 135) (by decide +kernel))) rfl
theorem tw_1442 : Cond.methodLink RX11 429 yX3_houseFor ∈ TB := TB_of (tin_6 (List.mem_of_getElem? (i := 137) (by decide +kernel))) rfl
theorem tw_1443 : Cond.instanceMethod yX3_houseFor ∈ TB := TB_of (tin_6 (List.mem_of_getElem? (i := 138) (by decide +kernel))) rfl
theorem tw_1444 : Cond.selects RX3 yX3_houseFor yX3_houseFor ∈ TB := TB_of (tin_6 (List.mem_of_getElem? (i := 139) (by decide +kernel))) rfl
theorem tw_1445 : Cond.code yX3_houseFor cX3_houseFor 3 (some .int) ∈ TB := TB_of (tin_6 (List.mem_of_getElem? (i := 140) (by decide +kernel))) rfl
theorem tw_1446 : Cond.methodLink RL 248 yL_last ∈ TB := TB_of (tin_6 (List.mem_of_getElem? (i := 141) (by decide +kernel))) rfl
theorem tw_1449 : Cond.methodLink RL 108 yX11_last ∈ TB := TB_of (tin_6 (List.mem_of_getElem? (i := 144) (by decide +kernel))) rfl
theorem tw_1450 : Cond.instanceMethod yX11_last ∈ TB := TB_of (tin_6 (List.mem_of_getElem? (i := 145) (by decide +kernel))) rfl
theorem tw_1451 : Cond.selects RX11 yX11_last yX11_last ∈ TB := TB_of (tin_6 (List.mem_of_getElem? (i := 146) (by decide +kernel))) rfl
theorem tw_1452 : Cond.code yX11_last cX11_last 8 (some .int) ∈ TB := TB_of (tin_6 (List.mem_of_getElem? (i := 147) (by decide +kernel))) rfl
theorem tw_1454 : Cond.methodLink RL 251 yL_chance ∈ TB := TB_of (tin_6 (List.mem_of_getElem? (i := 149) (by decide +kernel))) rfl
theorem tw_1457 : Cond.methodLink RL 111 yX11_chance ∈ TB := TB_of (tin_6 (List.mem_of_getElem? (i := 152) (by decide +kernel))) rfl
theorem tw_1458 : Cond.instanceMethod yX11_chance ∈ TB := TB_of (tin_6 (List.mem_of_getElem? (i := 153) (by decide +kernel))) rfl
theorem tw_1459 : Cond.selects RX11 yX11_chance yX11_chance ∈ TB := TB_of (tin_6 (List.mem_of_getElem? (i := 154) (by decide +kernel))) rfl
theorem tw_1460 : Cond.code yX11_chance cX11_chance 3 none ∈ TB := TB_of (tin_6 (List.mem_of_getElem? (i := 155) (by decide +kernel))) rfl
theorem tw_1462 : Cond.methodLink RL 255 yL_risk ∈ TB := TB_of (tin_6 (List.mem_of_getElem? (i := 157) (by decide +kernel))) rfl
theorem tw_1465 : Cond.methodLink RL 115 yX11_risk ∈ TB := TB_of (tin_6 (List.mem_of_getElem? (i := 160) (by decide +kernel))) rfl
theorem tw_1466 : Cond.instanceMethod yX11_risk ∈ TB := TB_of (tin_6 (List.mem_of_getElem? (i := 161) (by decide +kernel))) rfl
theorem tw_1467 : Cond.selects RX11 yX11_risk yX11_risk ∈ TB := TB_of (tin_6 (List.mem_of_getElem? (i := 162) (by decide +kernel))) rfl
theorem tw_1468 : Cond.code yX11_risk cX11_risk 9 (some .long) ∈ TB := TB_of (tin_6 (List.mem_of_getElem? (i := 163) (by decide +kernel))) rfl
theorem tw_1470 : Cond.methodLink RX11 441 yX11_oddsOfWhole ∈ TB := TB_of (tin_6 (List.mem_of_getElem? (i := 165) (by decide +kernel))) rfl
theorem tw_1472 : Cond.instanceMethod yX11_oddsOfWhole ∈ TB := TB_of (tin_6 (List.mem_of_getElem? (i := 167) (by decide +kernel))) rfl
theorem tw_1473 : Cond.code yX11_oddsOfWhole cX11_oddsOfWhole 10 (some .long) ∈ TB := TB_of (tin_6 (List.mem_of_getElem? (i := 168) (by decide +kernel))) rfl
theorem tw_1474 : Cond.methodLink RX11 509 yX11_waysToChoose ∈ TB := TB_of (tin_6 (List.mem_of_getElem? (i := 169) (by decide +kernel))) rfl
theorem tw_1475 : Cond.static yX11_waysToChoose ∈ TB := TB_of (tin_6 (List.mem_of_getElem? (i := 170) (by decide +kernel))) rfl
theorem tw_1476 : Cond.code yX11_waysToChoose cX11_waysToChoose 5 (some .long) ∈ TB := TB_of (tin_6 (List.mem_of_getElem? (i := 171) (by decide +kernel))) rfl
theorem tw_1477 : Cond.methodLink RL 259 yL_week ∈ TB := TB_of (tin_6 (List.mem_of_getElem? (i := 172) (by decide +kernel))) rfl
theorem tw_1480 : Cond.methodLink RL 119 yX11_week ∈ TB := TB_of (tin_6 (List.mem_of_getElem? (i := 175) (by decide +kernel))) rfl
theorem tw_1481 : Cond.instanceMethod yX11_week ∈ TB := TB_of (tin_6 (List.mem_of_getElem? (i := 176) (by decide +kernel))) rfl
theorem tw_1482 : Cond.selects RX11 yX11_week yX11_week ∈ TB := TB_of (tin_6 (List.mem_of_getElem? (i := 177) (by decide +kernel))) rfl
theorem tw_1483 : Cond.code yX11_week cX11_week 2 (some .int) ∈ TB := TB_of (tin_6 (List.mem_of_getElem? (i := 178) (by decide +kernel))) rfl
theorem tw_1486 : Cond.methodLink RL 262 yL_rates ∈ TB := TB_of (tin_6 (List.mem_of_getElem? (i := 181) (by decide +kernel))) rfl
theorem tw_1489 : Cond.methodLink RL 122 yX11_rates ∈ TB := TB_of (tin_6 (List.mem_of_getElem? (i := 184) (by decide +kernel))) rfl
theorem tw_1490 : Cond.instanceMethod yX11_rates ∈ TB := TB_of (tin_6 (List.mem_of_getElem? (i := 185) (by decide +kernel))) rfl
theorem tw_1491 : Cond.selects RX11 yX11_rates yX11_rates ∈ TB := TB_of (tin_6 (List.mem_of_getElem? (i := 186) (by decide +kernel))) rfl
theorem tw_1492 : Cond.code yX11_rates cX11_rates 7 (some .int) ∈ TB := TB_of (tin_6 (List.mem_of_getElem? (i := 187) (by decide +kernel))) rfl
theorem tw_1495 : Cond.methodLink RX11 459 yX11_isRate ∈ TB := TB_of (tin_6 (List.mem_of_getElem? (i := 190) (by decide +kernel))) rfl
theorem tw_1497 : Cond.instanceMethod yX11_isRate ∈ TB := TB_of (tin_6 (List.mem_of_getElem? (i := 192) (by decide +kernel))) rfl
theorem tw_1498 : Cond.code yX11_isRate cX11_isRate 4 (some .boolean) ∈ TB := TB_of (tin_6 (List.mem_of_getElem? (i := 193) (by decide +kernel))) rfl
theorem tw_1499 : Cond.methodLink RX11 515 yX11_weekAfter ∈ TB := TB_of (tin_6 (List.mem_of_getElem? (i := 194) (by decide +kernel))) rfl
theorem tw_1500 : Cond.static yX11_weekAfter ∈ TB := TB_of (tin_6 (List.mem_of_getElem? (i := 195) (by decide +kernel))) rfl
theorem tw_1501 : Cond.code yX11_weekAfter cX11_weekAfter 3 (some .int) ∈ TB := TB_of (tin_6 (List.mem_of_getElem? (i := 196) (by decide +kernel))) rfl
theorem tw_1502 : Cond.methodLink RX11 512 yJ9_floorDiv_7cf53 ∈ TB := TB_of (tin_6 (List.mem_of_getElem? (i := 197) (by decide +kernel))) rfl
theorem tw_1503 : Cond.static yJ9_floorDiv_7cf53 ∈ TB := TB_of (tin_6 (List.mem_of_getElem? (i := 198) (by decide +kernel))) rfl
theorem tw_1504 : Cond.code yJ9_floorDiv_7cf53 cJ9_floorDiv_7cf53 3 (some .int) ∈ TB := TB_of (tin_6 (List.mem_of_getElem? (i := 199) (by decide +kernel))) rfl
theorem tw_1505 : Cond.methodLink RX11 463 yX11_nextWeekEdge ∈ TB := TB_of (tin_6 (List.mem_of_getElem? (i := 200) (by decide +kernel))) rfl
theorem tw_1507 : Cond.instanceMethod yX11_nextWeekEdge ∈ TB := TB_of (tin_6 (List.mem_of_getElem? (i := 202) (by decide +kernel))) rfl
theorem tw_1508 : Cond.code yX11_nextWeekEdge cX11_nextWeekEdge 9 (some .int) ∈ TB := TB_of (tin_6 (List.mem_of_getElem? (i := 203) (by decide +kernel))) rfl
theorem tw_1509 : Cond.methodLink RX11 518 yJ9_max_7cf53 ∈ TB := TB_of (tin_6 (List.mem_of_getElem? (i := 204) (by decide +kernel))) rfl
theorem tw_1510 : Cond.methodLink RL 269 yL_change ∈ TB := TB_of (tin_6 (List.mem_of_getElem? (i := 205) (by decide +kernel))) rfl
theorem tw_1513 : Cond.methodLink RL 125 yX11_change ∈ TB := TB_of (tin_6 (List.mem_of_getElem? (i := 208) (by decide +kernel))) rfl
theorem tw_1514 : Cond.instanceMethod yX11_change ∈ TB := TB_of (tin_6 (List.mem_of_getElem? (i := 209) (by decide +kernel))) rfl
theorem tw_1515 : Cond.selects RX11 yX11_change yX11_change ∈ TB := TB_of (tin_6 (List.mem_of_getElem? (i := 210) (by decide +kernel))) rfl
theorem tw_1516 : Cond.code yX11_change cX11_change 2 (some .int) ∈ TB := TB_of (tin_6 (List.mem_of_getElem? (i := 211) (by decide +kernel))) rfl
theorem tw_1517 : Cond.methodLink RX11 470 yX0_bestPair ∈ TB := TB_of (tin_6 (List.mem_of_getElem? (i := 212) (by decide +kernel))) rfl
theorem tw_1518 : Cond.instanceMethod yX0_bestPair ∈ TB := TB_of (tin_6 (List.mem_of_getElem? (i := 213) (by decide +kernel))) rfl
theorem tw_1519 : Cond.selects RX0 yX0_bestPair yX0_bestPair ∈ TB := TB_of (tin_6 (List.mem_of_getElem? (i := 214) (by decide +kernel))) rfl
theorem tw_1520 : Cond.code yX0_bestPair cX0_bestPair 7 (some .int) ∈ TB := TB_of (tin_6 (List.mem_of_getElem? (i := 215) (by decide +kernel))) rfl
theorem tw_1521 : Cond.methodLink RX0 67 yX0_sumUp ∈ TB := TB_of (tin_6 (List.mem_of_getElem? (i := 216) (by decide +kernel))) rfl
theorem tw_1523 : Cond.instanceMethod yX0_sumUp ∈ TB := TB_of (tin_6 (List.mem_of_getElem? (i := 218) (by decide +kernel))) rfl
theorem tw_1524 : Cond.code yX0_sumUp cX0_sumUp 8 none ∈ TB := TB_of (tin_6 (List.mem_of_getElem? (i := 219) (by decide +kernel))) rfl
theorem tw_1525 : Cond.methodLink RX0 78 yX2_roleOf ∈ TB := TB_of (tin_6 (List.mem_of_getElem? (i := 220) (by decide +kernel))) rfl
theorem tw_1526 : Cond.methodLink RX0 85 yX2_placeOf ∈ TB := TB_of (tin_6 (List.mem_of_getElem? (i := 221) (by decide +kernel))) rfl
theorem tw_1527 : Cond.methodLink RX0 91 yX5_facePlace ∈ TB := TB_of (tin_6 (List.mem_of_getElem? (i := 222) (by decide +kernel))) rfl
theorem tw_1528 : Cond.methodLink RX0 97 yX5_heldWith ∈ TB := TB_of (tin_6 (List.mem_of_getElem? (i := 223) (by decide +kernel))) rfl
theorem tw_1529 : Cond.methodLink RX0 71 yX0_gainAs ∈ TB := TB_of (tin_6 (List.mem_of_getElem? (i := 224) (by decide +kernel))) rfl
theorem tw_1531 : Cond.instanceMethod yX0_gainAs ∈ TB := TB_of (tin_6 (List.mem_of_getElem? (i := 226) (by decide +kernel))) rfl
theorem tw_1532 : Cond.code yX0_gainAs cX0_gainAs 6 (some .int) ∈ TB := TB_of (tin_6 (List.mem_of_getElem? (i := 227) (by decide +kernel))) rfl
theorem tw_1533 : Cond.methodLink RL 147 yX12_thrown ∈ TB := TB_of (tin_6 (List.mem_of_getElem? (i := 228) (by decide +kernel))) rfl
theorem tw_1534 : Cond.instanceMethod yX12_thrown ∈ TB := TB_of (tin_6 (List.mem_of_getElem? (i := 229) (by decide +kernel))) rfl
theorem tw_1535 : Cond.selects RX12 yX12_thrown yX12_thrown ∈ TB := TB_of (tin_6 (List.mem_of_getElem? (i := 230) (by decide +kernel))) rfl
theorem tw_1536 : Cond.code yX12_thrown cX12_thrown 1 (some .int) ∈ TB := TB_of (tin_6 (List.mem_of_getElem? (i := 231) (by decide +kernel))) rfl
theorem tw_1537 : Cond.classLink RL 129 RX12 ∈ TB := TB_of (tin_6 (List.mem_of_getElem? (i := 232) (by decide +kernel))) rfl
theorem tw_1538 : Cond.instantiable RX12 24 ∈ TB := TB_of (tin_6 (List.mem_of_getElem? (i := 233) (by decide +kernel))) rfl
theorem tw_1539 : Cond.methodLink RL 131 yX12_init ∈ TB := TB_of (tin_6 (List.mem_of_getElem? (i := 234) (by decide +kernel))) rfl
theorem tw_1540 : Cond.instanceMethod yX12_init ∈ TB := TB_of (tin_6 (List.mem_of_getElem? (i := 235) (by decide +kernel))) rfl
theorem tw_1541 : Cond.code yX12_init cX12_init 1 none ∈ TB := TB_of (tin_6 (List.mem_of_getElem? (i := 236) (by decide +kernel))) rfl
theorem tw_1543 : Cond.fieldLink RX12 3 RX12 "thrown" "I" ∈ TB := TB_of (tin_6 (List.mem_of_getElem? (i := 238) (by decide +kernel))) rfl
theorem tw_1544 : Cond.fieldLink RX12 13 RX12 "world" "[I" ∈ TB := TB_of (tin_6 (List.mem_of_getElem? (i := 239) (by decide +kernel))) rfl
theorem tw_1545 : Cond.fieldLink RX12 17 RX12 "image" "[I" ∈ TB := TB_of (tin_7 (List.mem_of_getElem? (i := 0) (by decide +kernel))) rfl
theorem tw_1546 : Cond.fieldLink RX12 51 RX12 "hasImage" "Z" ∈ TB := TB_of (tin_7 (List.mem_of_getElem? (i := 1) (by decide +kernel))) rfl
theorem tw_1547 : Cond.fieldLink RX12 20 RX12 "tape" "[B" ∈ TB := TB_of (tin_7 (List.mem_of_getElem? (i := 2) (by decide +kernel))) rfl
theorem tw_1548 : Cond.fieldLink RX12 59 RX12 "taped" "I" ∈ TB := TB_of (tin_7 (List.mem_of_getElem? (i := 3) (by decide +kernel))) rfl
theorem tw_1549 : Cond.fieldLink RX12 62 RX12 "point" "I" ∈ TB := TB_of (tin_7 (List.mem_of_getElem? (i := 4) (by decide +kernel))) rfl
theorem tw_1550 : Cond.fieldLink RX12 65 RX12 "end" "I" ∈ TB := TB_of (tin_7 (List.mem_of_getElem? (i := 5) (by decide +kernel))) rfl
theorem tw_1551 : Cond.fieldLink RX12 72 RX12 "begin" "I" ∈ TB := TB_of (tin_7 (List.mem_of_getElem? (i := 6) (by decide +kernel))) rfl
theorem tw_1552 : Cond.fieldLink RX12 152 RX12 "deep" "I" ∈ TB := TB_of (tin_7 (List.mem_of_getElem? (i := 7) (by decide +kernel))) rfl
theorem tw_1553 : Cond.fieldLink RX12 24 RX12 "faultAt" "I" ∈ TB := TB_of (tin_7 (List.mem_of_getElem? (i := 8) (by decide +kernel))) rfl
theorem tw_1554 : Cond.fieldLink RX12 27 RX12 "five" "[I" ∈ TB := TB_of (tin_7 (List.mem_of_getElem? (i := 9) (by decide +kernel))) rfl
theorem tw_1555 : Cond.fieldLink RX12 98 RX12 "steps" "I" ∈ TB := TB_of (tin_7 (List.mem_of_getElem? (i := 10) (by decide +kernel))) rfl
theorem tw_1556 : Cond.fieldLink RX12 101 RX12 "isRule" "Z" ∈ TB := TB_of (tin_7 (List.mem_of_getElem? (i := 11) (by decide +kernel))) rfl
theorem tw_1557 : Cond.fieldLink RX12 30 RX12 "facts" "[I" ∈ TB := TB_of (tin_7 (List.mem_of_getElem? (i := 12) (by decide +kernel))) rfl
theorem tw_1558 : Cond.fieldLink RX12 33 RX12 "value" "[I" ∈ TB := TB_of (tin_7 (List.mem_of_getElem? (i := 13) (by decide +kernel))) rfl
theorem tw_1559 : Cond.fieldLink RX12 326 RX12 "seed" "I" ∈ TB := TB_of (tin_7 (List.mem_of_getElem? (i := 14) (by decide +kernel))) rfl
theorem tw_1560 : Cond.fieldLink RX12 36 RX12 "blanks" "[I" ∈ TB := TB_of (tin_7 (List.mem_of_getElem? (i := 15) (by decide +kernel))) rfl
theorem tw_1561 : Cond.fieldLink RX12 39 RX12 "lacking" "[I" ∈ TB := TB_of (tin_7 (List.mem_of_getElem? (i := 16) (by decide +kernel))) rfl
theorem tw_1562 : Cond.fieldLink RX12 42 RX12 "given" "[I" ∈ TB := TB_of (tin_7 (List.mem_of_getElem? (i := 17) (by decide +kernel))) rfl
theorem tw_1563 : Cond.fieldLink RX12 359 RX12 "sumOfScores" "I" ∈ TB := TB_of (tin_7 (List.mem_of_getElem? (i := 18) (by decide +kernel))) rfl
theorem tw_1564 : Cond.fieldLink RX12 362 RX12 "allWays" "I" ∈ TB := TB_of (tin_7 (List.mem_of_getElem? (i := 19) (by decide +kernel))) rfl
theorem tw_1565 : Cond.fieldLink RX12 45 RX12 "planned" "[I" ∈ TB := TB_of (tin_7 (List.mem_of_getElem? (i := 20) (by decide +kernel))) rfl
theorem tw_1566 : Cond.fieldLink RX12 48 RX12 "worth" "[I" ∈ TB := TB_of (tin_7 (List.mem_of_getElem? (i := 21) (by decide +kernel))) rfl
theorem tw_1616 : Cond.methodLink RL 275 yX12_image ∈ TB := TB_of (tin_7 (List.mem_of_getElem? (i := 71) (by decide +kernel))) rfl
theorem tw_1617 : Cond.instanceMethod yX12_image ∈ TB := TB_of (tin_7 (List.mem_of_getElem? (i := 72) (by decide +kernel))) rfl
theorem tw_1618 : Cond.selects RX12 yX12_image yX12_image ∈ TB := TB_of (tin_7 (List.mem_of_getElem? (i := 73) (by decide +kernel))) rfl
theorem tw_1619 : Cond.code yX12_image cX12_image 2 none ∈ TB := TB_of (tin_7 (List.mem_of_getElem? (i := 74) (by decide +kernel))) rfl
theorem tw_1620 : Cond.methodLink RL 280 yX12_back ∈ TB := TB_of (tin_7 (List.mem_of_getElem? (i := 75) (by decide +kernel))) rfl
theorem tw_1621 : Cond.instanceMethod yX12_back ∈ TB := TB_of (tin_7 (List.mem_of_getElem? (i := 76) (by decide +kernel))) rfl
theorem tw_1622 : Cond.selects RX12 yX12_back yX12_back ∈ TB := TB_of (tin_7 (List.mem_of_getElem? (i := 77) (by decide +kernel))) rfl
theorem tw_1623 : Cond.code yX12_back cX12_back 2 (some .boolean) ∈ TB := TB_of (tin_7 (List.mem_of_getElem? (i := 78) (by decide +kernel))) rfl
theorem tw_1624 : Cond.methodLink RL 135 yX12_feed ∈ TB := TB_of (tin_7 (List.mem_of_getElem? (i := 79) (by decide +kernel))) rfl
theorem tw_1625 : Cond.instanceMethod yX12_feed ∈ TB := TB_of (tin_7 (List.mem_of_getElem? (i := 80) (by decide +kernel))) rfl
theorem tw_1626 : Cond.selects RX12 yX12_feed yX12_feed ∈ TB := TB_of (tin_7 (List.mem_of_getElem? (i := 81) (by decide +kernel))) rfl
theorem tw_1627 : Cond.code yX12_feed cX12_feed 7 (some .int) ∈ TB := TB_of (tin_7 (List.mem_of_getElem? (i := 82) (by decide +kernel))) rfl
theorem tw_1628 : Cond.methodLink RL 140 yX12_end ∈ TB := TB_of (tin_7 (List.mem_of_getElem? (i := 83) (by decide +kernel))) rfl
theorem tw_1629 : Cond.instanceMethod yX12_end ∈ TB := TB_of (tin_7 (List.mem_of_getElem? (i := 84) (by decide +kernel))) rfl
theorem tw_1630 : Cond.selects RX12 yX12_end yX12_end ∈ TB := TB_of (tin_7 (List.mem_of_getElem? (i := 85) (by decide +kernel))) rfl
theorem tw_1631 : Cond.code yX12_end cX12_end 2 (some .boolean) ∈ TB := TB_of (tin_7 (List.mem_of_getElem? (i := 86) (by decide +kernel))) rfl
theorem tw_1632 : Cond.methodLink RL 156 yX12_fault ∈ TB := TB_of (tin_7 (List.mem_of_getElem? (i := 87) (by decide +kernel))) rfl
theorem tw_1633 : Cond.instanceMethod yX12_fault ∈ TB := TB_of (tin_7 (List.mem_of_getElem? (i := 88) (by decide +kernel))) rfl
theorem tw_1634 : Cond.selects RX12 yX12_fault yX12_fault ∈ TB := TB_of (tin_7 (List.mem_of_getElem? (i := 89) (by decide +kernel))) rfl
theorem tw_1635 : Cond.code yX12_fault cX12_fault 1 (some .int) ∈ TB := TB_of (tin_7 (List.mem_of_getElem? (i := 90) (by decide +kernel))) rfl
theorem tw_1636 : Cond.methodLink RL 146 yX12_law ∈ TB := TB_of (tin_7 (List.mem_of_getElem? (i := 91) (by decide +kernel))) rfl
theorem tw_1637 : Cond.instanceMethod yX12_law ∈ TB := TB_of (tin_7 (List.mem_of_getElem? (i := 92) (by decide +kernel))) rfl
theorem tw_1638 : Cond.selects RX12 yX12_law yX12_law ∈ TB := TB_of (tin_7 (List.mem_of_getElem? (i := 93) (by decide +kernel))) rfl
theorem tw_1639 : Cond.code yX12_law cX12_law 1 (some .int) ∈ TB := TB_of (tin_7 (List.mem_of_getElem? (i := 94) (by decide +kernel))) rfl
theorem tw_1640 : Cond.methodLink RX12 199 yX12_keeps ∈ TB := TB_of (tin_7 (List.mem_of_getElem? (i := 95) (by decide +kernel))) rfl
theorem tw_1642 : Cond.instanceMethod yX12_keeps ∈ TB := TB_of (tin_7 (List.mem_of_getElem? (i := 97) (by decide +kernel))) rfl
theorem tw_1643 : Cond.code yX12_keeps cX12_keeps 8 (some .int) ∈ TB := TB_of (tin_7 (List.mem_of_getElem? (i := 98) (by decide +kernel))) rfl
theorem tw_1644 : Cond.methodLink RX12 192 yX12_readAll ∈ TB := TB_of (tin_7 (List.mem_of_getElem? (i := 99) (by decide +kernel))) rfl
theorem tw_1646 : Cond.instanceMethod yX12_readAll ∈ TB := TB_of (tin_7 (List.mem_of_getElem? (i := 101) (by decide +kernel))) rfl
theorem tw_1647 : Cond.code yX12_readAll cX12_readAll 2 (some .int) ∈ TB := TB_of (tin_7 (List.mem_of_getElem? (i := 102) (by decide +kernel))) rfl
theorem tw_1648 : Cond.methodLink RX12 75 yX12_blanks ∈ TB := TB_of (tin_7 (List.mem_of_getElem? (i := 103) (by decide +kernel))) rfl
theorem tw_1650 : Cond.instanceMethod yX12_blanks ∈ TB := TB_of (tin_7 (List.mem_of_getElem? (i := 105) (by decide +kernel))) rfl
theorem tw_1651 : Cond.code yX12_blanks cX12_blanks 1 none ∈ TB := TB_of (tin_7 (List.mem_of_getElem? (i := 106) (by decide +kernel))) rfl
theorem tw_1652 : Cond.methodLink RX12 68 yX12_isAt ∈ TB := TB_of (tin_7 (List.mem_of_getElem? (i := 107) (by decide +kernel))) rfl
theorem tw_1654 : Cond.instanceMethod yX12_isAt ∈ TB := TB_of (tin_7 (List.mem_of_getElem? (i := 109) (by decide +kernel))) rfl
theorem tw_1655 : Cond.code yX12_isAt cX12_isAt 3 (some .boolean) ∈ TB := TB_of (tin_7 (List.mem_of_getElem? (i := 110) (by decide +kernel))) rfl
theorem tw_1656 : Cond.methodLink RX12 189 yX12_readLine ∈ TB := TB_of (tin_7 (List.mem_of_getElem? (i := 111) (by decide +kernel))) rfl
theorem tw_1658 : Cond.instanceMethod yX12_readLine ∈ TB := TB_of (tin_7 (List.mem_of_getElem? (i := 113) (by decide +kernel))) rfl
theorem tw_1659 : Cond.code yX12_readLine cX12_readLine 3 (some .boolean) ∈ TB := TB_of (tin_7 (List.mem_of_getElem? (i := 114) (by decide +kernel))) rfl
theorem tw_1660 : Cond.methodLink RX12 87 yX12_letters ∈ TB := TB_of (tin_7 (List.mem_of_getElem? (i := 115) (by decide +kernel))) rfl
theorem tw_1662 : Cond.instanceMethod yX12_letters ∈ TB := TB_of (tin_7 (List.mem_of_getElem? (i := 117) (by decide +kernel))) rfl
theorem tw_1663 : Cond.code yX12_letters cX12_letters 1 none ∈ TB := TB_of (tin_7 (List.mem_of_getElem? (i := 118) (by decide +kernel))) rfl
theorem tw_1664 : Cond.methodLink RX12 179 yX12_lineAt ∈ TB := TB_of (tin_7 (List.mem_of_getElem? (i := 119) (by decide +kernel))) rfl
theorem tw_1665 : Cond.static yX12_lineAt ∈ TB := TB_of (tin_7 (List.mem_of_getElem? (i := 120) (by decide +kernel))) rfl
theorem tw_1666 : Cond.code yX12_lineAt cX12_lineAt 2 (some .int) ∈ TB := TB_of (tin_7 (List.mem_of_getElem? (i := 121) (by decide +kernel))) rfl
theorem tw_1667 : Cond.methodLink RX12 94 yX12_textAt ∈ TB := TB_of (tin_7 (List.mem_of_getElem? (i := 122) (by decide +kernel))) rfl
theorem tw_1668 : Cond.static yX12_textAt ∈ TB := TB_of (tin_7 (List.mem_of_getElem? (i := 123) (by decide +kernel))) rfl
theorem tw_1669 : Cond.code yX12_textAt cX12_textAt 1 (some .int) ∈ TB := TB_of (tin_7 (List.mem_of_getElem? (i := 124) (by decide +kernel))) rfl
theorem tw_1671 : Cond.methodLink RX12 90 yX12_isWord ∈ TB := TB_of (tin_7 (List.mem_of_getElem? (i := 126) (by decide +kernel))) rfl
theorem tw_1673 : Cond.instanceMethod yX12_isWord ∈ TB := TB_of (tin_7 (List.mem_of_getElem? (i := 128) (by decide +kernel))) rfl
theorem tw_1674 : Cond.code yX12_isWord cX12_isWord 4 (some .boolean) ∈ TB := TB_of (tin_7 (List.mem_of_getElem? (i := 129) (by decide +kernel))) rfl
theorem tw_1675 : Cond.methodLink RX12 77 yJ0_length_8abf5 ∈ TB := TB_of (tin_7 (List.mem_of_getElem? (i := 130) (by decide +kernel))) rfl
theorem tw_1676 : Cond.methodLink RX12 83 yJ0_charAt_5068e ∈ TB := TB_of (tin_7 (List.mem_of_getElem? (i := 131) (by decide +kernel))) rfl
theorem tw_1678 : Cond.methodLink RX12 134 yX12_number ∈ TB := TB_of (tin_7 (List.mem_of_getElem? (i := 133) (by decide +kernel))) rfl
theorem tw_1680 : Cond.instanceMethod yX12_number ∈ TB := TB_of (tin_7 (List.mem_of_getElem? (i := 135) (by decide +kernel))) rfl
theorem tw_1681 : Cond.code yX12_number cX12_number 2 (some .int) ∈ TB := TB_of (tin_7 (List.mem_of_getElem? (i := 136) (by decide +kernel))) rfl
theorem tw_1682 : Cond.methodLink RX12 148 yX12_sign ∈ TB := TB_of (tin_7 (List.mem_of_getElem? (i := 137) (by decide +kernel))) rfl
theorem tw_1684 : Cond.instanceMethod yX12_sign ∈ TB := TB_of (tin_7 (List.mem_of_getElem? (i := 139) (by decide +kernel))) rfl
theorem tw_1685 : Cond.code yX12_sign cX12_sign 2 (some .boolean) ∈ TB := TB_of (tin_7 (List.mem_of_getElem? (i := 140) (by decide +kernel))) rfl
theorem tw_1686 : Cond.methodLink RX12 141 yX12_factAt ∈ TB := TB_of (tin_7 (List.mem_of_getElem? (i := 141) (by decide +kernel))) rfl
theorem tw_1688 : Cond.instanceMethod yX12_factAt ∈ TB := TB_of (tin_7 (List.mem_of_getElem? (i := 143) (by decide +kernel))) rfl
theorem tw_1689 : Cond.code yX12_factAt cX12_factAt 1 (some .int) ∈ TB := TB_of (tin_7 (List.mem_of_getElem? (i := 144) (by decide +kernel))) rfl
theorem tw_1703 : Cond.methodLink RX12 160 yX12_passes ∈ TB := TB_of (tin_7 (List.mem_of_getElem? (i := 158) (by decide +kernel))) rfl
theorem tw_1705 : Cond.instanceMethod yX12_passes ∈ TB := TB_of (tin_7 (List.mem_of_getElem? (i := 160) (by decide +kernel))) rfl
theorem tw_1706 : Cond.code yX12_passes cX12_passes 2 (some .boolean) ∈ TB := TB_of (tin_7 (List.mem_of_getElem? (i := 161) (by decide +kernel))) rfl
theorem tw_1707 : Cond.methodLink RX12 155 yX12_readCond ∈ TB := TB_of (tin_7 (List.mem_of_getElem? (i := 162) (by decide +kernel))) rfl
theorem tw_1709 : Cond.instanceMethod yX12_readCond ∈ TB := TB_of (tin_7 (List.mem_of_getElem? (i := 164) (by decide +kernel))) rfl
theorem tw_1710 : Cond.code yX12_readCond cX12_readCond 1 (some .boolean) ∈ TB := TB_of (tin_7 (List.mem_of_getElem? (i := 165) (by decide +kernel))) rfl
theorem tw_1711 : Cond.methodLink RX12 174 yX12_readAllOf ∈ TB := TB_of (tin_7 (List.mem_of_getElem? (i := 166) (by decide +kernel))) rfl
theorem tw_1713 : Cond.instanceMethod yX12_readAllOf ∈ TB := TB_of (tin_7 (List.mem_of_getElem? (i := 168) (by decide +kernel))) rfl
theorem tw_1714 : Cond.code yX12_readAllOf cX12_readAllOf 1 (some .boolean) ∈ TB := TB_of (tin_7 (List.mem_of_getElem? (i := 169) (by decide +kernel))) rfl
theorem tw_1715 : Cond.methodLink RX12 163 yX12_readAtom ∈ TB := TB_of (tin_7 (List.mem_of_getElem? (i := 170) (by decide +kernel))) rfl
theorem tw_1717 : Cond.instanceMethod yX12_readAtom ∈ TB := TB_of (tin_7 (List.mem_of_getElem? (i := 172) (by decide +kernel))) rfl
theorem tw_1718 : Cond.code yX12_readAtom cX12_readAtom 3 (some .boolean) ∈ TB := TB_of (tin_7 (List.mem_of_getElem? (i := 173) (by decide +kernel))) rfl
theorem tw_1720 : Cond.methodLink RX12 137 yX12_emits ∈ TB := TB_of (tin_7 (List.mem_of_getElem? (i := 175) (by decide +kernel))) rfl
theorem tw_1722 : Cond.instanceMethod yX12_emits ∈ TB := TB_of (tin_7 (List.mem_of_getElem? (i := 177) (by decide +kernel))) rfl
theorem tw_1723 : Cond.code yX12_emits cX12_emits 4 none ∈ TB := TB_of (tin_7 (List.mem_of_getElem? (i := 178) (by decide +kernel))) rfl
theorem tw_1724 : Cond.methodLink RX12 166 yX12_tagAt ∈ TB := TB_of (tin_7 (List.mem_of_getElem? (i := 179) (by decide +kernel))) rfl
theorem tw_1726 : Cond.instanceMethod yX12_tagAt ∈ TB := TB_of (tin_7 (List.mem_of_getElem? (i := 181) (by decide +kernel))) rfl
theorem tw_1727 : Cond.code yX12_tagAt cX12_tagAt 1 (some .int) ∈ TB := TB_of (tin_7 (List.mem_of_getElem? (i := 182) (by decide +kernel))) rfl
theorem tw_1731 : Cond.methodLink RX12 169 yX12_readSum ∈ TB := TB_of (tin_7 (List.mem_of_getElem? (i := 186) (by decide +kernel))) rfl
theorem tw_1733 : Cond.instanceMethod yX12_readSum ∈ TB := TB_of (tin_7 (List.mem_of_getElem? (i := 188) (by decide +kernel))) rfl
theorem tw_1734 : Cond.code yX12_readSum cX12_readSum 1 (some .boolean) ∈ TB := TB_of (tin_7 (List.mem_of_getElem? (i := 189) (by decide +kernel))) rfl
theorem tw_1735 : Cond.methodLink RX12 144 yX12_readPart ∈ TB := TB_of (tin_7 (List.mem_of_getElem? (i := 190) (by decide +kernel))) rfl
theorem tw_1737 : Cond.instanceMethod yX12_readPart ∈ TB := TB_of (tin_7 (List.mem_of_getElem? (i := 192) (by decide +kernel))) rfl
theorem tw_1738 : Cond.code yX12_readPart cX12_readPart 2 (some .boolean) ∈ TB := TB_of (tin_7 (List.mem_of_getElem? (i := 193) (by decide +kernel))) rfl
theorem tw_1741 : Cond.methodLink RX12 195 yX12_throwsIf ∈ TB := TB_of (tin_7 (List.mem_of_getElem? (i := 196) (by decide +kernel))) rfl
theorem tw_1743 : Cond.instanceMethod yX12_throwsIf ∈ TB := TB_of (tin_7 (List.mem_of_getElem? (i := 198) (by decide +kernel))) rfl
theorem tw_1744 : Cond.code yX12_throwsIf cX12_throwsIf 3 (some .boolean) ∈ TB := TB_of (tin_7 (List.mem_of_getElem? (i := 199) (by decide +kernel))) rfl
theorem tw_1745 : Cond.methodLink RL 152 yX12_rule ∈ TB := TB_of (tin_7 (List.mem_of_getElem? (i := 200) (by decide +kernel))) rfl
theorem tw_1746 : Cond.instanceMethod yX12_rule ∈ TB := TB_of (tin_7 (List.mem_of_getElem? (i := 201) (by decide +kernel))) rfl
theorem tw_1747 : Cond.selects RX12 yX12_rule yX12_rule ∈ TB := TB_of (tin_7 (List.mem_of_getElem? (i := 202) (by decide +kernel))) rfl
theorem tw_1748 : Cond.code yX12_rule cX12_rule 1 (some .int) ∈ TB := TB_of (tin_7 (List.mem_of_getElem? (i := 203) (by decide +kernel))) rfl
theorem tw_1749 : Cond.methodLink RL 160 yX12_dull ∈ TB := TB_of (tin_7 (List.mem_of_getElem? (i := 204) (by decide +kernel))) rfl
theorem tw_1750 : Cond.instanceMethod yX12_dull ∈ TB := TB_of (tin_7 (List.mem_of_getElem? (i := 205) (by decide +kernel))) rfl
theorem tw_1751 : Cond.selects RX12 yX12_dull yX12_dull ∈ TB := TB_of (tin_7 (List.mem_of_getElem? (i := 206) (by decide +kernel))) rfl
theorem tw_1752 : Cond.code yX12_dull cX12_dull 5 (some .int) ∈ TB := TB_of (tin_7 (List.mem_of_getElem? (i := 207) (by decide +kernel))) rfl
theorem tw_1753 : Cond.methodLink RX12 217 yX12_noCard ∈ TB := TB_of (tin_7 (List.mem_of_getElem? (i := 208) (by decide +kernel))) rfl
theorem tw_1754 : Cond.static yX12_noCard ∈ TB := TB_of (tin_7 (List.mem_of_getElem? (i := 209) (by decide +kernel))) rfl
theorem tw_1755 : Cond.code yX12_noCard cX12_noCard 1 (some .boolean) ∈ TB := TB_of (tin_7 (List.mem_of_getElem? (i := 210) (by decide +kernel))) rfl
theorem tw_1756 : Cond.methodLink RX12 55 yX12_in ∈ TB := TB_of (tin_7 (List.mem_of_getElem? (i := 211) (by decide +kernel))) rfl
theorem tw_1757 : Cond.static yX12_in ∈ TB := TB_of (tin_7 (List.mem_of_getElem? (i := 212) (by decide +kernel))) rfl
theorem tw_1758 : Cond.code yX12_in cX12_in 3 (some .boolean) ∈ TB := TB_of (tin_7 (List.mem_of_getElem? (i := 213) (by decide +kernel))) rfl
theorem tw_1759 : Cond.methodLink RX12 220 yX12_noRole ∈ TB := TB_of (tin_7 (List.mem_of_getElem? (i := 214) (by decide +kernel))) rfl
theorem tw_1760 : Cond.static yX12_noRole ∈ TB := TB_of (tin_7 (List.mem_of_getElem? (i := 215) (by decide +kernel))) rfl
theorem tw_1761 : Cond.code yX12_noRole cX12_noRole 1 (some .boolean) ∈ TB := TB_of (tin_7 (List.mem_of_getElem? (i := 216) (by decide +kernel))) rfl
theorem tw_1762 : Cond.methodLink RX12 223 yX12_dullOf ∈ TB := TB_of (tin_7 (List.mem_of_getElem? (i := 217) (by decide +kernel))) rfl
theorem tw_1764 : Cond.instanceMethod yX12_dullOf ∈ TB := TB_of (tin_7 (List.mem_of_getElem? (i := 219) (by decide +kernel))) rfl
theorem tw_1765 : Cond.code yX12_dullOf cX12_dullOf 3 (some .int) ∈ TB := TB_of (tin_7 (List.mem_of_getElem? (i := 220) (by decide +kernel))) rfl
theorem tw_1766 : Cond.methodLink RL 164 yX12_house ∈ TB := TB_of (tin_7 (List.mem_of_getElem? (i := 221) (by decide +kernel))) rfl
theorem tw_1767 : Cond.instanceMethod yX12_house ∈ TB := TB_of (tin_7 (List.mem_of_getElem? (i := 222) (by decide +kernel))) rfl
theorem tw_1768 : Cond.selects RX12 yX12_house yX12_house ∈ TB := TB_of (tin_7 (List.mem_of_getElem? (i := 223) (by decide +kernel))) rfl
theorem tw_1769 : Cond.code yX12_house cX12_house 4 (some .int) ∈ TB := TB_of (tin_7 (List.mem_of_getElem? (i := 224) (by decide +kernel))) rfl
theorem tw_1770 : Cond.methodLink RL 168 yX12_look ∈ TB := TB_of (tin_7 (List.mem_of_getElem? (i := 225) (by decide +kernel))) rfl
theorem tw_1771 : Cond.instanceMethod yX12_look ∈ TB := TB_of (tin_7 (List.mem_of_getElem? (i := 226) (by decide +kernel))) rfl
theorem tw_1772 : Cond.selects RX12 yX12_look yX12_look ∈ TB := TB_of (tin_7 (List.mem_of_getElem? (i := 227) (by decide +kernel))) rfl
theorem tw_1773 : Cond.code yX12_look cX12_look 4 none ∈ TB := TB_of (tin_7 (List.mem_of_getElem? (i := 228) (by decide +kernel))) rfl
theorem tw_1774 : Cond.methodLink RX12 232 yX12_noDoor ∈ TB := TB_of (tin_7 (List.mem_of_getElem? (i := 229) (by decide +kernel))) rfl
theorem tw_1776 : Cond.instanceMethod yX12_noDoor ∈ TB := TB_of (tin_7 (List.mem_of_getElem? (i := 231) (by decide +kernel))) rfl
theorem tw_1777 : Cond.code yX12_noDoor cX12_noDoor 3 (some .boolean) ∈ TB := TB_of (tin_7 (List.mem_of_getElem? (i := 232) (by decide +kernel))) rfl
theorem tw_1778 : Cond.methodLink RX12 226 yX12_none ∈ TB := TB_of (tin_7 (List.mem_of_getElem? (i := 233) (by decide +kernel))) rfl
theorem tw_1780 : Cond.instanceMethod yX12_none ∈ TB := TB_of (tin_7 (List.mem_of_getElem? (i := 235) (by decide +kernel))) rfl
theorem tw_1781 : Cond.code yX12_none cX12_none 3 (some .boolean) ∈ TB := TB_of (tin_7 (List.mem_of_getElem? (i := 236) (by decide +kernel))) rfl
theorem tw_1782 : Cond.methodLink RX12 229 yX12_doors ∈ TB := TB_of (tin_7 (List.mem_of_getElem? (i := 237) (by decide +kernel))) rfl
theorem tw_1784 : Cond.instanceMethod yX12_doors ∈ TB := TB_of (tin_7 (List.mem_of_getElem? (i := 239) (by decide +kernel))) rfl
theorem tw_1785 : Cond.code yX12_doors cX12_doors 2 (some .int) ∈ TB := TB_of (tin_8 (List.mem_of_getElem? (i := 0) (by decide +kernel))) rfl
theorem tw_1786 : Cond.methodLink RL 171 yX12_pack ∈ TB := TB_of (tin_8 (List.mem_of_getElem? (i := 1) (by decide +kernel))) rfl
theorem tw_1787 : Cond.instanceMethod yX12_pack ∈ TB := TB_of (tin_8 (List.mem_of_getElem? (i := 2) (by decide +kernel))) rfl
theorem tw_1788 : Cond.selects RX12 yX12_pack yX12_pack ∈ TB := TB_of (tin_8 (List.mem_of_getElem? (i := 3) (by decide +kernel))) rfl
theorem tw_1789 : Cond.code yX12_pack cX12_pack 6 (some .int) ∈ TB := TB_of (tin_8 (List.mem_of_getElem? (i := 4) (by decide +kernel))) rfl
theorem tw_1790 : Cond.methodLink RX12 244 yX12_sets ∈ TB := TB_of (tin_8 (List.mem_of_getElem? (i := 5) (by decide +kernel))) rfl
theorem tw_1792 : Cond.instanceMethod yX12_sets ∈ TB := TB_of (tin_8 (List.mem_of_getElem? (i := 7) (by decide +kernel))) rfl
theorem tw_1793 : Cond.code yX12_sets cX12_sets 4 none ∈ TB := TB_of (tin_8 (List.mem_of_getElem? (i := 8) (by decide +kernel))) rfl
theorem tw_1794 : Cond.methodLink RL 175 yX12_card ∈ TB := TB_of (tin_8 (List.mem_of_getElem? (i := 9) (by decide +kernel))) rfl
theorem tw_1795 : Cond.instanceMethod yX12_card ∈ TB := TB_of (tin_8 (List.mem_of_getElem? (i := 10) (by decide +kernel))) rfl
theorem tw_1796 : Cond.selects RX12 yX12_card yX12_card ∈ TB := TB_of (tin_8 (List.mem_of_getElem? (i := 11) (by decide +kernel))) rfl
theorem tw_1797 : Cond.code yX12_card cX12_card 3 (some .int) ∈ TB := TB_of (tin_8 (List.mem_of_getElem? (i := 12) (by decide +kernel))) rfl
theorem tw_1798 : Cond.methodLink RX12 248 yX12_noPlace ∈ TB := TB_of (tin_8 (List.mem_of_getElem? (i := 13) (by decide +kernel))) rfl
theorem tw_1800 : Cond.instanceMethod yX12_noPlace ∈ TB := TB_of (tin_8 (List.mem_of_getElem? (i := 15) (by decide +kernel))) rfl
theorem tw_1801 : Cond.code yX12_noPlace cX12_noPlace 3 (some .boolean) ∈ TB := TB_of (tin_8 (List.mem_of_getElem? (i := 16) (by decide +kernel))) rfl
theorem tw_1802 : Cond.methodLink RX12 241 yX12_noPack ∈ TB := TB_of (tin_8 (List.mem_of_getElem? (i := 17) (by decide +kernel))) rfl
theorem tw_1804 : Cond.instanceMethod yX12_noPack ∈ TB := TB_of (tin_8 (List.mem_of_getElem? (i := 19) (by decide +kernel))) rfl
theorem tw_1805 : Cond.code yX12_noPack cX12_noPack 2 (some .boolean) ∈ TB := TB_of (tin_8 (List.mem_of_getElem? (i := 20) (by decide +kernel))) rfl
theorem tw_1806 : Cond.methodLink RX12 235 yX12_of ∈ TB := TB_of (tin_8 (List.mem_of_getElem? (i := 21) (by decide +kernel))) rfl
theorem tw_1808 : Cond.instanceMethod yX12_of ∈ TB := TB_of (tin_8 (List.mem_of_getElem? (i := 23) (by decide +kernel))) rfl
theorem tw_1809 : Cond.code yX12_of cX12_of 3 (some .int) ∈ TB := TB_of (tin_8 (List.mem_of_getElem? (i := 24) (by decide +kernel))) rfl
theorem tw_1810 : Cond.methodLink RX12 251 yX12_cardOf ∈ TB := TB_of (tin_8 (List.mem_of_getElem? (i := 25) (by decide +kernel))) rfl
theorem tw_1812 : Cond.instanceMethod yX12_cardOf ∈ TB := TB_of (tin_8 (List.mem_of_getElem? (i := 27) (by decide +kernel))) rfl
theorem tw_1813 : Cond.code yX12_cardOf cX12_cardOf 3 (some .int) ∈ TB := TB_of (tin_8 (List.mem_of_getElem? (i := 28) (by decide +kernel))) rfl
theorem tw_1814 : Cond.methodLink RL 179 yX12_put ∈ TB := TB_of (tin_8 (List.mem_of_getElem? (i := 29) (by decide +kernel))) rfl
theorem tw_1815 : Cond.instanceMethod yX12_put ∈ TB := TB_of (tin_8 (List.mem_of_getElem? (i := 30) (by decide +kernel))) rfl
theorem tw_1816 : Cond.selects RX12 yX12_put yX12_put ∈ TB := TB_of (tin_8 (List.mem_of_getElem? (i := 31) (by decide +kernel))) rfl
theorem tw_1817 : Cond.code yX12_put cX12_put 8 (some .int) ∈ TB := TB_of (tin_8 (List.mem_of_getElem? (i := 32) (by decide +kernel))) rfl
theorem tw_1818 : Cond.methodLink RX12 257 yX12_isPut ∈ TB := TB_of (tin_8 (List.mem_of_getElem? (i := 33) (by decide +kernel))) rfl
theorem tw_1820 : Cond.instanceMethod yX12_isPut ∈ TB := TB_of (tin_8 (List.mem_of_getElem? (i := 35) (by decide +kernel))) rfl
theorem tw_1821 : Cond.code yX12_isPut cX12_isPut 2 (some .boolean) ∈ TB := TB_of (tin_8 (List.mem_of_getElem? (i := 36) (by decide +kernel))) rfl
theorem tw_1822 : Cond.methodLink RX12 260 yX12_noSeconds ∈ TB := TB_of (tin_8 (List.mem_of_getElem? (i := 37) (by decide +kernel))) rfl
theorem tw_1823 : Cond.static yX12_noSeconds ∈ TB := TB_of (tin_8 (List.mem_of_getElem? (i := 38) (by decide +kernel))) rfl
theorem tw_1824 : Cond.code yX12_noSeconds cX12_noSeconds 1 (some .boolean) ∈ TB := TB_of (tin_8 (List.mem_of_getElem? (i := 39) (by decide +kernel))) rfl
theorem tw_1825 : Cond.methodLink RX12 238 yX12_placesFor ∈ TB := TB_of (tin_8 (List.mem_of_getElem? (i := 40) (by decide +kernel))) rfl
theorem tw_1826 : Cond.static yX12_placesFor ∈ TB := TB_of (tin_8 (List.mem_of_getElem? (i := 41) (by decide +kernel))) rfl
theorem tw_1827 : Cond.code yX12_placesFor cX12_placesFor 2 (some .int) ∈ TB := TB_of (tin_8 (List.mem_of_getElem? (i := 42) (by decide +kernel))) rfl
theorem tw_1828 : Cond.constant RX12 263 1000000 ∈ TB := TB_of (tin_8 (List.mem_of_getElem? (i := 43) (by decide +kernel))) rfl
theorem tw_1829 : Cond.methodLink RX12 264 yX12_touches ∈ TB := TB_of (tin_8 (List.mem_of_getElem? (i := 44) (by decide +kernel))) rfl
theorem tw_1831 : Cond.instanceMethod yX12_touches ∈ TB := TB_of (tin_8 (List.mem_of_getElem? (i := 46) (by decide +kernel))) rfl
theorem tw_1832 : Cond.code yX12_touches cX12_touches 4 none ∈ TB := TB_of (tin_8 (List.mem_of_getElem? (i := 47) (by decide +kernel))) rfl
theorem tw_1833 : Cond.methodLink RX12 254 yX12_places ∈ TB := TB_of (tin_8 (List.mem_of_getElem? (i := 48) (by decide +kernel))) rfl
theorem tw_1835 : Cond.instanceMethod yX12_places ∈ TB := TB_of (tin_8 (List.mem_of_getElem? (i := 50) (by decide +kernel))) rfl
theorem tw_1836 : Cond.code yX12_places cX12_places 2 (some .int) ∈ TB := TB_of (tin_8 (List.mem_of_getElem? (i := 51) (by decide +kernel))) rfl
theorem tw_1837 : Cond.methodLink RL 182 yX12_later ∈ TB := TB_of (tin_8 (List.mem_of_getElem? (i := 52) (by decide +kernel))) rfl
theorem tw_1838 : Cond.instanceMethod yX12_later ∈ TB := TB_of (tin_8 (List.mem_of_getElem? (i := 53) (by decide +kernel))) rfl
theorem tw_1839 : Cond.selects RX12 yX12_later yX12_later ∈ TB := TB_of (tin_8 (List.mem_of_getElem? (i := 54) (by decide +kernel))) rfl
theorem tw_1840 : Cond.code yX12_later cX12_later 2 (some .int) ∈ TB := TB_of (tin_8 (List.mem_of_getElem? (i := 55) (by decide +kernel))) rfl
theorem tw_1841 : Cond.methodLink RL 185 yX12_go ∈ TB := TB_of (tin_8 (List.mem_of_getElem? (i := 56) (by decide +kernel))) rfl
theorem tw_1842 : Cond.instanceMethod yX12_go ∈ TB := TB_of (tin_8 (List.mem_of_getElem? (i := 57) (by decide +kernel))) rfl
theorem tw_1843 : Cond.selects RX12 yX12_go yX12_go ∈ TB := TB_of (tin_8 (List.mem_of_getElem? (i := 58) (by decide +kernel))) rfl
theorem tw_1844 : Cond.code yX12_go cX12_go 3 (some .int) ∈ TB := TB_of (tin_8 (List.mem_of_getElem? (i := 59) (by decide +kernel))) rfl
theorem tw_1845 : Cond.methodLink RL 188 yX12_about ∈ TB := TB_of (tin_8 (List.mem_of_getElem? (i := 60) (by decide +kernel))) rfl
theorem tw_1846 : Cond.instanceMethod yX12_about ∈ TB := TB_of (tin_8 (List.mem_of_getElem? (i := 61) (by decide +kernel))) rfl
theorem tw_1847 : Cond.selects RX12 yX12_about yX12_about ∈ TB := TB_of (tin_8 (List.mem_of_getElem? (i := 62) (by decide +kernel))) rfl
theorem tw_1848 : Cond.code yX12_about cX12_about 5 (some .int) ∈ TB := TB_of (tin_8 (List.mem_of_getElem? (i := 63) (by decide +kernel))) rfl
theorem tw_1849 : Cond.methodLink RX12 285 yX12_ageOf ∈ TB := TB_of (tin_8 (List.mem_of_getElem? (i := 64) (by decide +kernel))) rfl
theorem tw_1851 : Cond.instanceMethod yX12_ageOf ∈ TB := TB_of (tin_8 (List.mem_of_getElem? (i := 66) (by decide +kernel))) rfl
theorem tw_1852 : Cond.code yX12_ageOf cX12_ageOf 4 (some .int) ∈ TB := TB_of (tin_8 (List.mem_of_getElem? (i := 67) (by decide +kernel))) rfl
theorem tw_1853 : Cond.methodLink RX12 288 yX12_asks ∈ TB := TB_of (tin_8 (List.mem_of_getElem? (i := 68) (by decide +kernel))) rfl
theorem tw_1855 : Cond.instanceMethod yX12_asks ∈ TB := TB_of (tin_8 (List.mem_of_getElem? (i := 70) (by decide +kernel))) rfl
theorem tw_1856 : Cond.code yX12_asks cX12_asks 5 none ∈ TB := TB_of (tin_8 (List.mem_of_getElem? (i := 71) (by decide +kernel))) rfl
theorem tw_1857 : Cond.methodLink RX12 281 yX12_supposes ∈ TB := TB_of (tin_8 (List.mem_of_getElem? (i := 72) (by decide +kernel))) rfl
theorem tw_1859 : Cond.instanceMethod yX12_supposes ∈ TB := TB_of (tin_8 (List.mem_of_getElem? (i := 74) (by decide +kernel))) rfl
theorem tw_1860 : Cond.code yX12_supposes cX12_supposes 12 none ∈ TB := TB_of (tin_8 (List.mem_of_getElem? (i := 75) (by decide +kernel))) rfl
theorem tw_1861 : Cond.methodLink RX12 274 yX12_oldAt ∈ TB := TB_of (tin_8 (List.mem_of_getElem? (i := 76) (by decide +kernel))) rfl
theorem tw_1863 : Cond.instanceMethod yX12_oldAt ∈ TB := TB_of (tin_8 (List.mem_of_getElem? (i := 78) (by decide +kernel))) rfl
theorem tw_1864 : Cond.code yX12_oldAt cX12_oldAt 7 (some .int) ∈ TB := TB_of (tin_8 (List.mem_of_getElem? (i := 79) (by decide +kernel))) rfl
theorem tw_1865 : Cond.methodLink RX12 267 yX12_placeAt ∈ TB := TB_of (tin_8 (List.mem_of_getElem? (i := 80) (by decide +kernel))) rfl
theorem tw_1867 : Cond.instanceMethod yX12_placeAt ∈ TB := TB_of (tin_8 (List.mem_of_getElem? (i := 82) (by decide +kernel))) rfl
theorem tw_1868 : Cond.code yX12_placeAt cX12_placeAt 5 (some .int) ∈ TB := TB_of (tin_8 (List.mem_of_getElem? (i := 83) (by decide +kernel))) rfl
theorem tw_1869 : Cond.methodLink RX12 278 yX12_likeAt ∈ TB := TB_of (tin_8 (List.mem_of_getElem? (i := 84) (by decide +kernel))) rfl
theorem tw_1871 : Cond.instanceMethod yX12_likeAt ∈ TB := TB_of (tin_8 (List.mem_of_getElem? (i := 86) (by decide +kernel))) rfl
theorem tw_1872 : Cond.code yX12_likeAt cX12_likeAt 7 (some .int) ∈ TB := TB_of (tin_8 (List.mem_of_getElem? (i := 87) (by decide +kernel))) rfl
theorem tw_1873 : Cond.methodLink RX12 271 yX12_lookOf ∈ TB := TB_of (tin_8 (List.mem_of_getElem? (i := 88) (by decide +kernel))) rfl
theorem tw_1875 : Cond.instanceMethod yX12_lookOf ∈ TB := TB_of (tin_8 (List.mem_of_getElem? (i := 90) (by decide +kernel))) rfl
theorem tw_1876 : Cond.code yX12_lookOf cX12_lookOf 3 (some .int) ∈ TB := TB_of (tin_8 (List.mem_of_getElem? (i := 91) (by decide +kernel))) rfl
theorem tw_1877 : Cond.methodLink RL 191 yX12_holds ∈ TB := TB_of (tin_8 (List.mem_of_getElem? (i := 92) (by decide +kernel))) rfl
theorem tw_1878 : Cond.instanceMethod yX12_holds ∈ TB := TB_of (tin_8 (List.mem_of_getElem? (i := 93) (by decide +kernel))) rfl
theorem tw_1879 : Cond.selects RX12 yX12_holds yX12_holds ∈ TB := TB_of (tin_8 (List.mem_of_getElem? (i := 94) (by decide +kernel))) rfl
theorem tw_1880 : Cond.code yX12_holds cX12_holds 4 (some .int) ∈ TB := TB_of (tin_8 (List.mem_of_getElem? (i := 95) (by decide +kernel))) rfl
theorem tw_1881 : Cond.methodLink RX12 295 yX12_noLaw ∈ TB := TB_of (tin_8 (List.mem_of_getElem? (i := 96) (by decide +kernel))) rfl
theorem tw_1883 : Cond.instanceMethod yX12_noLaw ∈ TB := TB_of (tin_8 (List.mem_of_getElem? (i := 98) (by decide +kernel))) rfl
theorem tw_1884 : Cond.code yX12_noLaw cX12_noLaw 2 (some .boolean) ∈ TB := TB_of (tin_8 (List.mem_of_getElem? (i := 99) (by decide +kernel))) rfl
theorem tw_1885 : Cond.methodLink RX12 298 yX12_heldOf ∈ TB := TB_of (tin_8 (List.mem_of_getElem? (i := 100) (by decide +kernel))) rfl
theorem tw_1887 : Cond.instanceMethod yX12_heldOf ∈ TB := TB_of (tin_8 (List.mem_of_getElem? (i := 102) (by decide +kernel))) rfl
theorem tw_1888 : Cond.code yX12_heldOf cX12_heldOf 4 (some .int) ∈ TB := TB_of (tin_8 (List.mem_of_getElem? (i := 103) (by decide +kernel))) rfl
theorem tw_1889 : Cond.methodLink RX12 292 yX12_held ∈ TB := TB_of (tin_8 (List.mem_of_getElem? (i := 104) (by decide +kernel))) rfl
theorem tw_1891 : Cond.instanceMethod yX12_held ∈ TB := TB_of (tin_8 (List.mem_of_getElem? (i := 106) (by decide +kernel))) rfl
theorem tw_1892 : Cond.code yX12_held cX12_held 2 (some .int) ∈ TB := TB_of (tin_8 (List.mem_of_getElem? (i := 107) (by decide +kernel))) rfl
theorem tw_1893 : Cond.methodLink RX12 206 yX12_told ∈ TB := TB_of (tin_8 (List.mem_of_getElem? (i := 108) (by decide +kernel))) rfl
theorem tw_1895 : Cond.instanceMethod yX12_told ∈ TB := TB_of (tin_8 (List.mem_of_getElem? (i := 110) (by decide +kernel))) rfl
theorem tw_1896 : Cond.code yX12_told cX12_told 6 (some .int) ∈ TB := TB_of (tin_8 (List.mem_of_getElem? (i := 111) (by decide +kernel))) rfl
theorem tw_1897 : Cond.methodLink RX12 203 yX12_holdsLine ∈ TB := TB_of (tin_8 (List.mem_of_getElem? (i := 112) (by decide +kernel))) rfl
theorem tw_1899 : Cond.instanceMethod yX12_holdsLine ∈ TB := TB_of (tin_8 (List.mem_of_getElem? (i := 114) (by decide +kernel))) rfl
theorem tw_1900 : Cond.code yX12_holdsLine cX12_holdsLine 9 (some .boolean) ∈ TB := TB_of (tin_8 (List.mem_of_getElem? (i := 115) (by decide +kernel))) rfl
theorem tw_1901 : Cond.methodLink RX12 209 yJ9_min_7cf53 ∈ TB := TB_of (tin_8 (List.mem_of_getElem? (i := 116) (by decide +kernel))) rfl
theorem tw_1902 : Cond.methodLink RX12 214 yJ9_max_7cf53 ∈ TB := TB_of (tin_8 (List.mem_of_getElem? (i := 117) (by decide +kernel))) rfl
theorem tw_1903 : Cond.methodLink RL 194 yX12_awaited ∈ TB := TB_of (tin_8 (List.mem_of_getElem? (i := 118) (by decide +kernel))) rfl
theorem tw_1904 : Cond.instanceMethod yX12_awaited ∈ TB := TB_of (tin_8 (List.mem_of_getElem? (i := 119) (by decide +kernel))) rfl
theorem tw_1905 : Cond.selects RX12 yX12_awaited yX12_awaited ∈ TB := TB_of (tin_8 (List.mem_of_getElem? (i := 120) (by decide +kernel))) rfl
theorem tw_1906 : Cond.code yX12_awaited cX12_awaited 3 (some .int) ∈ TB := TB_of (tin_8 (List.mem_of_getElem? (i := 121) (by decide +kernel))) rfl
theorem tw_1907 : Cond.methodLink RX12 301 yX12_awaitedIn ∈ TB := TB_of (tin_8 (List.mem_of_getElem? (i := 122) (by decide +kernel))) rfl
theorem tw_1909 : Cond.instanceMethod yX12_awaitedIn ∈ TB := TB_of (tin_8 (List.mem_of_getElem? (i := 124) (by decide +kernel))) rfl
theorem tw_1910 : Cond.code yX12_awaitedIn cX12_awaitedIn 6 (some .int) ∈ TB := TB_of (tin_8 (List.mem_of_getElem? (i := 125) (by decide +kernel))) rfl
theorem tw_1911 : Cond.methodLink RL 197 yX12_say ∈ TB := TB_of (tin_8 (List.mem_of_getElem? (i := 126) (by decide +kernel))) rfl
theorem tw_1912 : Cond.instanceMethod yX12_say ∈ TB := TB_of (tin_8 (List.mem_of_getElem? (i := 127) (by decide +kernel))) rfl
theorem tw_1913 : Cond.selects RX12 yX12_say yX12_say ∈ TB := TB_of (tin_8 (List.mem_of_getElem? (i := 128) (by decide +kernel))) rfl
theorem tw_1914 : Cond.code yX12_say cX12_say 4 (some .int) ∈ TB := TB_of (tin_8 (List.mem_of_getElem? (i := 129) (by decide +kernel))) rfl
theorem tw_1915 : Cond.methodLink RX12 316 yX12_kindOf ∈ TB := TB_of (tin_8 (List.mem_of_getElem? (i := 130) (by decide +kernel))) rfl
theorem tw_1917 : Cond.instanceMethod yX12_kindOf ∈ TB := TB_of (tin_8 (List.mem_of_getElem? (i := 132) (by decide +kernel))) rfl
theorem tw_1918 : Cond.code yX12_kindOf cX12_kindOf 5 (some .int) ∈ TB := TB_of (tin_8 (List.mem_of_getElem? (i := 133) (by decide +kernel))) rfl
theorem tw_1919 : Cond.methodLink RX12 313 yX12_slip ∈ TB := TB_of (tin_8 (List.mem_of_getElem? (i := 134) (by decide +kernel))) rfl
theorem tw_1921 : Cond.instanceMethod yX12_slip ∈ TB := TB_of (tin_8 (List.mem_of_getElem? (i := 136) (by decide +kernel))) rfl
theorem tw_1922 : Cond.code yX12_slip cX12_slip 8 (some .int) ∈ TB := TB_of (tin_8 (List.mem_of_getElem? (i := 137) (by decide +kernel))) rfl
theorem tw_1923 : Cond.methodLink RX12 307 yX12_ghostOf ∈ TB := TB_of (tin_8 (List.mem_of_getElem? (i := 138) (by decide +kernel))) rfl
theorem tw_1925 : Cond.instanceMethod yX12_ghostOf ∈ TB := TB_of (tin_8 (List.mem_of_getElem? (i := 140) (by decide +kernel))) rfl
theorem tw_1926 : Cond.code yX12_ghostOf cX12_ghostOf 9 (some .int) ∈ TB := TB_of (tin_8 (List.mem_of_getElem? (i := 141) (by decide +kernel))) rfl
theorem tw_1927 : Cond.methodLink RX12 304 yX12_cardAt ∈ TB := TB_of (tin_8 (List.mem_of_getElem? (i := 142) (by decide +kernel))) rfl
theorem tw_1929 : Cond.instanceMethod yX12_cardAt ∈ TB := TB_of (tin_8 (List.mem_of_getElem? (i := 144) (by decide +kernel))) rfl
theorem tw_1930 : Cond.code yX12_cardAt cX12_cardAt 5 (some .int) ∈ TB := TB_of (tin_8 (List.mem_of_getElem? (i := 145) (by decide +kernel))) rfl
theorem tw_1931 : Cond.methodLink RX12 310 yX12_alikeOf ∈ TB := TB_of (tin_8 (List.mem_of_getElem? (i := 146) (by decide +kernel))) rfl
theorem tw_1933 : Cond.instanceMethod yX12_alikeOf ∈ TB := TB_of (tin_8 (List.mem_of_getElem? (i := 148) (by decide +kernel))) rfl
theorem tw_1934 : Cond.code yX12_alikeOf cX12_alikeOf 7 (some .int) ∈ TB := TB_of (tin_8 (List.mem_of_getElem? (i := 149) (by decide +kernel))) rfl
theorem tw_1935 : Cond.methodLink RL 200 yX12_kind ∈ TB := TB_of (tin_8 (List.mem_of_getElem? (i := 150) (by decide +kernel))) rfl
theorem tw_1936 : Cond.instanceMethod yX12_kind ∈ TB := TB_of (tin_8 (List.mem_of_getElem? (i := 151) (by decide +kernel))) rfl
theorem tw_1937 : Cond.selects RX12 yX12_kind yX12_kind ∈ TB := TB_of (tin_8 (List.mem_of_getElem? (i := 152) (by decide +kernel))) rfl
theorem tw_1938 : Cond.code yX12_kind cX12_kind 3 (some .int) ∈ TB := TB_of (tin_8 (List.mem_of_getElem? (i := 153) (by decide +kernel))) rfl
theorem tw_1939 : Cond.methodLink RL 203 yX12_run ∈ TB := TB_of (tin_8 (List.mem_of_getElem? (i := 154) (by decide +kernel))) rfl
theorem tw_1940 : Cond.instanceMethod yX12_run ∈ TB := TB_of (tin_8 (List.mem_of_getElem? (i := 155) (by decide +kernel))) rfl
theorem tw_1941 : Cond.selects RX12 yX12_run yX12_run ∈ TB := TB_of (tin_8 (List.mem_of_getElem? (i := 156) (by decide +kernel))) rfl
theorem tw_1942 : Cond.code yX12_run cX12_run 10 (some .int) ∈ TB := TB_of (tin_8 (List.mem_of_getElem? (i := 157) (by decide +kernel))) rfl
theorem tw_1943 : Cond.methodLink RX12 329 yX12_draw ∈ TB := TB_of (tin_8 (List.mem_of_getElem? (i := 158) (by decide +kernel))) rfl
theorem tw_1945 : Cond.instanceMethod yX12_draw ∈ TB := TB_of (tin_8 (List.mem_of_getElem? (i := 160) (by decide +kernel))) rfl
theorem tw_1946 : Cond.code yX12_draw cX12_draw 1 (some .int) ∈ TB := TB_of (tin_8 (List.mem_of_getElem? (i := 161) (by decide +kernel))) rfl
theorem tw_1947 : Cond.constant RX12 325 1103515245 ∈ TB := TB_of (tin_8 (List.mem_of_getElem? (i := 162) (by decide +kernel))) rfl
theorem tw_1948 : Cond.methodLink RX12 332 yX12_allWeights ∈ TB := TB_of (tin_8 (List.mem_of_getElem? (i := 163) (by decide +kernel))) rfl
theorem tw_1950 : Cond.instanceMethod yX12_allWeights ∈ TB := TB_of (tin_8 (List.mem_of_getElem? (i := 165) (by decide +kernel))) rfl
theorem tw_1951 : Cond.code yX12_allWeights cX12_allWeights 5 (some .int) ∈ TB := TB_of (tin_8 (List.mem_of_getElem? (i := 166) (by decide +kernel))) rfl
theorem tw_1952 : Cond.methodLink RX12 319 yX12_weight ∈ TB := TB_of (tin_8 (List.mem_of_getElem? (i := 167) (by decide +kernel))) rfl
theorem tw_1953 : Cond.static yX12_weight ∈ TB := TB_of (tin_8 (List.mem_of_getElem? (i := 168) (by decide +kernel))) rfl
theorem tw_1954 : Cond.code yX12_weight cX12_weight 1 (some .int) ∈ TB := TB_of (tin_8 (List.mem_of_getElem? (i := 169) (by decide +kernel))) rfl
theorem tw_1955 : Cond.methodLink RX12 322 yX12_weightOf ∈ TB := TB_of (tin_8 (List.mem_of_getElem? (i := 170) (by decide +kernel))) rfl
theorem tw_1957 : Cond.instanceMethod yX12_weightOf ∈ TB := TB_of (tin_8 (List.mem_of_getElem? (i := 172) (by decide +kernel))) rfl
theorem tw_1958 : Cond.code yX12_weightOf cX12_weightOf 4 (some .int) ∈ TB := TB_of (tin_8 (List.mem_of_getElem? (i := 173) (by decide +kernel))) rfl
theorem tw_1959 : Cond.methodLink RX12 335 yX12_kindsOf ∈ TB := TB_of (tin_8 (List.mem_of_getElem? (i := 174) (by decide +kernel))) rfl
theorem tw_1961 : Cond.instanceMethod yX12_kindsOf ∈ TB := TB_of (tin_8 (List.mem_of_getElem? (i := 176) (by decide +kernel))) rfl
theorem tw_1962 : Cond.code yX12_kindsOf cX12_kindsOf 5 (some .int) ∈ TB := TB_of (tin_8 (List.mem_of_getElem? (i := 177) (by decide +kernel))) rfl
theorem tw_1963 : Cond.methodLink RL 207 yX12_odds ∈ TB := TB_of (tin_8 (List.mem_of_getElem? (i := 178) (by decide +kernel))) rfl
theorem tw_1964 : Cond.instanceMethod yX12_odds ∈ TB := TB_of (tin_8 (List.mem_of_getElem? (i := 179) (by decide +kernel))) rfl
theorem tw_1965 : Cond.selects RX12 yX12_odds yX12_odds ∈ TB := TB_of (tin_8 (List.mem_of_getElem? (i := 180) (by decide +kernel))) rfl
theorem tw_1966 : Cond.code yX12_odds cX12_odds 10 (some .int) ∈ TB := TB_of (tin_8 (List.mem_of_getElem? (i := 181) (by decide +kernel))) rfl
theorem tw_1967 : Cond.methodLink RX12 341 yX12_common ∈ TB := TB_of (tin_8 (List.mem_of_getElem? (i := 182) (by decide +kernel))) rfl
theorem tw_1968 : Cond.static yX12_common ∈ TB := TB_of (tin_8 (List.mem_of_getElem? (i := 183) (by decide +kernel))) rfl
theorem tw_1969 : Cond.code yX12_common cX12_common 5 (some .int) ∈ TB := TB_of (tin_8 (List.mem_of_getElem? (i := 184) (by decide +kernel))) rfl
theorem tw_1970 : Cond.methodLink RX12 338 yJ9_abs_0f7a4 ∈ TB := TB_of (tin_8 (List.mem_of_getElem? (i := 185) (by decide +kernel))) rfl
theorem tw_1971 : Cond.methodLink RL 210 yX12_kinds ∈ TB := TB_of (tin_8 (List.mem_of_getElem? (i := 186) (by decide +kernel))) rfl
theorem tw_1972 : Cond.instanceMethod yX12_kinds ∈ TB := TB_of (tin_8 (List.mem_of_getElem? (i := 187) (by decide +kernel))) rfl
theorem tw_1973 : Cond.selects RX12 yX12_kinds yX12_kinds ∈ TB := TB_of (tin_8 (List.mem_of_getElem? (i := 188) (by decide +kernel))) rfl
theorem tw_1974 : Cond.code yX12_kinds cX12_kinds 3 (some .int) ∈ TB := TB_of (tin_8 (List.mem_of_getElem? (i := 189) (by decide +kernel))) rfl
theorem tw_1975 : Cond.methodLink RL 213 yX12_score ∈ TB := TB_of (tin_8 (List.mem_of_getElem? (i := 190) (by decide +kernel))) rfl
theorem tw_1976 : Cond.instanceMethod yX12_score ∈ TB := TB_of (tin_8 (List.mem_of_getElem? (i := 191) (by decide +kernel))) rfl
theorem tw_1977 : Cond.selects RX12 yX12_score yX12_score ∈ TB := TB_of (tin_8 (List.mem_of_getElem? (i := 192) (by decide +kernel))) rfl
theorem tw_1978 : Cond.code yX12_score cX12_score 3 (some .int) ∈ TB := TB_of (tin_8 (List.mem_of_getElem? (i := 193) (by decide +kernel))) rfl
theorem tw_1979 : Cond.methodLink RX12 344 yX12_noRule ∈ TB := TB_of (tin_8 (List.mem_of_getElem? (i := 194) (by decide +kernel))) rfl
theorem tw_1981 : Cond.instanceMethod yX12_noRule ∈ TB := TB_of (tin_8 (List.mem_of_getElem? (i := 196) (by decide +kernel))) rfl
theorem tw_1982 : Cond.code yX12_noRule cX12_noRule 2 (some .boolean) ∈ TB := TB_of (tin_8 (List.mem_of_getElem? (i := 197) (by decide +kernel))) rfl
theorem tw_1983 : Cond.methodLink RX12 347 yX12_scored ∈ TB := TB_of (tin_8 (List.mem_of_getElem? (i := 198) (by decide +kernel))) rfl
theorem tw_1985 : Cond.instanceMethod yX12_scored ∈ TB := TB_of (tin_8 (List.mem_of_getElem? (i := 200) (by decide +kernel))) rfl
theorem tw_1986 : Cond.code yX12_scored cX12_scored 5 (some .int) ∈ TB := TB_of (tin_8 (List.mem_of_getElem? (i := 201) (by decide +kernel))) rfl
theorem tw_1987 : Cond.methodLink RL 216 yX12_fits ∈ TB := TB_of (tin_8 (List.mem_of_getElem? (i := 202) (by decide +kernel))) rfl
theorem tw_1988 : Cond.instanceMethod yX12_fits ∈ TB := TB_of (tin_8 (List.mem_of_getElem? (i := 203) (by decide +kernel))) rfl
theorem tw_1989 : Cond.selects RX12 yX12_fits yX12_fits ∈ TB := TB_of (tin_8 (List.mem_of_getElem? (i := 204) (by decide +kernel))) rfl
theorem tw_1990 : Cond.code yX12_fits cX12_fits 5 (some .int) ∈ TB := TB_of (tin_8 (List.mem_of_getElem? (i := 205) (by decide +kernel))) rfl
theorem tw_1991 : Cond.methodLink RL 219 yX12_lacks ∈ TB := TB_of (tin_8 (List.mem_of_getElem? (i := 206) (by decide +kernel))) rfl
theorem tw_1992 : Cond.instanceMethod yX12_lacks ∈ TB := TB_of (tin_8 (List.mem_of_getElem? (i := 207) (by decide +kernel))) rfl
theorem tw_1993 : Cond.selects RX12 yX12_lacks yX12_lacks ∈ TB := TB_of (tin_8 (List.mem_of_getElem? (i := 208) (by decide +kernel))) rfl
theorem tw_1994 : Cond.code yX12_lacks cX12_lacks 3 (some .int) ∈ TB := TB_of (tin_8 (List.mem_of_getElem? (i := 209) (by decide +kernel))) rfl
theorem tw_1995 : Cond.methodLink RX12 353 yX12_lackMany ∈ TB := TB_of (tin_8 (List.mem_of_getElem? (i := 210) (by decide +kernel))) rfl
theorem tw_1997 : Cond.instanceMethod yX12_lackMany ∈ TB := TB_of (tin_8 (List.mem_of_getElem? (i := 212) (by decide +kernel))) rfl
theorem tw_1998 : Cond.code yX12_lackMany cX12_lackMany 4 (some .int) ∈ TB := TB_of (tin_8 (List.mem_of_getElem? (i := 213) (by decide +kernel))) rfl
theorem tw_1999 : Cond.methodLink RX12 350 yX12_isSaid ∈ TB := TB_of (tin_8 (List.mem_of_getElem? (i := 214) (by decide +kernel))) rfl
theorem tw_2001 : Cond.instanceMethod yX12_isSaid ∈ TB := TB_of (tin_8 (List.mem_of_getElem? (i := 216) (by decide +kernel))) rfl
theorem tw_2002 : Cond.code yX12_isSaid cX12_isSaid 5 (some .boolean) ∈ TB := TB_of (tin_8 (List.mem_of_getElem? (i := 217) (by decide +kernel))) rfl
theorem tw_2003 : Cond.methodLink RX12 356 yX12_lackOf ∈ TB := TB_of (tin_8 (List.mem_of_getElem? (i := 218) (by decide +kernel))) rfl
theorem tw_2005 : Cond.instanceMethod yX12_lackOf ∈ TB := TB_of (tin_8 (List.mem_of_getElem? (i := 220) (by decide +kernel))) rfl
theorem tw_2006 : Cond.code yX12_lackOf cX12_lackOf 5 (some .int) ∈ TB := TB_of (tin_8 (List.mem_of_getElem? (i := 221) (by decide +kernel))) rfl
theorem tw_2007 : Cond.methodLink RL 222 yX12_guess ∈ TB := TB_of (tin_8 (List.mem_of_getElem? (i := 222) (by decide +kernel))) rfl
theorem tw_2008 : Cond.instanceMethod yX12_guess ∈ TB := TB_of (tin_8 (List.mem_of_getElem? (i := 223) (by decide +kernel))) rfl
theorem tw_2009 : Cond.selects RX12 yX12_guess yX12_guess ∈ TB := TB_of (tin_8 (List.mem_of_getElem? (i := 224) (by decide +kernel))) rfl
theorem tw_2010 : Cond.code yX12_guess cX12_guess 10 (some .int) ∈ TB := TB_of (tin_8 (List.mem_of_getElem? (i := 225) (by decide +kernel))) rfl
theorem tw_2011 : Cond.methodLink RX12 365 yX12_guesses ∈ TB := TB_of (tin_8 (List.mem_of_getElem? (i := 226) (by decide +kernel))) rfl
theorem tw_2013 : Cond.instanceMethod yX12_guesses ∈ TB := TB_of (tin_8 (List.mem_of_getElem? (i := 228) (by decide +kernel))) rfl
theorem tw_2014 : Cond.code yX12_guesses cX12_guesses 14 none ∈ TB := TB_of (tin_8 (List.mem_of_getElem? (i := 229) (by decide +kernel))) rfl
theorem tw_2015 : Cond.methodLink RL 225 yX12_moment ∈ TB := TB_of (tin_8 (List.mem_of_getElem? (i := 230) (by decide +kernel))) rfl
theorem tw_2016 : Cond.instanceMethod yX12_moment ∈ TB := TB_of (tin_8 (List.mem_of_getElem? (i := 231) (by decide +kernel))) rfl
theorem tw_2017 : Cond.selects RX12 yX12_moment yX12_moment ∈ TB := TB_of (tin_8 (List.mem_of_getElem? (i := 232) (by decide +kernel))) rfl
theorem tw_2018 : Cond.code yX12_moment cX12_moment 3 (some .int) ∈ TB := TB_of (tin_8 (List.mem_of_getElem? (i := 233) (by decide +kernel))) rfl
theorem tw_2019 : Cond.constant RX12 368 99999 ∈ TB := TB_of (tin_8 (List.mem_of_getElem? (i := 234) (by decide +kernel))) rfl
theorem tw_2020 : Cond.methodLink RL 229 yX12_moments ∈ TB := TB_of (tin_8 (List.mem_of_getElem? (i := 235) (by decide +kernel))) rfl
theorem tw_2021 : Cond.instanceMethod yX12_moments ∈ TB := TB_of (tin_8 (List.mem_of_getElem? (i := 236) (by decide +kernel))) rfl
theorem tw_2022 : Cond.selects RX12 yX12_moments yX12_moments ∈ TB := TB_of (tin_8 (List.mem_of_getElem? (i := 237) (by decide +kernel))) rfl
theorem tw_2023 : Cond.code yX12_moments cX12_moments 2 (some .int) ∈ TB := TB_of (tin_8 (List.mem_of_getElem? (i := 238) (by decide +kernel))) rfl
theorem tw_2024 : Cond.methodLink RL 232 yX12_again ∈ TB := TB_of (tin_8 (List.mem_of_getElem? (i := 239) (by decide +kernel))) rfl
theorem tw_2025 : Cond.instanceMethod yX12_again ∈ TB := TB_of (tin_9 (List.mem_of_getElem? (i := 0) (by decide +kernel))) rfl
theorem tw_2026 : Cond.selects RX12 yX12_again yX12_again ∈ TB := TB_of (tin_9 (List.mem_of_getElem? (i := 1) (by decide +kernel))) rfl
theorem tw_2027 : Cond.code yX12_again cX12_again 12 (some .int) ∈ TB := TB_of (tin_9 (List.mem_of_getElem? (i := 2) (by decide +kernel))) rfl
theorem tw_2028 : Cond.methodLink RX12 377 yX12_awaitedBy ∈ TB := TB_of (tin_9 (List.mem_of_getElem? (i := 3) (by decide +kernel))) rfl
theorem tw_2030 : Cond.instanceMethod yX12_awaitedBy ∈ TB := TB_of (tin_9 (List.mem_of_getElem? (i := 5) (by decide +kernel))) rfl
theorem tw_2031 : Cond.code yX12_awaitedBy cX12_awaitedBy 8 (some .int) ∈ TB := TB_of (tin_9 (List.mem_of_getElem? (i := 6) (by decide +kernel))) rfl
theorem tw_2032 : Cond.methodLink RX12 369 yJ6_numberOfLeadingZeros_0f7a4 ∈ TB := TB_of (tin_9 (List.mem_of_getElem? (i := 7) (by decide +kernel))) rfl
theorem tw_2033 : Cond.static yJ6_numberOfLeadingZeros_0f7a4 ∈ TB := TB_of (tin_9 (List.mem_of_getElem? (i := 8) (by decide +kernel))) rfl
theorem tw_2034 : Cond.code yJ6_numberOfLeadingZeros_0f7a4 cJ6_numberOfLeadingZeros_0f7a4 2 (some .int) ∈ TB := TB_of (tin_9 (List.mem_of_getElem? (i := 9) (by decide +kernel))) rfl
theorem tw_2035 : Cond.constant RJ6 264 65536 ∈ TB := TB_of (tin_9 (List.mem_of_getElem? (i := 10) (by decide +kernel))) rfl
theorem tw_2036 : Cond.methodLink RX12 374 yJ6_bitCount_0f7a4 ∈ TB := TB_of (tin_9 (List.mem_of_getElem? (i := 11) (by decide +kernel))) rfl
theorem tw_2037 : Cond.methodLink RL 236 yX12_houses ∈ TB := TB_of (tin_9 (List.mem_of_getElem? (i := 12) (by decide +kernel))) rfl
theorem tw_2038 : Cond.instanceMethod yX12_houses ∈ TB := TB_of (tin_9 (List.mem_of_getElem? (i := 13) (by decide +kernel))) rfl
theorem tw_2039 : Cond.selects RX12 yX12_houses yX12_houses ∈ TB := TB_of (tin_9 (List.mem_of_getElem? (i := 14) (by decide +kernel))) rfl
theorem tw_2040 : Cond.code yX12_houses cX12_houses 7 (some .int) ∈ TB := TB_of (tin_9 (List.mem_of_getElem? (i := 15) (by decide +kernel))) rfl
theorem tw_2041 : Cond.methodLink RL 241 yX12_unlike ∈ TB := TB_of (tin_9 (List.mem_of_getElem? (i := 16) (by decide +kernel))) rfl
theorem tw_2042 : Cond.instanceMethod yX12_unlike ∈ TB := TB_of (tin_9 (List.mem_of_getElem? (i := 17) (by decide +kernel))) rfl
theorem tw_2043 : Cond.selects RX12 yX12_unlike yX12_unlike ∈ TB := TB_of (tin_9 (List.mem_of_getElem? (i := 18) (by decide +kernel))) rfl
theorem tw_2044 : Cond.code yX12_unlike cX12_unlike 9 (some .int) ∈ TB := TB_of (tin_9 (List.mem_of_getElem? (i := 19) (by decide +kernel))) rfl
theorem tw_2045 : Cond.methodLink RL 244 yX12_per ∈ TB := TB_of (tin_9 (List.mem_of_getElem? (i := 20) (by decide +kernel))) rfl
theorem tw_2046 : Cond.instanceMethod yX12_per ∈ TB := TB_of (tin_9 (List.mem_of_getElem? (i := 21) (by decide +kernel))) rfl
theorem tw_2047 : Cond.selects RX12 yX12_per yX12_per ∈ TB := TB_of (tin_9 (List.mem_of_getElem? (i := 22) (by decide +kernel))) rfl
theorem tw_2048 : Cond.code yX12_per cX12_per 11 (some .int) ∈ TB := TB_of (tin_9 (List.mem_of_getElem? (i := 23) (by decide +kernel))) rfl
theorem tw_2049 : Cond.methodLink RX12 380 yX12_awaitedAt ∈ TB := TB_of (tin_9 (List.mem_of_getElem? (i := 24) (by decide +kernel))) rfl
theorem tw_2051 : Cond.instanceMethod yX12_awaitedAt ∈ TB := TB_of (tin_9 (List.mem_of_getElem? (i := 26) (by decide +kernel))) rfl
theorem tw_2052 : Cond.code yX12_awaitedAt cX12_awaitedAt 8 (some .int) ∈ TB := TB_of (tin_9 (List.mem_of_getElem? (i := 27) (by decide +kernel))) rfl
theorem tw_2053 : Cond.methodLink RL 247 yX12_plan ∈ TB := TB_of (tin_9 (List.mem_of_getElem? (i := 28) (by decide +kernel))) rfl
theorem tw_2054 : Cond.instanceMethod yX12_plan ∈ TB := TB_of (tin_9 (List.mem_of_getElem? (i := 29) (by decide +kernel))) rfl
theorem tw_2055 : Cond.selects RX12 yX12_plan yX12_plan ∈ TB := TB_of (tin_9 (List.mem_of_getElem? (i := 30) (by decide +kernel))) rfl
theorem tw_2056 : Cond.code yX12_plan cX12_plan 18 (some .int) ∈ TB := TB_of (tin_9 (List.mem_of_getElem? (i := 31) (by decide +kernel))) rfl
theorem tw_2057 : Cond.methodLink RL 250 yX12_last ∈ TB := TB_of (tin_9 (List.mem_of_getElem? (i := 32) (by decide +kernel))) rfl
theorem tw_2058 : Cond.instanceMethod yX12_last ∈ TB := TB_of (tin_9 (List.mem_of_getElem? (i := 33) (by decide +kernel))) rfl
theorem tw_2059 : Cond.selects RX12 yX12_last yX12_last ∈ TB := TB_of (tin_9 (List.mem_of_getElem? (i := 34) (by decide +kernel))) rfl
theorem tw_2060 : Cond.code yX12_last cX12_last 8 (some .int) ∈ TB := TB_of (tin_9 (List.mem_of_getElem? (i := 35) (by decide +kernel))) rfl
theorem tw_2061 : Cond.methodLink RL 254 yX12_chance ∈ TB := TB_of (tin_9 (List.mem_of_getElem? (i := 36) (by decide +kernel))) rfl
theorem tw_2062 : Cond.instanceMethod yX12_chance ∈ TB := TB_of (tin_9 (List.mem_of_getElem? (i := 37) (by decide +kernel))) rfl
theorem tw_2063 : Cond.selects RX12 yX12_chance yX12_chance ∈ TB := TB_of (tin_9 (List.mem_of_getElem? (i := 38) (by decide +kernel))) rfl
theorem tw_2064 : Cond.code yX12_chance cX12_chance 3 none ∈ TB := TB_of (tin_9 (List.mem_of_getElem? (i := 39) (by decide +kernel))) rfl
theorem tw_2065 : Cond.methodLink RL 258 yX12_risk ∈ TB := TB_of (tin_9 (List.mem_of_getElem? (i := 40) (by decide +kernel))) rfl
theorem tw_2066 : Cond.instanceMethod yX12_risk ∈ TB := TB_of (tin_9 (List.mem_of_getElem? (i := 41) (by decide +kernel))) rfl
theorem tw_2067 : Cond.selects RX12 yX12_risk yX12_risk ∈ TB := TB_of (tin_9 (List.mem_of_getElem? (i := 42) (by decide +kernel))) rfl
theorem tw_2068 : Cond.code yX12_risk cX12_risk 5 (some .long) ∈ TB := TB_of (tin_9 (List.mem_of_getElem? (i := 43) (by decide +kernel))) rfl
theorem tw_2069 : Cond.methodLink RX12 386 yX12_oddsOf ∈ TB := TB_of (tin_9 (List.mem_of_getElem? (i := 44) (by decide +kernel))) rfl
theorem tw_2071 : Cond.instanceMethod yX12_oddsOf ∈ TB := TB_of (tin_9 (List.mem_of_getElem? (i := 46) (by decide +kernel))) rfl
theorem tw_2072 : Cond.code yX12_oddsOf cX12_oddsOf 11 (some .long) ∈ TB := TB_of (tin_9 (List.mem_of_getElem? (i := 47) (by decide +kernel))) rfl
theorem tw_2073 : Cond.constantLong RX12 384 100 ∈ TB := TB_of (tin_9 (List.mem_of_getElem? (i := 48) (by decide +kernel))) rfl
theorem tw_2074 : Cond.methodLink RL 261 yX12_week ∈ TB := TB_of (tin_9 (List.mem_of_getElem? (i := 49) (by decide +kernel))) rfl
theorem tw_2075 : Cond.instanceMethod yX12_week ∈ TB := TB_of (tin_9 (List.mem_of_getElem? (i := 50) (by decide +kernel))) rfl
theorem tw_2076 : Cond.selects RX12 yX12_week yX12_week ∈ TB := TB_of (tin_9 (List.mem_of_getElem? (i := 51) (by decide +kernel))) rfl
theorem tw_2077 : Cond.code yX12_week cX12_week 2 (some .int) ∈ TB := TB_of (tin_9 (List.mem_of_getElem? (i := 52) (by decide +kernel))) rfl
theorem tw_2078 : Cond.methodLink RL 264 yX12_rates ∈ TB := TB_of (tin_9 (List.mem_of_getElem? (i := 53) (by decide +kernel))) rfl
theorem tw_2079 : Cond.instanceMethod yX12_rates ∈ TB := TB_of (tin_9 (List.mem_of_getElem? (i := 54) (by decide +kernel))) rfl
theorem tw_2080 : Cond.selects RX12 yX12_rates yX12_rates ∈ TB := TB_of (tin_9 (List.mem_of_getElem? (i := 55) (by decide +kernel))) rfl
theorem tw_2081 : Cond.code yX12_rates cX12_rates 12 (some .int) ∈ TB := TB_of (tin_9 (List.mem_of_getElem? (i := 56) (by decide +kernel))) rfl
theorem tw_2082 : Cond.methodLink RX12 393 yX12_betters ∈ TB := TB_of (tin_9 (List.mem_of_getElem? (i := 57) (by decide +kernel))) rfl
theorem tw_2083 : Cond.static yX12_betters ∈ TB := TB_of (tin_9 (List.mem_of_getElem? (i := 58) (by decide +kernel))) rfl
theorem tw_2084 : Cond.code yX12_betters cX12_betters 3 (some .int) ∈ TB := TB_of (tin_9 (List.mem_of_getElem? (i := 59) (by decide +kernel))) rfl
theorem tw_2085 : Cond.methodLink RX12 390 yJ9_floorDiv_7cf53 ∈ TB := TB_of (tin_9 (List.mem_of_getElem? (i := 60) (by decide +kernel))) rfl
theorem tw_2086 : Cond.methodLink RL 268 yX12_dullest ∈ TB := TB_of (tin_9 (List.mem_of_getElem? (i := 61) (by decide +kernel))) rfl
theorem tw_2087 : Cond.instanceMethod yX12_dullest ∈ TB := TB_of (tin_9 (List.mem_of_getElem? (i := 62) (by decide +kernel))) rfl
theorem tw_2088 : Cond.selects RX12 yX12_dullest yX12_dullest ∈ TB := TB_of (tin_9 (List.mem_of_getElem? (i := 63) (by decide +kernel))) rfl
theorem tw_2089 : Cond.code yX12_dullest cX12_dullest 9 (some .int) ∈ TB := TB_of (tin_9 (List.mem_of_getElem? (i := 64) (by decide +kernel))) rfl
theorem tw_2090 : Cond.methodLink RL 271 yX12_change ∈ TB := TB_of (tin_9 (List.mem_of_getElem? (i := 65) (by decide +kernel))) rfl
theorem tw_2091 : Cond.instanceMethod yX12_change ∈ TB := TB_of (tin_9 (List.mem_of_getElem? (i := 66) (by decide +kernel))) rfl
theorem tw_2092 : Cond.selects RX12 yX12_change yX12_change ∈ TB := TB_of (tin_9 (List.mem_of_getElem? (i := 67) (by decide +kernel))) rfl
theorem tw_2093 : Cond.code yX12_change cX12_change 8 (some .int) ∈ TB := TB_of (tin_9 (List.mem_of_getElem? (i := 68) (by decide +kernel))) rfl
theorem tw_2094 : Cond.methodLink RX12 396 yX12_heldBy ∈ TB := TB_of (tin_9 (List.mem_of_getElem? (i := 69) (by decide +kernel))) rfl
theorem tw_2096 : Cond.instanceMethod yX12_heldBy ∈ TB := TB_of (tin_9 (List.mem_of_getElem? (i := 71) (by decide +kernel))) rfl
theorem tw_2097 : Cond.code yX12_heldBy cX12_heldBy 7 (some .int) ∈ TB := TB_of (tin_9 (List.mem_of_getElem? (i := 72) (by decide +kernel))) rfl
theorem tw_2098 : Cond.methodLink RX12 399 yX12_exchanges ∈ TB := TB_of (tin_9 (List.mem_of_getElem? (i := 73) (by decide +kernel))) rfl
theorem tw_2100 : Cond.instanceMethod yX12_exchanges ∈ TB := TB_of (tin_9 (List.mem_of_getElem? (i := 75) (by decide +kernel))) rfl
theorem tw_2101 : Cond.code yX12_exchanges cX12_exchanges 5 none ∈ TB := TB_of (tin_9 (List.mem_of_getElem? (i := 76) (by decide +kernel))) rfl
theorem tw_2102 : Cond.methodLink RL 284 yX12_count ∈ TB := TB_of (tin_9 (List.mem_of_getElem? (i := 77) (by decide +kernel))) rfl
theorem tw_2103 : Cond.instanceMethod yX12_count ∈ TB := TB_of (tin_9 (List.mem_of_getElem? (i := 78) (by decide +kernel))) rfl
theorem tw_2104 : Cond.selects RX12 yX12_count yX12_count ∈ TB := TB_of (tin_9 (List.mem_of_getElem? (i := 79) (by decide +kernel))) rfl
theorem tw_2105 : Cond.code yX12_count cX12_count 4 (some .int) ∈ TB := TB_of (tin_9 (List.mem_of_getElem? (i := 80) (by decide +kernel))) rfl
theorem tw_2128 : Cond.fieldLink RJ0 9 RJ0 "value" "[B" ∈ TB := TB_of (tin_9 (List.mem_of_getElem? (i := 103) (by decide +kernel))) rfl
theorem tw_2129 : Cond.fieldLink RJ0 15 RJ0 "coder" "B" ∈ TB := TB_of (tin_9 (List.mem_of_getElem? (i := 104) (by decide +kernel))) rfl
theorem mf_X2_placesBy : x_MV yX2_placesBy cX2_placesBy 2 (some .int) 1 := ⟨tw_1003, tw_1001, tw_1002, tw_109, by decide, by decide, by decide +kernel⟩
theorem mf_X2_placeOf : x_MV yX2_placeOf cX2_placeOf 2 (some .int) 1 := ⟨tw_1055, tw_1053, tw_1054, tw_109, by decide, by decide, by decide +kernel⟩
theorem mf_X2_cardAt : x_MV yX2_cardAt cX2_cardAt 2 (some .int) 1 := ⟨tw_577, tw_575, tw_576, tw_109, by decide, by decide, by decide +kernel⟩
theorem mf_X2_saidCards : x_MV yX2_saidCards cX2_saidCards 4 (some .long) 0 := ⟨tw_1304, tw_1303, tw_30, tw_109, by decide, by decide, by decide +kernel⟩
theorem mf_X4_begin : x_MV yX4_begin cX4_begin 5 none 4 := ⟨tw_1014, tw_1012, tw_1013, tw_110, by decide, by decide, by decide +kernel⟩
theorem mf_X4_touchFrom : x_MV yX4_touchFrom cX4_touchFrom 3 none 2 := ⟨tw_1018, tw_1016, tw_1017, tw_110, by decide, by decide, by decide +kernel⟩
theorem mf_X2_placeAt : x_MV yX2_placeAt cX2_placeAt 4 (some .int) 2 := ⟨tw_1072, tw_1070, tw_1071, tw_109, by decide, by decide, by decide +kernel⟩
theorem mf_X6_weightOf : x_MV yX6_weightOf cX6_weightOf 2 (some .int) 1 := ⟨tw_1228, tw_1226, tw_1227, tw_113, by decide, by decide, by decide +kernel⟩
theorem mf_X2_roleOf : x_MV yX2_roleOf cX2_roleOf 2 (some .int) 1 := ⟨tw_1059, tw_1057, tw_1058, tw_109, by decide, by decide, by decide +kernel⟩
theorem mf_X2_cardWith : x_MV yX2_cardWith cX2_cardWith 4 (some .int) 2 := ⟨tw_1175, tw_1173, tw_1174, tw_109, by decide, by decide, by decide +kernel⟩
theorem mf_X7_lookOf : x_MV yX7_lookOf cX7_lookOf 3 (some .int) 2 := ⟨tw_558, tw_556, tw_557, tw_108, by decide, by decide, by decide +kernel⟩
theorem mf_X2_rightOnes : x_MV yX2_rightOnes cX2_rightOnes 3 (some .int) 0 := ⟨tw_617, tw_615, tw_616, tw_109, by decide, by decide, by decide +kernel⟩
theorem mf_X8_isLetter : x_MS yX8_isLetter cX8_isLetter 1 (some .boolean) 1 := ⟨tw_642, tw_641, tw_107, by decide, by decide, by decide +kernel⟩
theorem mf_X8_isDigit : x_MS yX8_isDigit cX8_isDigit 1 (some .boolean) 1 := ⟨tw_645, tw_644, tw_107, by decide, by decide, by decide +kernel⟩
theorem mf_X8_take : x_MV yX8_take cX8_take 2 (some .boolean) 1 := ⟨tw_722, tw_721, tw_8, tw_107, by decide, by decide, by decide +kernel⟩
theorem mf_X8_here : x_MV yX8_here cX8_here 1 (some .int) 0 := ⟨tw_714, tw_713, tw_6, tw_107, by decide, by decide, by decide +kernel⟩
theorem mf_X8_write : x_MV yX8_write cX8_write 2 none 1 := ⟨tw_738, tw_737, tw_12, tw_107, by decide, by decide, by decide +kernel⟩
theorem mf_X12_in : x_MS yX12_in cX12_in 3 (some .boolean) 3 := ⟨tw_1758, tw_1757, tw_117, by decide, by decide, by decide +kernel⟩
theorem mf_X12_isAt : x_MV yX12_isAt cX12_isAt 3 (some .boolean) 2 := ⟨tw_1655, tw_1654, tw_44, tw_117, by decide, by decide, by decide +kernel⟩
theorem mf_X12_blanks : x_MV yX12_blanks cX12_blanks 1 none 0 := ⟨tw_1651, tw_1650, tw_43, tw_117, by decide, by decide, by decide +kernel⟩
theorem mf_X12_letters : x_MV yX12_letters cX12_letters 1 none 0 := ⟨tw_1663, tw_1662, tw_46, tw_117, by decide, by decide, by decide +kernel⟩
theorem mf_X12_textAt : x_MS yX12_textAt cX12_textAt 1 (some .int) 1 := ⟨tw_1669, tw_1668, tw_117, by decide, by decide, by decide +kernel⟩
theorem mf_X12_sign : x_MV yX12_sign cX12_sign 2 (some .boolean) 1 := ⟨tw_1685, tw_1684, tw_49, tw_117, by decide, by decide, by decide +kernel⟩
theorem mf_X12_lineAt : x_MS yX12_lineAt cX12_lineAt 2 (some .int) 2 := ⟨tw_1666, tw_1665, tw_117, by decide, by decide, by decide +kernel⟩
theorem mf_X12_holdsLine : x_MV yX12_holdsLine cX12_holdsLine 9 (some .boolean) 2 := ⟨tw_1900, tw_1899, tw_83, tw_117, by decide, by decide, by decide +kernel⟩
theorem mf_X12_told : x_MV yX12_told cX12_told 6 (some .int) 1 := ⟨tw_1896, tw_1895, tw_82, tw_117, by decide, by decide, by decide +kernel⟩
theorem mf_X12_noCard : x_MS yX12_noCard cX12_noCard 1 (some .boolean) 1 := ⟨tw_1755, tw_1754, tw_117, by decide, by decide, by decide +kernel⟩
theorem mf_X12_noRole : x_MS yX12_noRole cX12_noRole 1 (some .boolean) 1 := ⟨tw_1761, tw_1760, tw_117, by decide, by decide, by decide +kernel⟩
theorem mf_X12_throwsIf : x_MV yX12_throwsIf cX12_throwsIf 3 (some .boolean) 2 := ⟨tw_1744, tw_1743, tw_59, tw_117, by decide, by decide, by decide +kernel⟩
theorem mf_X12_dullOf : x_MV yX12_dullOf cX12_dullOf 3 (some .int) 2 := ⟨tw_1765, tw_1764, tw_60, tw_117, by decide, by decide, by decide +kernel⟩
theorem mf_X12_none : x_MV yX12_none cX12_none 3 (some .boolean) 2 := ⟨tw_1781, tw_1780, tw_62, tw_117, by decide, by decide, by decide +kernel⟩
theorem mf_X12_doors : x_MV yX12_doors cX12_doors 2 (some .int) 1 := ⟨tw_1785, tw_1784, tw_63, tw_117, by decide, by decide, by decide +kernel⟩
theorem mf_X12_noDoor : x_MV yX12_noDoor cX12_noDoor 3 (some .boolean) 2 := ⟨tw_1777, tw_1776, tw_61, tw_117, by decide, by decide, by decide +kernel⟩
theorem mf_X12_of : x_MV yX12_of cX12_of 3 (some .int) 2 := ⟨tw_1809, tw_1808, tw_67, tw_117, by decide, by decide, by decide +kernel⟩
theorem mf_X12_placesFor : x_MS yX12_placesFor cX12_placesFor 2 (some .int) 2 := ⟨tw_1827, tw_1826, tw_117, by decide, by decide, by decide +kernel⟩
theorem mf_X12_noPack : x_MV yX12_noPack cX12_noPack 2 (some .boolean) 1 := ⟨tw_1805, tw_1804, tw_66, tw_117, by decide, by decide, by decide +kernel⟩
theorem mf_X12_sets : x_MV yX12_sets cX12_sets 4 none 3 := ⟨tw_1793, tw_1792, tw_64, tw_117, by decide, by decide, by decide +kernel⟩
theorem mf_X12_noPlace : x_MV yX12_noPlace cX12_noPlace 3 (some .boolean) 2 := ⟨tw_1801, tw_1800, tw_65, tw_117, by decide, by decide, by decide +kernel⟩
theorem mf_X12_cardOf : x_MV yX12_cardOf cX12_cardOf 3 (some .int) 2 := ⟨tw_1813, tw_1812, tw_68, tw_117, by decide, by decide, by decide +kernel⟩
theorem mf_X12_places : x_MV yX12_places cX12_places 2 (some .int) 1 := ⟨tw_1836, tw_1835, tw_71, tw_117, by decide, by decide, by decide +kernel⟩
theorem mf_X12_isPut : x_MV yX12_isPut cX12_isPut 2 (some .boolean) 1 := ⟨tw_1821, tw_1820, tw_69, tw_117, by decide, by decide, by decide +kernel⟩
theorem mf_X12_noSeconds : x_MS yX12_noSeconds cX12_noSeconds 1 (some .boolean) 1 := ⟨tw_1824, tw_1823, tw_117, by decide, by decide, by decide +kernel⟩
theorem mf_X12_touches : x_MV yX12_touches cX12_touches 4 none 2 := ⟨tw_1832, tw_1831, tw_70, tw_117, by decide, by decide, by decide +kernel⟩
theorem mf_X12_placeAt : x_MV yX12_placeAt cX12_placeAt 5 (some .int) 3 := ⟨tw_1868, tw_1867, tw_76, tw_117, by decide, by decide, by decide +kernel⟩
theorem mf_X12_lookOf : x_MV yX12_lookOf cX12_lookOf 3 (some .int) 2 := ⟨tw_1876, tw_1875, tw_78, tw_117, by decide, by decide, by decide +kernel⟩
theorem mf_X12_oldAt : x_MV yX12_oldAt cX12_oldAt 7 (some .int) 4 := ⟨tw_1864, tw_1863, tw_75, tw_117, by decide, by decide, by decide +kernel⟩
theorem mf_X12_likeAt : x_MV yX12_likeAt cX12_likeAt 7 (some .int) 4 := ⟨tw_1872, tw_1871, tw_77, tw_117, by decide, by decide, by decide +kernel⟩
theorem mf_X12_supposes : x_MV yX12_supposes cX12_supposes 12 none 9 := ⟨tw_1860, tw_1859, tw_74, tw_117, by decide, by decide, by decide +kernel⟩
theorem mf_X12_ageOf : x_MV yX12_ageOf cX12_ageOf 4 (some .int) 3 := ⟨tw_1852, tw_1851, tw_72, tw_117, by decide, by decide, by decide +kernel⟩
theorem mf_X12_asks : x_MV yX12_asks cX12_asks 5 none 4 := ⟨tw_1856, tw_1855, tw_73, tw_117, by decide, by decide, by decide +kernel⟩
theorem mf_X12_noLaw : x_MV yX12_noLaw cX12_noLaw 2 (some .boolean) 1 := ⟨tw_1884, tw_1883, tw_79, tw_117, by decide, by decide, by decide +kernel⟩
theorem mf_X12_cardAt : x_MV yX12_cardAt cX12_cardAt 5 (some .int) 3 := ⟨tw_1930, tw_1929, tw_88, tw_117, by decide, by decide, by decide +kernel⟩
theorem mf_X12_alikeOf : x_MV yX12_alikeOf cX12_alikeOf 7 (some .int) 3 := ⟨tw_1934, tw_1933, tw_89, tw_117, by decide, by decide, by decide +kernel⟩
theorem mf_X12_ghostOf : x_MV yX12_ghostOf cX12_ghostOf 9 (some .int) 3 := ⟨tw_1926, tw_1925, tw_87, tw_117, by decide, by decide, by decide +kernel⟩
theorem mf_X12_slip : x_MV yX12_slip cX12_slip 8 (some .int) 3 := ⟨tw_1922, tw_1921, tw_86, tw_117, by decide, by decide, by decide +kernel⟩
theorem mf_X12_kindOf : x_MV yX12_kindOf cX12_kindOf 5 (some .int) 2 := ⟨tw_1918, tw_1917, tw_85, tw_117, by decide, by decide, by decide +kernel⟩
theorem mf_X12_weight : x_MS yX12_weight cX12_weight 1 (some .int) 1 := ⟨tw_1954, tw_1953, tw_117, by decide, by decide, by decide +kernel⟩
theorem mf_X12_weightOf : x_MV yX12_weightOf cX12_weightOf 4 (some .int) 3 := ⟨tw_1958, tw_1957, tw_92, tw_117, by decide, by decide, by decide +kernel⟩
theorem mf_X12_draw : x_MV yX12_draw cX12_draw 1 (some .int) 0 := ⟨tw_1946, tw_1945, tw_90, tw_117, by decide, by decide, by decide +kernel⟩
theorem mf_X12_kindsOf : x_MV yX12_kindsOf cX12_kindsOf 5 (some .int) 2 := ⟨tw_1962, tw_1961, tw_93, tw_117, by decide, by decide, by decide +kernel⟩
theorem mf_X12_noRule : x_MV yX12_noRule cX12_noRule 2 (some .boolean) 1 := ⟨tw_1982, tw_1981, tw_94, tw_117, by decide, by decide, by decide +kernel⟩
theorem mf_X12_scored : x_MV yX12_scored cX12_scored 5 (some .int) 4 := ⟨tw_1986, tw_1985, tw_95, tw_117, by decide, by decide, by decide +kernel⟩
theorem mf_X12_isSaid : x_MV yX12_isSaid cX12_isSaid 5 (some .boolean) 2 := ⟨tw_2002, tw_2001, tw_97, tw_117, by decide, by decide, by decide +kernel⟩
theorem mf_X12_lackOf : x_MV yX12_lackOf cX12_lackOf 5 (some .int) 2 := ⟨tw_2006, tw_2005, tw_98, tw_117, by decide, by decide, by decide +kernel⟩
theorem mf_X12_lackMany : x_MV yX12_lackMany cX12_lackMany 4 (some .int) 1 := ⟨tw_1998, tw_1997, tw_96, tw_117, by decide, by decide, by decide +kernel⟩
theorem mf_J7_fill_53178 : x_MS yJ7_fill_53178 cJ7_fill_53178 4 none 2 := ⟨tw_573, tw_572, tw_123, by decide, by decide, by decide +kernel⟩
theorem mf_X2_lackCount : x_MV yX2_lackCount cX2_lackCount 5 (some .int) 0 := ⟨tw_1300, tw_1298, tw_1299, tw_109, by decide, by decide, by decide +kernel⟩
theorem mf_J9_min_7cf53 : x_MS yJ9_min_7cf53 cJ9_min_7cf53 2 (some .int) 2 := ⟨tw_757, tw_756, tw_124, by decide, by decide, by decide +kernel⟩
theorem mf_X2_blanks : x_MV yX2_blanks cX2_blanks 3 (some .int) 0 := ⟨tw_1273, tw_1271, tw_1272, tw_109, by decide, by decide, by decide +kernel⟩
theorem mf_X2_lackAt : x_MV yX2_lackAt cX2_lackAt 6 (some .int) 1 := ⟨tw_1308, tw_1306, tw_1307, tw_109, by decide, by decide, by decide +kernel⟩
theorem mf_X4_copyFrom : x_MV yX4_copyFrom cX4_copyFrom 2 none 1 := ⟨tw_596, tw_594, tw_595, tw_110, by decide, by decide, by decide +kernel⟩
theorem mf_J6_bitCount_0f7a4 : x_MS yJ6_bitCount_0f7a4 cJ6_bitCount_0f7a4 1 (some .int) 1 := ⟨tw_1374, tw_1373, tw_134, by decide, by decide, by decide +kernel⟩
theorem mf_X5_oldAt : x_MV yX5_oldAt cX5_oldAt 7 (some .int) 3 := ⟨tw_1068, tw_1066, tw_1067, tw_112, by decide, by decide, by decide +kernel⟩
theorem mf_X6_ghostAt : x_MV yX6_ghostAt cX6_ghostAt 11 (some .int) 3 := ⟨tw_1179, tw_1178, tw_26, tw_113, by decide, by decide, by decide +kernel⟩
theorem mf_X2_places : x_MV yX2_places cX2_places 1 (some .int) 0 := ⟨tw_1042, tw_1040, tw_1041, tw_109, by decide, by decide, by decide +kernel⟩
theorem mf_X2_cardsAt : x_MV yX2_cardsAt cX2_cardsAt 2 (some .int) 1 := ⟨tw_1194, tw_1192, tw_1193, tw_109, by decide, by decide, by decide +kernel⟩
theorem mf_X9_isMet : x_MV yX9_isMet cX9_isMet 9 (some .boolean) 3 := ⟨tw_1136, tw_1135, tw_24, tw_111, by decide, by decide, by decide +kernel⟩
theorem mf_X9_tell : x_MV yX9_tell cX9_tell 8 (some .long) 1 := ⟨tw_1132, tw_1130, tw_1131, tw_111, by decide, by decide, by decide +kernel⟩
theorem mf_J9_max_7cf53 : x_MS yJ9_max_7cf53 cJ9_max_7cf53 2 (some .int) 2 := ⟨tw_1233, tw_1232, tw_124, by decide, by decide, by decide +kernel⟩
theorem mf_X12_held : x_MV yX12_held cX12_held 2 (some .int) 1 := ⟨tw_1892, tw_1891, tw_81, tw_117, by decide, by decide, by decide +kernel⟩
theorem mf_X12_heldOf : x_MV yX12_heldOf cX12_heldOf 4 (some .int) 3 := ⟨tw_1888, tw_1887, tw_80, tw_117, by decide, by decide, by decide +kernel⟩
theorem mf_X12_awaitedIn : x_MV yX12_awaitedIn cX12_awaitedIn 6 (some .int) 3 := ⟨tw_1910, tw_1909, tw_84, tw_117, by decide, by decide, by decide +kernel⟩
theorem mf_X12_allWeights : x_MV yX12_allWeights cX12_allWeights 5 (some .int) 2 := ⟨tw_1951, tw_1950, tw_91, tw_117, by decide, by decide, by decide +kernel⟩
theorem mf_J9_abs_0f7a4 : x_MS yJ9_abs_0f7a4 cJ9_abs_0f7a4 1 (some .int) 1 := ⟨tw_1288, tw_1287, tw_124, by decide, by decide, by decide +kernel⟩
theorem mf_X12_common : x_MS yX12_common cX12_common 5 (some .int) 2 := ⟨tw_1969, tw_1968, tw_117, by decide, by decide, by decide +kernel⟩
theorem mf_X12_guesses : x_MV yX12_guesses cX12_guesses 14 none 4 := ⟨tw_2014, tw_2013, tw_99, tw_117, by decide, by decide, by decide +kernel⟩
theorem mf_J6_numberOfLeadingZeros_0f7a4 : x_MS yJ6_numberOfLeadingZeros_0f7a4 cJ6_numberOfLeadingZeros_0f7a4 2 (some .int) 1 := ⟨tw_2034, tw_2033, tw_134, by decide, by decide, by decide +kernel⟩
theorem mf_X12_awaitedBy : x_MV yX12_awaitedBy cX12_awaitedBy 8 (some .int) 4 := ⟨tw_2031, tw_2030, tw_100, tw_117, by decide, by decide, by decide +kernel⟩
theorem mf_X12_awaitedAt : x_MV yX12_awaitedAt cX12_awaitedAt 8 (some .int) 5 := ⟨tw_2052, tw_2051, tw_101, tw_117, by decide, by decide, by decide +kernel⟩
theorem mf_X12_oddsOf : x_MV yX12_oddsOf cX12_oddsOf 11 (some .long) 2 := ⟨tw_2072, tw_2071, tw_102, tw_117, by decide, by decide, by decide +kernel⟩
theorem mf_J9_floorDiv_7cf53 : x_MS yJ9_floorDiv_7cf53 cJ9_floorDiv_7cf53 3 (some .int) 2 := ⟨tw_1504, tw_1503, tw_124, by decide, by decide, by decide +kernel⟩
theorem mf_X12_betters : x_MS yX12_betters cX12_betters 3 (some .int) 3 := ⟨tw_2084, tw_2083, tw_117, by decide, by decide, by decide +kernel⟩
theorem mf_X12_heldBy : x_MV yX12_heldBy cX12_heldBy 7 (some .int) 3 := ⟨tw_2097, tw_2096, tw_103, tw_117, by decide, by decide, by decide +kernel⟩
theorem mf_X12_exchanges : x_MV yX12_exchanges cX12_exchanges 5 none 2 := ⟨tw_2101, tw_2100, tw_104, tw_117, by decide, by decide, by decide +kernel⟩
theorem mf_X0_countMissed : x_MV yX0_countMissed cX0_countMissed 5 none 0 := ⟨tw_570, tw_569, tw_0, tw_116, by decide, by decide, by decide +kernel⟩
theorem mf_X1_findOwn : x_MV yX1_findOwn cX1_findOwn 7 none 3 := ⟨tw_1327, tw_1326, tw_31, tw_114, by decide, by decide, by decide +kernel⟩
theorem mf_X9_scoreOf : x_MV yX9_scoreOf cX9_scoreOf 5 (some .long) 4 := ⟨tw_1277, tw_1275, tw_1276, tw_111, by decide, by decide, by decide +kernel⟩
theorem mf_X9_heldBy : x_MV yX9_heldBy cX9_heldBy 4 (some .int) 1 := ⟨tw_1128, tw_1126, tw_1127, tw_111, by decide, by decide, by decide +kernel⟩
theorem mf_X5_likeAt : x_MV yX5_likeAt cX5_likeAt 8 (some .int) 3 := ⟨tw_1076, tw_1074, tw_1075, tw_112, by decide, by decide, by decide +kernel⟩
theorem mf_X4_ageOf : x_MV yX4_ageOf cX4_ageOf 3 (some .int) 2 := ⟨tw_1064, tw_1062, tw_1063, tw_110, by decide, by decide, by decide +kernel⟩
theorem mf_X6_alikeTo : x_MV yX6_alikeTo cX6_alikeTo 8 (some .int) 3 := ⟨tw_1184, tw_1183, tw_27, tw_113, by decide, by decide, by decide +kernel⟩
theorem mf_X6_swappedWith : x_MV yX6_swappedWith cX6_swappedWith 5 (some .int) 3 := ⟨tw_1190, tw_1189, tw_28, tw_113, by decide, by decide, by decide +kernel⟩
theorem mf_X8_endOfThing : x_MV yX8_endOfThing cX8_endOfThing 5 (some .int) 1 := ⟨tw_639, tw_638, tw_2, tw_107, by decide, by decide, by decide +kernel⟩
theorem mf_X5_heldWith : x_MV yX5_heldWith cX5_heldWith 4 (some .int) 3 := ⟨tw_1124, tw_1122, tw_1123, tw_112, by decide, by decide, by decide +kernel⟩
theorem mf_X5_facePlace : x_MV yX5_facePlace cX5_facePlace 7 none 4 := ⟨tw_1115, tw_1113, tw_1114, tw_112, by decide, by decide, by decide +kernel⟩
theorem mf_X6_find : x_MV yX6_find cX6_find 7 none 2 := ⟨tw_1169, tw_1167, tw_1168, tw_113, by decide, by decide, by decide +kernel⟩
theorem mf_X6_allWeights : x_MV yX6_allWeights cX6_allWeights 3 (some .int) 0 := ⟨tw_1224, tw_1222, tw_1223, tw_113, by decide, by decide, by decide +kernel⟩
theorem mf_X0_sumUp : x_MV yX0_sumUp cX0_sumUp 8 none 1 := ⟨tw_1524, tw_1523, tw_39, tw_116, by decide, by decide, by decide +kernel⟩
theorem mf_X0_gainAs : x_MV yX0_gainAs cX0_gainAs 6 (some .int) 2 := ⟨tw_1532, tw_1531, tw_40, tw_116, by decide, by decide, by decide +kernel⟩
theorem mf_X5_sumBy : x_MV yX5_sumBy cX5_sumBy 10 (some .int) 4 := ⟨tw_1152, tw_1151, tw_25, tw_112, by decide, by decide, by decide +kernel⟩
theorem mf_X0_mostMissed : x_MV yX0_mostMissed cX0_mostMissed 3 (some .int) 0 := ⟨tw_566, tw_564, tw_565, tw_116, by decide, by decide, by decide +kernel⟩
theorem mf_X0_bestPair : x_MV yX0_bestPair cX0_bestPair 7 (some .int) 1 := ⟨tw_1520, tw_1518, tw_1519, tw_116, by decide, by decide, by decide +kernel⟩
theorem mf_X1_weigh : x_MV yX1_weigh cX1_weigh 7 none 2 := ⟨tw_1320, tw_1318, tw_1319, tw_114, by decide, by decide, by decide +kernel⟩
theorem mf_X1_spread : x_MV yX1_spread cX1_spread 7 none 5 := ⟨tw_1334, tw_1333, tw_32, tw_114, by decide, by decide, by decide +kernel⟩
theorem mf_X1_takeIfBetter : x_MV yX1_takeIfBetter cX1_takeIfBetter 11 none 3 := ⟨tw_1338, tw_1337, tw_33, tw_114, by decide, by decide, by decide +kernel⟩
theorem mf_X2_begin : x_MV yX2_begin cX2_begin 4 none 3 := ⟨tw_946, tw_944, tw_945, tw_109, by decide, by decide, by decide +kernel⟩
theorem mf_X2_copyFrom : x_MV yX2_copyFrom cX2_copyFrom 2 none 1 := ⟨tw_592, tw_590, tw_591, tw_109, by decide, by decide, by decide +kernel⟩
theorem mf_X3_begin : x_MV yX3_begin cX3_begin 1 none 0 := ⟨tw_1423, tw_1421, tw_1422, tw_115, by decide, by decide, by decide +kernel⟩
theorem mf_X3_addPack : x_MV yX3_addPack cX3_addPack 2 none 1 := ⟨tw_1428, tw_1426, tw_1427, tw_115, by decide, by decide, by decide +kernel⟩
theorem mf_X3_setWorth : x_MV yX3_setWorth cX3_setWorth 3 none 2 := ⟨tw_1432, tw_1430, tw_1431, tw_115, by decide, by decide, by decide +kernel⟩
theorem mf_X3_search : x_MV yX3_search cX3_search 1 none 0 := ⟨tw_1436, tw_1434, tw_1435, tw_115, by decide, by decide, by decide +kernel⟩
theorem mf_X3_houseFor : x_MV yX3_houseFor cX3_houseFor 3 (some .int) 1 := ⟨tw_1445, tw_1443, tw_1444, tw_115, by decide, by decide, by decide +kernel⟩
theorem mf_X3_settle : x_MV yX3_settle cX3_settle 6 none 3 := ⟨tw_1440, tw_1439, tw_35, tw_115, by decide, by decide, by decide +kernel⟩
theorem mf_X5_heldNow : x_MV yX5_heldNow cX5_heldNow 6 (some .int) 3 := ⟨tw_1110, tw_1108, tw_1109, tw_112, by decide, by decide, by decide +kernel⟩
theorem mf_X5_sumAt : x_MV yX5_sumAt cX5_sumAt 4 (some .int) 3 := ⟨tw_1148, tw_1146, tw_1147, tw_112, by decide, by decide, by decide +kernel⟩
theorem mf_X5_sumTouched : x_MV yX5_sumTouched cX5_sumTouched 8 (some .int) 4 := ⟨tw_1371, tw_1369, tw_1370, tw_112, by decide, by decide, by decide +kernel⟩
theorem mf_X5_forgetTouches : x_MV yX5_forgetTouches cX5_forgetTouches 1 none 0 := ⟨tw_1366, tw_1364, tw_1365, tw_112, by decide, by decide, by decide +kernel⟩
theorem mf_X5_sumIfPut : x_MV yX5_sumIfPut cX5_sumIfPut 6 (some .int) 5 := ⟨tw_1405, tw_1403, tw_1404, tw_112, by decide, by decide, by decide +kernel⟩
theorem mf_X5_heldByTurns : x_MV yX5_heldByTurns cX5_heldByTurns 4 (some .int) 3 := ⟨tw_1392, tw_1390, tw_1391, tw_112, by decide, by decide, by decide +kernel⟩
theorem mf_X6_kindOf : x_MV yX6_kindOf cX6_kindOf 6 (some .int) 2 := ⟨tw_1164, tw_1162, tw_1163, tw_113, by decide, by decide, by decide +kernel⟩
theorem mf_X6_drawn : x_MV yX6_drawn cX6_drawn 7 (some .int) 3 := ⟨tw_1220, tw_1218, tw_1219, tw_113, by decide, by decide, by decide +kernel⟩
theorem mf_X7_copyFrom : x_MV yX7_copyFrom cX7_copyFrom 3 none 1 := ⟨tw_585, tw_583, tw_584, tw_108, by decide, by decide, by decide +kernel⟩
theorem mf_X7_addHouse : x_MV yX7_addHouse cX7_addHouse 3 (some .int) 1 := ⟨tw_912, tw_910, tw_911, tw_108, by decide, by decide, by decide +kernel⟩
theorem mf_X7_doorsThatLook : x_MV yX7_doorsThatLook cX7_doorsThatLook 6 (some .int) 2 := ⟨tw_554, tw_552, tw_553, tw_108, by decide, by decide, by decide +kernel⟩
theorem mf_X7_doorsInAll : x_MV yX7_doorsInAll cX7_doorsInAll 3 (some .int) 0 := ⟨tw_609, tw_607, tw_608, tw_108, by decide, by decide, by decide +kernel⟩
theorem mf_X7_rightInAll : x_MV yX7_rightInAll cX7_rightInAll 3 (some .int) 0 := ⟨tw_613, tw_611, tw_612, tw_108, by decide, by decide, by decide +kernel⟩
theorem mf_X7_lastMoment : x_MV yX7_lastMoment cX7_lastMoment 1 (some .int) 0 := ⟨tw_1351, tw_1349, tw_1350, tw_108, by decide, by decide, by decide +kernel⟩
theorem mf_X8_hasRoomForFive : x_MV yX8_hasRoomForFive cX8_hasRoomForFive 1 (some .boolean) 0 := ⟨tw_530, tw_528, tw_529, tw_107, by decide, by decide, by decide +kernel⟩
theorem mf_X8_addNumber : x_MV yX8_addNumber cX8_addNumber 3 none 1 := ⟨tw_534, tw_532, tw_533, tw_107, by decide, by decide, by decide +kernel⟩
theorem mf_X8_read : x_MV yX8_read cX8_read 5 (some (.object "MemoryHouse$Text")) 1 := ⟨tw_631, tw_629, tw_630, tw_107, by decide, by decide, by decide +kernel⟩
theorem mf_X8_split : x_MV yX8_split cX8_split 6 none 1 := ⟨tw_635, tw_634, tw_1, tw_107, by decide, by decide, by decide +kernel⟩
theorem mf_X8_thingOf : x_MV yX8_thingOf cX8_thingOf 6 (some .int) 3 := ⟨tw_649, tw_648, tw_3, tw_107, by decide, by decide, by decide +kernel⟩
theorem mf_X8_wordOf : x_MV yX8_wordOf cX8_wordOf 7 (some .int) 3 := ⟨tw_653, tw_652, tw_4, tw_107, by decide, by decide, by decide +kernel⟩
theorem mf_X8_indexIn : x_MV yX8_indexIn cX8_indexIn 8 (some .int) 3 := ⟨tw_658, tw_657, tw_5, tw_107, by decide, by decide, by decide +kernel⟩
theorem mf_X8_readLine : x_MV yX8_readLine cX8_readLine 4 (some .boolean) 0 := ⟨tw_718, tw_717, tw_7, tw_107, by decide, by decide, by decide +kernel⟩
theorem mf_X8_readEither : x_MV yX8_readEither cX8_readEither 3 (some .boolean) 1 := ⟨tw_726, tw_725, tw_9, tw_107, by decide, by decide, by decide +kernel⟩
theorem mf_X8_readAll : x_MV yX8_readAll cX8_readAll 3 (some .boolean) 1 := ⟨tw_730, tw_729, tw_10, tw_107, by decide, by decide, by decide +kernel⟩
theorem mf_X8_readAtom : x_MV yX8_readAtom cX8_readAtom 4 (some .boolean) 1 := ⟨tw_734, tw_733, tw_11, tw_107, by decide, by decide, by decide +kernel⟩
theorem mf_X8_readSum : x_MV yX8_readSum cX8_readSum 3 (some .boolean) 0 := ⟨tw_742, tw_741, tw_13, tw_107, by decide, by decide, by decide +kernel⟩
theorem mf_X11_feed : x_MV yX11_feed cX11_feed 6 (some .int) 5 := ⟨tw_526, tw_524, tw_525, tw_106, by decide, by decide, by decide +kernel⟩
theorem mf_X11_end : x_MV yX11_end cX11_end 2 (some .boolean) 1 := ⟨tw_538, tw_536, tw_537, tw_106, by decide, by decide, by decide +kernel⟩
theorem mf_X11_law : x_MV yX11_law cX11_law 2 (some .int) 0 := ⟨tw_627, tw_625, tw_626, tw_106, by decide, by decide, by decide +kernel⟩
theorem mf_X11_rule : x_MV yX11_rule cX11_rule 2 (some .int) 0 := ⟨tw_872, tw_870, tw_871, tw_106, by decide, by decide, by decide +kernel⟩
theorem mf_X11_fault : x_MV yX11_fault cX11_fault 1 (some .int) 0 := ⟨tw_542, tw_540, tw_541, tw_106, by decide, by decide, by decide +kernel⟩
theorem mf_X11_dull : x_MV yX11_dull cX11_dull 5 (some .int) 3 := ⟨tw_882, tw_880, tw_881, tw_106, by decide, by decide, by decide +kernel⟩
theorem mf_X11_house : x_MV yX11_house cX11_house 2 (some .int) 1 := ⟨tw_906, tw_904, tw_905, tw_106, by decide, by decide, by decide +kernel⟩
theorem mf_X11_look : x_MV yX11_look cX11_look 4 none 3 := ⟨tw_919, tw_917, tw_918, tw_106, by decide, by decide, by decide +kernel⟩
theorem mf_X11_pack : x_MV yX11_pack cX11_pack 4 (some .int) 3 := ⟨tw_937, tw_935, tw_936, tw_106, by decide, by decide, by decide +kernel⟩
theorem mf_X11_card : x_MV yX11_card cX11_card 3 (some .int) 2 := ⟨tw_954, tw_952, tw_953, tw_106, by decide, by decide, by decide +kernel⟩
theorem mf_X11_put : x_MV yX11_put cX11_put 8 (some .int) 5 := ⟨tw_973, tw_971, tw_972, tw_106, by decide, by decide, by decide +kernel⟩
theorem mf_X11_later : x_MV yX11_later cX11_later 2 (some .int) 1 := ⟨tw_1025, tw_1023, tw_1024, tw_106, by decide, by decide, by decide +kernel⟩
theorem mf_X11_go : x_MV yX11_go cX11_go 5 (some .int) 2 := ⟨tw_1033, tw_1031, tw_1032, tw_106, by decide, by decide, by decide +kernel⟩
theorem mf_X11_about : x_MV yX11_about cX11_about 7 (some .int) 3 := ⟨tw_1051, tw_1049, tw_1050, tw_106, by decide, by decide, by decide +kernel⟩
theorem mf_X11_holds : x_MV yX11_holds cX11_holds 4 (some .int) 3 := ⟨tw_1101, tw_1099, tw_1100, tw_106, by decide, by decide, by decide +kernel⟩
theorem mf_X11_awaited : x_MV yX11_awaited cX11_awaited 3 (some .int) 2 := ⟨tw_1144, tw_1142, tw_1143, tw_106, by decide, by decide, by decide +kernel⟩
theorem mf_X11_say : x_MV yX11_say cX11_say 4 (some .int) 3 := ⟨tw_1159, tw_1157, tw_1158, tw_106, by decide, by decide, by decide +kernel⟩
theorem mf_X11_kind : x_MV yX11_kind cX11_kind 3 (some .int) 2 := ⟨tw_1202, tw_1200, tw_1201, tw_106, by decide, by decide, by decide +kernel⟩
theorem mf_X11_run : x_MV yX11_run cX11_run 7 (some .int) 3 := ⟨tw_1209, tw_1207, tw_1208, tw_106, by decide, by decide, by decide +kernel⟩
theorem mf_X11_odds : x_MV yX11_odds cX11_odds 13 (some .int) 5 := ⟨tw_1241, tw_1239, tw_1240, tw_106, by decide, by decide, by decide +kernel⟩
theorem mf_X11_kinds : x_MV yX11_kinds cX11_kinds 5 (some .int) 2 := ⟨tw_1256, tw_1254, tw_1255, tw_106, by decide, by decide, by decide +kernel⟩
theorem mf_X11_score : x_MV yX11_score cX11_score 4 (some .int) 2 := ⟨tw_1264, tw_1262, tw_1263, tw_106, by decide, by decide, by decide +kernel⟩
theorem mf_X11_fits : x_MV yX11_fits cX11_fits 6 (some .int) 2 := ⟨tw_1284, tw_1282, tw_1283, tw_106, by decide, by decide, by decide +kernel⟩
theorem mf_X11_lacks : x_MV yX11_lacks cX11_lacks 4 (some .int) 2 := ⟨tw_1295, tw_1293, tw_1294, tw_106, by decide, by decide, by decide +kernel⟩
theorem mf_X11_guess : x_MV yX11_guess cX11_guess 6 (some .int) 3 := ⟨tw_1315, tw_1313, tw_1314, tw_106, by decide, by decide, by decide +kernel⟩
theorem mf_X11_moment : x_MV yX11_moment cX11_moment 2 (some .int) 1 := ⟨tw_1347, tw_1345, tw_1346, tw_106, by decide, by decide, by decide +kernel⟩
theorem mf_X11_moments : x_MV yX11_moments cX11_moments 2 (some .int) 0 := ⟨tw_546, tw_544, tw_545, tw_106, by decide, by decide, by decide +kernel⟩
theorem mf_X11_again : x_MV yX11_again cX11_again 12 (some .int) 5 := ⟨tw_1361, tw_1359, tw_1360, tw_106, by decide, by decide, by decide +kernel⟩
theorem mf_X11_houses : x_MV yX11_houses cX11_houses 6 (some .int) 4 := ⟨tw_1387, tw_1385, tw_1386, tw_106, by decide, by decide, by decide +kernel⟩
theorem mf_X11_unlike : x_MV yX11_unlike cX11_unlike 7 (some .int) 2 := ⟨tw_550, tw_548, tw_549, tw_106, by decide, by decide, by decide +kernel⟩
theorem mf_X11_per : x_MV yX11_per cX11_per 12 (some .int) 5 := ⟨tw_1399, tw_1397, tw_1398, tw_106, by decide, by decide, by decide +kernel⟩
theorem mf_X11_plan : x_MV yX11_plan cX11_plan 8 (some .int) 5 := ⟨tw_1413, tw_1411, tw_1412, tw_106, by decide, by decide, by decide +kernel⟩
theorem mf_X11_last : x_MV yX11_last cX11_last 8 (some .int) 3 := ⟨tw_1452, tw_1450, tw_1451, tw_106, by decide, by decide, by decide +kernel⟩
theorem mf_X11_chance : x_MV yX11_chance cX11_chance 3 none 2 := ⟨tw_1460, tw_1458, tw_1459, tw_106, by decide, by decide, by decide +kernel⟩
theorem mf_X11_risk : x_MV yX11_risk cX11_risk 9 (some .long) 2 := ⟨tw_1468, tw_1466, tw_1467, tw_106, by decide, by decide, by decide +kernel⟩
theorem mf_X11_week : x_MV yX11_week cX11_week 2 (some .int) 1 := ⟨tw_1483, tw_1481, tw_1482, tw_106, by decide, by decide, by decide +kernel⟩
theorem mf_X11_rates : x_MV yX11_rates cX11_rates 7 (some .int) 2 := ⟨tw_1492, tw_1490, tw_1491, tw_106, by decide, by decide, by decide +kernel⟩
theorem mf_X11_dullest : x_MV yX11_dullest cX11_dullest 1 (some .int) 0 := ⟨tw_562, tw_560, tw_561, tw_106, by decide, by decide, by decide +kernel⟩
theorem mf_X11_change : x_MV yX11_change cX11_change 2 (some .int) 1 := ⟨tw_1516, tw_1514, tw_1515, tw_106, by decide, by decide, by decide +kernel⟩
theorem mf_X11_image : x_MV yX11_image cX11_image 1 none 0 := ⟨tw_581, tw_579, tw_580, tw_106, by decide, by decide, by decide +kernel⟩
theorem mf_X11_back : x_MV yX11_back cX11_back 1 (some .boolean) 0 := ⟨tw_601, tw_599, tw_600, tw_106, by decide, by decide, by decide +kernel⟩
theorem mf_X11_count : x_MV yX11_count cX11_count 2 (some .int) 1 := ⟨tw_605, tw_603, tw_604, tw_106, by decide, by decide, by decide +kernel⟩
theorem mf_X11_checkLaw : x_MV yX11_checkLaw cX11_checkLaw 2 none 1 := ⟨tw_1105, tw_1104, tw_23, tw_106, by decide, by decide, by decide +kernel⟩
theorem mf_X11_checkRule : x_MV yX11_checkRule cX11_checkRule 2 none 1 := ⟨tw_1268, tw_1267, tw_29, tw_106, by decide, by decide, by decide +kernel⟩
theorem mf_X11_checkHouse : x_MV yX11_checkHouse cX11_checkHouse 2 none 1 := ⟨tw_927, tw_926, tw_16, tw_106, by decide, by decide, by decide +kernel⟩
theorem mf_X11_checkDoor : x_MV yX11_checkDoor cX11_checkDoor 3 none 2 := ⟨tw_923, tw_922, tw_15, tw_106, by decide, by decide, by decide +kernel⟩
theorem mf_X11_checkPack : x_MV yX11_checkPack cX11_checkPack 2 none 1 := ⟨tw_962, tw_961, tw_18, tw_106, by decide, by decide, by decide +kernel⟩
theorem mf_X11_checkPlaceIn : x_MV yX11_checkPlaceIn cX11_checkPlaceIn 3 none 2 := ⟨tw_958, tw_957, tw_17, tw_106, by decide, by decide, by decide +kernel⟩
theorem mf_X11_checkPut : x_MV yX11_checkPut cX11_checkPut 2 none 1 := ⟨tw_1037, tw_1036, tw_22, tw_106, by decide, by decide, by decide +kernel⟩
theorem mf_X11_checkPer : x_MV yX11_checkPer cX11_checkPer 2 none 1 := ⟨tw_993, tw_992, tw_19, tw_106, by decide, by decide, by decide +kernel⟩
theorem mf_X11_checkSeconds : x_MV yX11_checkSeconds cX11_checkSeconds 2 none 1 := ⟨tw_998, tw_997, tw_20, tw_106, by decide, by decide, by decide +kernel⟩
theorem mf_X11_checkClock : x_MV yX11_checkClock cX11_checkClock 2 none 1 := ⟨tw_1008, tw_1007, tw_21, tw_106, by decide, by decide, by decide +kernel⟩
theorem mf_X11_checkPlanned : x_MV yX11_checkPlanned cX11_checkPlanned 3 none 1 := ⟨tw_1417, tw_1416, tw_34, tw_106, by decide, by decide, by decide +kernel⟩
theorem mf_X11_isStep : x_MS yX11_isStep cX11_isStep 1 (some .boolean) 1 := ⟨tw_940, tw_939, tw_106, by decide, by decide, by decide +kernel⟩
theorem mf_X11_nextSeed : x_MS yX11_nextSeed cX11_nextSeed 1 (some .int) 1 := ⟨tw_1212, tw_1211, tw_106, by decide, by decide, by decide +kernel⟩
theorem mf_X11_drawOf : x_MS yX11_drawOf cX11_drawOf 1 (some .int) 1 := ⟨tw_1216, tw_1215, tw_106, by decide, by decide, by decide +kernel⟩
theorem mf_X11_commonPart : x_MS yX11_commonPart cX11_commonPart 11 (some .long) 2 := ⟨tw_1249, tw_1248, tw_106, by decide, by decide, by decide +kernel⟩
theorem mf_X11_oddsOfWhole : x_MV yX11_oddsOfWhole cX11_oddsOfWhole 10 (some .long) 2 := ⟨tw_1473, tw_1472, tw_36, tw_106, by decide, by decide, by decide +kernel⟩
theorem mf_X11_waysToChoose : x_MS yX11_waysToChoose cX11_waysToChoose 5 (some .long) 2 := ⟨tw_1476, tw_1475, tw_106, by decide, by decide, by decide +kernel⟩
theorem mf_X11_weekAfter : x_MS yX11_weekAfter cX11_weekAfter 3 (some .int) 3 := ⟨tw_1501, tw_1500, tw_106, by decide, by decide, by decide +kernel⟩
theorem mf_X11_isRate : x_MV yX11_isRate cX11_isRate 4 (some .boolean) 2 := ⟨tw_1498, tw_1497, tw_37, tw_106, by decide, by decide, by decide +kernel⟩
theorem mf_X11_nextWeekEdge : x_MV yX11_nextWeekEdge cX11_nextWeekEdge 9 (some .int) 4 := ⟨tw_1508, tw_1507, tw_38, tw_106, by decide, by decide, by decide +kernel⟩
theorem mf_X12_thrown : x_MV yX12_thrown cX12_thrown 1 (some .int) 0 := ⟨tw_1536, tw_1534, tw_1535, tw_117, by decide, by decide, by decide +kernel⟩
theorem mf_X12_image : x_MV yX12_image cX12_image 2 none 0 := ⟨tw_1619, tw_1617, tw_1618, tw_117, by decide, by decide, by decide +kernel⟩
theorem mf_X12_back : x_MV yX12_back cX12_back 2 (some .boolean) 0 := ⟨tw_1623, tw_1621, tw_1622, tw_117, by decide, by decide, by decide +kernel⟩
theorem mf_X12_feed : x_MV yX12_feed cX12_feed 7 (some .int) 5 := ⟨tw_1627, tw_1625, tw_1626, tw_117, by decide, by decide, by decide +kernel⟩
theorem mf_X12_end : x_MV yX12_end cX12_end 2 (some .boolean) 1 := ⟨tw_1631, tw_1629, tw_1630, tw_117, by decide, by decide, by decide +kernel⟩
theorem mf_X12_isWord : x_MV yX12_isWord cX12_isWord 4 (some .boolean) 1 := ⟨tw_1674, tw_1673, tw_47, tw_117, by decide, by decide, by decide +kernel⟩
theorem mf_X12_passes : x_MV yX12_passes cX12_passes 2 (some .boolean) 1 := ⟨tw_1706, tw_1705, tw_51, tw_117, by decide, by decide, by decide +kernel⟩
theorem mf_X12_number : x_MV yX12_number cX12_number 2 (some .int) 0 := ⟨tw_1681, tw_1680, tw_48, tw_117, by decide, by decide, by decide +kernel⟩
theorem mf_X12_fault : x_MV yX12_fault cX12_fault 1 (some .int) 0 := ⟨tw_1635, tw_1633, tw_1634, tw_117, by decide, by decide, by decide +kernel⟩
theorem mf_X12_emits : x_MV yX12_emits cX12_emits 4 none 2 := ⟨tw_1723, tw_1722, tw_55, tw_117, by decide, by decide, by decide +kernel⟩
theorem mf_X12_factAt : x_MV yX12_factAt cX12_factAt 1 (some .int) 0 := ⟨tw_1689, tw_1688, tw_50, tw_117, by decide, by decide, by decide +kernel⟩
theorem mf_X12_tagAt : x_MV yX12_tagAt cX12_tagAt 1 (some .int) 0 := ⟨tw_1727, tw_1726, tw_56, tw_117, by decide, by decide, by decide +kernel⟩
theorem mf_X12_readPart : x_MV yX12_readPart cX12_readPart 2 (some .boolean) 0 := ⟨tw_1738, tw_1737, tw_58, tw_117, by decide, by decide, by decide +kernel⟩
theorem mf_X12_readSum : x_MV yX12_readSum cX12_readSum 1 (some .boolean) 0 := ⟨tw_1734, tw_1733, tw_57, tw_117, by decide, by decide, by decide +kernel⟩
theorem mf_X12_readAtom : x_MV yX12_readAtom cX12_readAtom 3 (some .boolean) 0 := ⟨tw_1718, tw_1717, tw_54, tw_117, by decide, by decide, by decide +kernel⟩
theorem mf_X12_readAllOf : x_MV yX12_readAllOf cX12_readAllOf 1 (some .boolean) 0 := ⟨tw_1714, tw_1713, tw_53, tw_117, by decide, by decide, by decide +kernel⟩
theorem mf_X12_readCond : x_MV yX12_readCond cX12_readCond 1 (some .boolean) 0 := ⟨tw_1710, tw_1709, tw_52, tw_117, by decide, by decide, by decide +kernel⟩
theorem mf_X12_readLine : x_MV yX12_readLine cX12_readLine 3 (some .boolean) 1 := ⟨tw_1659, tw_1658, tw_45, tw_117, by decide, by decide, by decide +kernel⟩
theorem mf_X12_readAll : x_MV yX12_readAll cX12_readAll 2 (some .int) 0 := ⟨tw_1647, tw_1646, tw_42, tw_117, by decide, by decide, by decide +kernel⟩
theorem mf_X12_keeps : x_MV yX12_keeps cX12_keeps 8 (some .int) 4 := ⟨tw_1643, tw_1642, tw_41, tw_117, by decide, by decide, by decide +kernel⟩
theorem mf_X12_law : x_MV yX12_law cX12_law 1 (some .int) 0 := ⟨tw_1639, tw_1637, tw_1638, tw_117, by decide, by decide, by decide +kernel⟩
theorem mf_X12_rule : x_MV yX12_rule cX12_rule 1 (some .int) 0 := ⟨tw_1748, tw_1746, tw_1747, tw_117, by decide, by decide, by decide +kernel⟩
theorem mf_X12_dull : x_MV yX12_dull cX12_dull 5 (some .int) 3 := ⟨tw_1752, tw_1750, tw_1751, tw_117, by decide, by decide, by decide +kernel⟩
theorem mf_X12_house : x_MV yX12_house cX12_house 4 (some .int) 1 := ⟨tw_1769, tw_1767, tw_1768, tw_117, by decide, by decide, by decide +kernel⟩
theorem mf_X12_look : x_MV yX12_look cX12_look 4 none 3 := ⟨tw_1773, tw_1771, tw_1772, tw_117, by decide, by decide, by decide +kernel⟩
theorem mf_X12_pack : x_MV yX12_pack cX12_pack 6 (some .int) 3 := ⟨tw_1789, tw_1787, tw_1788, tw_117, by decide, by decide, by decide +kernel⟩
theorem mf_X12_card : x_MV yX12_card cX12_card 3 (some .int) 2 := ⟨tw_1797, tw_1795, tw_1796, tw_117, by decide, by decide, by decide +kernel⟩
theorem mf_X12_put : x_MV yX12_put cX12_put 8 (some .int) 5 := ⟨tw_1817, tw_1815, tw_1816, tw_117, by decide, by decide, by decide +kernel⟩
theorem mf_X12_later : x_MV yX12_later cX12_later 2 (some .int) 1 := ⟨tw_1840, tw_1838, tw_1839, tw_117, by decide, by decide, by decide +kernel⟩
theorem mf_X12_go : x_MV yX12_go cX12_go 3 (some .int) 2 := ⟨tw_1844, tw_1842, tw_1843, tw_117, by decide, by decide, by decide +kernel⟩
theorem mf_X12_about : x_MV yX12_about cX12_about 5 (some .int) 3 := ⟨tw_1848, tw_1846, tw_1847, tw_117, by decide, by decide, by decide +kernel⟩
theorem mf_X12_holds : x_MV yX12_holds cX12_holds 4 (some .int) 3 := ⟨tw_1880, tw_1878, tw_1879, tw_117, by decide, by decide, by decide +kernel⟩
theorem mf_X12_awaited : x_MV yX12_awaited cX12_awaited 3 (some .int) 2 := ⟨tw_1906, tw_1904, tw_1905, tw_117, by decide, by decide, by decide +kernel⟩
theorem mf_X12_say : x_MV yX12_say cX12_say 4 (some .int) 3 := ⟨tw_1914, tw_1912, tw_1913, tw_117, by decide, by decide, by decide +kernel⟩
theorem mf_X12_kind : x_MV yX12_kind cX12_kind 3 (some .int) 2 := ⟨tw_1938, tw_1936, tw_1937, tw_117, by decide, by decide, by decide +kernel⟩
theorem mf_X12_run : x_MV yX12_run cX12_run 10 (some .int) 3 := ⟨tw_1942, tw_1940, tw_1941, tw_117, by decide, by decide, by decide +kernel⟩
theorem mf_X12_odds : x_MV yX12_odds cX12_odds 10 (some .int) 5 := ⟨tw_1966, tw_1964, tw_1965, tw_117, by decide, by decide, by decide +kernel⟩
theorem mf_X12_kinds : x_MV yX12_kinds cX12_kinds 3 (some .int) 2 := ⟨tw_1974, tw_1972, tw_1973, tw_117, by decide, by decide, by decide +kernel⟩
theorem mf_X12_score : x_MV yX12_score cX12_score 3 (some .int) 2 := ⟨tw_1978, tw_1976, tw_1977, tw_117, by decide, by decide, by decide +kernel⟩
theorem mf_X12_fits : x_MV yX12_fits cX12_fits 5 (some .int) 2 := ⟨tw_1990, tw_1988, tw_1989, tw_117, by decide, by decide, by decide +kernel⟩
theorem mf_X12_lacks : x_MV yX12_lacks cX12_lacks 3 (some .int) 2 := ⟨tw_1994, tw_1992, tw_1993, tw_117, by decide, by decide, by decide +kernel⟩
theorem mf_X12_guess : x_MV yX12_guess cX12_guess 10 (some .int) 3 := ⟨tw_2010, tw_2008, tw_2009, tw_117, by decide, by decide, by decide +kernel⟩
theorem mf_X12_moment : x_MV yX12_moment cX12_moment 3 (some .int) 1 := ⟨tw_2018, tw_2016, tw_2017, tw_117, by decide, by decide, by decide +kernel⟩
theorem mf_X12_moments : x_MV yX12_moments cX12_moments 2 (some .int) 0 := ⟨tw_2023, tw_2021, tw_2022, tw_117, by decide, by decide, by decide +kernel⟩
theorem mf_X12_again : x_MV yX12_again cX12_again 12 (some .int) 5 := ⟨tw_2027, tw_2025, tw_2026, tw_117, by decide, by decide, by decide +kernel⟩
theorem mf_X12_houses : x_MV yX12_houses cX12_houses 7 (some .int) 4 := ⟨tw_2040, tw_2038, tw_2039, tw_117, by decide, by decide, by decide +kernel⟩
theorem mf_X12_unlike : x_MV yX12_unlike cX12_unlike 9 (some .int) 2 := ⟨tw_2044, tw_2042, tw_2043, tw_117, by decide, by decide, by decide +kernel⟩
theorem mf_X12_per : x_MV yX12_per cX12_per 11 (some .int) 5 := ⟨tw_2048, tw_2046, tw_2047, tw_117, by decide, by decide, by decide +kernel⟩
theorem mf_X12_plan : x_MV yX12_plan cX12_plan 18 (some .int) 5 := ⟨tw_2056, tw_2054, tw_2055, tw_117, by decide, by decide, by decide +kernel⟩
theorem mf_X12_last : x_MV yX12_last cX12_last 8 (some .int) 3 := ⟨tw_2060, tw_2058, tw_2059, tw_117, by decide, by decide, by decide +kernel⟩
theorem mf_X12_chance : x_MV yX12_chance cX12_chance 3 none 2 := ⟨tw_2064, tw_2062, tw_2063, tw_117, by decide, by decide, by decide +kernel⟩
theorem mf_X12_risk : x_MV yX12_risk cX12_risk 5 (some .long) 2 := ⟨tw_2068, tw_2066, tw_2067, tw_117, by decide, by decide, by decide +kernel⟩
theorem mf_X12_week : x_MV yX12_week cX12_week 2 (some .int) 1 := ⟨tw_2077, tw_2075, tw_2076, tw_117, by decide, by decide, by decide +kernel⟩
theorem mf_X12_rates : x_MV yX12_rates cX12_rates 12 (some .int) 2 := ⟨tw_2081, tw_2079, tw_2080, tw_117, by decide, by decide, by decide +kernel⟩
theorem mf_X12_dullest : x_MV yX12_dullest cX12_dullest 9 (some .int) 0 := ⟨tw_2089, tw_2087, tw_2088, tw_117, by decide, by decide, by decide +kernel⟩
theorem mf_X12_change : x_MV yX12_change cX12_change 8 (some .int) 1 := ⟨tw_2093, tw_2091, tw_2092, tw_117, by decide, by decide, by decide +kernel⟩
theorem mf_X12_count : x_MV yX12_count cX12_count 4 (some .int) 1 := ⟨tw_2105, tw_2103, tw_2104, tw_117, by decide, by decide, by decide +kernel⟩
theorem mf_J0_length_8abf5 : x_MV yJ0_length_8abf5 cJ0_length_8abf5 1 (some .int) 0 := ⟨tw_662, tw_660, tw_661, tw_118, by decide, by decide, by decide +kernel⟩
theorem mf_J0_charAt_5068e : x_MV yJ0_charAt_5068e cJ0_charAt_5068e 2 (some .char) 1 := ⟨tw_672, tw_670, tw_671, tw_118, by decide, by decide, by decide +kernel⟩
theorem mf_J0_coder_7d493 : x_MV yJ0_coder_7d493 cJ0_coder_7d493 1 (some .byte) 0 := ⟨tw_666, tw_664, tw_665, tw_118, by decide, by decide, by decide +kernel⟩
theorem mf_J0_isLatin1_aae02 : x_MV yJ0_isLatin1_aae02 cJ0_isLatin1_aae02 1 (some .boolean) 0 := ⟨tw_676, tw_674, tw_675, tw_118, by decide, by decide, by decide +kernel⟩
theorem mf_J0_checkIndex_df160 : x_MS yJ0_checkIndex_df160 cJ0_checkIndex_df160 2 none 2 := ⟨tw_682, tw_681, tw_118, by decide, by decide, by decide +kernel⟩
theorem mf_J1_charAt_3b067 : x_MS yJ1_charAt_3b067 cJ1_charAt_3b067 2 (some .char) 2 := ⟨tw_679, tw_678, tw_119, by decide, by decide, by decide +kernel⟩
theorem mf_J2_getChar_3b067 : x_MS yJ2_getChar_3b067 cJ2_getChar_3b067 2 (some .char) 2 := ⟨tw_700, tw_699, tw_121, by decide, by decide, by decide +kernel⟩
theorem mf_J2_length_9d52b : x_MS yJ2_length_9d52b cJ2_length_9d52b 1 (some .int) 1 := ⟨tw_696, tw_695, tw_121, by decide, by decide, by decide +kernel⟩
theorem mf_J2_charAt_3b067 : x_MS yJ2_charAt_3b067 cJ2_charAt_3b067 2 (some .char) 2 := ⟨tw_690, tw_689, tw_121, by decide, by decide, by decide +kernel⟩
theorem mf_J2_checkIndex_2214a : x_MS yJ2_checkIndex_2214a cJ2_checkIndex_2214a 2 none 2 := ⟨tw_693, tw_692, tw_121, by decide, by decide, by decide +kernel⟩
theorem mf_J7_copyOf_59c91 : x_MS yJ7_copyOf_59c91 cJ7_copyOf_59c91 3 (some (.array .int)) 2 := ⟨tw_747, tw_746, tw_123, by decide, by decide, by decide +kernel⟩
theorem mf_J3_checkIndex_8e157 : x_MS yJ3_checkIndex_8e157 cJ3_checkIndex_8e157 3 (some .int) 3 := ⟨tw_687, tw_686, tw_120, by decide, by decide, by decide +kernel⟩
