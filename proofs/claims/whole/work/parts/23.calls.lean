def rm_X0_begin : Room := { frames := 0, cells := 0, slots := 0, locals := 0 }
def rm_X0_holds : Room := { frames := 0, cells := 0, slots := 0, locals := 0 }
def rm_X0_isThere : Room := { frames := 0, cells := 0, slots := 0, locals := 0 }
def rm_X0_numberAt : Room := { frames := 0, cells := 0, slots := 0, locals := 0 }
def rm_X0_letterAt : Room := { frames := 0, cells := 0, slots := 0, locals := 0 }
def rm_X0_pushNumber : Room := { frames := 0, cells := 0, slots := 0, locals := 0 }
def rm_X3_get : Room := { frames := 0, cells := 0, slots := 0, locals := 0 }
def rm_X0_pushText : Room := { frames := 1, cells := 0, slots := 0, locals := 21 }
def rm_X0_setNone : Room := { frames := 0, cells := 0, slots := 0, locals := 0 }
def rm_X0_pushNone : Room := { frames := 1, cells := 0, slots := 0, locals := 21 }
def rm_X0_setCopy : Room := { frames := 0, cells := 0, slots := 0, locals := 0 }
def rm_X0_pushCopy : Room := { frames := 1, cells := 0, slots := 0, locals := 24 }
def rm_X0_multiply : Room := { frames := 1, cells := 0, slots := 0, locals := 24 }
def rm_X0_spread : Room := { frames := 1, cells := 0, slots := 0, locals := 24 }
def rm_X0_become : Room := { frames := 2, cells := 0, slots := 0, locals := 46 }
def rm_X0_isSame : Room := { frames := 1, cells := 0, slots := 0, locals := 22 }
def rm_X0_isLike : Room := { frames := 2, cells := 0, slots := 0, locals := 48 }
def rm_X0_firstLike : Room := { frames := 2, cells := 0, slots := 0, locals := 48 }
def rm_X0_countAbsent : Room := { frames := 1, cells := 0, slots := 0, locals := 21 }
def rm_X0_countUnlike : Room := { frames := 3, cells := 0, slots := 0, locals := 70 }
def rm_X4_isSound : Room := { frames := 0, cells := 0, slots := 0, locals := 0 }
def rm_X1_countOnes : Room := { frames := 1, cells := 0, slots := 0, locals := 20 }
def rm_X1_pushNumbers : Room := { frames := 1, cells := 0, slots := 0, locals := 22 }
def rm_X4_demand : Room := { frames := 0, cells := 0, slots := 0, locals := 0 }
def rm_X4_left : Room := { frames := 0, cells := 0, slots := 0, locals := 0 }
def rm_X4_next : Room := { frames := 0, cells := 0, slots := 0, locals := 0 }
def rm_X4_nextPacked : Room := { frames := 1, cells := 0, slots := 0, locals := 21 }
def rm_X4_nextVar : Room := { frames := 1, cells := 0, slots := 0, locals := 23 }
def rm_X4_nextWidths : Room := { frames := 1, cells := 0, slots := 0, locals := 23 }
def rm_X5_unzigged : Room := { frames := 0, cells := 0, slots := 0, locals := 0 }
def rm_X4_nextDifferences : Room := { frames := 2, cells := 0, slots := 0, locals := 52 }
def rm_X4_nextText : Room := { frames := 2, cells := 0, slots := 0, locals := 45 }
def rm_X1_readLengths : Room := { frames := 3, cells := 0, slots := 0, locals := 85 }
def rm_X4_demandNothingLeft : Room := { frames := 1, cells := 0, slots := 0, locals := 23 }
def rm_X4_nextLittle : Room := { frames := 1, cells := 0, slots := 0, locals := 21 }
def rm_X4_fill : Room := { frames := 1, cells := 0, slots := 0, locals := 23 }
def rm_X5_bitsOf : Room := { frames := 0, cells := 0, slots := 0, locals := 0 }
def rm_X5_wholeGroups : Room := { frames := 0, cells := 0, slots := 0, locals := 0 }
def rm_X4_nextRuns : Room := { frames := 2, cells := 0, slots := 0, locals := 52 }
def rm_X1_readOwnRuns : Room := { frames := 3, cells := 0, slots := 0, locals := 87 }
def rm_X1_readPlaces : Room := { frames := 3, cells := 0, slots := 0, locals := 87 }
def rm_X1_readPlain : Room := { frames := 3, cells := 0, slots := 0, locals := 67 }
def rm_X1_readData : Room := { frames := 4, cells := 0, slots := 0, locals := 112 }
def rm_X1_readDictionary : Room := { frames := 4, cells := 0, slots := 0, locals := 93 }
def rm_X1_isDataCode : Room := { frames := 0, cells := 0, slots := 0, locals := 0 }
def rm_X4_expect : Room := { frames := 1, cells := 0, slots := 0, locals := 23 }
def rm_X1_nextZigField : Room := { frames := 2, cells := 0, slots := 0, locals := 47 }
def rm_X1_readHead : Room := { frames := 3, cells := 0, slots := 0, locals := 67 }
def rm_X4_begin : Room := { frames := 0, cells := 0, slots := 0, locals := 0 }
def rm_X1_readPages : Room := { frames := 5, cells := 0, slots := 0, locals := 134 }
def rm_X2_codeOf : Room := { frames := 0, cells := 0, slots := 0, locals := 0 }
def rm_X2_chooseThere : Room := { frames := 1, cells := 0, slots := 0, locals := 21 }
def rm_X2_gatherLevels : Room := { frames := 1, cells := 0, slots := 0, locals := 21 }
def rm_X2_gatherNumbers : Room := { frames := 1, cells := 0, slots := 0, locals := 21 }
def rm_X3_push : Room := { frames := 0, cells := 0, slots := 0, locals := 0 }
def rm_X2_pushLetters : Room := { frames := 1, cells := 0, slots := 0, locals := 22 }
def rm_X2_pushAllLetters : Room := { frames := 2, cells := 0, slots := 0, locals := 47 }
def rm_X3_pushVar : Room := { frames := 1, cells := 0, slots := 0, locals := 21 }
def rm_X5_zigged : Room := { frames := 0, cells := 0, slots := 0, locals := 0 }
def rm_X2_pushHead : Room := { frames := 2, cells := 0, slots := 0, locals := 46 }
def rm_X3_pushLittle : Room := { frames := 1, cells := 0, slots := 0, locals := 21 }
def rm_X3_equalFrom : Room := { frames := 0, cells := 0, slots := 0, locals := 0 }
def rm_X3_groupsEnd : Room := { frames := 1, cells := 0, slots := 0, locals := 23 }
def rm_X3_pushPacked : Room := { frames := 1, cells := 0, slots := 0, locals := 21 }
def rm_X3_pushRuns : Room := { frames := 2, cells := 0, slots := 0, locals := 52 }
def rm_X3_set : Room := { frames := 0, cells := 0, slots := 0, locals := 0 }
def rm_X3_tellLength : Room := { frames := 1, cells := 0, slots := 0, locals := 22 }
def rm_X2_pushOwnRuns : Room := { frames := 3, cells := 0, slots := 0, locals := 80 }
def rm_X2_pushPlaces : Room := { frames := 3, cells := 0, slots := 0, locals := 80 }
def rm_X2_pushPlain : Room := { frames := 2, cells := 0, slots := 0, locals := 52 }
def rm_X3_append : Room := { frames := 1, cells := 0, slots := 0, locals := 21 }
def rm_X3_clear : Room := { frames := 0, cells := 0, slots := 0, locals := 0 }
def rm_X3_lowerToLeast : Room := { frames := 1, cells := 0, slots := 0, locals := 23 }
def rm_X3_partWidth : Room := { frames := 1, cells := 0, slots := 0, locals := 23 }
def rm_X3_pushBlock : Room := { frames := 2, cells := 0, slots := 0, locals := 52 }
def rm_X3_pushDifferences : Room := { frames := 3, cells := 0, slots := 0, locals := 80 }
def rm_X2_dataPage : Room := { frames := 4, cells := 0, slots := 0, locals := 106 }
def rm_X2_chooseUnlike : Room := { frames := 3, cells := 0, slots := 0, locals := 70 }
def rm_X2_dictionaryPage : Room := { frames := 4, cells := 0, slots := 0, locals := 93 }
def rm_X2_writePages : Room := { frames := 5, cells := 0, slots := 0, locals := 130 }
def rm_X3_shorten : Room := { frames := 1, cells := 0, slots := 0, locals := 23 }
def rm_X5_columnAt : Room := { frames := 0, cells := 0, slots := 0, locals := 0 }
def rm_X5_column : Room := { frames := 1, cells := 0, slots := 0, locals := 22 }
def rm_X5_add : Room := { frames := 1, cells := 0, slots := 0, locals := 22 }
def rm_X5_type : Room := { frames := 1, cells := 0, slots := 0, locals := 21 }
def rm_X5_addText : Room := { frames := 2, cells := 0, slots := 0, locals := 45 }
def rm_X5_addNone : Room := { frames := 2, cells := 0, slots := 0, locals := 41 }
def rm_X5_repeat : Room := { frames := 2, cells := 0, slots := 0, locals := 48 }
def rm_X5_told : Room := { frames := 4, cells := 0, slots := 0, locals := 92 }
def rm_X5_has : Room := { frames := 1, cells := 0, slots := 0, locals := 21 }
def rm_X5_value : Room := { frames := 1, cells := 0, slots := 0, locals := 21 }
def rm_X5_letter : Room := { frames := 1, cells := 0, slots := 0, locals := 22 }
def rm_X5_alike : Room := { frames := 3, cells := 0, slots := 0, locals := 70 }
def rm_X5_write : Room := { frames := 6, cells := 0, slots := 0, locals := 155 }
def rm_X5_read : Room := { frames := 6, cells := 0, slots := 0, locals := 158 }
def rm_X5_fault : Room := { frames := 0, cells := 0, slots := 0, locals := 0 }
def rm_X5_size : Room := { frames := 0, cells := 0, slots := 0, locals := 0 }
def rm_X5_byteAt : Room := { frames := 1, cells := 0, slots := 0, locals := 21 }
def rm_X5_poke : Room := { frames := 1, cells := 0, slots := 0, locals := 22 }
def rm_X5_cut : Room := { frames := 2, cells := 0, slots := 0, locals := 44 }
def rm_X5_put : Room := { frames := 2, cells := 0, slots := 0, locals := 45 }
def rm_X6_in : Room := { frames := 0, cells := 0, slots := 0, locals := 0 }
def rm_X6_isColumn : Room := { frames := 1, cells := 0, slots := 0, locals := 25 }
def rm_X6_column : Room := { frames := 2, cells := 0, slots := 0, locals := 45 }
def rm_X6_adds : Room := { frames := 0, cells := 0, slots := 0, locals := 0 }
def rm_X6_add : Room := { frames := 2, cells := 0, slots := 0, locals := 45 }
def rm_X6_type : Room := { frames := 1, cells := 0, slots := 0, locals := 25 }
def rm_X6_addText : Room := { frames := 2, cells := 0, slots := 0, locals := 45 }
def rm_X6_addNone : Room := { frames := 2, cells := 0, slots := 0, locals := 45 }
def rm_X6_copies : Room := { frames := 0, cells := 0, slots := 0, locals := 0 }
def rm_X6_repeat : Room := { frames := 2, cells := 0, slots := 0, locals := 45 }
def rm_X6_areLike : Room := { frames := 0, cells := 0, slots := 0, locals := 0 }
def rm_X6_told : Room := { frames := 2, cells := 0, slots := 0, locals := 45 }
def rm_X6_isValue : Room := { frames := 2, cells := 0, slots := 0, locals := 45 }
def rm_X6_has : Room := { frames := 3, cells := 0, slots := 0, locals := 67 }
def rm_X6_value : Room := { frames := 3, cells := 0, slots := 0, locals := 67 }
def rm_X6_letter : Room := { frames := 3, cells := 0, slots := 0, locals := 67 }
def rm_X6_alike : Room := { frames := 2, cells := 0, slots := 0, locals := 45 }
def rm_X6_byteTo : Room := { frames := 0, cells := 0, slots := 0, locals := 0 }
def rm_X6_bytesTo : Room := { frames := 1, cells := 0, slots := 0, locals := 21 }
def rm_X6_var : Room := { frames := 1, cells := 0, slots := 0, locals := 21 }
def rm_X6_zig : Room := { frames := 2, cells := 0, slots := 0, locals := 45 }
def rm_X6_pack : Room := { frames := 1, cells := 0, slots := 0, locals := 21 }
def rm_X6_alikeFrom : Room := { frames := 0, cells := 0, slots := 0, locals := 0 }
def rm_X6_runs : Room := { frames := 2, cells := 0, slots := 0, locals := 50 }
def rm_X6_widthOf : Room := { frames := 0, cells := 0, slots := 0, locals := 0 }
def rm_X6_partWidth : Room := { frames := 1, cells := 0, slots := 0, locals := 24 }
def rm_X6_differences : Room := { frames := 3, cells := 0, slots := 0, locals := 67 }
def rm_X6_letters : Room := { frames := 1, cells := 0, slots := 0, locals := 21 }
def rm_X6_plain : Room := { frames := 2, cells := 0, slots := 0, locals := 45 }
def rm_X6_head : Room := { frames := 3, cells := 0, slots := 0, locals := 67 }
def rm_X6_makeDictionary : Room := { frames := 1, cells := 0, slots := 0, locals := 24 }
def rm_X6_headed : Room := { frames := 4, cells := 0, slots := 0, locals := 91 }
def rm_X6_sized : Room := { frames := 2, cells := 0, slots := 0, locals := 45 }
def rm_X6_page : Room := { frames := 5, cells := 0, slots := 0, locals := 117 }
def rm_X6_write : Room := { frames := 6, cells := 0, slots := 0, locals := 146 }
def rm_X6_fails : Room := { frames := 0, cells := 0, slots := 0, locals := 0 }
def rm_X6_next : Room := { frames := 1, cells := 0, slots := 0, locals := 22 }
def rm_X6_readVar : Room := { frames := 2, cells := 0, slots := 0, locals := 43 }
def rm_X6_readZig : Room := { frames := 3, cells := 0, slots := 0, locals := 69 }
def rm_X6_readBytes : Room := { frames := 2, cells := 0, slots := 0, locals := 43 }
def rm_X6_readPacked : Room := { frames := 2, cells := 0, slots := 0, locals := 43 }
def rm_X6_readRuns : Room := { frames := 3, cells := 0, slots := 0, locals := 69 }
def rm_X6_wants : Room := { frames := 3, cells := 0, slots := 0, locals := 69 }
def rm_X6_readDifferences : Room := { frames := 4, cells := 0, slots := 0, locals := 94 }
def rm_X6_reads : Room := { frames := 1, cells := 0, slots := 0, locals := 26 }
def rm_X6_readLetters : Room := { frames := 2, cells := 0, slots := 0, locals := 43 }
def rm_X6_readLength : Room := { frames := 3, cells := 0, slots := 0, locals := 67 }
def rm_X6_readPlain : Room := { frames := 4, cells := 0, slots := 0, locals := 91 }
def rm_X6_field : Room := { frames := 2, cells := 0, slots := 0, locals := 43 }
def rm_X6_fieldZig : Room := { frames := 4, cells := 0, slots := 0, locals := 91 }
def rm_X6_readInner : Room := { frames := 5, cells := 0, slots := 0, locals := 111 }
def rm_X6_readHead : Room := { frames := 6, cells := 0, slots := 0, locals := 135 }
def rm_X6_isOver : Room := { frames := 1, cells := 0, slots := 0, locals := 22 }
def rm_X6_readPlaces : Room := { frames := 4, cells := 0, slots := 0, locals := 102 }
def rm_X6_readTexts : Room := { frames := 5, cells := 0, slots := 0, locals := 127 }
def rm_X6_readValues : Room := { frames := 6, cells := 0, slots := 0, locals := 153 }
def rm_X6_readPage : Room := { frames := 7, cells := 0, slots := 0, locals := 179 }
def rm_X6_read : Room := { frames := 8, cells := 0, slots := 0, locals := 206 }
def rm_X6_fault : Room := { frames := 1, cells := 0, slots := 0, locals := 25 }
def rm_X6_size : Room := { frames := 0, cells := 0, slots := 0, locals := 0 }
def rm_X6_byteAt : Room := { frames := 1, cells := 0, slots := 0, locals := 25 }
def rm_X6_poke : Room := { frames := 1, cells := 0, slots := 0, locals := 25 }
def rm_X6_cut : Room := { frames := 1, cells := 0, slots := 0, locals := 25 }
def rm_X6_put : Room := { frames := 1, cells := 0, slots := 0, locals := 25 }
theorem math_X0_48 : gMath 48 RX0 Lib.Math.min.name Lib.Math.min.code 2 (some .int) := ⟨u_25, u_26, u_27, u_28⟩
theorem math_X2_47 : gMath 47 RX2 Lib.Math.max.name Lib.Math.max.code 2 (some .int) := ⟨u_29, u_30, u_27, u_31⟩
theorem math_X2_53 : gMath 53 RX2 Lib.Math.min.name Lib.Math.min.code 2 (some .int) := ⟨u_32, u_26, u_27, u_28⟩
theorem math_X3_23 : gMath 23 RX3 Lib.Math.min.name Lib.Math.min.code 2 (some .int) := ⟨u_33, u_26, u_27, u_28⟩
theorem math_X3_29 : gMath 29 RX3 Lib.Math.max.name Lib.Math.max.code 2 (some .int) := ⟨u_34, u_30, u_27, u_31⟩
theorem math_X3_89 : gMath 89 RX3 Lib.MathLoose.min_long.x Lib.MathLoose.min_long.code 4 (some .long) := ⟨u_35, u_36, u_27, u_37⟩
theorem math_X4_82 : gMath 82 RX4 Lib.Math.max.name Lib.Math.max.code 2 (some .int) := ⟨u_38, u_30, u_27, u_31⟩
theorem math_X4_96 : gMath 96 RX4 Lib.Math.min.name Lib.Math.min.code 2 (some .int) := ⟨u_39, u_26, u_27, u_28⟩
theorem ml_X0_34 : gMV 34 RX0 RX3 yX3_get cX3_get 2 (some .int) 1 := ⟨u_40, u_41, u_42, u_43, u_44, ⟨⟨by decide, by decide⟩, by decide +kernel⟩⟩
theorem ml_X0_40 : gMV 40 RX0 RX0 yX0_setNone cX0_setNone 2 none 1 := ⟨u_45, u_46, u_47, u_48, u_49, ⟨⟨by decide, by decide⟩, by decide +kernel⟩⟩
theorem ml_X0_44 : gMV 44 RX0 RX0 yX0_setCopy cX0_setCopy 5 none 3 := ⟨u_50, u_51, u_52, u_48, u_53, ⟨⟨by decide, by decide⟩, by decide +kernel⟩⟩
theorem ml_X0_54 : gMV 54 RX0 RX0 yX0_begin cX0_begin 3 none 2 := ⟨u_54, u_55, u_56, u_48, u_57, ⟨⟨by decide, by decide⟩, by decide +kernel⟩⟩
theorem ml_X0_58 : gMV 58 RX0 RX0 yX0_pushCopy cX0_pushCopy 3 none 2 := ⟨u_58, u_59, u_60, u_48, u_61, ⟨⟨by decide, by decide⟩, by decide +kernel⟩⟩
theorem ml_X0_62 : gMV 62 RX0 RX0 yX0_isThere cX0_isThere 2 (some .boolean) 1 := ⟨u_62, u_63, u_64, u_48, u_65, ⟨⟨by decide, by decide⟩, by decide +kernel⟩⟩
theorem ml_X0_66 : gMV 66 RX0 RX0 yX0_numberAt cX0_numberAt 2 (some .long) 1 := ⟨u_66, u_67, u_68, u_48, u_69, ⟨⟨by decide, by decide⟩, by decide +kernel⟩⟩
theorem ml_X0_70 : gMV 70 RX0 RX0 yX0_letterAt cX0_letterAt 3 (some .int) 2 := ⟨u_70, u_71, u_72, u_48, u_73, ⟨⟨by decide, by decide⟩, by decide +kernel⟩⟩
theorem ml_X0_73 : gMV 73 RX0 RX0 yX0_isSame cX0_isSame 7 (some .boolean) 3 := ⟨u_74, u_75, u_76, u_48, u_77, ⟨⟨by decide, by decide⟩, by decide +kernel⟩⟩
theorem ml_X0_77 : gMV 77 RX0 RX0 yX0_firstLike cX0_firstLike 3 (some .int) 1 := ⟨u_78, u_79, u_80, u_48, u_81, ⟨⟨by decide, by decide⟩, by decide +kernel⟩⟩
theorem ml_X1_100 : gMV 100 RX1 RX4 yX4_expect cX4_expect 3 none 1 := ⟨u_82, u_83, u_84, u_85, u_86, ⟨⟨by decide, by decide⟩, by decide +kernel⟩⟩
theorem ml_X1_105 : gMV 105 RX1 RX1 yX1_isDataCode cX1_isDataCode 3 (some .boolean) 1 := ⟨u_87, u_88, u_89, u_90, u_91, ⟨⟨by decide, by decide⟩, by decide +kernel⟩⟩
theorem ml_X1_115 : gMV 115 RX1 RX4 yX4_nextVar cX4_nextVar 5 (some .long) 0 := ⟨u_92, u_93, u_94, u_85, u_95, ⟨⟨by decide, by decide⟩, by decide +kernel⟩⟩
theorem ml_X1_118 : gMN 118 RX1 RX5 yX5_unzigged cX5_unzigged 2 (some .long) 1 := ⟨List.mem_of_getElem? (i := 0) rfl, u_96, u_97, u_98, ⟨⟨by decide, by decide⟩, by decide +kernel⟩⟩
theorem ml_X1_130 : gMV 130 RX1 RX1 yX1_readPlain cX1_readPlain 7 none 2 := ⟨u_99, u_100, u_101, u_90, u_102, ⟨⟨by decide, by decide⟩, by decide +kernel⟩⟩
theorem ml_X1_137 : gMV 137 RX1 RX1 yX1_readOwnRuns cX1_readOwnRuns 6 none 2 := ⟨u_103, u_104, u_105, u_90, u_106, ⟨⟨by decide, by decide⟩, by decide +kernel⟩⟩
theorem ml_X1_141 : gMV 141 RX1 RX1 yX1_countOnes cX1_countOnes 4 (some .int) 1 := ⟨u_107, u_108, u_109, u_90, u_110, ⟨⟨by decide, by decide⟩, by decide +kernel⟩⟩
theorem ml_X1_145 : gMV 145 RX1 RX4 yX4_nextDifferences cX4_nextDifferences 14 none 3 := ⟨u_111, u_112, u_113, u_85, u_114, ⟨⟨by decide, by decide⟩, by decide +kernel⟩⟩
theorem ml_X1_149 : gMV 149 RX1 RX1 yX1_pushNumbers cX1_pushNumbers 3 none 1 := ⟨u_115, u_116, u_117, u_90, u_118, ⟨⟨by decide, by decide⟩, by decide +kernel⟩⟩
theorem ml_X1_152 : gMV 152 RX1 RX1 yX1_readLengths cX1_readLengths 6 none 1 := ⟨u_119, u_120, u_121, u_90, u_122, ⟨⟨by decide, by decide⟩, by decide +kernel⟩⟩
theorem ml_X1_155 : gMV 155 RX1 RX1 yX1_readPlaces cX1_readPlaces 6 none 1 := ⟨u_123, u_124, u_125, u_90, u_126, ⟨⟨by decide, by decide⟩, by decide +kernel⟩⟩
theorem ml_X1_158 : gMV 158 RX1 RX0 yX0_spread cX0_spread 6 none 3 := ⟨u_127, u_128, u_129, u_48, u_130, ⟨⟨by decide, by decide⟩, by decide +kernel⟩⟩
theorem ml_X1_162 : gMV 162 RX1 RX4 yX4_nextLittle cX4_nextLittle 5 (some .long) 1 := ⟨u_131, u_132, u_133, u_85, u_134, ⟨⟨by decide, by decide⟩, by decide +kernel⟩⟩
theorem ml_X1_166 : gMV 166 RX1 RX4 yX4_nextRuns cX4_nextRuns 16 none 3 := ⟨u_135, u_136, u_137, u_85, u_138, ⟨⟨by decide, by decide⟩, by decide +kernel⟩⟩
theorem ml_X1_170 : gMV 170 RX1 RX0 yX0_pushNumber cX0_pushNumber 3 none 1 := ⟨u_139, u_140, u_141, u_48, u_142, ⟨⟨by decide, by decide⟩, by decide +kernel⟩⟩
theorem ml_X1_174 : gMN 174 RX1 RX5 yX5_wholeGroups cX5_wholeGroups 1 (some .int) 1 := ⟨List.mem_of_getElem? (i := 1) rfl, u_143, u_97, u_144, ⟨⟨by decide, by decide⟩, by decide +kernel⟩⟩
theorem ml_X1_177 : gMV 177 RX1 RX4 yX4_nextPacked cX4_nextPacked 12 none 5 := ⟨u_145, u_146, u_147, u_85, u_148, ⟨⟨by decide, by decide⟩, by decide +kernel⟩⟩
theorem ml_X1_181 : gMV 181 RX1 RX4 yX4_nextText cX4_nextText 3 none 2 := ⟨u_149, u_150, u_151, u_85, u_152, ⟨⟨by decide, by decide⟩, by decide +kernel⟩⟩
theorem ml_X1_186 : gMV 186 RX1 RX4 yX4_next cX4_next 2 (some .int) 0 := ⟨u_153, u_154, u_155, u_85, u_156, ⟨⟨by decide, by decide⟩, by decide +kernel⟩⟩
theorem ml_X1_189 : gMV 189 RX1 RX0 yX0_pushCopy cX0_pushCopy 3 none 2 := ⟨u_157, u_59, u_60, u_48, u_61, ⟨⟨by decide, by decide⟩, by decide +kernel⟩⟩
theorem ml_X1_35 : gMV 35 RX1 RX4 yX4_begin cX4_begin 2 none 1 := ⟨u_158, u_159, u_160, u_85, u_161, ⟨⟨by decide, by decide⟩, by decide +kernel⟩⟩
theorem ml_X1_39 : gMV 39 RX1 RX0 yX0_begin cX0_begin 3 none 2 := ⟨u_162, u_55, u_56, u_48, u_57, ⟨⟨by decide, by decide⟩, by decide +kernel⟩⟩
theorem ml_X1_50 : gMV 50 RX1 RX4 yX4_isSound cX4_isSound 1 (some .boolean) 0 := ⟨u_163, u_164, u_165, u_85, u_166, ⟨⟨by decide, by decide⟩, by decide +kernel⟩⟩
theorem ml_X1_54 : gMV 54 RX1 RX4 yX4_left cX4_left 1 (some .int) 0 := ⟨u_167, u_168, u_169, u_85, u_170, ⟨⟨by decide, by decide⟩, by decide +kernel⟩⟩
theorem ml_X1_58 : gMV 58 RX1 RX1 yX1_readHead cX1_readHead 14 none 0 := ⟨u_171, u_172, u_173, u_90, u_174, ⟨⟨by decide, by decide⟩, by decide +kernel⟩⟩
theorem ml_X1_64 : gMV 64 RX1 RX1 yX1_readDictionary cX1_readDictionary 1 none 0 := ⟨u_175, u_176, u_177, u_90, u_178, ⟨⟨by decide, by decide⟩, by decide +kernel⟩⟩
theorem ml_X1_67 : gMV 67 RX1 RX1 yX1_readData cX1_readData 3 none 0 := ⟨u_179, u_180, u_181, u_90, u_182, ⟨⟨by decide, by decide⟩, by decide +kernel⟩⟩
theorem ml_X1_70 : gMV 70 RX1 RX4 yX4_demandNothingLeft cX4_demandNothingLeft 1 none 0 := ⟨u_183, u_184, u_185, u_85, u_186, ⟨⟨by decide, by decide⟩, by decide +kernel⟩⟩
theorem ml_X1_84 : gMV 84 RX1 RX1 yX1_nextZigField cX1_nextZigField 1 (some .long) 0 := ⟨u_187, u_188, u_189, u_90, u_190, ⟨⟨by decide, by decide⟩, by decide +kernel⟩⟩
theorem ml_X1_96 : gMV 96 RX1 RX4 yX4_demand cX4_demand 4 none 3 := ⟨u_191, u_192, u_193, u_85, u_194, ⟨⟨by decide, by decide⟩, by decide +kernel⟩⟩
theorem ml_X2_103 : gMV 103 RX2 RX3 yX3_pushDifferences cX3_pushDifferences 7 none 3 := ⟨u_195, u_196, u_197, u_43, u_198, ⟨⟨by decide, by decide⟩, by decide +kernel⟩⟩
theorem ml_X2_107 : gMV 107 RX2 RX2 yX2_pushAllLetters cX2_pushAllLetters 3 none 1 := ⟨u_199, u_200, u_201, u_202, u_203, ⟨⟨by decide, by decide⟩, by decide +kernel⟩⟩
theorem ml_X2_110 : gMV 110 RX2 RX2 yX2_pushPlaces cX2_pushPlaces 3 none 0 := ⟨u_204, u_205, u_206, u_202, u_207, ⟨⟨by decide, by decide⟩, by decide +kernel⟩⟩
theorem ml_X2_113 : gMV 113 RX2 RX3 yX3_push cX3_push 2 none 1 := ⟨u_208, u_209, u_210, u_43, u_211, ⟨⟨by decide, by decide⟩, by decide +kernel⟩⟩
theorem ml_X2_116 : gMN 116 RX2 RX5 yX5_zigged cX5_zigged 2 (some .long) 1 := ⟨List.mem_of_getElem? (i := 2) rfl, u_212, u_97, u_213, ⟨⟨by decide, by decide⟩, by decide +kernel⟩⟩
theorem ml_X2_120 : gMV 120 RX2 RX3 yX3_pushVar cX3_pushVar 6 none 1 := ⟨u_214, u_215, u_216, u_43, u_217, ⟨⟨by decide, by decide⟩, by decide +kernel⟩⟩
theorem ml_X2_125 : gMV 125 RX2 RX0 yX0_isThere cX0_isThere 2 (some .boolean) 1 := ⟨u_218, u_63, u_64, u_48, u_65, ⟨⟨by decide, by decide⟩, by decide +kernel⟩⟩
theorem ml_X2_129 : gMV 129 RX2 RX0 yX0_firstLike cX0_firstLike 3 (some .int) 1 := ⟨u_219, u_79, u_80, u_48, u_81, ⟨⟨by decide, by decide⟩, by decide +kernel⟩⟩
theorem ml_X2_133 : gMV 133 RX2 RX0 yX0_numberAt cX0_numberAt 2 (some .long) 1 := ⟨u_220, u_67, u_68, u_48, u_69, ⟨⟨by decide, by decide⟩, by decide +kernel⟩⟩
theorem ml_X2_137 : gMV 137 RX2 RX3 yX3_pushLittle cX3_pushLittle 5 none 2 := ⟨u_221, u_222, u_223, u_43, u_224, ⟨⟨by decide, by decide⟩, by decide +kernel⟩⟩
theorem ml_X2_141 : gMV 141 RX2 RX3 yX3_pushRuns cX3_pushRuns 9 none 3 := ⟨u_225, u_226, u_227, u_43, u_228, ⟨⟨by decide, by decide⟩, by decide +kernel⟩⟩
theorem ml_X2_145 : gMV 145 RX2 RX3 yX3_tellLength cX3_tellLength 4 none 1 := ⟨u_229, u_230, u_231, u_43, u_232, ⟨⟨by decide, by decide⟩, by decide +kernel⟩⟩
theorem ml_X2_148 : gMN 148 RX2 RX5 yX5_wholeGroups cX5_wholeGroups 1 (some .int) 1 := ⟨List.mem_of_getElem? (i := 3) rfl, u_143, u_97, u_144, ⟨⟨by decide, by decide⟩, by decide +kernel⟩⟩
theorem ml_X2_151 : gMV 151 RX2 RX3 yX3_pushPacked cX3_pushPacked 12 none 5 := ⟨u_233, u_234, u_235, u_43, u_236, ⟨⟨by decide, by decide⟩, by decide +kernel⟩⟩
theorem ml_X2_155 : gMV 155 RX2 RX2 yX2_pushLetters cX2_pushLetters 6 none 2 := ⟨u_237, u_238, u_239, u_202, u_240, ⟨⟨by decide, by decide⟩, by decide +kernel⟩⟩
theorem ml_X2_159 : gMV 159 RX2 RX0 yX0_letterAt cX0_letterAt 3 (some .int) 2 := ⟨u_241, u_71, u_72, u_48, u_73, ⟨⟨by decide, by decide⟩, by decide +kernel⟩⟩
theorem ml_X2_162 : gMN 162 RX2 RX5 yX5_bitsOf cX5_bitsOf 3 (some .int) 1 := ⟨List.mem_of_getElem? (i := 4) rfl, u_242, u_97, u_243, ⟨⟨by decide, by decide⟩, by decide +kernel⟩⟩
theorem ml_X2_34 : gMV 34 RX2 RX3 yX3_clear cX3_clear 1 none 0 := ⟨u_244, u_245, u_246, u_43, u_247, ⟨⟨by decide, by decide⟩, by decide +kernel⟩⟩
theorem ml_X2_43 : gMV 43 RX2 RX2 yX2_dictionaryPage cX2_dictionaryPage 2 none 1 := ⟨u_248, u_249, u_250, u_202, u_251, ⟨⟨by decide, by decide⟩, by decide +kernel⟩⟩
theorem ml_X2_59 : gMS 59 RX2 yX2_codeOf cX2_codeOf 2 (some .int) 2 := ⟨u_252, u_253, u_202, u_254, ⟨⟨by decide, by decide⟩, by decide +kernel⟩⟩
theorem ml_X2_62 : gMV 62 RX2 RX2 yX2_dataPage cX2_dataPage 5 none 4 := ⟨u_255, u_256, u_257, u_202, u_258, ⟨⟨by decide, by decide⟩, by decide +kernel⟩⟩
theorem ml_X2_66 : gMV 66 RX2 RX2 yX2_chooseUnlike cX2_chooseUnlike 4 none 1 := ⟨u_259, u_260, u_261, u_202, u_262, ⟨⟨by decide, by decide⟩, by decide +kernel⟩⟩
theorem ml_X2_69 : gMV 69 RX2 RX2 yX2_pushPlain cX2_pushPlain 3 none 1 := ⟨u_263, u_264, u_265, u_202, u_266, ⟨⟨by decide, by decide⟩, by decide +kernel⟩⟩
theorem ml_X2_75 : gMV 75 RX2 RX2 yX2_pushHead cX2_pushHead 4 none 3 := ⟨u_267, u_268, u_269, u_202, u_270, ⟨⟨by decide, by decide⟩, by decide +kernel⟩⟩
theorem ml_X2_79 : gMV 79 RX2 RX3 yX3_append cX3_append 3 none 1 := ⟨u_271, u_272, u_273, u_43, u_274, ⟨⟨by decide, by decide⟩, by decide +kernel⟩⟩
theorem ml_X2_87 : gMV 87 RX2 RX2 yX2_gatherLevels cX2_gatherLevels 5 none 3 := ⟨u_275, u_276, u_277, u_202, u_278, ⟨⟨by decide, by decide⟩, by decide +kernel⟩⟩
theorem ml_X2_91 : gMV 91 RX2 RX2 yX2_pushOwnRuns cX2_pushOwnRuns 3 none 1 := ⟨u_279, u_280, u_281, u_202, u_282, ⟨⟨by decide, by decide⟩, by decide +kernel⟩⟩
theorem ml_X2_94 : gMV 94 RX2 RX2 yX2_chooseThere cX2_chooseThere 5 none 3 := ⟨u_283, u_284, u_285, u_202, u_286, ⟨⟨by decide, by decide⟩, by decide +kernel⟩⟩
theorem ml_X2_97 : gMV 97 RX2 RX2 yX2_gatherNumbers cX2_gatherNumbers 3 none 1 := ⟨u_287, u_288, u_289, u_202, u_290, ⟨⟨by decide, by decide⟩, by decide +kernel⟩⟩
theorem ml_X3_32 : gMV 32 RX3 RX3 yX3_get cX3_get 2 (some .int) 1 := ⟨u_291, u_41, u_42, u_43, u_44, ⟨⟨by decide, by decide⟩, by decide +kernel⟩⟩
theorem ml_X3_36 : gMV 36 RX3 RX3 yX3_push cX3_push 2 none 1 := ⟨u_292, u_209, u_210, u_43, u_211, ⟨⟨by decide, by decide⟩, by decide +kernel⟩⟩
theorem ml_X3_42 : gMV 42 RX3 RX3 yX3_set cX3_set 3 none 2 := ⟨u_293, u_294, u_295, u_43, u_296, ⟨⟨by decide, by decide⟩, by decide +kernel⟩⟩
theorem ml_X3_46 : gMS 46 RX3 yX3_equalFrom cX3_equalFrom 4 (some .int) 3 := ⟨u_297, u_298, u_43, u_299, ⟨⟨by decide, by decide⟩, by decide +kernel⟩⟩
theorem ml_X3_52 : gMV 52 RX3 RX3 yX3_pushVar cX3_pushVar 6 none 1 := ⟨u_300, u_215, u_216, u_43, u_217, ⟨⟨by decide, by decide⟩, by decide +kernel⟩⟩
theorem ml_X3_56 : gMV 56 RX3 RX3 yX3_pushLittle cX3_pushLittle 5 none 2 := ⟨u_301, u_222, u_223, u_43, u_224, ⟨⟨by decide, by decide⟩, by decide +kernel⟩⟩
theorem ml_X3_60 : gMS 60 RX3 yX3_groupsEnd cX3_groupsEnd 4 (some .int) 3 := ⟨u_302, u_303, u_43, u_304, ⟨⟨by decide, by decide⟩, by decide +kernel⟩⟩
theorem ml_X3_63 : gMN 63 RX3 RX5 yX5_wholeGroups cX5_wholeGroups 1 (some .int) 1 := ⟨List.mem_of_getElem? (i := 5) rfl, u_143, u_97, u_144, ⟨⟨by decide, by decide⟩, by decide +kernel⟩⟩
theorem ml_X3_66 : gMV 66 RX3 RX3 yX3_pushPacked cX3_pushPacked 12 none 5 := ⟨u_305, u_234, u_235, u_43, u_236, ⟨⟨by decide, by decide⟩, by decide +kernel⟩⟩
theorem ml_X3_74 : gMN 74 RX3 RX5 yX5_zigged cX5_zigged 2 (some .long) 1 := ⟨List.mem_of_getElem? (i := 6) rfl, u_212, u_97, u_213, ⟨⟨by decide, by decide⟩, by decide +kernel⟩⟩
theorem ml_X3_78 : gMV 78 RX3 RX3 yX3_pushBlock cX3_pushBlock 9 none 4 := ⟨u_306, u_307, u_308, u_43, u_309, ⟨⟨by decide, by decide⟩, by decide +kernel⟩⟩
theorem ml_X3_82 : gMS 82 RX3 yX3_lowerToLeast cX3_lowerToLeast 9 (some .long) 4 := ⟨u_310, u_311, u_43, u_312, ⟨⟨by decide, by decide⟩, by decide +kernel⟩⟩
theorem ml_X3_86 : gMS 86 RX3 yX3_partWidth cX3_partWidth 6 (some .int) 3 := ⟨u_313, u_314, u_43, u_315, ⟨⟨by decide, by decide⟩, by decide +kernel⟩⟩
theorem ml_X3_94 : gMN 94 RX3 RX5 yX5_bitsOf cX5_bitsOf 3 (some .int) 1 := ⟨List.mem_of_getElem? (i := 7) rfl, u_242, u_97, u_243, ⟨⟨by decide, by decide⟩, by decide +kernel⟩⟩
theorem ml_X4_41 : gMV 41 RX4 RX4 yX4_next cX4_next 2 (some .int) 0 := ⟨u_316, u_154, u_155, u_85, u_156, ⟨⟨by decide, by decide⟩, by decide +kernel⟩⟩
theorem ml_X4_45 : gMV 45 RX4 RX4 yX4_demand cX4_demand 4 none 3 := ⟨u_317, u_192, u_193, u_85, u_194, ⟨⟨by decide, by decide⟩, by decide +kernel⟩⟩
theorem ml_X4_49 : gMV 49 RX4 RX4 yX4_left cX4_left 1 (some .int) 0 := ⟨u_318, u_168, u_169, u_85, u_170, ⟨⟨by decide, by decide⟩, by decide +kernel⟩⟩
theorem ml_X4_52 : gMV 52 RX4 RX0 yX0_pushText cX0_pushText 5 none 3 := ⟨u_319, u_320, u_321, u_48, u_322, ⟨⟨by decide, by decide⟩, by decide +kernel⟩⟩
theorem ml_X4_58 : gMV 58 RX4 RX4 yX4_nextVar cX4_nextVar 5 (some .long) 0 := ⟨u_323, u_93, u_94, u_85, u_95, ⟨⟨by decide, by decide⟩, by decide +kernel⟩⟩
theorem ml_X4_62 : gMN 62 RX4 RX5 yX5_wholeGroups cX5_wholeGroups 1 (some .int) 1 := ⟨List.mem_of_getElem? (i := 8) rfl, u_143, u_97, u_144, ⟨⟨by decide, by decide⟩, by decide +kernel⟩⟩
theorem ml_X4_66 : gMV 66 RX4 RX4 yX4_nextPacked cX4_nextPacked 12 none 5 := ⟨u_324, u_146, u_147, u_85, u_148, ⟨⟨by decide, by decide⟩, by decide +kernel⟩⟩
theorem ml_X4_70 : gMV 70 RX4 RX4 yX4_nextLittle cX4_nextLittle 5 (some .long) 1 := ⟨u_325, u_132, u_133, u_85, u_134, ⟨⟨by decide, by decide⟩, by decide +kernel⟩⟩
theorem ml_X4_74 : gMN 74 RX4 RX5 yX5_bitsOf cX5_bitsOf 3 (some .int) 1 := ⟨List.mem_of_getElem? (i := 9) rfl, u_242, u_97, u_243, ⟨⟨by decide, by decide⟩, by decide +kernel⟩⟩
theorem ml_X4_78 : gMS 78 RX4 yX4_fill cX4_fill 6 none 4 := ⟨u_326, u_327, u_85, u_328, ⟨⟨by decide, by decide⟩, by decide +kernel⟩⟩
theorem ml_X4_92 : gMN 92 RX4 RX5 yX5_unzigged cX5_unzigged 2 (some .long) 1 := ⟨List.mem_of_getElem? (i := 10) rfl, u_96, u_97, u_98, ⟨⟨by decide, by decide⟩, by decide +kernel⟩⟩
theorem ml_X4_99 : gMV 99 RX4 RX4 yX4_nextWidths cX4_nextWidths 6 none 2 := ⟨u_329, u_330, u_331, u_85, u_332, ⟨⟨by decide, by decide⟩, by decide +kernel⟩⟩
theorem ml_X5_101 : gMV 101 RX5 RX0 yX0_letterAt cX0_letterAt 3 (some .int) 2 := ⟨u_333, u_71, u_72, u_48, u_73, ⟨⟨by decide, by decide⟩, by decide +kernel⟩⟩
theorem ml_X5_105 : gMV 105 RX5 RX0 yX0_isLike cX0_isLike 3 (some .boolean) 1 := ⟨u_334, u_335, u_336, u_48, u_337, ⟨⟨by decide, by decide⟩, by decide +kernel⟩⟩
theorem ml_X5_109 : gMV 109 RX5 RX2 yX2_writePages cX2_writePages 6 none 3 := ⟨u_338, u_339, u_340, u_202, u_341, ⟨⟨by decide, by decide⟩, by decide +kernel⟩⟩
theorem ml_X5_119 : gMV 119 RX5 RX3 yX3_shorten cX3_shorten 2 none 1 := ⟨u_342, u_343, u_344, u_43, u_345, ⟨⟨by decide, by decide⟩, by decide +kernel⟩⟩
theorem ml_X5_122 : gMV 122 RX5 RX3 yX3_append cX3_append 3 none 1 := ⟨u_346, u_272, u_273, u_43, u_274, ⟨⟨by decide, by decide⟩, by decide +kernel⟩⟩
theorem ml_X5_126 : gMV 126 RX5 RX1 yX1_readPages cX1_readPages 5 none 3 := ⟨u_347, u_348, u_349, u_90, u_350, ⟨⟨by decide, by decide⟩, by decide +kernel⟩⟩
theorem ml_X5_134 : gMV 134 RX5 RX4 yX4_isSound cX4_isSound 1 (some .boolean) 0 := ⟨u_351, u_164, u_165, u_85, u_166, ⟨⟨by decide, by decide⟩, by decide +kernel⟩⟩
theorem ml_X5_147 : gMV 147 RX5 RX0 yX0_become cX0_become 3 none 1 := ⟨u_352, u_353, u_354, u_48, u_355, ⟨⟨by decide, by decide⟩, by decide +kernel⟩⟩
theorem ml_X5_160 : gMV 160 RX5 RX3 yX3_get cX3_get 2 (some .int) 1 := ⟨u_356, u_41, u_42, u_43, u_44, ⟨⟨by decide, by decide⟩, by decide +kernel⟩⟩
theorem ml_X5_164 : gMV 164 RX5 RX3 yX3_set cX3_set 3 none 2 := ⟨u_357, u_294, u_295, u_43, u_296, ⟨⟨by decide, by decide⟩, by decide +kernel⟩⟩
theorem ml_X5_167 : gMV 167 RX5 RX3 yX3_pushLittle cX3_pushLittle 5 none 2 := ⟨u_358, u_222, u_223, u_43, u_224, ⟨⟨by decide, by decide⟩, by decide +kernel⟩⟩
theorem ml_X5_42 : gMV 42 RX5 RX5 yX5_columnAt cX5_columnAt 2 (some (.object "ColumnPages$Column")) 1 := ⟨u_359, u_360, u_361, u_97, u_362, ⟨⟨by decide, by decide⟩, by decide +kernel⟩⟩
theorem ml_X5_50 : gMV 50 RX5 RX0 yX0_begin cX0_begin 3 none 2 := ⟨u_363, u_55, u_56, u_48, u_57, ⟨⟨by decide, by decide⟩, by decide +kernel⟩⟩
theorem ml_X5_57 : gMV 57 RX5 RX0 yX0_pushNumber cX0_pushNumber 3 none 1 := ⟨u_364, u_140, u_141, u_48, u_142, ⟨⟨by decide, by decide⟩, by decide +kernel⟩⟩
theorem ml_X5_62 : gMV 62 RX5 RX3 yX3_push cX3_push 2 none 1 := ⟨u_365, u_209, u_210, u_43, u_211, ⟨⟨by decide, by decide⟩, by decide +kernel⟩⟩
theorem ml_X5_65 : gMV 65 RX5 RX0 yX0_pushText cX0_pushText 5 none 3 := ⟨u_366, u_320, u_321, u_48, u_322, ⟨⟨by decide, by decide⟩, by decide +kernel⟩⟩
theorem ml_X5_69 : gMV 69 RX5 RX3 yX3_clear cX3_clear 1 none 0 := ⟨u_367, u_245, u_246, u_43, u_247, ⟨⟨by decide, by decide⟩, by decide +kernel⟩⟩
theorem ml_X5_76 : gMV 76 RX5 RX0 yX0_pushNone cX0_pushNone 1 none 0 := ⟨u_368, u_369, u_370, u_48, u_371, ⟨⟨by decide, by decide⟩, by decide +kernel⟩⟩
theorem ml_X5_79 : gMV 79 RX5 RX0 yX0_multiply cX0_multiply 5 none 2 := ⟨u_372, u_373, u_374, u_48, u_375, ⟨⟨by decide, by decide⟩, by decide +kernel⟩⟩
theorem ml_X5_83 : gMV 83 RX5 RX0 yX0_countAbsent cX0_countAbsent 3 (some .int) 0 := ⟨u_376, u_377, u_378, u_48, u_379, ⟨⟨by decide, by decide⟩, by decide +kernel⟩⟩
theorem ml_X5_87 : gMV 87 RX5 RX0 yX0_countUnlike cX0_countUnlike 3 (some .int) 0 := ⟨u_380, u_381, u_382, u_48, u_383, ⟨⟨by decide, by decide⟩, by decide +kernel⟩⟩
theorem ml_X5_90 : gMV 90 RX5 RX0 yX0_holds cX0_holds 2 (some .boolean) 1 := ⟨u_384, u_385, u_386, u_48, u_387, ⟨⟨by decide, by decide⟩, by decide +kernel⟩⟩
theorem ml_X5_94 : gMV 94 RX5 RX0 yX0_isThere cX0_isThere 2 (some .boolean) 1 := ⟨u_388, u_63, u_64, u_48, u_65, ⟨⟨by decide, by decide⟩, by decide +kernel⟩⟩
theorem ml_X5_97 : gMV 97 RX5 RX0 yX0_numberAt cX0_numberAt 2 (some .long) 1 := ⟨u_389, u_67, u_68, u_48, u_69, ⟨⟨by decide, by decide⟩, by decide +kernel⟩⟩
theorem ml_X6_106 : gMV 106 RX6 RX6 yX6_var cX6_var 5 none 1 := ⟨u_390, u_391, u_392, u_393, u_394, ⟨⟨by decide, by decide⟩, by decide +kernel⟩⟩
theorem ml_X6_110 : gMV 110 RX6 RX6 yX6_alikeFrom cX6_alikeFrom 4 (some .int) 2 := ⟨u_395, u_396, u_397, u_393, u_398, ⟨⟨by decide, by decide⟩, by decide +kernel⟩⟩
theorem ml_X6_116 : gMV 116 RX6 RX6 yX6_bytesTo cX6_bytesTo 5 none 2 := ⟨u_399, u_400, u_401, u_393, u_402, ⟨⟨by decide, by decide⟩, by decide +kernel⟩⟩
theorem ml_X6_120 : gMV 120 RX6 RX6 yX6_pack cX6_pack 10 none 4 := ⟨u_403, u_404, u_405, u_393, u_406, ⟨⟨by decide, by decide⟩, by decide +kernel⟩⟩
theorem ml_X6_126 : gMV 126 RX6 RX6 yX6_zig cX6_zig 3 none 1 := ⟨u_407, u_408, u_409, u_393, u_410, ⟨⟨by decide, by decide⟩, by decide +kernel⟩⟩
theorem ml_X6_131 : gMV 131 RX6 RX6 yX6_partWidth cX6_partWidth 5 (some .int) 2 := ⟨u_411, u_412, u_413, u_393, u_414, ⟨⟨by decide, by decide⟩, by decide +kernel⟩⟩
theorem ml_X6_134 : gMS 134 RX6 yX6_widthOf cX6_widthOf 5 (some .int) 1 := ⟨u_415, u_416, u_393, u_417, ⟨⟨by decide, by decide⟩, by decide +kernel⟩⟩
theorem ml_X6_138 : gMV 138 RX6 RX6 yX6_letters cX6_letters 3 none 1 := ⟨u_418, u_419, u_420, u_393, u_421, ⟨⟨by decide, by decide⟩, by decide +kernel⟩⟩
theorem ml_X6_141 : gMV 141 RX6 RX6 yX6_head cX6_head 5 none 4 := ⟨u_422, u_423, u_424, u_393, u_425, ⟨⟨by decide, by decide⟩, by decide +kernel⟩⟩
theorem ml_X6_144 : gMV 144 RX6 RX6 yX6_runs cX6_runs 6 none 2 := ⟨u_426, u_427, u_428, u_393, u_429, ⟨⟨by decide, by decide⟩, by decide +kernel⟩⟩
theorem ml_X6_147 : gMV 147 RX6 RX6 yX6_sized cX6_sized 4 none 1 := ⟨u_430, u_431, u_432, u_393, u_433, ⟨⟨by decide, by decide⟩, by decide +kernel⟩⟩
theorem ml_X6_150 : gMV 150 RX6 RX6 yX6_differences cX6_differences 8 none 2 := ⟨u_434, u_435, u_436, u_393, u_437, ⟨⟨by decide, by decide⟩, by decide +kernel⟩⟩
theorem ml_X6_154 : gMV 154 RX6 RX6 yX6_plain cX6_plain 3 none 2 := ⟨u_438, u_439, u_440, u_393, u_441, ⟨⟨by decide, by decide⟩, by decide +kernel⟩⟩
theorem ml_X6_157 : gMV 157 RX6 RX6 yX6_headed cX6_headed 7 none 4 := ⟨u_442, u_443, u_444, u_393, u_445, ⟨⟨by decide, by decide⟩, by decide +kernel⟩⟩
theorem ml_X6_160 : gMV 160 RX6 RX6 yX6_makeDictionary cX6_makeDictionary 5 none 1 := ⟨u_446, u_447, u_448, u_393, u_449, ⟨⟨by decide, by decide⟩, by decide +kernel⟩⟩
theorem ml_X6_163 : gMV 163 RX6 RX6 yX6_page cX6_page 10 none 4 := ⟨u_450, u_451, u_452, u_393, u_453, ⟨⟨by decide, by decide⟩, by decide +kernel⟩⟩
theorem ml_X6_181 : gMV 181 RX6 RX6 yX6_fails cX6_fails 3 (some .boolean) 2 := ⟨u_454, u_455, u_456, u_393, u_457, ⟨⟨by decide, by decide⟩, by decide +kernel⟩⟩
theorem ml_X6_184 : gMV 184 RX6 RX6 yX6_next cX6_next 2 (some .int) 0 := ⟨u_458, u_459, u_460, u_393, u_461, ⟨⟨by decide, by decide⟩, by decide +kernel⟩⟩
theorem ml_X6_188 : gMV 188 RX6 RX6 yX6_readVar cX6_readVar 7 (some .long) 0 := ⟨u_462, u_463, u_464, u_393, u_465, ⟨⟨by decide, by decide⟩, by decide +kernel⟩⟩
theorem ml_X6_198 : gMV 198 RX6 RX6 yX6_readPacked cX6_readPacked 5 (some .long) 1 := ⟨u_466, u_467, u_468, u_393, u_469, ⟨⟨by decide, by decide⟩, by decide +kernel⟩⟩
theorem ml_X6_202 : gMV 202 RX6 RX6 yX6_readBytes cX6_readBytes 5 (some .long) 1 := ⟨u_470, u_471, u_472, u_393, u_473, ⟨⟨by decide, by decide⟩, by decide +kernel⟩⟩
theorem ml_X6_205 : gMV 205 RX6 RX6 yX6_wants cX6_wants 6 (some .boolean) 2 := ⟨u_474, u_475, u_476, u_393, u_477, ⟨⟨by decide, by decide⟩, by decide +kernel⟩⟩
theorem ml_X6_209 : gMV 209 RX6 RX6 yX6_readZig cX6_readZig 3 (some .long) 0 := ⟨u_478, u_479, u_480, u_393, u_481, ⟨⟨by decide, by decide⟩, by decide +kernel⟩⟩
theorem ml_X6_212 : gMV 212 RX6 RX6 yX6_readLength cX6_readLength 5 (some .int) 1 := ⟨u_482, u_483, u_484, u_393, u_485, ⟨⟨by decide, by decide⟩, by decide +kernel⟩⟩
theorem ml_X6_216 : gMV 216 RX6 RX6 yX6_readLetters cX6_readLetters 5 (some .boolean) 2 := ⟨u_486, u_487, u_488, u_393, u_489, ⟨⟨by decide, by decide⟩, by decide +kernel⟩⟩
theorem ml_X6_219 : gMV 219 RX6 RX6 yX6_reads cX6_reads 5 none 2 := ⟨u_490, u_491, u_492, u_393, u_493, ⟨⟨by decide, by decide⟩, by decide +kernel⟩⟩
theorem ml_X6_226 : gMV 226 RX6 RX6 yX6_field cX6_field 4 (some .boolean) 1 := ⟨u_494, u_495, u_496, u_393, u_497, ⟨⟨by decide, by decide⟩, by decide +kernel⟩⟩
theorem ml_X6_229 : gMV 229 RX6 RX6 yX6_fieldZig cX6_fieldZig 1 (some .long) 0 := ⟨u_498, u_499, u_500, u_393, u_501, ⟨⟨by decide, by decide⟩, by decide +kernel⟩⟩
theorem ml_X6_238 : gMV 238 RX6 RX6 yX6_readInner cX6_readInner 5 (some .boolean) 1 := ⟨u_502, u_503, u_504, u_393, u_505, ⟨⟨by decide, by decide⟩, by decide +kernel⟩⟩
theorem ml_X6_254 : gMV 254 RX6 RX6 yX6_readHead cX6_readHead 5 (some .boolean) 1 := ⟨u_506, u_507, u_508, u_393, u_509, ⟨⟨by decide, by decide⟩, by decide +kernel⟩⟩
theorem ml_X6_257 : gMV 257 RX6 RX6 yX6_readPlain cX6_readPlain 5 (some .boolean) 2 := ⟨u_510, u_511, u_512, u_393, u_513, ⟨⟨by decide, by decide⟩, by decide +kernel⟩⟩
theorem ml_X6_260 : gMV 260 RX6 RX6 yX6_isOver cX6_isOver 2 (some .boolean) 1 := ⟨u_514, u_515, u_516, u_393, u_517, ⟨⟨by decide, by decide⟩, by decide +kernel⟩⟩
theorem ml_X6_266 : gMV 266 RX6 RX6 yX6_readRuns cX6_readRuns 14 (some .boolean) 2 := ⟨u_518, u_519, u_520, u_393, u_521, ⟨⟨by decide, by decide⟩, by decide +kernel⟩⟩
theorem ml_X6_269 : gMV 269 RX6 RX6 yX6_readValues cX6_readValues 7 (some .boolean) 2 := ⟨u_522, u_523, u_524, u_393, u_525, ⟨⟨by decide, by decide⟩, by decide +kernel⟩⟩
theorem ml_X6_272 : gMV 272 RX6 RX6 yX6_readDifferences cX6_readDifferences 14 (some .boolean) 2 := ⟨u_526, u_527, u_528, u_393, u_529, ⟨⟨by decide, by decide⟩, by decide +kernel⟩⟩
theorem ml_X6_276 : gMV 276 RX6 RX6 yX6_readTexts cX6_readTexts 7 (some .boolean) 2 := ⟨u_530, u_531, u_532, u_393, u_533, ⟨⟨by decide, by decide⟩, by decide +kernel⟩⟩
theorem ml_X6_279 : gMV 279 RX6 RX6 yX6_readPlaces cX6_readPlaces 7 (some .boolean) 1 := ⟨u_534, u_535, u_536, u_393, u_537, ⟨⟨by decide, by decide⟩, by decide +kernel⟩⟩
theorem ml_X6_288 : gMV 288 RX6 RX6 yX6_readPage cX6_readPage 8 (some .boolean) 2 := ⟨u_538, u_539, u_540, u_393, u_541, ⟨⟨by decide, by decide⟩, by decide +kernel⟩⟩
theorem ml_X6_62 : gMS 62 RX6 yX6_in cX6_in 6 (some .boolean) 3 := ⟨u_542, u_543, u_393, u_544, ⟨⟨by decide, by decide⟩, by decide +kernel⟩⟩
theorem ml_X6_66 : gMS 66 RX6 yX6_isColumn cX6_isColumn 1 (some .boolean) 1 := ⟨u_545, u_546, u_393, u_547, ⟨⟨by decide, by decide⟩, by decide +kernel⟩⟩
theorem ml_X6_70 : gMV 70 RX6 RX6 yX6_adds cX6_adds 7 (some .int) 3 := ⟨u_548, u_549, u_550, u_393, u_551, ⟨⟨by decide, by decide⟩, by decide +kernel⟩⟩
theorem ml_X6_82 : gMV 82 RX6 RX6 yX6_copies cX6_copies 4 none 2 := ⟨u_552, u_553, u_554, u_393, u_555, ⟨⟨by decide, by decide⟩, by decide +kernel⟩⟩
theorem ml_X6_88 : gMV 88 RX6 RX6 yX6_areLike cX6_areLike 5 (some .boolean) 2 := ⟨u_556, u_557, u_558, u_393, u_559, ⟨⟨by decide, by decide⟩, by decide +kernel⟩⟩
theorem ml_X6_92 : gMV 92 RX6 RX6 yX6_isValue cX6_isValue 3 (some .boolean) 2 := ⟨u_560, u_561, u_562, u_393, u_563, ⟨⟨by decide, by decide⟩, by decide +kernel⟩⟩
theorem ml_X6_98 : gMV 98 RX6 RX6 yX6_byteTo cX6_byteTo 2 none 1 := ⟨u_564, u_565, u_566, u_393, u_567, ⟨⟨by decide, by decide⟩, by decide +kernel⟩⟩
