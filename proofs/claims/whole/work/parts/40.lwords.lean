/-! the words of the law and of the constructors -/
theorem v_0 : Cond.methodLink RX0 3 objectInit ∈ gU := gU_t1 (List.mem_of_getElem? (i := 23) rfl) rfl
theorem v_1 : Cond.instanceMethod objectInit ∈ gU := gU_t1 (List.mem_of_getElem? (i := 15) rfl) rfl
theorem v_2 : Cond.code objectInit ⟨#[0xb1]⟩ 1 none ∈ gU := gU_t1 (List.mem_of_getElem? (i := 16) rfl) rfl
theorem v_3 : Cond.arrayClass .boolean ∈ gU := gU_t1 (List.mem_of_getElem? (i := 52) rfl) rfl
theorem v_4 : Cond.fieldLink RX0 9 "ColumnPages$Column" "there" "[Z" ∈ gU := gU_t1 (List.mem_of_getElem? (i := 36) rfl) rfl
theorem v_5 : Cond.arrayClass .long ∈ gU := gU_t1 (List.mem_of_getElem? (i := 53) rfl) rfl
theorem v_6 : Cond.fieldLink RX0 15 "ColumnPages$Column" "numbers" "[J" ∈ gU := gU_t1 (List.mem_of_getElem? (i := 37) rfl) rfl
theorem v_7 : Cond.arrayClass .byte ∈ gU := gU_t1 (List.mem_of_getElem? (i := 54) rfl) rfl
theorem v_8 : Cond.fieldLink RX0 19 "ColumnPages$Column" "letters" "[B" ∈ gU := gU_t1 (List.mem_of_getElem? (i := 38) rfl) rfl
theorem v_9 : Cond.methodLink RX3 3 objectInit ∈ gU := gU_t1 (List.mem_of_getElem? (i := 60) rfl) rfl
theorem v_10 : Cond.fieldLink RX3 9 "ColumnPages$Row" "bytes" "[B" ∈ gU := gU_t1 (List.mem_of_getElem? (i := 61) rfl) rfl
theorem v_11 : Cond.methodLink RX4 3 objectInit ∈ gU := gU_t1 (List.mem_of_getElem? (i := 120) rfl) rfl
theorem v_12 : Cond.arrayClass .int ∈ gU := gU_t1 (List.mem_of_getElem? (i := 108) rfl) rfl
theorem v_13 : Cond.fieldLink RX4 9 "ColumnPages$Source" "widths" "[I" ∈ gU := gU_t1 (List.mem_of_getElem? (i := 130) rfl) rfl
theorem v_14 : Cond.methodLink RX2 3 objectInit ∈ gU := gU_t1 (List.mem_of_getElem? (i := 82) rfl) rfl
theorem v_15 : Cond.classLink RX2 9 RX3 ∈ gU := gU_t1 (List.mem_of_getElem? (i := 83) rfl) rfl
theorem v_16 : Cond.instantiable RX3 3 ∈ gU := gU_t1 (List.mem_of_getElem? (i := 56) rfl) rfl
theorem v_17 : Cond.initialized RX3 ∈ gU := gU_t1 (List.mem_of_getElem? (i := 3) rfl) rfl
theorem v_18 : Cond.methodLink RX2 11 yX3_init ∈ gU := gU_t1 (List.mem_of_getElem? (i := 84) rfl) rfl
theorem v_19 : Cond.instanceMethod yX3_init ∈ gU := gU_t1 (List.mem_of_getElem? (i := 58) rfl) rfl
theorem v_20 : Cond.code yX3_init cX3_init 2 none ∈ gU := gU_t1 (List.mem_of_getElem? (i := 59) rfl) rfl
theorem v_21 : Cond.fieldLink RX2 14 "ColumnPages$PageWriter" "out" "LColumnPages$Row;" ∈ gU := gU_t1 (List.mem_of_getElem? (i := 85) rfl) rfl
theorem v_22 : Cond.fieldLink RX2 20 "ColumnPages$PageWriter" "body" "LColumnPages$Row;" ∈ gU := gU_t1 (List.mem_of_getElem? (i := 87) rfl) rfl
theorem v_23 : Cond.fieldLink RX2 23 "ColumnPages$PageWriter" "chosen" "[I" ∈ gU := gU_t1 (List.mem_of_getElem? (i := 88) rfl) rfl
theorem v_24 : Cond.fieldLink RX2 27 "ColumnPages$PageWriter" "places" "[I" ∈ gU := gU_t1 (List.mem_of_getElem? (i := 90) rfl) rfl
theorem v_25 : Cond.fieldLink RX2 30 "ColumnPages$PageWriter" "numbers" "[J" ∈ gU := gU_t1 (List.mem_of_getElem? (i := 92) rfl) rfl
theorem v_26 : Cond.methodLink RX1 3 objectInit ∈ gU := gU_t1 (List.mem_of_getElem? (i := 114) rfl) rfl
theorem v_27 : Cond.classLink RX1 9 RX4 ∈ gU := gU_t1 (List.mem_of_getElem? (i := 115) rfl) rfl
theorem v_28 : Cond.instantiable RX4 6 ∈ gU := gU_t1 (List.mem_of_getElem? (i := 116) rfl) rfl
theorem v_29 : Cond.initialized RX4 ∈ gU := gU_t1 (List.mem_of_getElem? (i := 6) rfl) rfl
theorem v_30 : Cond.methodLink RX1 11 yX4_init ∈ gU := gU_t1 (List.mem_of_getElem? (i := 117) rfl) rfl
theorem v_31 : Cond.instanceMethod yX4_init ∈ gU := gU_t1 (List.mem_of_getElem? (i := 118) rfl) rfl
theorem v_32 : Cond.code yX4_init cX4_init 1 none ∈ gU := gU_t1 (List.mem_of_getElem? (i := 119) rfl) rfl
theorem v_33 : Cond.fieldLink RX1 12 "ColumnPages$PageReader" "source" "LColumnPages$Source;" ∈ gU := gU_t1 (List.mem_of_getElem? (i := 146) rfl) rfl
theorem v_34 : Cond.classLink RX1 18 RX0 ∈ gU := gU_t1 (List.mem_of_getElem? (i := 144) rfl) rfl
theorem v_35 : Cond.instantiable RX0 6 ∈ gU := gU_t1 (List.mem_of_getElem? (i := 19) rfl) rfl
theorem v_36 : Cond.initialized RX0 ∈ gU := gU_t1 (List.mem_of_getElem? (i := 2) rfl) rfl
theorem v_37 : Cond.methodLink RX1 20 yX0_init ∈ gU := gU_t1 (List.mem_of_getElem? (i := 145) rfl) rfl
theorem v_38 : Cond.instanceMethod yX0_init ∈ gU := gU_t1 (List.mem_of_getElem? (i := 21) rfl) rfl
theorem v_39 : Cond.code yX0_init cX0_init 1 none ∈ gU := gU_t1 (List.mem_of_getElem? (i := 22) rfl) rfl
theorem v_40 : Cond.fieldLink RX1 21 "ColumnPages$PageReader" "fresh" "LColumnPages$Column;" ∈ gU := gU_t1 (List.mem_of_getElem? (i := 148) rfl) rfl
theorem v_41 : Cond.fieldLink RX1 25 "ColumnPages$PageReader" "dictionary" "LColumnPages$Column;" ∈ gU := gU_t1 (List.mem_of_getElem? (i := 150) rfl) rfl
theorem v_42 : Cond.fieldLink RX1 28 "ColumnPages$PageReader" "levels" "[J" ∈ gU := gU_t1 (List.mem_of_getElem? (i := 159) rfl) rfl
theorem v_43 : Cond.fieldLink RX1 32 "ColumnPages$PageReader" "numbers" "[J" ∈ gU := gU_t1 (List.mem_of_getElem? (i := 160) rfl) rfl
theorem v_44 : Cond.methodLink RX5 1 objectInit ∈ gU := gU_t1 (List.mem_of_getElem? (i := 14) rfl) rfl
theorem v_45 : Cond.classLink RX5 9 RX0 ∈ gU := gU_t1 (List.mem_of_getElem? (i := 17) rfl) rfl
theorem v_46 : Cond.fieldLink RX5 11 "ColumnPages" "columns" "[LColumnPages$Column;" ∈ gU := gU_t1 (List.mem_of_getElem? (i := 184) rfl) rfl
theorem v_47 : Cond.methodLink RX5 15 yX0_init ∈ gU := gU_t1 (List.mem_of_getElem? (i := 20) rfl) rfl
theorem v_48 : Cond.classLink RX5 16 RX3 ∈ gU := gU_t1 (List.mem_of_getElem? (i := 55) rfl) rfl
theorem v_49 : Cond.methodLink RX5 18 yX3_init ∈ gU := gU_t1 (List.mem_of_getElem? (i := 57) rfl) rfl
theorem v_50 : Cond.fieldLink RX5 21 "ColumnPages" "tape" "LColumnPages$Row;" ∈ gU := gU_t1 (List.mem_of_getElem? (i := 185) rfl) rfl
theorem v_51 : Cond.fieldLink RX5 25 "ColumnPages" "file" "LColumnPages$Row;" ∈ gU := gU_t1 (List.mem_of_getElem? (i := 186) rfl) rfl
theorem v_52 : Cond.classLink RX5 28 RX2 ∈ gU := gU_t1 (List.mem_of_getElem? (i := 77) rfl) rfl
theorem v_53 : Cond.instantiable RX2 7 ∈ gU := gU_t1 (List.mem_of_getElem? (i := 78) rfl) rfl
theorem v_54 : Cond.initialized RX2 ∈ gU := gU_t1 (List.mem_of_getElem? (i := 4) rfl) rfl
theorem v_55 : Cond.methodLink RX5 30 yX2_init ∈ gU := gU_t1 (List.mem_of_getElem? (i := 79) rfl) rfl
theorem v_56 : Cond.instanceMethod yX2_init ∈ gU := gU_t1 (List.mem_of_getElem? (i := 80) rfl) rfl
theorem v_57 : Cond.code yX2_init cX2_init 1 none ∈ gU := gU_t1 (List.mem_of_getElem? (i := 81) rfl) rfl
theorem v_58 : Cond.fieldLink RX5 31 "ColumnPages" "writer" "LColumnPages$PageWriter;" ∈ gU := gU_t1 (List.mem_of_getElem? (i := 187) rfl) rfl
theorem v_59 : Cond.classLink RX5 35 RX1 ∈ gU := gU_t1 (List.mem_of_getElem? (i := 109) rfl) rfl
theorem v_60 : Cond.instantiable RX1 11 ∈ gU := gU_t1 (List.mem_of_getElem? (i := 110) rfl) rfl
theorem v_61 : Cond.initialized RX1 ∈ gU := gU_t1 (List.mem_of_getElem? (i := 5) rfl) rfl
theorem v_62 : Cond.methodLink RX5 37 yX1_init ∈ gU := gU_t1 (List.mem_of_getElem? (i := 111) rfl) rfl
theorem v_63 : Cond.instanceMethod yX1_init ∈ gU := gU_t1 (List.mem_of_getElem? (i := 112) rfl) rfl
theorem v_64 : Cond.code yX1_init cX1_init 1 none ∈ gU := gU_t1 (List.mem_of_getElem? (i := 113) rfl) rfl
theorem v_65 : Cond.fieldLink RX5 38 "ColumnPages" "reader" "LColumnPages$PageReader;" ∈ gU := gU_t1 (List.mem_of_getElem? (i := 188) rfl) rfl
theorem v_66 : Cond.methodLink RX6 1 objectInit ∈ gU := gU_t3 (List.mem_of_getElem? (i := 183) rfl) rfl
theorem v_67 : Cond.fieldLink RX6 7 "ColumnPagesModel" "kind" "[I" ∈ gU := gU_t3 (List.mem_of_getElem? (i := 186) rfl) rfl
theorem v_68 : Cond.fieldLink RX6 13 "ColumnPagesModel" "optional" "[Z" ∈ gU := gU_t3 (List.mem_of_getElem? (i := 187) rfl) rfl
theorem v_69 : Cond.fieldLink RX6 17 "ColumnPagesModel" "many" "[I" ∈ gU := gU_t3 (List.mem_of_getElem? (i := 188) rfl) rfl
theorem v_70 : Cond.fieldLink RX6 20 "ColumnPagesModel" "there" "[Z" ∈ gU := gU_t3 (List.mem_of_getElem? (i := 189) rfl) rfl
theorem v_71 : Cond.fieldLink RX6 23 "ColumnPagesModel" "value" "[J" ∈ gU := gU_t3 (List.mem_of_getElem? (i := 190) rfl) rfl
theorem v_72 : Cond.constant RX6 27 (56000) ∈ gU := gU_t3 (List.mem_of_getElem? (i := 184) rfl) rfl
theorem v_73 : Cond.fieldLink RX6 28 "ColumnPagesModel" "text" "[B" ∈ gU := gU_t3 (List.mem_of_getElem? (i := 191) rfl) rfl
theorem v_74 : Cond.fieldLink RX6 32 "ColumnPagesModel" "tape" "[B" ∈ gU := gU_t3 (List.mem_of_getElem? (i := 192) rfl) rfl
theorem v_75 : Cond.fieldLink RX6 35 "ColumnPagesModel" "file" "[B" ∈ gU := gU_t3 (List.mem_of_getElem? (i := 194) rfl) rfl
theorem v_76 : Cond.constant RX6 38 (60000) ∈ gU := gU_t3 (List.mem_of_getElem? (i := 185) rfl) rfl
theorem v_77 : Cond.fieldLink RX6 39 "ColumnPagesModel" "draft" "[B" ∈ gU := gU_t3 (List.mem_of_getElem? (i := 196) rfl) rfl
theorem v_78 : Cond.fieldLink RX6 42 "ColumnPagesModel" "numbers" "[J" ∈ gU := gU_t3 (List.mem_of_getElem? (i := 198) rfl) rfl
theorem v_79 : Cond.fieldLink RX6 45 "ColumnPagesModel" "steps" "[J" ∈ gU := gU_t3 (List.mem_of_getElem? (i := 199) rfl) rfl
theorem v_80 : Cond.fieldLink RX6 48 "ColumnPagesModel" "placeOf" "[I" ∈ gU := gU_t3 (List.mem_of_getElem? (i := 200) rfl) rfl
theorem v_81 : Cond.fieldLink RX6 51 "ColumnPagesModel" "bodyBytes" "[B" ∈ gU := gU_t3 (List.mem_of_getElem? (i := 201) rfl) rfl
theorem v_82 : Cond.fieldLink RX6 54 "ColumnPagesModel" "widths" "[I" ∈ gU := gU_t3 (List.mem_of_getElem? (i := 210) rfl) rfl
theorem v_83 : Cond.fieldLink RX6 57 "ColumnPagesModel" "level" "[Z" ∈ gU := gU_t3 (List.mem_of_getElem? (i := 216) rfl) rfl
theorem v_84 : Cond.methodLink RL 13 yX5_column ∈ gU := gU_t1 (List.mem_of_getElem? (i := 200) rfl) rfl
theorem v_85 : Cond.instanceMethod yX5_column ∈ gU := gU_t1 (List.mem_of_getElem? (i := 201) rfl) rfl
theorem v_86 : Cond.selects RX5 yX5_column yX5_column ∈ gU := gU_t1 (List.mem_of_getElem? (i := 202) rfl) rfl
theorem v_87 : Cond.initialized RX5 ∈ gU := gU_t1 (List.mem_of_getElem? (i := 1) rfl) rfl
theorem v_88 : Cond.code yX5_column cX5_column 6 (some .int) ∈ gU := gU_t1 (List.mem_of_getElem? (i := 203) rfl) rfl
theorem v_89 : Cond.methodLink RL 17 yX6_column ∈ gU := gU_t4 (List.mem_of_getElem? (i := 43) rfl) rfl
theorem v_90 : Cond.instanceMethod yX6_column ∈ gU := gU_t4 (List.mem_of_getElem? (i := 44) rfl) rfl
theorem v_91 : Cond.selects RX6 yX6_column yX6_column ∈ gU := gU_t4 (List.mem_of_getElem? (i := 45) rfl) rfl
theorem v_92 : Cond.initialized RX6 ∈ gU := gU_t1 (List.mem_of_getElem? (i := 7) rfl) rfl
theorem v_93 : Cond.code yX6_column cX6_column 5 (some .int) ∈ gU := gU_t4 (List.mem_of_getElem? (i := 46) rfl) rfl
theorem v_94 : Cond.constantLong RL 18 (4294967295) ∈ gU := gU_t5 (List.mem_of_getElem? (i := 68) rfl) rfl
theorem v_95 : Cond.methodLink RL 20 yX5_add ∈ gU := gU_t1 (List.mem_of_getElem? (i := 212) rfl) rfl
theorem v_96 : Cond.instanceMethod yX5_add ∈ gU := gU_t1 (List.mem_of_getElem? (i := 213) rfl) rfl
theorem v_97 : Cond.selects RX5 yX5_add yX5_add ∈ gU := gU_t1 (List.mem_of_getElem? (i := 214) rfl) rfl
theorem v_98 : Cond.code yX5_add cX5_add 5 (some .int) ∈ gU := gU_t1 (List.mem_of_getElem? (i := 215) rfl) rfl
theorem v_99 : Cond.methodLink RL 24 yX6_add ∈ gU := gU_t4 (List.mem_of_getElem? (i := 54) rfl) rfl
theorem v_100 : Cond.instanceMethod yX6_add ∈ gU := gU_t4 (List.mem_of_getElem? (i := 55) rfl) rfl
theorem v_101 : Cond.selects RX6 yX6_add yX6_add ∈ gU := gU_t4 (List.mem_of_getElem? (i := 56) rfl) rfl
theorem v_102 : Cond.code yX6_add cX6_add 4 (some .int) ∈ gU := gU_t4 (List.mem_of_getElem? (i := 57) rfl) rfl
theorem v_103 : Cond.methodLink RL 25 yX5_type ∈ gU := gU_t1 (List.mem_of_getElem? (i := 220) rfl) rfl
theorem v_104 : Cond.instanceMethod yX5_type ∈ gU := gU_t1 (List.mem_of_getElem? (i := 221) rfl) rfl
theorem v_105 : Cond.selects RX5 yX5_type yX5_type ∈ gU := gU_t1 (List.mem_of_getElem? (i := 222) rfl) rfl
theorem v_106 : Cond.code yX5_type cX5_type 5 (some .int) ∈ gU := gU_t1 (List.mem_of_getElem? (i := 223) rfl) rfl
theorem v_107 : Cond.methodLink RL 29 yX6_type ∈ gU := gU_t4 (List.mem_of_getElem? (i := 62) rfl) rfl
theorem v_108 : Cond.instanceMethod yX6_type ∈ gU := gU_t4 (List.mem_of_getElem? (i := 63) rfl) rfl
theorem v_109 : Cond.selects RX6 yX6_type yX6_type ∈ gU := gU_t4 (List.mem_of_getElem? (i := 64) rfl) rfl
theorem v_110 : Cond.code yX6_type cX6_type 5 (some .int) ∈ gU := gU_t4 (List.mem_of_getElem? (i := 65) rfl) rfl
theorem v_111 : Cond.methodLink RL 30 yX5_addText ∈ gU := gU_t1 (List.mem_of_getElem? (i := 228) rfl) rfl
theorem v_112 : Cond.instanceMethod yX5_addText ∈ gU := gU_t1 (List.mem_of_getElem? (i := 229) rfl) rfl
theorem v_113 : Cond.selects RX5 yX5_addText yX5_addText ∈ gU := gU_t1 (List.mem_of_getElem? (i := 230) rfl) rfl
theorem v_114 : Cond.code yX5_addText cX5_addText 3 (some .int) ∈ gU := gU_t1 (List.mem_of_getElem? (i := 231) rfl) rfl
theorem v_115 : Cond.methodLink RL 34 yX6_addText ∈ gU := gU_t4 (List.mem_of_getElem? (i := 67) rfl) rfl
theorem v_116 : Cond.instanceMethod yX6_addText ∈ gU := gU_t4 (List.mem_of_getElem? (i := 68) rfl) rfl
theorem v_117 : Cond.selects RX6 yX6_addText yX6_addText ∈ gU := gU_t4 (List.mem_of_getElem? (i := 69) rfl) rfl
theorem v_118 : Cond.code yX6_addText cX6_addText 4 (some .int) ∈ gU := gU_t4 (List.mem_of_getElem? (i := 70) rfl) rfl
theorem v_119 : Cond.methodLink RL 35 yX5_addNone ∈ gU := gU_t2 (List.mem_of_getElem? (i := 4) rfl) rfl
theorem v_120 : Cond.instanceMethod yX5_addNone ∈ gU := gU_t2 (List.mem_of_getElem? (i := 5) rfl) rfl
theorem v_121 : Cond.selects RX5 yX5_addNone yX5_addNone ∈ gU := gU_t2 (List.mem_of_getElem? (i := 6) rfl) rfl
theorem v_122 : Cond.code yX5_addNone cX5_addNone 3 (some .int) ∈ gU := gU_t2 (List.mem_of_getElem? (i := 7) rfl) rfl
theorem v_123 : Cond.methodLink RL 38 yX6_addNone ∈ gU := gU_t4 (List.mem_of_getElem? (i := 71) rfl) rfl
theorem v_124 : Cond.instanceMethod yX6_addNone ∈ gU := gU_t4 (List.mem_of_getElem? (i := 72) rfl) rfl
theorem v_125 : Cond.selects RX6 yX6_addNone yX6_addNone ∈ gU := gU_t4 (List.mem_of_getElem? (i := 73) rfl) rfl
theorem v_126 : Cond.code yX6_addNone cX6_addNone 2 (some .int) ∈ gU := gU_t4 (List.mem_of_getElem? (i := 74) rfl) rfl
theorem v_127 : Cond.methodLink RL 39 yX5_repeat ∈ gU := gU_t2 (List.mem_of_getElem? (i := 16) rfl) rfl
theorem v_128 : Cond.instanceMethod yX5_repeat ∈ gU := gU_t2 (List.mem_of_getElem? (i := 17) rfl) rfl
theorem v_129 : Cond.selects RX5 yX5_repeat yX5_repeat ∈ gU := gU_t2 (List.mem_of_getElem? (i := 18) rfl) rfl
theorem v_130 : Cond.code yX5_repeat cX5_repeat 5 (some .int) ∈ gU := gU_t2 (List.mem_of_getElem? (i := 19) rfl) rfl
theorem v_131 : Cond.methodLink RL 43 yX6_repeat ∈ gU := gU_t4 (List.mem_of_getElem? (i := 75) rfl) rfl
theorem v_132 : Cond.instanceMethod yX6_repeat ∈ gU := gU_t4 (List.mem_of_getElem? (i := 76) rfl) rfl
theorem v_133 : Cond.selects RX6 yX6_repeat yX6_repeat ∈ gU := gU_t4 (List.mem_of_getElem? (i := 77) rfl) rfl
theorem v_134 : Cond.code yX6_repeat cX6_repeat 5 (some .int) ∈ gU := gU_t4 (List.mem_of_getElem? (i := 78) rfl) rfl
theorem v_135 : Cond.methodLink RL 44 yX5_told ∈ gU := gU_t2 (List.mem_of_getElem? (i := 28) rfl) rfl
theorem v_136 : Cond.instanceMethod yX5_told ∈ gU := gU_t2 (List.mem_of_getElem? (i := 29) rfl) rfl
theorem v_137 : Cond.selects RX5 yX5_told yX5_told ∈ gU := gU_t2 (List.mem_of_getElem? (i := 30) rfl) rfl
theorem v_138 : Cond.code yX5_told cX5_told 4 (some .int) ∈ gU := gU_t2 (List.mem_of_getElem? (i := 31) rfl) rfl
theorem v_139 : Cond.methodLink RL 48 yX6_told ∈ gU := gU_t4 (List.mem_of_getElem? (i := 84) rfl) rfl
theorem v_140 : Cond.instanceMethod yX6_told ∈ gU := gU_t4 (List.mem_of_getElem? (i := 85) rfl) rfl
theorem v_141 : Cond.selects RX6 yX6_told yX6_told ∈ gU := gU_t4 (List.mem_of_getElem? (i := 86) rfl) rfl
theorem v_142 : Cond.code yX6_told cX6_told 9 (some .int) ∈ gU := gU_t4 (List.mem_of_getElem? (i := 87) rfl) rfl
theorem v_143 : Cond.methodLink RL 49 yX5_has ∈ gU := gU_t2 (List.mem_of_getElem? (i := 60) rfl) rfl
theorem v_144 : Cond.instanceMethod yX5_has ∈ gU := gU_t2 (List.mem_of_getElem? (i := 61) rfl) rfl
theorem v_145 : Cond.selects RX5 yX5_has yX5_has ∈ gU := gU_t2 (List.mem_of_getElem? (i := 62) rfl) rfl
theorem v_146 : Cond.code yX5_has cX5_has 4 (some .int) ∈ gU := gU_t2 (List.mem_of_getElem? (i := 63) rfl) rfl
theorem v_147 : Cond.methodLink RL 52 yX6_has ∈ gU := gU_t4 (List.mem_of_getElem? (i := 93) rfl) rfl
theorem v_148 : Cond.instanceMethod yX6_has ∈ gU := gU_t4 (List.mem_of_getElem? (i := 94) rfl) rfl
theorem v_149 : Cond.selects RX6 yX6_has yX6_has ∈ gU := gU_t4 (List.mem_of_getElem? (i := 95) rfl) rfl
theorem v_150 : Cond.code yX6_has cX6_has 3 (some .int) ∈ gU := gU_t4 (List.mem_of_getElem? (i := 96) rfl) rfl
theorem v_151 : Cond.methodLink RL 53 yX5_value ∈ gU := gU_t2 (List.mem_of_getElem? (i := 69) rfl) rfl
theorem v_152 : Cond.instanceMethod yX5_value ∈ gU := gU_t2 (List.mem_of_getElem? (i := 70) rfl) rfl
theorem v_153 : Cond.selects RX5 yX5_value yX5_value ∈ gU := gU_t2 (List.mem_of_getElem? (i := 71) rfl) rfl
theorem v_154 : Cond.code yX5_value cX5_value 4 (some .long) ∈ gU := gU_t2 (List.mem_of_getElem? (i := 72) rfl) rfl
theorem v_155 : Cond.methodLink RL 57 yX6_value ∈ gU := gU_t4 (List.mem_of_getElem? (i := 101) rfl) rfl
theorem v_156 : Cond.instanceMethod yX6_value ∈ gU := gU_t4 (List.mem_of_getElem? (i := 102) rfl) rfl
theorem v_157 : Cond.selects RX6 yX6_value yX6_value ∈ gU := gU_t4 (List.mem_of_getElem? (i := 103) rfl) rfl
theorem v_158 : Cond.code yX6_value cX6_value 3 (some .long) ∈ gU := gU_t4 (List.mem_of_getElem? (i := 104) rfl) rfl
theorem v_159 : Cond.methodLink RL 58 yX5_letter ∈ gU := gU_t2 (List.mem_of_getElem? (i := 74) rfl) rfl
theorem v_160 : Cond.instanceMethod yX5_letter ∈ gU := gU_t2 (List.mem_of_getElem? (i := 75) rfl) rfl
theorem v_161 : Cond.selects RX5 yX5_letter yX5_letter ∈ gU := gU_t2 (List.mem_of_getElem? (i := 76) rfl) rfl
theorem v_162 : Cond.code yX5_letter cX5_letter 5 (some .int) ∈ gU := gU_t2 (List.mem_of_getElem? (i := 77) rfl) rfl
theorem v_163 : Cond.methodLink RL 61 yX6_letter ∈ gU := gU_t4 (List.mem_of_getElem? (i := 105) rfl) rfl
theorem v_164 : Cond.instanceMethod yX6_letter ∈ gU := gU_t4 (List.mem_of_getElem? (i := 106) rfl) rfl
theorem v_165 : Cond.selects RX6 yX6_letter yX6_letter ∈ gU := gU_t4 (List.mem_of_getElem? (i := 107) rfl) rfl
theorem v_166 : Cond.code yX6_letter cX6_letter 5 (some .int) ∈ gU := gU_t4 (List.mem_of_getElem? (i := 108) rfl) rfl
theorem v_167 : Cond.methodLink RL 62 yX5_alike ∈ gU := gU_t2 (List.mem_of_getElem? (i := 79) rfl) rfl
theorem v_168 : Cond.instanceMethod yX5_alike ∈ gU := gU_t2 (List.mem_of_getElem? (i := 80) rfl) rfl
theorem v_169 : Cond.selects RX5 yX5_alike yX5_alike ∈ gU := gU_t2 (List.mem_of_getElem? (i := 81) rfl) rfl
theorem v_170 : Cond.code yX5_alike cX5_alike 5 (some .int) ∈ gU := gU_t2 (List.mem_of_getElem? (i := 82) rfl) rfl
theorem v_171 : Cond.methodLink RL 65 yX6_alike ∈ gU := gU_t4 (List.mem_of_getElem? (i := 109) rfl) rfl
theorem v_172 : Cond.instanceMethod yX6_alike ∈ gU := gU_t4 (List.mem_of_getElem? (i := 110) rfl) rfl
theorem v_173 : Cond.selects RX6 yX6_alike yX6_alike ∈ gU := gU_t4 (List.mem_of_getElem? (i := 111) rfl) rfl
theorem v_174 : Cond.code yX6_alike cX6_alike 5 (some .int) ∈ gU := gU_t4 (List.mem_of_getElem? (i := 112) rfl) rfl
theorem v_175 : Cond.methodLink RL 66 yX5_write ∈ gU := gU_t2 (List.mem_of_getElem? (i := 87) rfl) rfl
theorem v_176 : Cond.instanceMethod yX5_write ∈ gU := gU_t2 (List.mem_of_getElem? (i := 88) rfl) rfl
theorem v_177 : Cond.selects RX5 yX5_write yX5_write ∈ gU := gU_t2 (List.mem_of_getElem? (i := 89) rfl) rfl
theorem v_178 : Cond.code yX5_write cX5_write 7 (some .int) ∈ gU := gU_t2 (List.mem_of_getElem? (i := 90) rfl) rfl
theorem v_179 : Cond.methodLink RL 70 yX6_write ∈ gU := gU_t4 (List.mem_of_getElem? (i := 113) rfl) rfl
theorem v_180 : Cond.instanceMethod yX6_write ∈ gU := gU_t4 (List.mem_of_getElem? (i := 114) rfl) rfl
theorem v_181 : Cond.selects RX6 yX6_write yX6_write ∈ gU := gU_t4 (List.mem_of_getElem? (i := 115) rfl) rfl
theorem v_182 : Cond.code yX6_write cX6_write 7 (some .int) ∈ gU := gU_t4 (List.mem_of_getElem? (i := 116) rfl) rfl
theorem v_183 : Cond.methodLink RL 71 yX5_read ∈ gU := gU_t2 (List.mem_of_getElem? (i := 238) rfl) rfl
theorem v_184 : Cond.instanceMethod yX5_read ∈ gU := gU_t2 (List.mem_of_getElem? (i := 239) rfl) rfl
theorem v_185 : Cond.selects RX5 yX5_read yX5_read ∈ gU := gU_t3 (List.mem_of_getElem? (i := 0) rfl) rfl
theorem v_186 : Cond.code yX5_read cX5_read 3 (some .int) ∈ gU := gU_t3 (List.mem_of_getElem? (i := 1) rfl) rfl
theorem v_187 : Cond.methodLink RL 74 yX6_read ∈ gU := gU_t4 (List.mem_of_getElem? (i := 189) rfl) rfl
theorem v_188 : Cond.instanceMethod yX6_read ∈ gU := gU_t4 (List.mem_of_getElem? (i := 190) rfl) rfl
theorem v_189 : Cond.selects RX6 yX6_read yX6_read ∈ gU := gU_t4 (List.mem_of_getElem? (i := 191) rfl) rfl
theorem v_190 : Cond.code yX6_read cX6_read 3 (some .int) ∈ gU := gU_t4 (List.mem_of_getElem? (i := 192) rfl) rfl
theorem v_191 : Cond.methodLink RL 75 yX5_fault ∈ gU := gU_t3 (List.mem_of_getElem? (i := 151) rfl) rfl
theorem v_192 : Cond.instanceMethod yX5_fault ∈ gU := gU_t3 (List.mem_of_getElem? (i := 152) rfl) rfl
theorem v_193 : Cond.selects RX5 yX5_fault yX5_fault ∈ gU := gU_t3 (List.mem_of_getElem? (i := 153) rfl) rfl
theorem v_194 : Cond.code yX5_fault cX5_fault 2 (some .int) ∈ gU := gU_t3 (List.mem_of_getElem? (i := 154) rfl) rfl
theorem v_195 : Cond.methodLink RL 78 yX6_fault ∈ gU := gU_t5 (List.mem_of_getElem? (i := 44) rfl) rfl
theorem v_196 : Cond.instanceMethod yX6_fault ∈ gU := gU_t5 (List.mem_of_getElem? (i := 45) rfl) rfl
theorem v_197 : Cond.selects RX6 yX6_fault yX6_fault ∈ gU := gU_t5 (List.mem_of_getElem? (i := 46) rfl) rfl
theorem v_198 : Cond.code yX6_fault cX6_fault 2 (some .int) ∈ gU := gU_t5 (List.mem_of_getElem? (i := 47) rfl) rfl
theorem v_199 : Cond.methodLink RL 79 yX5_size ∈ gU := gU_t3 (List.mem_of_getElem? (i := 155) rfl) rfl
theorem v_200 : Cond.instanceMethod yX5_size ∈ gU := gU_t3 (List.mem_of_getElem? (i := 156) rfl) rfl
theorem v_201 : Cond.selects RX5 yX5_size yX5_size ∈ gU := gU_t3 (List.mem_of_getElem? (i := 157) rfl) rfl
theorem v_202 : Cond.code yX5_size cX5_size 1 (some .int) ∈ gU := gU_t3 (List.mem_of_getElem? (i := 158) rfl) rfl
theorem v_203 : Cond.methodLink RL 83 yX6_size ∈ gU := gU_t5 (List.mem_of_getElem? (i := 48) rfl) rfl
theorem v_204 : Cond.instanceMethod yX6_size ∈ gU := gU_t5 (List.mem_of_getElem? (i := 49) rfl) rfl
theorem v_205 : Cond.selects RX6 yX6_size yX6_size ∈ gU := gU_t5 (List.mem_of_getElem? (i := 50) rfl) rfl
theorem v_206 : Cond.code yX6_size cX6_size 1 (some .int) ∈ gU := gU_t5 (List.mem_of_getElem? (i := 51) rfl) rfl
theorem v_207 : Cond.methodLink RL 84 yX5_byteAt ∈ gU := gU_t3 (List.mem_of_getElem? (i := 159) rfl) rfl
theorem v_208 : Cond.instanceMethod yX5_byteAt ∈ gU := gU_t3 (List.mem_of_getElem? (i := 160) rfl) rfl
theorem v_209 : Cond.selects RX5 yX5_byteAt yX5_byteAt ∈ gU := gU_t3 (List.mem_of_getElem? (i := 161) rfl) rfl
theorem v_210 : Cond.code yX5_byteAt cX5_byteAt 2 (some .int) ∈ gU := gU_t3 (List.mem_of_getElem? (i := 162) rfl) rfl
theorem v_211 : Cond.methodLink RL 87 yX6_byteAt ∈ gU := gU_t5 (List.mem_of_getElem? (i := 52) rfl) rfl
theorem v_212 : Cond.instanceMethod yX6_byteAt ∈ gU := gU_t5 (List.mem_of_getElem? (i := 53) rfl) rfl
theorem v_213 : Cond.selects RX6 yX6_byteAt yX6_byteAt ∈ gU := gU_t5 (List.mem_of_getElem? (i := 54) rfl) rfl
theorem v_214 : Cond.code yX6_byteAt cX6_byteAt 2 (some .int) ∈ gU := gU_t5 (List.mem_of_getElem? (i := 55) rfl) rfl
theorem v_215 : Cond.methodLink RL 88 yX5_poke ∈ gU := gU_t3 (List.mem_of_getElem? (i := 164) rfl) rfl
theorem v_216 : Cond.instanceMethod yX5_poke ∈ gU := gU_t3 (List.mem_of_getElem? (i := 165) rfl) rfl
theorem v_217 : Cond.selects RX5 yX5_poke yX5_poke ∈ gU := gU_t3 (List.mem_of_getElem? (i := 166) rfl) rfl
theorem v_218 : Cond.code yX5_poke cX5_poke 3 (some .int) ∈ gU := gU_t3 (List.mem_of_getElem? (i := 167) rfl) rfl
theorem v_219 : Cond.methodLink RL 91 yX6_poke ∈ gU := gU_t5 (List.mem_of_getElem? (i := 56) rfl) rfl
theorem v_220 : Cond.instanceMethod yX6_poke ∈ gU := gU_t5 (List.mem_of_getElem? (i := 57) rfl) rfl
theorem v_221 : Cond.selects RX6 yX6_poke yX6_poke ∈ gU := gU_t5 (List.mem_of_getElem? (i := 58) rfl) rfl
theorem v_222 : Cond.code yX6_poke cX6_poke 3 (some .int) ∈ gU := gU_t5 (List.mem_of_getElem? (i := 59) rfl) rfl
theorem v_223 : Cond.methodLink RL 92 yX5_cut ∈ gU := gU_t3 (List.mem_of_getElem? (i := 169) rfl) rfl
theorem v_224 : Cond.instanceMethod yX5_cut ∈ gU := gU_t3 (List.mem_of_getElem? (i := 170) rfl) rfl
theorem v_225 : Cond.selects RX5 yX5_cut yX5_cut ∈ gU := gU_t3 (List.mem_of_getElem? (i := 171) rfl) rfl
theorem v_226 : Cond.code yX5_cut cX5_cut 3 (some .int) ∈ gU := gU_t3 (List.mem_of_getElem? (i := 172) rfl) rfl
theorem v_227 : Cond.methodLink RL 95 yX6_cut ∈ gU := gU_t5 (List.mem_of_getElem? (i := 60) rfl) rfl
theorem v_228 : Cond.instanceMethod yX6_cut ∈ gU := gU_t5 (List.mem_of_getElem? (i := 61) rfl) rfl
theorem v_229 : Cond.selects RX6 yX6_cut yX6_cut ∈ gU := gU_t5 (List.mem_of_getElem? (i := 62) rfl) rfl
theorem v_230 : Cond.code yX6_cut cX6_cut 3 (some .int) ∈ gU := gU_t5 (List.mem_of_getElem? (i := 63) rfl) rfl
theorem v_231 : Cond.methodLink RL 96 yX5_put ∈ gU := gU_t3 (List.mem_of_getElem? (i := 173) rfl) rfl
theorem v_232 : Cond.instanceMethod yX5_put ∈ gU := gU_t3 (List.mem_of_getElem? (i := 174) rfl) rfl
theorem v_233 : Cond.selects RX5 yX5_put yX5_put ∈ gU := gU_t3 (List.mem_of_getElem? (i := 175) rfl) rfl
theorem v_234 : Cond.code yX5_put cX5_put 4 (some .int) ∈ gU := gU_t3 (List.mem_of_getElem? (i := 176) rfl) rfl
theorem v_235 : Cond.methodLink RL 99 yX6_put ∈ gU := gU_t5 (List.mem_of_getElem? (i := 64) rfl) rfl
theorem v_236 : Cond.instanceMethod yX6_put ∈ gU := gU_t5 (List.mem_of_getElem? (i := 65) rfl) rfl
theorem v_237 : Cond.selects RX6 yX6_put yX6_put ∈ gU := gU_t5 (List.mem_of_getElem? (i := 66) rfl) rfl
theorem v_238 : Cond.code yX6_put cX6_put 5 (some .int) ∈ gU := gU_t5 (List.mem_of_getElem? (i := 67) rfl) rfl
theorem v_239 : Cond.classLink RL 7 RX5 ∈ gU := gU_t1 (List.mem_of_getElem? (i := 9) rfl) rfl
theorem v_240 : Cond.classLink RL 10 RX6 ∈ gU := gU_t3 (List.mem_of_getElem? (i := 178) rfl) rfl
theorem v_241 : Cond.instantiable RX5 5 ∈ gU := gU_t1 (List.mem_of_getElem? (i := 10) rfl) rfl
theorem v_242 : Cond.instantiable RX6 32 ∈ gU := gU_t3 (List.mem_of_getElem? (i := 179) rfl) rfl
theorem v_243 : Cond.methodLink RL 9 yX5_init ∈ gU := gU_t1 (List.mem_of_getElem? (i := 11) rfl) rfl
theorem v_244 : Cond.instanceMethod yX5_init ∈ gU := gU_t1 (List.mem_of_getElem? (i := 12) rfl) rfl
theorem v_245 : Cond.code yX5_init cX5_init 2 none ∈ gU := gU_t1 (List.mem_of_getElem? (i := 13) rfl) rfl
theorem v_246 : Cond.methodLink RL 12 yX6_init ∈ gU := gU_t3 (List.mem_of_getElem? (i := 180) rfl) rfl
theorem v_247 : Cond.instanceMethod yX6_init ∈ gU := gU_t3 (List.mem_of_getElem? (i := 181) rfl) rfl
theorem v_248 : Cond.code yX6_init cX6_init 1 none ∈ gU := gU_t3 (List.mem_of_getElem? (i := 182) rfl) rfl
