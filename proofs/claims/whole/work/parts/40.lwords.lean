/-! the words of the law and of the constructors -/
theorem v_0 : Cond.methodLink RX0 3 objectInit ∈ gU := gU_t1 (List.mem_of_getElem? (i := 23) rfl) rfl
theorem v_1 : Cond.instanceMethod objectInit ∈ gU := gU_t1 (List.mem_of_getElem? (i := 15) rfl) rfl
theorem v_2 : Cond.code objectInit ⟨#[0xb1]⟩ 1 none ∈ gU := gU_t1 (List.mem_of_getElem? (i := 16) rfl) rfl
theorem v_3 : Cond.arrayClass .boolean ∈ gU := gU_t1 (List.mem_of_getElem? (i := 52) rfl) rfl
theorem v_4 : Cond.fieldLink RX0 9 "ColumnPages$Column" "there" "[Z" ∈ gU := gU_t1 (List.mem_of_getElem? (i := 36) rfl) rfl
theorem v_5 : Cond.arrayClass .long ∈ gU := gU_t1 (List.mem_of_getElem? (i := 53) rfl) rfl
theorem v_6 : Cond.fieldLink RX0 15 "ColumnPages$Column" "numbers" "[J" ∈ gU := gU_t1 (List.mem_of_getElem? (i := 37) rfl) rfl
theorem v_7 : Cond.arrayClass .byte ∈ gU := gU_t1 (List.mem_of_getElem? (i := 54) rfl) rfl
theorem v_8 : Cond.fieldLink RX0 19 "ColumnPages$Column" "letters" "[B" ∈ gU := gU_t1 (List.mem_of_getElem? (i := 38) rfl) rfl
theorem v_9 : Cond.methodLink RX3 3 objectInit ∈ gU := gU_t1 (List.mem_of_getElem? (i := 60) rfl) rfl
theorem v_10 : Cond.fieldLink RX3 9 "ColumnPages$Row" "bytes" "[B" ∈ gU := gU_t1 (List.mem_of_getElem? (i := 61) rfl) rfl
theorem v_11 : Cond.methodLink RX4 3 objectInit ∈ gU := gU_t1 (List.mem_of_getElem? (i := 120) rfl) rfl
theorem v_12 : Cond.arrayClass .int ∈ gU := gU_t1 (List.mem_of_getElem? (i := 108) rfl) rfl
theorem v_13 : Cond.fieldLink RX4 9 "ColumnPages$Source" "widths" "[I" ∈ gU := gU_t1 (List.mem_of_getElem? (i := 130) rfl) rfl
theorem v_14 : Cond.methodLink RX2 3 objectInit ∈ gU := gU_t1 (List.mem_of_getElem? (i := 82) rfl) rfl
theorem v_15 : Cond.classLink RX2 9 RX3 ∈ gU := gU_t1 (List.mem_of_getElem? (i := 83) rfl) rfl
theorem v_16 : Cond.instantiable RX3 3 ∈ gU := gU_t1 (List.mem_of_getElem? (i := 56) rfl) rfl
theorem v_17 : Cond.initialized RX3 ∈ gU := gU_t1 (List.mem_of_getElem? (i := 3) rfl) rfl
theorem v_18 : Cond.methodLink RX2 11 yX3_init ∈ gU := gU_t1 (List.mem_of_getElem? (i := 84) rfl) rfl
theorem v_19 : Cond.instanceMethod yX3_init ∈ gU := gU_t1 (List.mem_of_getElem? (i := 58) rfl) rfl
theorem v_20 : Cond.code yX3_init cX3_init 2 none ∈ gU := gU_t1 (List.mem_of_getElem? (i := 59) rfl) rfl
theorem v_21 : Cond.fieldLink RX2 14 "ColumnPages$PageWriter" "out" "LColumnPages$Row;" ∈ gU := gU_t1 (List.mem_of_getElem? (i := 85) rfl) rfl
theorem v_22 : Cond.fieldLink RX2 20 "ColumnPages$PageWriter" "body" "LColumnPages$Row;" ∈ gU := gU_t1 (List.mem_of_getElem? (i := 87) rfl) rfl
theorem v_23 : Cond.fieldLink RX2 23 "ColumnPages$PageWriter" "chosen" "[I" ∈ gU := gU_t1 (List.mem_of_getElem? (i := 88) rfl) rfl
theorem v_24 : Cond.fieldLink RX2 27 "ColumnPages$PageWriter" "places" "[I" ∈ gU := gU_t1 (List.mem_of_getElem? (i := 90) rfl) rfl
theorem v_25 : Cond.fieldLink RX2 30 "ColumnPages$PageWriter" "numbers" "[J" ∈ gU := gU_t1 (List.mem_of_getElem? (i := 92) rfl) rfl
theorem v_26 : Cond.methodLink RX1 3 objectInit ∈ gU := gU_t1 (List.mem_of_getElem? (i := 114) rfl) rfl
theorem v_27 : Cond.classLink RX1 9 RX4 ∈ gU := gU_t1 (List.mem_of_getElem? (i := 115) rfl) rfl
theorem v_28 : Cond.instantiable RX4 6 ∈ gU := gU_t1 (List.mem_of_getElem? (i := 116) rfl) rfl
theorem v_29 : Cond.initialized RX4 ∈ gU := gU_t1 (List.mem_of_getElem? (i := 6) rfl) rfl
theorem v_30 : Cond.methodLink RX1 11 yX4_init ∈ gU := gU_t1 (List.mem_of_getElem? (i := 117) rfl) rfl
theorem v_31 : Cond.instanceMethod yX4_init ∈ gU := gU_t1 (List.mem_of_getElem? (i := 118) rfl) rfl
theorem v_32 : Cond.code yX4_init cX4_init 1 none ∈ gU := gU_t1 (List.mem_of_getElem? (i := 119) rfl) rfl
theorem v_33 : Cond.fieldLink RX1 12 "ColumnPages$PageReader" "source" "LColumnPages$Source;" ∈ gU := gU_t1 (List.mem_of_getElem? (i := 146) rfl) rfl
theorem v_34 : Cond.classLink RX1 18 RX0 ∈ gU := gU_t1 (List.mem_of_getElem? (i := 144) rfl) rfl
theorem v_35 : Cond.instantiable RX0 6 ∈ gU := gU_t1 (List.mem_of_getElem? (i := 19) rfl) rfl
theorem v_36 : Cond.initialized RX0 ∈ gU := gU_t1 (List.mem_of_getElem? (i := 2) rfl) rfl
theorem v_37 : Cond.methodLink RX1 20 yX0_init ∈ gU := gU_t1 (List.mem_of_getElem? (i := 145) rfl) rfl
theorem v_38 : Cond.instanceMethod yX0_init ∈ gU := gU_t1 (List.mem_of_getElem? (i := 21) rfl) rfl
theorem v_39 : Cond.code yX0_init cX0_init 1 none ∈ gU := gU_t1 (List.mem_of_getElem? (i := 22) rfl) rfl
theorem v_40 : Cond.fieldLink RX1 21 "ColumnPages$PageReader" "fresh" "LColumnPages$Column;" ∈ gU := gU_t1 (List.mem_of_getElem? (i := 148) rfl) rfl
theorem v_41 : Cond.fieldLink RX1 25 "ColumnPages$PageReader" "dictionary" "LColumnPages$Column;" ∈ gU := gU_t1 (List.mem_of_getElem? (i := 150) rfl) rfl
theorem v_42 : Cond.fieldLink RX1 28 "ColumnPages$PageReader" "levels" "[J" ∈ gU := gU_t1 (List.mem_of_getElem? (i := 159) rfl) rfl
theorem v_43 : Cond.fieldLink RX1 32 "ColumnPages$PageReader" "numbers" "[J" ∈ gU := gU_t1 (List.mem_of_getElem? (i := 160) rfl) rfl
theorem v_44 : Cond.methodLink RX5 1 objectInit ∈ gU := gU_t1 (List.mem_of_getElem? (i := 14) rfl) rfl
theorem v_45 : Cond.classLink RX5 9 RX0 ∈ gU := gU_t1 (List.mem_of_getElem? (i := 17) rfl) rfl
theorem v_46 : Cond.fieldLink RX5 11 "ColumnPages" "columns" "[LColumnPages$Column;" ∈ gU := gU_t1 (List.mem_of_getElem? (i := 184) rfl) rfl
theorem v_47 : Cond.methodLink RX5 15 yX0_init ∈ gU := gU_t1 (List.mem_of_getElem? (i := 20) rfl) rfl
theorem v_48 : Cond.classLink RX5 16 RX3 ∈ gU := gU_t1 (List.mem_of_getElem? (i := 55) rfl) rfl
theorem v_49 : Cond.methodLink RX5 18 yX3_init ∈ gU := gU_t1 (List.mem_of_getElem? (i := 57) rfl) rfl
theorem v_50 : Cond.fieldLink RX5 21 "ColumnPages" "tape" "LColumnPages$Row;" ∈ gU := gU_t1 (List.mem_of_getElem? (i := 185) rfl) rfl
theorem v_51 : Cond.fieldLink RX5 25 "ColumnPages" "file" "LColumnPages$Row;" ∈ gU := gU_t1 (List.mem_of_getElem? (i := 186) rfl) rfl
theorem v_52 : Cond.classLink RX5 28 RX2 ∈ gU := gU_t1 (List.mem_of_getElem? (i := 77) rfl) rfl
theorem v_53 : Cond.instantiable RX2 7 ∈ gU := gU_t1 (List.mem_of_getElem? (i := 78) rfl) rfl
theorem v_54 : Cond.initialized RX2 ∈ gU := gU_t1 (List.mem_of_getElem? (i := 4) rfl) rfl
theorem v_55 : Cond.methodLink RX5 30 yX2_init ∈ gU := gU_t1 (List.mem_of_getElem? (i := 79) rfl) rfl
theorem v_56 : Cond.instanceMethod yX2_init ∈ gU := gU_t1 (List.mem_of_getElem? (i := 80) rfl) rfl
theorem v_57 : Cond.code yX2_init cX2_init 1 none ∈ gU := gU_t1 (List.mem_of_getElem? (i := 81) rfl) rfl
theorem v_58 : Cond.fieldLink RX5 31 "ColumnPages" "writer" "LColumnPages$PageWriter;" ∈ gU := gU_t1 (List.mem_of_getElem? (i := 187) rfl) rfl
theorem v_59 : Cond.classLink RX5 35 RX1 ∈ gU := gU_t1 (List.mem_of_getElem? (i := 109) rfl) rfl
theorem v_60 : Cond.instantiable RX1 11 ∈ gU := gU_t1 (List.mem_of_getElem? (i := 110) rfl) rfl
theorem v_61 : Cond.initialized RX1 ∈ gU := gU_t1 (List.mem_of_getElem? (i := 5) rfl) rfl
theorem v_62 : Cond.methodLink RX5 37 yX1_init ∈ gU := gU_t1 (List.mem_of_getElem? (i := 111) rfl) rfl
theorem v_63 : Cond.instanceMethod yX1_init ∈ gU := gU_t1 (List.mem_of_getElem? (i := 112) rfl) rfl
theorem v_64 : Cond.code yX1_init cX1_init 1 none ∈ gU := gU_t1 (List.mem_of_getElem? (i := 113) rfl) rfl
theorem v_65 : Cond.fieldLink RX5 38 "ColumnPages" "reader" "LColumnPages$PageReader;" ∈ gU := gU_t1 (List.mem_of_getElem? (i := 188) rfl) rfl
theorem v_66 : Cond.methodLink RX6 1 objectInit ∈ gU := gU_t3 (List.mem_of_getElem? (i := 183) rfl) rfl
theorem v_67 : Cond.fieldLink RX6 7 "ColumnPagesModel" "kind" "[I" ∈ gU := gU_t3 (List.mem_of_getElem? (i := 186) rfl) rfl
theorem v_68 : Cond.fieldLink RX6 13 "ColumnPagesModel" "optional" "[Z" ∈ gU := gU_t3 (List.mem_of_getElem? (i := 187) rfl) rfl
theorem v_69 : Cond.fieldLink RX6 17 "ColumnPagesModel" "many" "[I" ∈ gU := gU_t3 (List.mem_of_getElem? (i := 188) rfl) rfl
theorem v_70 : Cond.fieldLink RX6 20 "ColumnPagesModel" "there" "[Z" ∈ gU := gU_t3 (List.mem_of_getElem? (i := 189) rfl) rfl
theorem v_71 : Cond.fieldLink RX6 23 "ColumnPagesModel" "value" "[J" ∈ gU := gU_t3 (List.mem_of_getElem? (i := 190) rfl) rfl
theorem v_72 : Cond.constant RX6 27 (56000) ∈ gU := gU_t3 (List.mem_of_getElem? (i := 184) rfl) rfl
theorem v_73 : Cond.fieldLink RX6 28 "ColumnPagesModel" "text" "[B" ∈ gU := gU_t3 (List.mem_of_getElem? (i := 191) rfl) rfl
theorem v_74 : Cond.fieldLink RX6 32 "ColumnPagesModel" "tape" "[B" ∈ gU := gU_t3 (List.mem_of_getElem? (i := 192) rfl) rfl
theorem v_75 : Cond.fieldLink RX6 35 "ColumnPagesModel" "file" "[B" ∈ gU := gU_t3 (List.mem_of_getElem? (i := 194) rfl) rfl
theorem v_76 : Cond.constant RX6 38 (60000) ∈ gU := gU_t3 (List.mem_of_getElem? (i := 185) rfl) rfl
theorem v_77 : Cond.fieldLink RX6 39 "ColumnPagesModel" "draft" "[B" ∈ gU := gU_t3 (List.mem_of_getElem? (i := 196) rfl) rfl
theorem v_78 : Cond.fieldLink RX6 42 "ColumnPagesModel" "numbers" "[J" ∈ gU := gU_t3 (List.mem_of_getElem? (i := 198) rfl) rfl
theorem v_79 : Cond.fieldLink RX6 45 "ColumnPagesModel" "steps" "[J" ∈ gU := gU_t3 (List.mem_of_getElem? (i := 199) rfl) rfl
theorem v_80 : Cond.fieldLink RX6 48 "ColumnPagesModel" "placeOf" "[I" ∈ gU := gU_t3 (List.mem_of_getElem? (i := 200) rfl) rfl
theorem v_81 : Cond.fieldLink RX6 51 "ColumnPagesModel" "bodyBytes" "[B" ∈ gU := gU_t3 (List.mem_of_getElem? (i := 201) rfl) rfl
theorem v_82 : Cond.fieldLink RX6 54 "ColumnPagesModel" "widths" "[I" ∈ gU := gU_t3 (List.mem_of_getElem? (i := 210) rfl) rfl
theorem v_83 : Cond.fieldLink RX6 57 "ColumnPagesModel" "level" "[Z" ∈ gU := gU_t3 (List.mem_of_getElem? (i := 216) rfl) rfl
