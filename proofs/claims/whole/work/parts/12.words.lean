def gU : List Cond := lw_tbl.filter goodWord
theorem gU_t1 {w : Cond} (h : w ∈ tables_1_1) (hg : goodWord w = true) : w ∈ gU := List.mem_filter.mpr ⟨List.mem_append_right _ (List.mem_append_left _ h), hg⟩
theorem gU_t2 {w : Cond} (h : w ∈ tables_1_2) (hg : goodWord w = true) : w ∈ gU := List.mem_filter.mpr ⟨List.mem_append_right _ (List.mem_append_right _ (List.mem_append_left _ h)), hg⟩
theorem gU_t3 {w : Cond} (h : w ∈ tables_1_3) (hg : goodWord w = true) : w ∈ gU := List.mem_filter.mpr ⟨List.mem_append_right _ (List.mem_append_right _ (List.mem_append_right _ (List.mem_append_left _ h))), hg⟩
theorem gU_t4 {w : Cond} (h : w ∈ tables_1_4) (hg : goodWord w = true) : w ∈ gU := List.mem_filter.mpr ⟨List.mem_append_right _ (List.mem_append_right _ (List.mem_append_right _ (List.mem_append_right _ (List.mem_append_left _ h)))), hg⟩
theorem gU_t5 {w : Cond} (h : w ∈ tables_1_5) (hg : goodWord w = true) : w ∈ gU := List.mem_filter.mpr ⟨List.mem_append_right _ (List.mem_append_right _ (List.mem_append_right _ (List.mem_append_right _ (List.mem_append_right _ (h))))), hg⟩
theorem gU_p1 {q : MethodName × Nat} (h : q ∈ lw_privs_1) : Cond.selects q.1.cls q.1 q.1 ∈ gU := List.mem_filter.mpr ⟨List.mem_append_left _ (List.mem_map.mpr ⟨q, List.mem_append_left _ h, rfl⟩), rfl⟩
theorem gU_p2 {q : MethodName × Nat} (h : q ∈ lw_privs_2) : Cond.selects q.1.cls q.1 q.1 ∈ gU := List.mem_filter.mpr ⟨List.mem_append_left _ (List.mem_map.mpr ⟨q, List.mem_append_right _ (List.mem_append_left _ h), rfl⟩), rfl⟩
theorem gU_p3 {q : MethodName × Nat} (h : q ∈ lw_privs_3) : Cond.selects q.1.cls q.1 q.1 ∈ gU := List.mem_filter.mpr ⟨List.mem_append_left _ (List.mem_map.mpr ⟨q, List.mem_append_right _ (List.mem_append_right _ (List.mem_append_left _ h)), rfl⟩), rfl⟩
theorem gU_p4 {q : MethodName × Nat} (h : q ∈ lw_privs_4) : Cond.selects q.1.cls q.1 q.1 ∈ gU := List.mem_filter.mpr ⟨List.mem_append_left _ (List.mem_map.mpr ⟨q, List.mem_append_right _ (List.mem_append_right _ (List.mem_append_right _ (List.mem_append_left _ h))), rfl⟩), rfl⟩
theorem gU_p5 {q : MethodName × Nat} (h : q ∈ lw_privs_5) : Cond.selects q.1.cls q.1 q.1 ∈ gU := List.mem_filter.mpr ⟨List.mem_append_left _ (List.mem_map.mpr ⟨q, List.mem_append_right _ (List.mem_append_right _ (List.mem_append_right _ (List.mem_append_right _ (h)))), rfl⟩), rfl⟩
theorem u_0 : Cond.constantLong RX4 88 (128) ∈ gU := gU_t3 (List.mem_of_getElem? (i := 117) rfl) rfl
theorem u_1 : Cond.constantLong RX4 90 (4) ∈ gU := gU_t3 (List.mem_of_getElem? (i := 118) rfl) rfl
theorem u_2 : Cond.constantLong RX1 184 (40) ∈ gU := gU_t3 (List.mem_of_getElem? (i := 129) rfl) rfl
theorem u_3 : Cond.constantLong RX1 122 (5) ∈ gU := gU_t3 (List.mem_of_getElem? (i := 52) rfl) rfl
theorem u_4 : Cond.constantLong RX1 124 (6) ∈ gU := gU_t3 (List.mem_of_getElem? (i := 53) rfl) rfl
theorem u_5 : Cond.constantLong RX1 126 (3) ∈ gU := gU_t3 (List.mem_of_getElem? (i := 54) rfl) rfl
theorem u_6 : Cond.constantLong RX1 128 (8) ∈ gU := gU_t3 (List.mem_of_getElem? (i := 55) rfl) rfl
theorem u_7 : Cond.constantLong RX1 88 (2) ∈ gU := gU_t3 (List.mem_of_getElem? (i := 46) rfl) rfl
theorem u_8 : Cond.constantLong RX3 40 (127) ∈ gU := gU_t2 (List.mem_of_getElem? (i := 144) rfl) rfl
theorem u_9 : Cond.constantLong RX3 50 (2) ∈ gU := gU_t2 (List.mem_of_getElem? (i := 178) rfl) rfl
theorem u_10 : Cond.constantLong RX3 92 (4294967295) ∈ gU := gU_t2 (List.mem_of_getElem? (i := 217) rfl) rfl
theorem u_11 : Cond.constantLong RX3 70 (128) ∈ gU := gU_t2 (List.mem_of_getElem? (i := 203) rfl) rfl
theorem u_12 : Cond.constantLong RX3 72 (4) ∈ gU := gU_t2 (List.mem_of_getElem? (i := 204) rfl) rfl
theorem u_13 : Cond.constantLong RX6 60 (3) ∈ gU := gU_t4 (List.mem_of_getElem? (i := 50) rfl) rfl
theorem u_14 : Cond.constantLong RX6 74 (8) ∈ gU := gU_t4 (List.mem_of_getElem? (i := 66) rfl) rfl
theorem u_15 : Cond.constantLong RX6 80 (200) ∈ gU := gU_t4 (List.mem_of_getElem? (i := 79) rfl) rfl
theorem u_16 : Cond.constantLong RX6 86 (4) ∈ gU := gU_t4 (List.mem_of_getElem? (i := 88) rfl) rfl
theorem u_17 : Cond.constantLong RX6 102 (-128) ∈ gU := gU_t4 (List.mem_of_getElem? (i := 154) rfl) rfl
theorem u_18 : Cond.constantLong RX6 104 (127) ∈ gU := gU_t4 (List.mem_of_getElem? (i := 155) rfl) rfl
theorem u_19 : Cond.constantLong RX6 114 (2) ∈ gU := gU_t4 (List.mem_of_getElem? (i := 117) rfl) rfl
theorem u_20 : Cond.constantLong RX6 124 (128) ∈ gU := gU_t4 (List.mem_of_getElem? (i := 183) rfl) rfl
theorem u_21 : Cond.constantLong RX6 129 (4294967295) ∈ gU := gU_t4 (List.mem_of_getElem? (i := 184) rfl) rfl
theorem u_22 : Cond.constantLong RX6 244 (5) ∈ gU := gU_t4 (List.mem_of_getElem? (i := 229) rfl) rfl
theorem u_23 : Cond.constantLong RX6 246 (6) ∈ gU := gU_t4 (List.mem_of_getElem? (i := 230) rfl) rfl
theorem u_24 : Cond.constantLong RX6 282 (40) ∈ gU := gU_t5 (List.mem_of_getElem? (i := 39) rfl) rfl
theorem u_25 : Cond.methodLink RX0 48 Lib.Math.min.name ∈ gU := gU_t3 (List.mem_of_getElem? (i := 143) rfl) rfl
theorem u_26 : Cond.static Lib.Math.min.name ∈ gU := gU_t2 (List.mem_of_getElem? (i := 154) rfl) rfl
theorem u_27 : Cond.initialized "java/lang/Math" ∈ gU := gU_t1 (List.mem_of_getElem? (i := 8) rfl) rfl
theorem u_28 : Cond.code Lib.Math.min.name Lib.Math.min.code 2 (some .int) ∈ gU := gU_t2 (List.mem_of_getElem? (i := 155) (by decide +kernel)) rfl
theorem u_29 : Cond.methodLink RX2 47 Lib.Math.max.name ∈ gU := gU_t2 (List.mem_of_getElem? (i := 150) rfl) rfl
theorem u_30 : Cond.static Lib.Math.max.name ∈ gU := gU_t2 (List.mem_of_getElem? (i := 151) rfl) rfl
theorem u_31 : Cond.code Lib.Math.max.name Lib.Math.max.code 2 (some .int) ∈ gU := gU_t2 (List.mem_of_getElem? (i := 152) (by decide +kernel)) rfl
theorem u_32 : Cond.methodLink RX2 53 Lib.Math.min.name ∈ gU := gU_t2 (List.mem_of_getElem? (i := 153) rfl) rfl
theorem u_33 : Cond.methodLink RX3 23 Lib.Math.min.name ∈ gU := gU_t2 (List.mem_of_getElem? (i := 184) rfl) rfl
theorem u_34 : Cond.methodLink RX3 29 Lib.Math.max.name ∈ gU := gU_t2 (List.mem_of_getElem? (i := 213) rfl) rfl
theorem u_35 : Cond.methodLink RX3 89 Lib.MathLoose.min_long.x ∈ gU := gU_t2 (List.mem_of_getElem? (i := 214) rfl) rfl
theorem u_36 : Cond.static Lib.MathLoose.min_long.x ∈ gU := gU_t2 (List.mem_of_getElem? (i := 215) rfl) rfl
theorem u_37 : Cond.code Lib.MathLoose.min_long.x Lib.MathLoose.min_long.code 4 (some .long) ∈ gU := gU_t2 (List.mem_of_getElem? (i := 216) (by decide +kernel)) rfl
theorem u_38 : Cond.methodLink RX4 82 Lib.Math.max.name ∈ gU := gU_t3 (List.mem_of_getElem? (i := 104) rfl) rfl
theorem u_39 : Cond.methodLink RX4 96 Lib.Math.min.name ∈ gU := gU_t3 (List.mem_of_getElem? (i := 120) rfl) rfl
theorem u_40 : Cond.methodLink RX0 34 yX3_get ∈ gU := gU_t1 (List.mem_of_getElem? (i := 236) rfl) rfl
theorem u_41 : Cond.instanceMethod yX3_get ∈ gU := gU_t1 (List.mem_of_getElem? (i := 237) rfl) rfl
theorem u_42 : Cond.selects RX3 yX3_get yX3_get ∈ gU := gU_t1 (List.mem_of_getElem? (i := 238) rfl) rfl
theorem u_43 : Cond.initialized RX3 ∈ gU := gU_t1 (List.mem_of_getElem? (i := 3) rfl) rfl
theorem u_44 : Cond.code yX3_get cX3_get 2 (some .int) ∈ gU := gU_t1 (List.mem_of_getElem? (i := 239) rfl) rfl
theorem u_45 : Cond.methodLink RX0 40 yX0_setNone ∈ gU := gU_t2 (List.mem_of_getElem? (i := 12) rfl) rfl
theorem u_46 : Cond.instanceMethod yX0_setNone ∈ gU := gU_t2 (List.mem_of_getElem? (i := 14) rfl) rfl
theorem u_47 : Cond.selects RX0 yX0_setNone yX0_setNone ∈ gU := gU_p1 (q := (yX0_setNone, 6)) (List.mem_of_getElem? (i := 1) rfl)
theorem u_48 : Cond.initialized RX0 ∈ gU := gU_t1 (List.mem_of_getElem? (i := 2) rfl) rfl
theorem u_49 : Cond.code yX0_setNone cX0_setNone 2 none ∈ gU := gU_t2 (List.mem_of_getElem? (i := 15) rfl) rfl
theorem u_50 : Cond.methodLink RX0 44 yX0_setCopy ∈ gU := gU_t2 (List.mem_of_getElem? (i := 24) rfl) rfl
theorem u_51 : Cond.instanceMethod yX0_setCopy ∈ gU := gU_t2 (List.mem_of_getElem? (i := 26) rfl) rfl
theorem u_52 : Cond.selects RX0 yX0_setCopy yX0_setCopy ∈ gU := gU_p1 (q := (yX0_setCopy, 6)) (List.mem_of_getElem? (i := 2) rfl)
theorem u_53 : Cond.code yX0_setCopy cX0_setCopy 5 none ∈ gU := gU_t2 (List.mem_of_getElem? (i := 27) rfl) rfl
theorem u_54 : Cond.methodLink RX0 54 yX0_begin ∈ gU := gU_t3 (List.mem_of_getElem? (i := 149) rfl) rfl
theorem u_55 : Cond.instanceMethod yX0_begin ∈ gU := gU_t1 (List.mem_of_getElem? (i := 209) rfl) rfl
theorem u_56 : Cond.selects RX0 yX0_begin yX0_begin ∈ gU := gU_t1 (List.mem_of_getElem? (i := 210) rfl) rfl
theorem u_57 : Cond.code yX0_begin cX0_begin 3 none ∈ gU := gU_t1 (List.mem_of_getElem? (i := 211) rfl) rfl
theorem u_58 : Cond.methodLink RX0 58 yX0_pushCopy ∈ gU := gU_t3 (List.mem_of_getElem? (i := 150) rfl) rfl
theorem u_59 : Cond.instanceMethod yX0_pushCopy ∈ gU := gU_t3 (List.mem_of_getElem? (i := 136) rfl) rfl
theorem u_60 : Cond.selects RX0 yX0_pushCopy yX0_pushCopy ∈ gU := gU_t3 (List.mem_of_getElem? (i := 137) rfl) rfl
theorem u_61 : Cond.code yX0_pushCopy cX0_pushCopy 3 none ∈ gU := gU_t3 (List.mem_of_getElem? (i := 138) rfl) rfl
theorem u_62 : Cond.methodLink RX0 62 yX0_isThere ∈ gU := gU_t2 (List.mem_of_getElem? (i := 36) rfl) rfl
theorem u_63 : Cond.instanceMethod yX0_isThere ∈ gU := gU_t2 (List.mem_of_getElem? (i := 37) rfl) rfl
theorem u_64 : Cond.selects RX0 yX0_isThere yX0_isThere ∈ gU := gU_t2 (List.mem_of_getElem? (i := 38) rfl) rfl
theorem u_65 : Cond.code yX0_isThere cX0_isThere 2 (some .boolean) ∈ gU := gU_t2 (List.mem_of_getElem? (i := 39) rfl) rfl
theorem u_66 : Cond.methodLink RX0 66 yX0_numberAt ∈ gU := gU_t2 (List.mem_of_getElem? (i := 52) rfl) rfl
theorem u_67 : Cond.instanceMethod yX0_numberAt ∈ gU := gU_t2 (List.mem_of_getElem? (i := 53) rfl) rfl
theorem u_68 : Cond.selects RX0 yX0_numberAt yX0_numberAt ∈ gU := gU_t2 (List.mem_of_getElem? (i := 54) rfl) rfl
theorem u_69 : Cond.code yX0_numberAt cX0_numberAt 2 (some .long) ∈ gU := gU_t2 (List.mem_of_getElem? (i := 55) rfl) rfl
theorem u_70 : Cond.methodLink RX0 70 yX0_letterAt ∈ gU := gU_t2 (List.mem_of_getElem? (i := 56) rfl) rfl
theorem u_71 : Cond.instanceMethod yX0_letterAt ∈ gU := gU_t2 (List.mem_of_getElem? (i := 57) rfl) rfl
theorem u_72 : Cond.selects RX0 yX0_letterAt yX0_letterAt ∈ gU := gU_t2 (List.mem_of_getElem? (i := 58) rfl) rfl
theorem u_73 : Cond.code yX0_letterAt cX0_letterAt 3 (some .int) ∈ gU := gU_t2 (List.mem_of_getElem? (i := 59) rfl) rfl
theorem u_74 : Cond.methodLink RX0 73 yX0_isSame ∈ gU := gU_t2 (List.mem_of_getElem? (i := 48) rfl) rfl
theorem u_75 : Cond.instanceMethod yX0_isSame ∈ gU := gU_t2 (List.mem_of_getElem? (i := 50) rfl) rfl
theorem u_76 : Cond.selects RX0 yX0_isSame yX0_isSame ∈ gU := gU_p1 (q := (yX0_isSame, 6)) (List.mem_of_getElem? (i := 3) rfl)
theorem u_77 : Cond.code yX0_isSame cX0_isSame 7 (some .boolean) ∈ gU := gU_t2 (List.mem_of_getElem? (i := 51) rfl) rfl
theorem u_78 : Cond.methodLink RX0 77 yX0_firstLike ∈ gU := gU_t2 (List.mem_of_getElem? (i := 44) rfl) rfl
theorem u_79 : Cond.instanceMethod yX0_firstLike ∈ gU := gU_t2 (List.mem_of_getElem? (i := 45) rfl) rfl
theorem u_80 : Cond.selects RX0 yX0_firstLike yX0_firstLike ∈ gU := gU_t2 (List.mem_of_getElem? (i := 46) rfl) rfl
theorem u_81 : Cond.code yX0_firstLike cX0_firstLike 3 (some .int) ∈ gU := gU_t2 (List.mem_of_getElem? (i := 47) rfl) rfl
theorem u_82 : Cond.methodLink RX1 100 yX4_expect ∈ gU := gU_t3 (List.mem_of_getElem? (i := 27) rfl) rfl
theorem u_83 : Cond.instanceMethod yX4_expect ∈ gU := gU_t3 (List.mem_of_getElem? (i := 28) rfl) rfl
theorem u_84 : Cond.selects RX4 yX4_expect yX4_expect ∈ gU := gU_t3 (List.mem_of_getElem? (i := 29) rfl) rfl
theorem u_85 : Cond.initialized RX4 ∈ gU := gU_t1 (List.mem_of_getElem? (i := 6) rfl) rfl
theorem u_86 : Cond.code yX4_expect cX4_expect 3 none ∈ gU := gU_t3 (List.mem_of_getElem? (i := 30) rfl) rfl
theorem u_87 : Cond.methodLink RX1 105 yX1_isDataCode ∈ gU := gU_t3 (List.mem_of_getElem? (i := 48) rfl) rfl
theorem u_88 : Cond.instanceMethod yX1_isDataCode ∈ gU := gU_t3 (List.mem_of_getElem? (i := 50) rfl) rfl
theorem u_89 : Cond.selects RX1 yX1_isDataCode yX1_isDataCode ∈ gU := gU_p2 (q := (yX1_isDataCode, 11)) (List.mem_of_getElem? (i := 3) rfl)
theorem u_90 : Cond.initialized RX1 ∈ gU := gU_t1 (List.mem_of_getElem? (i := 5) rfl) rfl
theorem u_91 : Cond.code yX1_isDataCode cX1_isDataCode 3 (some .boolean) ∈ gU := gU_t3 (List.mem_of_getElem? (i := 51) rfl) rfl
theorem u_92 : Cond.methodLink RX1 115 yX4_nextVar ∈ gU := gU_t3 (List.mem_of_getElem? (i := 39) rfl) rfl
theorem u_93 : Cond.instanceMethod yX4_nextVar ∈ gU := gU_t3 (List.mem_of_getElem? (i := 40) rfl) rfl
theorem u_94 : Cond.selects RX4 yX4_nextVar yX4_nextVar ∈ gU := gU_t3 (List.mem_of_getElem? (i := 41) rfl) rfl
theorem u_95 : Cond.code yX4_nextVar cX4_nextVar 5 (some .long) ∈ gU := gU_t3 (List.mem_of_getElem? (i := 42) rfl) rfl
theorem u_96 : Cond.static yX5_unzigged ∈ gU := gU_t3 (List.mem_of_getElem? (i := 44) rfl) rfl
theorem u_97 : Cond.initialized RX5 ∈ gU := gU_t1 (List.mem_of_getElem? (i := 1) rfl) rfl
theorem u_98 : Cond.code yX5_unzigged cX5_unzigged 2 (some .long) ∈ gU := gU_t3 (List.mem_of_getElem? (i := 45) rfl) rfl
theorem u_99 : Cond.methodLink RX1 130 yX1_readPlain ∈ gU := gU_t3 (List.mem_of_getElem? (i := 60) rfl) rfl
theorem u_100 : Cond.instanceMethod yX1_readPlain ∈ gU := gU_t3 (List.mem_of_getElem? (i := 62) rfl) rfl
theorem u_101 : Cond.selects RX1 yX1_readPlain yX1_readPlain ∈ gU := gU_p2 (q := (yX1_readPlain, 11)) (List.mem_of_getElem? (i := 5) rfl)
theorem u_102 : Cond.code yX1_readPlain cX1_readPlain 7 none ∈ gU := gU_t3 (List.mem_of_getElem? (i := 63) rfl) rfl
theorem u_103 : Cond.methodLink RX1 137 yX1_readOwnRuns ∈ gU := gU_t3 (List.mem_of_getElem? (i := 88) rfl) rfl
theorem u_104 : Cond.instanceMethod yX1_readOwnRuns ∈ gU := gU_t3 (List.mem_of_getElem? (i := 90) rfl) rfl
theorem u_105 : Cond.selects RX1 yX1_readOwnRuns yX1_readOwnRuns ∈ gU := gU_p2 (q := (yX1_readOwnRuns, 11)) (List.mem_of_getElem? (i := 8) rfl)
theorem u_106 : Cond.code yX1_readOwnRuns cX1_readOwnRuns 6 none ∈ gU := gU_t3 (List.mem_of_getElem? (i := 91) rfl) rfl
theorem u_107 : Cond.methodLink RX1 141 yX1_countOnes ∈ gU := gU_t3 (List.mem_of_getElem? (i := 109) rfl) rfl
theorem u_108 : Cond.instanceMethod yX1_countOnes ∈ gU := gU_t3 (List.mem_of_getElem? (i := 111) rfl) rfl
theorem u_109 : Cond.selects RX1 yX1_countOnes yX1_countOnes ∈ gU := gU_p2 (q := (yX1_countOnes, 11)) (List.mem_of_getElem? (i := 9) rfl)
theorem u_110 : Cond.code yX1_countOnes cX1_countOnes 4 (some .int) ∈ gU := gU_t3 (List.mem_of_getElem? (i := 112) rfl) rfl
theorem u_111 : Cond.methodLink RX1 145 yX4_nextDifferences ∈ gU := gU_t3 (List.mem_of_getElem? (i := 113) rfl) rfl
theorem u_112 : Cond.instanceMethod yX4_nextDifferences ∈ gU := gU_t3 (List.mem_of_getElem? (i := 114) rfl) rfl
theorem u_113 : Cond.selects RX4 yX4_nextDifferences yX4_nextDifferences ∈ gU := gU_t3 (List.mem_of_getElem? (i := 115) rfl) rfl
theorem u_114 : Cond.code yX4_nextDifferences cX4_nextDifferences 14 none ∈ gU := gU_t3 (List.mem_of_getElem? (i := 116) rfl) rfl
theorem u_115 : Cond.methodLink RX1 149 yX1_pushNumbers ∈ gU := gU_t3 (List.mem_of_getElem? (i := 69) rfl) rfl
theorem u_116 : Cond.instanceMethod yX1_pushNumbers ∈ gU := gU_t3 (List.mem_of_getElem? (i := 71) rfl) rfl
theorem u_117 : Cond.selects RX1 yX1_pushNumbers yX1_pushNumbers ∈ gU := gU_p2 (q := (yX1_pushNumbers, 11)) (List.mem_of_getElem? (i := 6) rfl)
theorem u_118 : Cond.code yX1_pushNumbers cX1_pushNumbers 3 none ∈ gU := gU_t3 (List.mem_of_getElem? (i := 72) rfl) rfl
theorem u_119 : Cond.methodLink RX1 152 yX1_readLengths ∈ gU := gU_t3 (List.mem_of_getElem? (i := 125) rfl) rfl
theorem u_120 : Cond.instanceMethod yX1_readLengths ∈ gU := gU_t3 (List.mem_of_getElem? (i := 127) rfl) rfl
theorem u_121 : Cond.selects RX1 yX1_readLengths yX1_readLengths ∈ gU := gU_p2 (q := (yX1_readLengths, 11)) (List.mem_of_getElem? (i := 11) rfl)
theorem u_122 : Cond.code yX1_readLengths cX1_readLengths 6 none ∈ gU := gU_t3 (List.mem_of_getElem? (i := 128) rfl) rfl
theorem u_123 : Cond.methodLink RX1 155 yX1_readPlaces ∈ gU := gU_t3 (List.mem_of_getElem? (i := 130) rfl) rfl
theorem u_124 : Cond.instanceMethod yX1_readPlaces ∈ gU := gU_t3 (List.mem_of_getElem? (i := 132) rfl) rfl
theorem u_125 : Cond.selects RX1 yX1_readPlaces yX1_readPlaces ∈ gU := gU_p2 (q := (yX1_readPlaces, 11)) (List.mem_of_getElem? (i := 12) rfl)
theorem u_126 : Cond.code yX1_readPlaces cX1_readPlaces 6 none ∈ gU := gU_t3 (List.mem_of_getElem? (i := 133) rfl) rfl
theorem u_127 : Cond.methodLink RX1 158 yX0_spread ∈ gU := gU_t3 (List.mem_of_getElem? (i := 139) rfl) rfl
theorem u_128 : Cond.instanceMethod yX0_spread ∈ gU := gU_t3 (List.mem_of_getElem? (i := 140) rfl) rfl
theorem u_129 : Cond.selects RX0 yX0_spread yX0_spread ∈ gU := gU_t3 (List.mem_of_getElem? (i := 141) rfl) rfl
theorem u_130 : Cond.code yX0_spread cX0_spread 6 none ∈ gU := gU_t3 (List.mem_of_getElem? (i := 142) rfl) rfl
theorem u_131 : Cond.methodLink RX1 162 yX4_nextLittle ∈ gU := gU_t3 (List.mem_of_getElem? (i := 74) rfl) rfl
theorem u_132 : Cond.instanceMethod yX4_nextLittle ∈ gU := gU_t3 (List.mem_of_getElem? (i := 75) rfl) rfl
theorem u_133 : Cond.selects RX4 yX4_nextLittle yX4_nextLittle ∈ gU := gU_t3 (List.mem_of_getElem? (i := 76) rfl) rfl
theorem u_134 : Cond.code yX4_nextLittle cX4_nextLittle 5 (some .long) ∈ gU := gU_t3 (List.mem_of_getElem? (i := 77) rfl) rfl
theorem u_135 : Cond.methodLink RX1 166 yX4_nextRuns ∈ gU := gU_t3 (List.mem_of_getElem? (i := 92) rfl) rfl
theorem u_136 : Cond.instanceMethod yX4_nextRuns ∈ gU := gU_t3 (List.mem_of_getElem? (i := 93) rfl) rfl
theorem u_137 : Cond.selects RX4 yX4_nextRuns yX4_nextRuns ∈ gU := gU_t3 (List.mem_of_getElem? (i := 94) rfl) rfl
theorem u_138 : Cond.code yX4_nextRuns cX4_nextRuns 16 none ∈ gU := gU_t3 (List.mem_of_getElem? (i := 95) rfl) rfl
theorem u_139 : Cond.methodLink RX1 170 yX0_pushNumber ∈ gU := gU_t3 (List.mem_of_getElem? (i := 73) rfl) rfl
theorem u_140 : Cond.instanceMethod yX0_pushNumber ∈ gU := gU_t1 (List.mem_of_getElem? (i := 217) rfl) rfl
theorem u_141 : Cond.selects RX0 yX0_pushNumber yX0_pushNumber ∈ gU := gU_t1 (List.mem_of_getElem? (i := 218) rfl) rfl
theorem u_142 : Cond.code yX0_pushNumber cX0_pushNumber 3 none ∈ gU := gU_t1 (List.mem_of_getElem? (i := 219) rfl) rfl
theorem u_143 : Cond.static yX5_wholeGroups ∈ gU := gU_t2 (List.mem_of_getElem? (i := 116) rfl) rfl
theorem u_144 : Cond.code yX5_wholeGroups cX5_wholeGroups 1 (some .int) ∈ gU := gU_t2 (List.mem_of_getElem? (i := 117) rfl) rfl
theorem u_145 : Cond.methodLink RX1 177 yX4_nextPacked ∈ gU := gU_t3 (List.mem_of_getElem? (i := 65) rfl) rfl
theorem u_146 : Cond.instanceMethod yX4_nextPacked ∈ gU := gU_t3 (List.mem_of_getElem? (i := 66) rfl) rfl
theorem u_147 : Cond.selects RX4 yX4_nextPacked yX4_nextPacked ∈ gU := gU_t3 (List.mem_of_getElem? (i := 67) rfl) rfl
theorem u_148 : Cond.code yX4_nextPacked cX4_nextPacked 12 none ∈ gU := gU_t3 (List.mem_of_getElem? (i := 68) rfl) rfl
theorem u_149 : Cond.methodLink RX1 181 yX4_nextText ∈ gU := gU_t3 (List.mem_of_getElem? (i := 78) rfl) rfl
theorem u_150 : Cond.instanceMethod yX4_nextText ∈ gU := gU_t3 (List.mem_of_getElem? (i := 79) rfl) rfl
theorem u_151 : Cond.selects RX4 yX4_nextText yX4_nextText ∈ gU := gU_t3 (List.mem_of_getElem? (i := 80) rfl) rfl
theorem u_152 : Cond.code yX4_nextText cX4_nextText 3 none ∈ gU := gU_t3 (List.mem_of_getElem? (i := 81) rfl) rfl
theorem u_153 : Cond.methodLink RX1 186 yX4_next ∈ gU := gU_t3 (List.mem_of_getElem? (i := 134) rfl) rfl
theorem u_154 : Cond.instanceMethod yX4_next ∈ gU := gU_t3 (List.mem_of_getElem? (i := 32) rfl) rfl
theorem u_155 : Cond.selects RX4 yX4_next yX4_next ∈ gU := gU_t3 (List.mem_of_getElem? (i := 33) rfl) rfl
theorem u_156 : Cond.code yX4_next cX4_next 2 (some .int) ∈ gU := gU_t3 (List.mem_of_getElem? (i := 34) rfl) rfl
theorem u_157 : Cond.methodLink RX1 189 yX0_pushCopy ∈ gU := gU_t3 (List.mem_of_getElem? (i := 135) rfl) rfl
theorem u_158 : Cond.methodLink RX1 35 yX4_begin ∈ gU := gU_t3 (List.mem_of_getElem? (i := 6) rfl) rfl
theorem u_159 : Cond.instanceMethod yX4_begin ∈ gU := gU_t3 (List.mem_of_getElem? (i := 7) rfl) rfl
theorem u_160 : Cond.selects RX4 yX4_begin yX4_begin ∈ gU := gU_t3 (List.mem_of_getElem? (i := 8) rfl) rfl
theorem u_161 : Cond.code yX4_begin cX4_begin 2 none ∈ gU := gU_t3 (List.mem_of_getElem? (i := 9) rfl) rfl
theorem u_162 : Cond.methodLink RX1 39 yX0_begin ∈ gU := gU_t3 (List.mem_of_getElem? (i := 10) rfl) rfl
theorem u_163 : Cond.methodLink RX1 50 yX4_isSound ∈ gU := gU_t3 (List.mem_of_getElem? (i := 11) rfl) rfl
theorem u_164 : Cond.instanceMethod yX4_isSound ∈ gU := gU_t3 (List.mem_of_getElem? (i := 12) rfl) rfl
theorem u_165 : Cond.selects RX4 yX4_isSound yX4_isSound ∈ gU := gU_t3 (List.mem_of_getElem? (i := 13) rfl) rfl
theorem u_166 : Cond.code yX4_isSound cX4_isSound 1 (some .boolean) ∈ gU := gU_t3 (List.mem_of_getElem? (i := 14) rfl) rfl
theorem u_167 : Cond.methodLink RX1 54 yX4_left ∈ gU := gU_t3 (List.mem_of_getElem? (i := 15) rfl) rfl
theorem u_168 : Cond.instanceMethod yX4_left ∈ gU := gU_t3 (List.mem_of_getElem? (i := 16) rfl) rfl
theorem u_169 : Cond.selects RX4 yX4_left yX4_left ∈ gU := gU_t3 (List.mem_of_getElem? (i := 17) rfl) rfl
theorem u_170 : Cond.code yX4_left cX4_left 1 (some .int) ∈ gU := gU_t3 (List.mem_of_getElem? (i := 18) rfl) rfl
theorem u_171 : Cond.methodLink RX1 58 yX1_readHead ∈ gU := gU_t3 (List.mem_of_getElem? (i := 19) rfl) rfl
theorem u_172 : Cond.instanceMethod yX1_readHead ∈ gU := gU_t3 (List.mem_of_getElem? (i := 21) rfl) rfl
theorem u_173 : Cond.selects RX1 yX1_readHead yX1_readHead ∈ gU := gU_p2 (q := (yX1_readHead, 11)) (List.mem_of_getElem? (i := 1) rfl)
theorem u_174 : Cond.code yX1_readHead cX1_readHead 14 none ∈ gU := gU_t3 (List.mem_of_getElem? (i := 22) rfl) rfl
theorem u_175 : Cond.methodLink RX1 64 yX1_readDictionary ∈ gU := gU_t3 (List.mem_of_getElem? (i := 56) rfl) rfl
theorem u_176 : Cond.instanceMethod yX1_readDictionary ∈ gU := gU_t3 (List.mem_of_getElem? (i := 58) rfl) rfl
theorem u_177 : Cond.selects RX1 yX1_readDictionary yX1_readDictionary ∈ gU := gU_p2 (q := (yX1_readDictionary, 11)) (List.mem_of_getElem? (i := 4) rfl)
theorem u_178 : Cond.code yX1_readDictionary cX1_readDictionary 1 none ∈ gU := gU_t3 (List.mem_of_getElem? (i := 59) rfl) rfl
theorem u_179 : Cond.methodLink RX1 67 yX1_readData ∈ gU := gU_t3 (List.mem_of_getElem? (i := 84) rfl) rfl
theorem u_180 : Cond.instanceMethod yX1_readData ∈ gU := gU_t3 (List.mem_of_getElem? (i := 86) rfl) rfl
theorem u_181 : Cond.selects RX1 yX1_readData yX1_readData ∈ gU := gU_p2 (q := (yX1_readData, 11)) (List.mem_of_getElem? (i := 7) rfl)
theorem u_182 : Cond.code yX1_readData cX1_readData 3 none ∈ gU := gU_t3 (List.mem_of_getElem? (i := 87) rfl) rfl
theorem u_183 : Cond.methodLink RX1 70 yX4_demandNothingLeft ∈ gU := gU_t3 (List.mem_of_getElem? (i := 105) rfl) rfl
theorem u_184 : Cond.instanceMethod yX4_demandNothingLeft ∈ gU := gU_t3 (List.mem_of_getElem? (i := 106) rfl) rfl
theorem u_185 : Cond.selects RX4 yX4_demandNothingLeft yX4_demandNothingLeft ∈ gU := gU_t3 (List.mem_of_getElem? (i := 107) rfl) rfl
theorem u_186 : Cond.code yX4_demandNothingLeft cX4_demandNothingLeft 1 none ∈ gU := gU_t3 (List.mem_of_getElem? (i := 108) rfl) rfl
theorem u_187 : Cond.methodLink RX1 84 yX1_nextZigField ∈ gU := gU_t3 (List.mem_of_getElem? (i := 23) rfl) rfl
theorem u_188 : Cond.instanceMethod yX1_nextZigField ∈ gU := gU_t3 (List.mem_of_getElem? (i := 25) rfl) rfl
theorem u_189 : Cond.selects RX1 yX1_nextZigField yX1_nextZigField ∈ gU := gU_p2 (q := (yX1_nextZigField, 11)) (List.mem_of_getElem? (i := 2) rfl)
theorem u_190 : Cond.code yX1_nextZigField cX1_nextZigField 1 (some .long) ∈ gU := gU_t3 (List.mem_of_getElem? (i := 26) rfl) rfl
theorem u_191 : Cond.methodLink RX1 96 yX4_demand ∈ gU := gU_t3 (List.mem_of_getElem? (i := 47) rfl) rfl
theorem u_192 : Cond.instanceMethod yX4_demand ∈ gU := gU_t3 (List.mem_of_getElem? (i := 36) rfl) rfl
theorem u_193 : Cond.selects RX4 yX4_demand yX4_demand ∈ gU := gU_t3 (List.mem_of_getElem? (i := 37) rfl) rfl
theorem u_194 : Cond.code yX4_demand cX4_demand 4 none ∈ gU := gU_t3 (List.mem_of_getElem? (i := 38) rfl) rfl
theorem u_195 : Cond.methodLink RX2 103 yX3_pushDifferences ∈ gU := gU_t2 (List.mem_of_getElem? (i := 199) rfl) rfl
theorem u_196 : Cond.instanceMethod yX3_pushDifferences ∈ gU := gU_t2 (List.mem_of_getElem? (i := 200) rfl) rfl
theorem u_197 : Cond.selects RX3 yX3_pushDifferences yX3_pushDifferences ∈ gU := gU_t2 (List.mem_of_getElem? (i := 201) rfl) rfl
theorem u_198 : Cond.code yX3_pushDifferences cX3_pushDifferences 7 none ∈ gU := gU_t2 (List.mem_of_getElem? (i := 202) rfl) rfl
theorem u_199 : Cond.methodLink RX2 107 yX2_pushAllLetters ∈ gU := gU_t2 (List.mem_of_getElem? (i := 224) rfl) rfl
theorem u_200 : Cond.instanceMethod yX2_pushAllLetters ∈ gU := gU_t2 (List.mem_of_getElem? (i := 226) rfl) rfl
theorem u_201 : Cond.selects RX2 yX2_pushAllLetters yX2_pushAllLetters ∈ gU := gU_p1 (q := (yX2_pushAllLetters, 7)) (List.mem_of_getElem? (i := 15) rfl)
theorem u_202 : Cond.initialized RX2 ∈ gU := gU_t1 (List.mem_of_getElem? (i := 4) rfl) rfl
theorem u_203 : Cond.code yX2_pushAllLetters cX2_pushAllLetters 3 none ∈ gU := gU_t2 (List.mem_of_getElem? (i := 227) rfl) rfl
theorem u_204 : Cond.methodLink RX2 110 yX2_pushPlaces ∈ gU := gU_t2 (List.mem_of_getElem? (i := 228) rfl) rfl
theorem u_205 : Cond.instanceMethod yX2_pushPlaces ∈ gU := gU_t2 (List.mem_of_getElem? (i := 230) rfl) rfl
theorem u_206 : Cond.selects RX2 yX2_pushPlaces yX2_pushPlaces ∈ gU := gU_p2 (q := (yX2_pushPlaces, 7)) (List.mem_of_getElem? (i := 0) rfl)
theorem u_207 : Cond.code yX2_pushPlaces cX2_pushPlaces 3 none ∈ gU := gU_t2 (List.mem_of_getElem? (i := 231) rfl) rfl
theorem u_208 : Cond.methodLink RX2 113 yX3_push ∈ gU := gU_t2 (List.mem_of_getElem? (i := 132) rfl) rfl
theorem u_209 : Cond.instanceMethod yX3_push ∈ gU := gU_t1 (List.mem_of_getElem? (i := 225) rfl) rfl
theorem u_210 : Cond.selects RX3 yX3_push yX3_push ∈ gU := gU_t1 (List.mem_of_getElem? (i := 226) rfl) rfl
theorem u_211 : Cond.code yX3_push cX3_push 2 none ∈ gU := gU_t1 (List.mem_of_getElem? (i := 227) rfl) rfl
theorem u_212 : Cond.static yX5_zigged ∈ gU := gU_t2 (List.mem_of_getElem? (i := 138) rfl) rfl
theorem u_213 : Cond.code yX5_zigged cX5_zigged 2 (some .long) ∈ gU := gU_t2 (List.mem_of_getElem? (i := 139) rfl) rfl
theorem u_214 : Cond.methodLink RX2 120 yX3_pushVar ∈ gU := gU_t2 (List.mem_of_getElem? (i := 140) rfl) rfl
theorem u_215 : Cond.instanceMethod yX3_pushVar ∈ gU := gU_t2 (List.mem_of_getElem? (i := 141) rfl) rfl
theorem u_216 : Cond.selects RX3 yX3_pushVar yX3_pushVar ∈ gU := gU_t2 (List.mem_of_getElem? (i := 142) rfl) rfl
theorem u_217 : Cond.code yX3_pushVar cX3_pushVar 6 none ∈ gU := gU_t2 (List.mem_of_getElem? (i := 143) rfl) rfl
theorem u_218 : Cond.methodLink RX2 125 yX0_isThere ∈ gU := gU_t2 (List.mem_of_getElem? (i := 104) rfl) rfl
theorem u_219 : Cond.methodLink RX2 129 yX0_firstLike ∈ gU := gU_t2 (List.mem_of_getElem? (i := 105) rfl) rfl
theorem u_220 : Cond.methodLink RX2 133 yX0_numberAt ∈ gU := gU_t2 (List.mem_of_getElem? (i := 114) rfl) rfl
theorem u_221 : Cond.methodLink RX2 137 yX3_pushLittle ∈ gU := gU_t2 (List.mem_of_getElem? (i := 123) rfl) rfl
theorem u_222 : Cond.instanceMethod yX3_pushLittle ∈ gU := gU_t2 (List.mem_of_getElem? (i := 124) rfl) rfl
theorem u_223 : Cond.selects RX3 yX3_pushLittle yX3_pushLittle ∈ gU := gU_t2 (List.mem_of_getElem? (i := 125) rfl) rfl
theorem u_224 : Cond.code yX3_pushLittle cX3_pushLittle 5 none ∈ gU := gU_t2 (List.mem_of_getElem? (i := 126) rfl) rfl
theorem u_225 : Cond.methodLink RX2 141 yX3_pushRuns ∈ gU := gU_t2 (List.mem_of_getElem? (i := 171) rfl) rfl
theorem u_226 : Cond.instanceMethod yX3_pushRuns ∈ gU := gU_t2 (List.mem_of_getElem? (i := 172) rfl) rfl
theorem u_227 : Cond.selects RX3 yX3_pushRuns yX3_pushRuns ∈ gU := gU_t2 (List.mem_of_getElem? (i := 173) rfl) rfl
theorem u_228 : Cond.code yX3_pushRuns cX3_pushRuns 9 none ∈ gU := gU_t2 (List.mem_of_getElem? (i := 174) rfl) rfl
theorem u_229 : Cond.methodLink RX2 145 yX3_tellLength ∈ gU := gU_t2 (List.mem_of_getElem? (i := 187) rfl) rfl
theorem u_230 : Cond.instanceMethod yX3_tellLength ∈ gU := gU_t2 (List.mem_of_getElem? (i := 188) rfl) rfl
theorem u_231 : Cond.selects RX3 yX3_tellLength yX3_tellLength ∈ gU := gU_t2 (List.mem_of_getElem? (i := 189) rfl) rfl
theorem u_232 : Cond.code yX3_tellLength cX3_tellLength 4 none ∈ gU := gU_t2 (List.mem_of_getElem? (i := 190) rfl) rfl
theorem u_233 : Cond.methodLink RX2 151 yX3_pushPacked ∈ gU := gU_t2 (List.mem_of_getElem? (i := 118) rfl) rfl
theorem u_234 : Cond.instanceMethod yX3_pushPacked ∈ gU := gU_t2 (List.mem_of_getElem? (i := 119) rfl) rfl
theorem u_235 : Cond.selects RX3 yX3_pushPacked yX3_pushPacked ∈ gU := gU_t2 (List.mem_of_getElem? (i := 120) rfl) rfl
theorem u_236 : Cond.code yX3_pushPacked cX3_pushPacked 12 none ∈ gU := gU_t2 (List.mem_of_getElem? (i := 121) rfl) rfl
theorem u_237 : Cond.methodLink RX2 155 yX2_pushLetters ∈ gU := gU_t2 (List.mem_of_getElem? (i := 127) rfl) rfl
theorem u_238 : Cond.instanceMethod yX2_pushLetters ∈ gU := gU_t2 (List.mem_of_getElem? (i := 129) rfl) rfl
theorem u_239 : Cond.selects RX2 yX2_pushLetters yX2_pushLetters ∈ gU := gU_p1 (q := (yX2_pushLetters, 7)) (List.mem_of_getElem? (i := 8) rfl)
theorem u_240 : Cond.code yX2_pushLetters cX2_pushLetters 6 none ∈ gU := gU_t2 (List.mem_of_getElem? (i := 130) rfl) rfl
theorem u_241 : Cond.methodLink RX2 159 yX0_letterAt ∈ gU := gU_t2 (List.mem_of_getElem? (i := 131) rfl) rfl
theorem u_242 : Cond.static yX5_bitsOf ∈ gU := gU_t2 (List.mem_of_getElem? (i := 222) rfl) rfl
theorem u_243 : Cond.code yX5_bitsOf cX5_bitsOf 3 (some .int) ∈ gU := gU_t2 (List.mem_of_getElem? (i := 223) rfl) rfl
theorem u_244 : Cond.methodLink RX2 34 yX3_clear ∈ gU := gU_t2 (List.mem_of_getElem? (i := 95) rfl) rfl
theorem u_245 : Cond.instanceMethod yX3_clear ∈ gU := gU_t2 (List.mem_of_getElem? (i := 1) rfl) rfl
theorem u_246 : Cond.selects RX3 yX3_clear yX3_clear ∈ gU := gU_t2 (List.mem_of_getElem? (i := 2) rfl) rfl
theorem u_247 : Cond.code yX3_clear cX3_clear 1 none ∈ gU := gU_t2 (List.mem_of_getElem? (i := 3) rfl) rfl
theorem u_248 : Cond.methodLink RX2 43 yX2_dictionaryPage ∈ gU := gU_t2 (List.mem_of_getElem? (i := 96) rfl) rfl
theorem u_249 : Cond.instanceMethod yX2_dictionaryPage ∈ gU := gU_t2 (List.mem_of_getElem? (i := 98) rfl) rfl
theorem u_250 : Cond.selects RX2 yX2_dictionaryPage yX2_dictionaryPage ∈ gU := gU_p1 (q := (yX2_dictionaryPage, 7)) (List.mem_of_getElem? (i := 4) rfl)
theorem u_251 : Cond.code yX2_dictionaryPage cX2_dictionaryPage 2 none ∈ gU := gU_t2 (List.mem_of_getElem? (i := 99) rfl) rfl
theorem u_252 : Cond.methodLink RX2 59 yX2_codeOf ∈ gU := gU_t2 (List.mem_of_getElem? (i := 156) rfl) rfl
theorem u_253 : Cond.static yX2_codeOf ∈ gU := gU_t2 (List.mem_of_getElem? (i := 157) rfl) rfl
theorem u_254 : Cond.code yX2_codeOf cX2_codeOf 2 (some .int) ∈ gU := gU_t2 (List.mem_of_getElem? (i := 158) rfl) rfl
theorem u_255 : Cond.methodLink RX2 62 yX2_dataPage ∈ gU := gU_t2 (List.mem_of_getElem? (i := 159) rfl) rfl
theorem u_256 : Cond.instanceMethod yX2_dataPage ∈ gU := gU_t2 (List.mem_of_getElem? (i := 161) rfl) rfl
theorem u_257 : Cond.selects RX2 yX2_dataPage yX2_dataPage ∈ gU := gU_p1 (q := (yX2_dataPage, 7)) (List.mem_of_getElem? (i := 10) rfl)
theorem u_258 : Cond.code yX2_dataPage cX2_dataPage 5 none ∈ gU := gU_t2 (List.mem_of_getElem? (i := 162) rfl) rfl
theorem u_259 : Cond.methodLink RX2 66 yX2_chooseUnlike ∈ gU := gU_t2 (List.mem_of_getElem? (i := 100) rfl) rfl
theorem u_260 : Cond.instanceMethod yX2_chooseUnlike ∈ gU := gU_t2 (List.mem_of_getElem? (i := 102) rfl) rfl
theorem u_261 : Cond.selects RX2 yX2_chooseUnlike yX2_chooseUnlike ∈ gU := gU_p1 (q := (yX2_chooseUnlike, 7)) (List.mem_of_getElem? (i := 5) rfl)
theorem u_262 : Cond.code yX2_chooseUnlike cX2_chooseUnlike 4 none ∈ gU := gU_t2 (List.mem_of_getElem? (i := 103) rfl) rfl
theorem u_263 : Cond.methodLink RX2 69 yX2_pushPlain ∈ gU := gU_t2 (List.mem_of_getElem? (i := 106) rfl) rfl
theorem u_264 : Cond.instanceMethod yX2_pushPlain ∈ gU := gU_t2 (List.mem_of_getElem? (i := 108) rfl) rfl
theorem u_265 : Cond.selects RX2 yX2_pushPlain yX2_pushPlain ∈ gU := gU_p1 (q := (yX2_pushPlain, 7)) (List.mem_of_getElem? (i := 6) rfl)
theorem u_266 : Cond.code yX2_pushPlain cX2_pushPlain 3 none ∈ gU := gU_t2 (List.mem_of_getElem? (i := 109) rfl) rfl
theorem u_267 : Cond.methodLink RX2 75 yX2_pushHead ∈ gU := gU_t2 (List.mem_of_getElem? (i := 133) rfl) rfl
theorem u_268 : Cond.instanceMethod yX2_pushHead ∈ gU := gU_t2 (List.mem_of_getElem? (i := 135) rfl) rfl
theorem u_269 : Cond.selects RX2 yX2_pushHead yX2_pushHead ∈ gU := gU_p1 (q := (yX2_pushHead, 7)) (List.mem_of_getElem? (i := 9) rfl)
theorem u_270 : Cond.code yX2_pushHead cX2_pushHead 4 none ∈ gU := gU_t2 (List.mem_of_getElem? (i := 136) rfl) rfl
theorem u_271 : Cond.methodLink RX2 79 yX3_append ∈ gU := gU_t2 (List.mem_of_getElem? (i := 145) rfl) rfl
theorem u_272 : Cond.instanceMethod yX3_append ∈ gU := gU_t2 (List.mem_of_getElem? (i := 146) rfl) rfl
theorem u_273 : Cond.selects RX3 yX3_append yX3_append ∈ gU := gU_t2 (List.mem_of_getElem? (i := 147) rfl) rfl
theorem u_274 : Cond.code yX3_append cX3_append 3 none ∈ gU := gU_t2 (List.mem_of_getElem? (i := 148) rfl) rfl
theorem u_275 : Cond.methodLink RX2 87 yX2_gatherLevels ∈ gU := gU_t2 (List.mem_of_getElem? (i := 163) rfl) rfl
theorem u_276 : Cond.instanceMethod yX2_gatherLevels ∈ gU := gU_t2 (List.mem_of_getElem? (i := 165) rfl) rfl
theorem u_277 : Cond.selects RX2 yX2_gatherLevels yX2_gatherLevels ∈ gU := gU_p1 (q := (yX2_gatherLevels, 7)) (List.mem_of_getElem? (i := 11) rfl)
theorem u_278 : Cond.code yX2_gatherLevels cX2_gatherLevels 5 none ∈ gU := gU_t2 (List.mem_of_getElem? (i := 166) rfl) rfl
theorem u_279 : Cond.methodLink RX2 91 yX2_pushOwnRuns ∈ gU := gU_t2 (List.mem_of_getElem? (i := 167) rfl) rfl
theorem u_280 : Cond.instanceMethod yX2_pushOwnRuns ∈ gU := gU_t2 (List.mem_of_getElem? (i := 169) rfl) rfl
theorem u_281 : Cond.selects RX2 yX2_pushOwnRuns yX2_pushOwnRuns ∈ gU := gU_p1 (q := (yX2_pushOwnRuns, 7)) (List.mem_of_getElem? (i := 12) rfl)
theorem u_282 : Cond.code yX2_pushOwnRuns cX2_pushOwnRuns 3 none ∈ gU := gU_t2 (List.mem_of_getElem? (i := 170) rfl) rfl
theorem u_283 : Cond.methodLink RX2 94 yX2_chooseThere ∈ gU := gU_t2 (List.mem_of_getElem? (i := 195) rfl) rfl
theorem u_284 : Cond.instanceMethod yX2_chooseThere ∈ gU := gU_t2 (List.mem_of_getElem? (i := 197) rfl) rfl
theorem u_285 : Cond.selects RX2 yX2_chooseThere yX2_chooseThere ∈ gU := gU_p1 (q := (yX2_chooseThere, 7)) (List.mem_of_getElem? (i := 13) rfl)
theorem u_286 : Cond.code yX2_chooseThere cX2_chooseThere 5 none ∈ gU := gU_t2 (List.mem_of_getElem? (i := 198) rfl) rfl
theorem u_287 : Cond.methodLink RX2 97 yX2_gatherNumbers ∈ gU := gU_t2 (List.mem_of_getElem? (i := 110) rfl) rfl
theorem u_288 : Cond.instanceMethod yX2_gatherNumbers ∈ gU := gU_t2 (List.mem_of_getElem? (i := 112) rfl) rfl
theorem u_289 : Cond.selects RX2 yX2_gatherNumbers yX2_gatherNumbers ∈ gU := gU_p1 (q := (yX2_gatherNumbers, 7)) (List.mem_of_getElem? (i := 7) rfl)
theorem u_290 : Cond.code yX2_gatherNumbers cX2_gatherNumbers 3 none ∈ gU := gU_t2 (List.mem_of_getElem? (i := 113) rfl) rfl
theorem u_291 : Cond.methodLink RX3 32 yX3_get ∈ gU := gU_t2 (List.mem_of_getElem? (i := 149) rfl) rfl
theorem u_292 : Cond.methodLink RX3 36 yX3_push ∈ gU := gU_t2 (List.mem_of_getElem? (i := 122) rfl) rfl
theorem u_293 : Cond.methodLink RX3 42 yX3_set ∈ gU := gU_t2 (List.mem_of_getElem? (i := 191) rfl) rfl
theorem u_294 : Cond.instanceMethod yX3_set ∈ gU := gU_t2 (List.mem_of_getElem? (i := 192) rfl) rfl
theorem u_295 : Cond.selects RX3 yX3_set yX3_set ∈ gU := gU_t2 (List.mem_of_getElem? (i := 193) rfl) rfl
theorem u_296 : Cond.code yX3_set cX3_set 3 none ∈ gU := gU_t2 (List.mem_of_getElem? (i := 194) rfl) rfl
theorem u_297 : Cond.methodLink RX3 46 yX3_equalFrom ∈ gU := gU_t2 (List.mem_of_getElem? (i := 175) rfl) rfl
theorem u_298 : Cond.static yX3_equalFrom ∈ gU := gU_t2 (List.mem_of_getElem? (i := 176) rfl) rfl
theorem u_299 : Cond.code yX3_equalFrom cX3_equalFrom 4 (some .int) ∈ gU := gU_t2 (List.mem_of_getElem? (i := 177) rfl) rfl
theorem u_300 : Cond.methodLink RX3 52 yX3_pushVar ∈ gU := gU_t2 (List.mem_of_getElem? (i := 179) rfl) rfl
theorem u_301 : Cond.methodLink RX3 56 yX3_pushLittle ∈ gU := gU_t2 (List.mem_of_getElem? (i := 180) rfl) rfl
theorem u_302 : Cond.methodLink RX3 60 yX3_groupsEnd ∈ gU := gU_t2 (List.mem_of_getElem? (i := 181) rfl) rfl
theorem u_303 : Cond.static yX3_groupsEnd ∈ gU := gU_t2 (List.mem_of_getElem? (i := 182) rfl) rfl
theorem u_304 : Cond.code yX3_groupsEnd cX3_groupsEnd 4 (some .int) ∈ gU := gU_t2 (List.mem_of_getElem? (i := 183) rfl) rfl
theorem u_305 : Cond.methodLink RX3 66 yX3_pushPacked ∈ gU := gU_t2 (List.mem_of_getElem? (i := 186) rfl) rfl
theorem u_306 : Cond.methodLink RX3 78 yX3_pushBlock ∈ gU := gU_t2 (List.mem_of_getElem? (i := 206) rfl) rfl
theorem u_307 : Cond.instanceMethod yX3_pushBlock ∈ gU := gU_t2 (List.mem_of_getElem? (i := 208) rfl) rfl
theorem u_308 : Cond.selects RX3 yX3_pushBlock yX3_pushBlock ∈ gU := gU_p1 (q := (yX3_pushBlock, 3)) (List.mem_of_getElem? (i := 14) rfl)
theorem u_309 : Cond.code yX3_pushBlock cX3_pushBlock 9 none ∈ gU := gU_t2 (List.mem_of_getElem? (i := 209) rfl) rfl
theorem u_310 : Cond.methodLink RX3 82 yX3_lowerToLeast ∈ gU := gU_t2 (List.mem_of_getElem? (i := 210) rfl) rfl
theorem u_311 : Cond.static yX3_lowerToLeast ∈ gU := gU_t2 (List.mem_of_getElem? (i := 211) rfl) rfl
theorem u_312 : Cond.code yX3_lowerToLeast cX3_lowerToLeast 9 (some .long) ∈ gU := gU_t2 (List.mem_of_getElem? (i := 212) rfl) rfl
theorem u_313 : Cond.methodLink RX3 86 yX3_partWidth ∈ gU := gU_t2 (List.mem_of_getElem? (i := 218) rfl) rfl
theorem u_314 : Cond.static yX3_partWidth ∈ gU := gU_t2 (List.mem_of_getElem? (i := 219) rfl) rfl
theorem u_315 : Cond.code yX3_partWidth cX3_partWidth 6 (some .int) ∈ gU := gU_t2 (List.mem_of_getElem? (i := 220) rfl) rfl
theorem u_316 : Cond.methodLink RX4 41 yX4_next ∈ gU := gU_t3 (List.mem_of_getElem? (i := 31) rfl) rfl
theorem u_317 : Cond.methodLink RX4 45 yX4_demand ∈ gU := gU_t3 (List.mem_of_getElem? (i := 35) rfl) rfl
theorem u_318 : Cond.methodLink RX4 49 yX4_left ∈ gU := gU_t3 (List.mem_of_getElem? (i := 82) rfl) rfl
theorem u_319 : Cond.methodLink RX4 52 yX0_pushText ∈ gU := gU_t3 (List.mem_of_getElem? (i := 83) rfl) rfl
theorem u_320 : Cond.instanceMethod yX0_pushText ∈ gU := gU_t1 (List.mem_of_getElem? (i := 233) rfl) rfl
theorem u_321 : Cond.selects RX0 yX0_pushText yX0_pushText ∈ gU := gU_t1 (List.mem_of_getElem? (i := 234) rfl) rfl
theorem u_322 : Cond.code yX0_pushText cX0_pushText 5 none ∈ gU := gU_t1 (List.mem_of_getElem? (i := 235) rfl) rfl
theorem u_323 : Cond.methodLink RX4 58 yX4_nextVar ∈ gU := gU_t3 (List.mem_of_getElem? (i := 96) rfl) rfl
theorem u_324 : Cond.methodLink RX4 66 yX4_nextPacked ∈ gU := gU_t3 (List.mem_of_getElem? (i := 98) rfl) rfl
theorem u_325 : Cond.methodLink RX4 70 yX4_nextLittle ∈ gU := gU_t3 (List.mem_of_getElem? (i := 99) rfl) rfl
theorem u_326 : Cond.methodLink RX4 78 yX4_fill ∈ gU := gU_t3 (List.mem_of_getElem? (i := 101) rfl) rfl
theorem u_327 : Cond.static yX4_fill ∈ gU := gU_t3 (List.mem_of_getElem? (i := 102) rfl) rfl
theorem u_328 : Cond.code yX4_fill cX4_fill 6 none ∈ gU := gU_t3 (List.mem_of_getElem? (i := 103) rfl) rfl
theorem u_329 : Cond.methodLink RX4 99 yX4_nextWidths ∈ gU := gU_t3 (List.mem_of_getElem? (i := 121) rfl) rfl
theorem u_330 : Cond.instanceMethod yX4_nextWidths ∈ gU := gU_t3 (List.mem_of_getElem? (i := 123) rfl) rfl
theorem u_331 : Cond.selects RX4 yX4_nextWidths yX4_nextWidths ∈ gU := gU_p2 (q := (yX4_nextWidths, 6)) (List.mem_of_getElem? (i := 10) rfl)
theorem u_332 : Cond.code yX4_nextWidths cX4_nextWidths 6 none ∈ gU := gU_t3 (List.mem_of_getElem? (i := 124) rfl) rfl
theorem u_333 : Cond.methodLink RX5 101 yX0_letterAt ∈ gU := gU_t2 (List.mem_of_getElem? (i := 78) rfl) rfl
theorem u_334 : Cond.methodLink RX5 105 yX0_isLike ∈ gU := gU_t2 (List.mem_of_getElem? (i := 83) rfl) rfl
theorem u_335 : Cond.instanceMethod yX0_isLike ∈ gU := gU_t2 (List.mem_of_getElem? (i := 84) rfl) rfl
theorem u_336 : Cond.selects RX0 yX0_isLike yX0_isLike ∈ gU := gU_t2 (List.mem_of_getElem? (i := 85) rfl) rfl
theorem u_337 : Cond.code yX0_isLike cX0_isLike 3 (some .boolean) ∈ gU := gU_t2 (List.mem_of_getElem? (i := 86) rfl) rfl
theorem u_338 : Cond.methodLink RX5 109 yX2_writePages ∈ gU := gU_t2 (List.mem_of_getElem? (i := 91) rfl) rfl
theorem u_339 : Cond.instanceMethod yX2_writePages ∈ gU := gU_t2 (List.mem_of_getElem? (i := 92) rfl) rfl
theorem u_340 : Cond.selects RX2 yX2_writePages yX2_writePages ∈ gU := gU_t2 (List.mem_of_getElem? (i := 93) rfl) rfl
theorem u_341 : Cond.code yX2_writePages cX2_writePages 6 none ∈ gU := gU_t2 (List.mem_of_getElem? (i := 94) rfl) rfl
theorem u_342 : Cond.methodLink RX5 119 yX3_shorten ∈ gU := gU_t2 (List.mem_of_getElem? (i := 233) rfl) rfl
theorem u_343 : Cond.instanceMethod yX3_shorten ∈ gU := gU_t2 (List.mem_of_getElem? (i := 234) rfl) rfl
theorem u_344 : Cond.selects RX3 yX3_shorten yX3_shorten ∈ gU := gU_t2 (List.mem_of_getElem? (i := 235) rfl) rfl
theorem u_345 : Cond.code yX3_shorten cX3_shorten 2 none ∈ gU := gU_t2 (List.mem_of_getElem? (i := 236) rfl) rfl
theorem u_346 : Cond.methodLink RX5 122 yX3_append ∈ gU := gU_t2 (List.mem_of_getElem? (i := 237) rfl) rfl
theorem u_347 : Cond.methodLink RX5 126 yX1_readPages ∈ gU := gU_t3 (List.mem_of_getElem? (i := 2) rfl) rfl
theorem u_348 : Cond.instanceMethod yX1_readPages ∈ gU := gU_t3 (List.mem_of_getElem? (i := 3) rfl) rfl
theorem u_349 : Cond.selects RX1 yX1_readPages yX1_readPages ∈ gU := gU_t3 (List.mem_of_getElem? (i := 4) rfl) rfl
theorem u_350 : Cond.code yX1_readPages cX1_readPages 5 none ∈ gU := gU_t3 (List.mem_of_getElem? (i := 5) rfl) rfl
theorem u_351 : Cond.methodLink RX5 134 yX4_isSound ∈ gU := gU_t3 (List.mem_of_getElem? (i := 144) rfl) rfl
theorem u_352 : Cond.methodLink RX5 147 yX0_become ∈ gU := gU_t3 (List.mem_of_getElem? (i := 145) rfl) rfl
theorem u_353 : Cond.instanceMethod yX0_become ∈ gU := gU_t3 (List.mem_of_getElem? (i := 146) rfl) rfl
theorem u_354 : Cond.selects RX0 yX0_become yX0_become ∈ gU := gU_t3 (List.mem_of_getElem? (i := 147) rfl) rfl
theorem u_355 : Cond.code yX0_become cX0_become 3 none ∈ gU := gU_t3 (List.mem_of_getElem? (i := 148) rfl) rfl
theorem u_356 : Cond.methodLink RX5 160 yX3_get ∈ gU := gU_t3 (List.mem_of_getElem? (i := 163) rfl) rfl
theorem u_357 : Cond.methodLink RX5 164 yX3_set ∈ gU := gU_t3 (List.mem_of_getElem? (i := 168) rfl) rfl
theorem u_358 : Cond.methodLink RX5 167 yX3_pushLittle ∈ gU := gU_t3 (List.mem_of_getElem? (i := 177) rfl) rfl
theorem u_359 : Cond.methodLink RX5 42 yX5_columnAt ∈ gU := gU_t1 (List.mem_of_getElem? (i := 204) rfl) rfl
theorem u_360 : Cond.instanceMethod yX5_columnAt ∈ gU := gU_t1 (List.mem_of_getElem? (i := 206) rfl) rfl
theorem u_361 : Cond.selects RX5 yX5_columnAt yX5_columnAt ∈ gU := gU_p1 (q := (yX5_columnAt, 5)) (List.mem_of_getElem? (i := 0) rfl)
theorem u_362 : Cond.code yX5_columnAt cX5_columnAt 2 (some (.object "ColumnPages$Column")) ∈ gU := gU_t1 (List.mem_of_getElem? (i := 207) rfl) rfl
theorem u_363 : Cond.methodLink RX5 50 yX0_begin ∈ gU := gU_t1 (List.mem_of_getElem? (i := 208) rfl) rfl
theorem u_364 : Cond.methodLink RX5 57 yX0_pushNumber ∈ gU := gU_t1 (List.mem_of_getElem? (i := 216) rfl) rfl
theorem u_365 : Cond.methodLink RX5 62 yX3_push ∈ gU := gU_t1 (List.mem_of_getElem? (i := 224) rfl) rfl
theorem u_366 : Cond.methodLink RX5 65 yX0_pushText ∈ gU := gU_t1 (List.mem_of_getElem? (i := 232) rfl) rfl
theorem u_367 : Cond.methodLink RX5 69 yX3_clear ∈ gU := gU_t2 (List.mem_of_getElem? (i := 0) rfl) rfl
theorem u_368 : Cond.methodLink RX5 76 yX0_pushNone ∈ gU := gU_t2 (List.mem_of_getElem? (i := 8) rfl) rfl
theorem u_369 : Cond.instanceMethod yX0_pushNone ∈ gU := gU_t2 (List.mem_of_getElem? (i := 9) rfl) rfl
theorem u_370 : Cond.selects RX0 yX0_pushNone yX0_pushNone ∈ gU := gU_t2 (List.mem_of_getElem? (i := 10) rfl) rfl
theorem u_371 : Cond.code yX0_pushNone cX0_pushNone 1 none ∈ gU := gU_t2 (List.mem_of_getElem? (i := 11) rfl) rfl
theorem u_372 : Cond.methodLink RX5 79 yX0_multiply ∈ gU := gU_t2 (List.mem_of_getElem? (i := 20) rfl) rfl
theorem u_373 : Cond.instanceMethod yX0_multiply ∈ gU := gU_t2 (List.mem_of_getElem? (i := 21) rfl) rfl
theorem u_374 : Cond.selects RX0 yX0_multiply yX0_multiply ∈ gU := gU_t2 (List.mem_of_getElem? (i := 22) rfl) rfl
theorem u_375 : Cond.code yX0_multiply cX0_multiply 5 none ∈ gU := gU_t2 (List.mem_of_getElem? (i := 23) rfl) rfl
theorem u_376 : Cond.methodLink RX5 83 yX0_countAbsent ∈ gU := gU_t2 (List.mem_of_getElem? (i := 32) rfl) rfl
theorem u_377 : Cond.instanceMethod yX0_countAbsent ∈ gU := gU_t2 (List.mem_of_getElem? (i := 33) rfl) rfl
theorem u_378 : Cond.selects RX0 yX0_countAbsent yX0_countAbsent ∈ gU := gU_t2 (List.mem_of_getElem? (i := 34) rfl) rfl
theorem u_379 : Cond.code yX0_countAbsent cX0_countAbsent 3 (some .int) ∈ gU := gU_t2 (List.mem_of_getElem? (i := 35) rfl) rfl
theorem u_380 : Cond.methodLink RX5 87 yX0_countUnlike ∈ gU := gU_t2 (List.mem_of_getElem? (i := 40) rfl) rfl
theorem u_381 : Cond.instanceMethod yX0_countUnlike ∈ gU := gU_t2 (List.mem_of_getElem? (i := 41) rfl) rfl
theorem u_382 : Cond.selects RX0 yX0_countUnlike yX0_countUnlike ∈ gU := gU_t2 (List.mem_of_getElem? (i := 42) rfl) rfl
theorem u_383 : Cond.code yX0_countUnlike cX0_countUnlike 3 (some .int) ∈ gU := gU_t2 (List.mem_of_getElem? (i := 43) rfl) rfl
theorem u_384 : Cond.methodLink RX5 90 yX0_holds ∈ gU := gU_t2 (List.mem_of_getElem? (i := 64) rfl) rfl
theorem u_385 : Cond.instanceMethod yX0_holds ∈ gU := gU_t2 (List.mem_of_getElem? (i := 65) rfl) rfl
theorem u_386 : Cond.selects RX0 yX0_holds yX0_holds ∈ gU := gU_t2 (List.mem_of_getElem? (i := 66) rfl) rfl
theorem u_387 : Cond.code yX0_holds cX0_holds 2 (some .boolean) ∈ gU := gU_t2 (List.mem_of_getElem? (i := 67) rfl) rfl
theorem u_388 : Cond.methodLink RX5 94 yX0_isThere ∈ gU := gU_t2 (List.mem_of_getElem? (i := 68) rfl) rfl
theorem u_389 : Cond.methodLink RX5 97 yX0_numberAt ∈ gU := gU_t2 (List.mem_of_getElem? (i := 73) rfl) rfl
theorem u_390 : Cond.methodLink RX6 106 yX6_var ∈ gU := gU_t4 (List.mem_of_getElem? (i := 150) rfl) rfl
theorem u_391 : Cond.instanceMethod yX6_var ∈ gU := gU_t4 (List.mem_of_getElem? (i := 152) rfl) rfl
theorem u_392 : Cond.selects RX6 yX6_var yX6_var ∈ gU := gU_p3 (q := (yX6_var, 32)) (List.mem_of_getElem? (i := 9) rfl)
theorem u_393 : Cond.initialized RX6 ∈ gU := gU_t1 (List.mem_of_getElem? (i := 7) rfl) rfl
theorem u_394 : Cond.code yX6_var cX6_var 5 none ∈ gU := gU_t4 (List.mem_of_getElem? (i := 153) rfl) rfl
theorem u_395 : Cond.methodLink RX6 110 yX6_alikeFrom ∈ gU := gU_t4 (List.mem_of_getElem? (i := 164) rfl) rfl
theorem u_396 : Cond.instanceMethod yX6_alikeFrom ∈ gU := gU_t4 (List.mem_of_getElem? (i := 166) rfl) rfl
theorem u_397 : Cond.selects RX6 yX6_alikeFrom yX6_alikeFrom ∈ gU := gU_p3 (q := (yX6_alikeFrom, 32)) (List.mem_of_getElem? (i := 12) rfl)
theorem u_398 : Cond.code yX6_alikeFrom cX6_alikeFrom 4 (some .int) ∈ gU := gU_t4 (List.mem_of_getElem? (i := 167) rfl) rfl
theorem u_399 : Cond.methodLink RX6 116 yX6_bytesTo ∈ gU := gU_t4 (List.mem_of_getElem? (i := 126) rfl) rfl
theorem u_400 : Cond.instanceMethod yX6_bytesTo ∈ gU := gU_t4 (List.mem_of_getElem? (i := 128) rfl) rfl
theorem u_401 : Cond.selects RX6 yX6_bytesTo yX6_bytesTo ∈ gU := gU_p3 (q := (yX6_bytesTo, 32)) (List.mem_of_getElem? (i := 3) rfl)
theorem u_402 : Cond.code yX6_bytesTo cX6_bytesTo 5 none ∈ gU := gU_t4 (List.mem_of_getElem? (i := 129) rfl) rfl
theorem u_403 : Cond.methodLink RX6 120 yX6_pack ∈ gU := gU_t4 (List.mem_of_getElem? (i := 168) rfl) rfl
theorem u_404 : Cond.instanceMethod yX6_pack ∈ gU := gU_t4 (List.mem_of_getElem? (i := 170) rfl) rfl
theorem u_405 : Cond.selects RX6 yX6_pack yX6_pack ∈ gU := gU_p3 (q := (yX6_pack, 32)) (List.mem_of_getElem? (i := 13) rfl)
theorem u_406 : Cond.code yX6_pack cX6_pack 10 none ∈ gU := gU_t4 (List.mem_of_getElem? (i := 171) rfl) rfl
theorem u_407 : Cond.methodLink RX6 126 yX6_zig ∈ gU := gU_t4 (List.mem_of_getElem? (i := 146) rfl) rfl
theorem u_408 : Cond.instanceMethod yX6_zig ∈ gU := gU_t4 (List.mem_of_getElem? (i := 148) rfl) rfl
theorem u_409 : Cond.selects RX6 yX6_zig yX6_zig ∈ gU := gU_p3 (q := (yX6_zig, 32)) (List.mem_of_getElem? (i := 8) rfl)
theorem u_410 : Cond.code yX6_zig cX6_zig 3 none ∈ gU := gU_t4 (List.mem_of_getElem? (i := 149) rfl) rfl
theorem u_411 : Cond.methodLink RX6 131 yX6_partWidth ∈ gU := gU_t4 (List.mem_of_getElem? (i := 185) rfl) rfl
theorem u_412 : Cond.instanceMethod yX6_partWidth ∈ gU := gU_t4 (List.mem_of_getElem? (i := 187) rfl) rfl
theorem u_413 : Cond.selects RX6 yX6_partWidth yX6_partWidth ∈ gU := gU_p4 (q := (yX6_partWidth, 32)) (List.mem_of_getElem? (i := 0) rfl)
theorem u_414 : Cond.code yX6_partWidth cX6_partWidth 5 (some .int) ∈ gU := gU_t4 (List.mem_of_getElem? (i := 188) rfl) rfl
theorem u_415 : Cond.methodLink RX6 134 yX6_widthOf ∈ gU := gU_t4 (List.mem_of_getElem? (i := 176) rfl) rfl
theorem u_416 : Cond.static yX6_widthOf ∈ gU := gU_t4 (List.mem_of_getElem? (i := 177) rfl) rfl
theorem u_417 : Cond.code yX6_widthOf cX6_widthOf 5 (some .int) ∈ gU := gU_t4 (List.mem_of_getElem? (i := 178) rfl) rfl
theorem u_418 : Cond.methodLink RX6 138 yX6_letters ∈ gU := gU_t4 (List.mem_of_getElem? (i := 134) rfl) rfl
theorem u_419 : Cond.instanceMethod yX6_letters ∈ gU := gU_t4 (List.mem_of_getElem? (i := 136) rfl) rfl
theorem u_420 : Cond.selects RX6 yX6_letters yX6_letters ∈ gU := gU_p3 (q := (yX6_letters, 32)) (List.mem_of_getElem? (i := 5) rfl)
theorem u_421 : Cond.code yX6_letters cX6_letters 3 none ∈ gU := gU_t4 (List.mem_of_getElem? (i := 137) rfl) rfl
theorem u_422 : Cond.methodLink RX6 141 yX6_head ∈ gU := gU_t4 (List.mem_of_getElem? (i := 142) rfl) rfl
theorem u_423 : Cond.instanceMethod yX6_head ∈ gU := gU_t4 (List.mem_of_getElem? (i := 144) rfl) rfl
theorem u_424 : Cond.selects RX6 yX6_head yX6_head ∈ gU := gU_p3 (q := (yX6_head, 32)) (List.mem_of_getElem? (i := 7) rfl)
theorem u_425 : Cond.code yX6_head cX6_head 5 none ∈ gU := gU_t4 (List.mem_of_getElem? (i := 145) rfl) rfl
theorem u_426 : Cond.methodLink RX6 144 yX6_runs ∈ gU := gU_t4 (List.mem_of_getElem? (i := 160) rfl) rfl
theorem u_427 : Cond.instanceMethod yX6_runs ∈ gU := gU_t4 (List.mem_of_getElem? (i := 162) rfl) rfl
theorem u_428 : Cond.selects RX6 yX6_runs yX6_runs ∈ gU := gU_p3 (q := (yX6_runs, 32)) (List.mem_of_getElem? (i := 11) rfl)
theorem u_429 : Cond.code yX6_runs cX6_runs 6 none ∈ gU := gU_t4 (List.mem_of_getElem? (i := 163) rfl) rfl
theorem u_430 : Cond.methodLink RX6 147 yX6_sized ∈ gU := gU_t4 (List.mem_of_getElem? (i := 172) rfl) rfl
theorem u_431 : Cond.instanceMethod yX6_sized ∈ gU := gU_t4 (List.mem_of_getElem? (i := 174) rfl) rfl
theorem u_432 : Cond.selects RX6 yX6_sized yX6_sized ∈ gU := gU_p3 (q := (yX6_sized, 32)) (List.mem_of_getElem? (i := 14) rfl)
theorem u_433 : Cond.code yX6_sized cX6_sized 4 none ∈ gU := gU_t4 (List.mem_of_getElem? (i := 175) rfl) rfl
theorem u_434 : Cond.methodLink RX6 150 yX6_differences ∈ gU := gU_t4 (List.mem_of_getElem? (i := 179) rfl) rfl
theorem u_435 : Cond.instanceMethod yX6_differences ∈ gU := gU_t4 (List.mem_of_getElem? (i := 181) rfl) rfl
theorem u_436 : Cond.selects RX6 yX6_differences yX6_differences ∈ gU := gU_p3 (q := (yX6_differences, 32)) (List.mem_of_getElem? (i := 15) rfl)
theorem u_437 : Cond.code yX6_differences cX6_differences 8 none ∈ gU := gU_t4 (List.mem_of_getElem? (i := 182) rfl) rfl
theorem u_438 : Cond.methodLink RX6 154 yX6_plain ∈ gU := gU_t4 (List.mem_of_getElem? (i := 122) rfl) rfl
theorem u_439 : Cond.instanceMethod yX6_plain ∈ gU := gU_t4 (List.mem_of_getElem? (i := 124) rfl) rfl
theorem u_440 : Cond.selects RX6 yX6_plain yX6_plain ∈ gU := gU_p3 (q := (yX6_plain, 32)) (List.mem_of_getElem? (i := 2) rfl)
theorem u_441 : Cond.code yX6_plain cX6_plain 3 none ∈ gU := gU_t4 (List.mem_of_getElem? (i := 125) rfl) rfl
theorem u_442 : Cond.methodLink RX6 157 yX6_headed ∈ gU := gU_t4 (List.mem_of_getElem? (i := 138) rfl) rfl
theorem u_443 : Cond.instanceMethod yX6_headed ∈ gU := gU_t4 (List.mem_of_getElem? (i := 140) rfl) rfl
theorem u_444 : Cond.selects RX6 yX6_headed yX6_headed ∈ gU := gU_p3 (q := (yX6_headed, 32)) (List.mem_of_getElem? (i := 6) rfl)
theorem u_445 : Cond.code yX6_headed cX6_headed 7 none ∈ gU := gU_t4 (List.mem_of_getElem? (i := 141) rfl) rfl
theorem u_446 : Cond.methodLink RX6 160 yX6_makeDictionary ∈ gU := gU_t4 (List.mem_of_getElem? (i := 118) rfl) rfl
theorem u_447 : Cond.instanceMethod yX6_makeDictionary ∈ gU := gU_t4 (List.mem_of_getElem? (i := 120) rfl) rfl
theorem u_448 : Cond.selects RX6 yX6_makeDictionary yX6_makeDictionary ∈ gU := gU_p3 (q := (yX6_makeDictionary, 32)) (List.mem_of_getElem? (i := 1) rfl)
theorem u_449 : Cond.code yX6_makeDictionary cX6_makeDictionary 5 none ∈ gU := gU_t4 (List.mem_of_getElem? (i := 121) rfl) rfl
theorem u_450 : Cond.methodLink RX6 163 yX6_page ∈ gU := gU_t4 (List.mem_of_getElem? (i := 156) rfl) rfl
theorem u_451 : Cond.instanceMethod yX6_page ∈ gU := gU_t4 (List.mem_of_getElem? (i := 158) rfl) rfl
theorem u_452 : Cond.selects RX6 yX6_page yX6_page ∈ gU := gU_p3 (q := (yX6_page, 32)) (List.mem_of_getElem? (i := 10) rfl)
theorem u_453 : Cond.code yX6_page cX6_page 10 none ∈ gU := gU_t4 (List.mem_of_getElem? (i := 159) rfl) rfl
theorem u_454 : Cond.methodLink RX6 181 yX6_fails ∈ gU := gU_t4 (List.mem_of_getElem? (i := 209) rfl) rfl
theorem u_455 : Cond.instanceMethod yX6_fails ∈ gU := gU_t4 (List.mem_of_getElem? (i := 211) rfl) rfl
theorem u_456 : Cond.selects RX6 yX6_fails yX6_fails ∈ gU := gU_p4 (q := (yX6_fails, 32)) (List.mem_of_getElem? (i := 5) rfl)
theorem u_457 : Cond.code yX6_fails cX6_fails 3 (some .boolean) ∈ gU := gU_t4 (List.mem_of_getElem? (i := 212) rfl) rfl
theorem u_458 : Cond.methodLink RX6 184 yX6_next ∈ gU := gU_t4 (List.mem_of_getElem? (i := 205) rfl) rfl
theorem u_459 : Cond.instanceMethod yX6_next ∈ gU := gU_t4 (List.mem_of_getElem? (i := 207) rfl) rfl
theorem u_460 : Cond.selects RX6 yX6_next yX6_next ∈ gU := gU_p4 (q := (yX6_next, 32)) (List.mem_of_getElem? (i := 4) rfl)
theorem u_461 : Cond.code yX6_next cX6_next 2 (some .int) ∈ gU := gU_t4 (List.mem_of_getElem? (i := 208) rfl) rfl
theorem u_462 : Cond.methodLink RX6 188 yX6_readVar ∈ gU := gU_t4 (List.mem_of_getElem? (i := 221) rfl) rfl
theorem u_463 : Cond.instanceMethod yX6_readVar ∈ gU := gU_t4 (List.mem_of_getElem? (i := 223) rfl) rfl
theorem u_464 : Cond.selects RX6 yX6_readVar yX6_readVar ∈ gU := gU_p4 (q := (yX6_readVar, 32)) (List.mem_of_getElem? (i := 8) rfl)
theorem u_465 : Cond.code yX6_readVar cX6_readVar 7 (some .long) ∈ gU := gU_t4 (List.mem_of_getElem? (i := 224) rfl) rfl
theorem u_466 : Cond.methodLink RX6 198 yX6_readPacked ∈ gU := gU_t5 (List.mem_of_getElem? (i := 19) rfl) rfl
theorem u_467 : Cond.instanceMethod yX6_readPacked ∈ gU := gU_t5 (List.mem_of_getElem? (i := 21) rfl) rfl
theorem u_468 : Cond.selects RX6 yX6_readPacked yX6_readPacked ∈ gU := gU_p5 (q := (yX6_readPacked, 32)) (List.mem_of_getElem? (i := 1) rfl)
theorem u_469 : Cond.code yX6_readPacked cX6_readPacked 5 (some .long) ∈ gU := gU_t5 (List.mem_of_getElem? (i := 22) rfl) rfl
theorem u_470 : Cond.methodLink RX6 202 yX6_readBytes ∈ gU := gU_t4 (List.mem_of_getElem? (i := 239) rfl) rfl
theorem u_471 : Cond.instanceMethod yX6_readBytes ∈ gU := gU_t5 (List.mem_of_getElem? (i := 1) rfl) rfl
theorem u_472 : Cond.selects RX6 yX6_readBytes yX6_readBytes ∈ gU := gU_p4 (q := (yX6_readBytes, 32)) (List.mem_of_getElem? (i := 12) rfl)
theorem u_473 : Cond.code yX6_readBytes cX6_readBytes 5 (some .long) ∈ gU := gU_t5 (List.mem_of_getElem? (i := 2) rfl) rfl
theorem u_474 : Cond.methodLink RX6 205 yX6_wants ∈ gU := gU_t5 (List.mem_of_getElem? (i := 31) rfl) rfl
theorem u_475 : Cond.instanceMethod yX6_wants ∈ gU := gU_t5 (List.mem_of_getElem? (i := 33) rfl) rfl
theorem u_476 : Cond.selects RX6 yX6_wants yX6_wants ∈ gU := gU_p5 (q := (yX6_wants, 32)) (List.mem_of_getElem? (i := 4) rfl)
theorem u_477 : Cond.code yX6_wants cX6_wants 6 (some .boolean) ∈ gU := gU_t5 (List.mem_of_getElem? (i := 34) rfl) rfl
theorem u_478 : Cond.methodLink RX6 209 yX6_readZig ∈ gU := gU_t4 (List.mem_of_getElem? (i := 217) rfl) rfl
theorem u_479 : Cond.instanceMethod yX6_readZig ∈ gU := gU_t4 (List.mem_of_getElem? (i := 219) rfl) rfl
theorem u_480 : Cond.selects RX6 yX6_readZig yX6_readZig ∈ gU := gU_p4 (q := (yX6_readZig, 32)) (List.mem_of_getElem? (i := 7) rfl)
theorem u_481 : Cond.code yX6_readZig cX6_readZig 3 (some .long) ∈ gU := gU_t4 (List.mem_of_getElem? (i := 220) rfl) rfl
theorem u_482 : Cond.methodLink RX6 212 yX6_readLength ∈ gU := gU_t4 (List.mem_of_getElem? (i := 235) rfl) rfl
theorem u_483 : Cond.instanceMethod yX6_readLength ∈ gU := gU_t4 (List.mem_of_getElem? (i := 237) rfl) rfl
theorem u_484 : Cond.selects RX6 yX6_readLength yX6_readLength ∈ gU := gU_p4 (q := (yX6_readLength, 32)) (List.mem_of_getElem? (i := 11) rfl)
theorem u_485 : Cond.code yX6_readLength cX6_readLength 5 (some .int) ∈ gU := gU_t4 (List.mem_of_getElem? (i := 238) rfl) rfl
theorem u_486 : Cond.methodLink RX6 216 yX6_readLetters ∈ gU := gU_t5 (List.mem_of_getElem? (i := 3) rfl) rfl
theorem u_487 : Cond.instanceMethod yX6_readLetters ∈ gU := gU_t5 (List.mem_of_getElem? (i := 5) rfl) rfl
theorem u_488 : Cond.selects RX6 yX6_readLetters yX6_readLetters ∈ gU := gU_p4 (q := (yX6_readLetters, 32)) (List.mem_of_getElem? (i := 13) rfl)
theorem u_489 : Cond.code yX6_readLetters cX6_readLetters 5 (some .boolean) ∈ gU := gU_t5 (List.mem_of_getElem? (i := 6) rfl) rfl
theorem u_490 : Cond.methodLink RX6 219 yX6_reads ∈ gU := gU_t5 (List.mem_of_getElem? (i := 7) rfl) rfl
theorem u_491 : Cond.instanceMethod yX6_reads ∈ gU := gU_t5 (List.mem_of_getElem? (i := 9) rfl) rfl
theorem u_492 : Cond.selects RX6 yX6_reads yX6_reads ∈ gU := gU_p4 (q := (yX6_reads, 32)) (List.mem_of_getElem? (i := 14) rfl)
theorem u_493 : Cond.code yX6_reads cX6_reads 5 none ∈ gU := gU_t5 (List.mem_of_getElem? (i := 10) rfl) rfl
theorem u_494 : Cond.methodLink RX6 226 yX6_field ∈ gU := gU_t4 (List.mem_of_getElem? (i := 201) rfl) rfl
theorem u_495 : Cond.instanceMethod yX6_field ∈ gU := gU_t4 (List.mem_of_getElem? (i := 203) rfl) rfl
theorem u_496 : Cond.selects RX6 yX6_field yX6_field ∈ gU := gU_p4 (q := (yX6_field, 32)) (List.mem_of_getElem? (i := 3) rfl)
theorem u_497 : Cond.code yX6_field cX6_field 4 (some .boolean) ∈ gU := gU_t4 (List.mem_of_getElem? (i := 204) rfl) rfl
theorem u_498 : Cond.methodLink RX6 229 yX6_fieldZig ∈ gU := gU_t4 (List.mem_of_getElem? (i := 213) rfl) rfl
theorem u_499 : Cond.instanceMethod yX6_fieldZig ∈ gU := gU_t4 (List.mem_of_getElem? (i := 215) rfl) rfl
theorem u_500 : Cond.selects RX6 yX6_fieldZig yX6_fieldZig ∈ gU := gU_p4 (q := (yX6_fieldZig, 32)) (List.mem_of_getElem? (i := 6) rfl)
theorem u_501 : Cond.code yX6_fieldZig cX6_fieldZig 1 (some .long) ∈ gU := gU_t4 (List.mem_of_getElem? (i := 216) rfl) rfl
theorem u_502 : Cond.methodLink RX6 238 yX6_readInner ∈ gU := gU_t4 (List.mem_of_getElem? (i := 225) rfl) rfl
theorem u_503 : Cond.instanceMethod yX6_readInner ∈ gU := gU_t4 (List.mem_of_getElem? (i := 227) rfl) rfl
theorem u_504 : Cond.selects RX6 yX6_readInner yX6_readInner ∈ gU := gU_p4 (q := (yX6_readInner, 32)) (List.mem_of_getElem? (i := 9) rfl)
theorem u_505 : Cond.code yX6_readInner cX6_readInner 5 (some .boolean) ∈ gU := gU_t4 (List.mem_of_getElem? (i := 228) rfl) rfl
theorem u_506 : Cond.methodLink RX6 254 yX6_readHead ∈ gU := gU_t4 (List.mem_of_getElem? (i := 197) rfl) rfl
theorem u_507 : Cond.instanceMethod yX6_readHead ∈ gU := gU_t4 (List.mem_of_getElem? (i := 199) rfl) rfl
theorem u_508 : Cond.selects RX6 yX6_readHead yX6_readHead ∈ gU := gU_p4 (q := (yX6_readHead, 32)) (List.mem_of_getElem? (i := 2) rfl)
theorem u_509 : Cond.code yX6_readHead cX6_readHead 5 (some .boolean) ∈ gU := gU_t4 (List.mem_of_getElem? (i := 200) rfl) rfl
theorem u_510 : Cond.methodLink RX6 257 yX6_readPlain ∈ gU := gU_t4 (List.mem_of_getElem? (i := 231) rfl) rfl
theorem u_511 : Cond.instanceMethod yX6_readPlain ∈ gU := gU_t4 (List.mem_of_getElem? (i := 233) rfl) rfl
theorem u_512 : Cond.selects RX6 yX6_readPlain yX6_readPlain ∈ gU := gU_p4 (q := (yX6_readPlain, 32)) (List.mem_of_getElem? (i := 10) rfl)
theorem u_513 : Cond.code yX6_readPlain cX6_readPlain 5 (some .boolean) ∈ gU := gU_t4 (List.mem_of_getElem? (i := 234) rfl) rfl
theorem u_514 : Cond.methodLink RX6 260 yX6_isOver ∈ gU := gU_t5 (List.mem_of_getElem? (i := 11) rfl) rfl
theorem u_515 : Cond.instanceMethod yX6_isOver ∈ gU := gU_t5 (List.mem_of_getElem? (i := 13) rfl) rfl
theorem u_516 : Cond.selects RX6 yX6_isOver yX6_isOver ∈ gU := gU_p4 (q := (yX6_isOver, 32)) (List.mem_of_getElem? (i := 15) rfl)
theorem u_517 : Cond.code yX6_isOver cX6_isOver 2 (some .boolean) ∈ gU := gU_t5 (List.mem_of_getElem? (i := 14) rfl) rfl
theorem u_518 : Cond.methodLink RX6 266 yX6_readRuns ∈ gU := gU_t5 (List.mem_of_getElem? (i := 15) rfl) rfl
theorem u_519 : Cond.instanceMethod yX6_readRuns ∈ gU := gU_t5 (List.mem_of_getElem? (i := 17) rfl) rfl
theorem u_520 : Cond.selects RX6 yX6_readRuns yX6_readRuns ∈ gU := gU_p5 (q := (yX6_readRuns, 32)) (List.mem_of_getElem? (i := 0) rfl)
theorem u_521 : Cond.code yX6_readRuns cX6_readRuns 14 (some .boolean) ∈ gU := gU_t5 (List.mem_of_getElem? (i := 18) rfl) rfl
theorem u_522 : Cond.methodLink RX6 269 yX6_readValues ∈ gU := gU_t5 (List.mem_of_getElem? (i := 23) rfl) rfl
theorem u_523 : Cond.instanceMethod yX6_readValues ∈ gU := gU_t5 (List.mem_of_getElem? (i := 25) rfl) rfl
theorem u_524 : Cond.selects RX6 yX6_readValues yX6_readValues ∈ gU := gU_p5 (q := (yX6_readValues, 32)) (List.mem_of_getElem? (i := 2) rfl)
theorem u_525 : Cond.code yX6_readValues cX6_readValues 7 (some .boolean) ∈ gU := gU_t5 (List.mem_of_getElem? (i := 26) rfl) rfl
theorem u_526 : Cond.methodLink RX6 272 yX6_readDifferences ∈ gU := gU_t5 (List.mem_of_getElem? (i := 27) rfl) rfl
theorem u_527 : Cond.instanceMethod yX6_readDifferences ∈ gU := gU_t5 (List.mem_of_getElem? (i := 29) rfl) rfl
theorem u_528 : Cond.selects RX6 yX6_readDifferences yX6_readDifferences ∈ gU := gU_p5 (q := (yX6_readDifferences, 32)) (List.mem_of_getElem? (i := 3) rfl)
theorem u_529 : Cond.code yX6_readDifferences cX6_readDifferences 14 (some .boolean) ∈ gU := gU_t5 (List.mem_of_getElem? (i := 30) rfl) rfl
theorem u_530 : Cond.methodLink RX6 276 yX6_readTexts ∈ gU := gU_t5 (List.mem_of_getElem? (i := 35) rfl) rfl
theorem u_531 : Cond.instanceMethod yX6_readTexts ∈ gU := gU_t5 (List.mem_of_getElem? (i := 37) rfl) rfl
theorem u_532 : Cond.selects RX6 yX6_readTexts yX6_readTexts ∈ gU := gU_p5 (q := (yX6_readTexts, 32)) (List.mem_of_getElem? (i := 5) rfl)
theorem u_533 : Cond.code yX6_readTexts cX6_readTexts 7 (some .boolean) ∈ gU := gU_t5 (List.mem_of_getElem? (i := 38) rfl) rfl
theorem u_534 : Cond.methodLink RX6 279 yX6_readPlaces ∈ gU := gU_t5 (List.mem_of_getElem? (i := 40) rfl) rfl
theorem u_535 : Cond.instanceMethod yX6_readPlaces ∈ gU := gU_t5 (List.mem_of_getElem? (i := 42) rfl) rfl
theorem u_536 : Cond.selects RX6 yX6_readPlaces yX6_readPlaces ∈ gU := gU_p5 (q := (yX6_readPlaces, 32)) (List.mem_of_getElem? (i := 6) rfl)
theorem u_537 : Cond.code yX6_readPlaces cX6_readPlaces 7 (some .boolean) ∈ gU := gU_t5 (List.mem_of_getElem? (i := 43) rfl) rfl
theorem u_538 : Cond.methodLink RX6 288 yX6_readPage ∈ gU := gU_t4 (List.mem_of_getElem? (i := 193) rfl) rfl
theorem u_539 : Cond.instanceMethod yX6_readPage ∈ gU := gU_t4 (List.mem_of_getElem? (i := 195) rfl) rfl
theorem u_540 : Cond.selects RX6 yX6_readPage yX6_readPage ∈ gU := gU_p4 (q := (yX6_readPage, 32)) (List.mem_of_getElem? (i := 1) rfl)
theorem u_541 : Cond.code yX6_readPage cX6_readPage 8 (some .boolean) ∈ gU := gU_t4 (List.mem_of_getElem? (i := 196) rfl) rfl
theorem u_542 : Cond.methodLink RX6 62 yX6_in ∈ gU := gU_t4 (List.mem_of_getElem? (i := 51) rfl) rfl
theorem u_543 : Cond.static yX6_in ∈ gU := gU_t4 (List.mem_of_getElem? (i := 52) rfl) rfl
theorem u_544 : Cond.code yX6_in cX6_in 6 (some .boolean) ∈ gU := gU_t4 (List.mem_of_getElem? (i := 53) rfl) rfl
theorem u_545 : Cond.methodLink RX6 66 yX6_isColumn ∈ gU := gU_t4 (List.mem_of_getElem? (i := 47) rfl) rfl
theorem u_546 : Cond.static yX6_isColumn ∈ gU := gU_t4 (List.mem_of_getElem? (i := 48) rfl) rfl
theorem u_547 : Cond.code yX6_isColumn cX6_isColumn 1 (some .boolean) ∈ gU := gU_t4 (List.mem_of_getElem? (i := 49) rfl) rfl
theorem u_548 : Cond.methodLink RX6 70 yX6_adds ∈ gU := gU_t4 (List.mem_of_getElem? (i := 58) rfl) rfl
theorem u_549 : Cond.instanceMethod yX6_adds ∈ gU := gU_t4 (List.mem_of_getElem? (i := 60) rfl) rfl
theorem u_550 : Cond.selects RX6 yX6_adds yX6_adds ∈ gU := gU_p2 (q := (yX6_adds, 32)) (List.mem_of_getElem? (i := 13) rfl)
theorem u_551 : Cond.code yX6_adds cX6_adds 7 (some .int) ∈ gU := gU_t4 (List.mem_of_getElem? (i := 61) rfl) rfl
theorem u_552 : Cond.methodLink RX6 82 yX6_copies ∈ gU := gU_t4 (List.mem_of_getElem? (i := 80) rfl) rfl
theorem u_553 : Cond.instanceMethod yX6_copies ∈ gU := gU_t4 (List.mem_of_getElem? (i := 82) rfl) rfl
theorem u_554 : Cond.selects RX6 yX6_copies yX6_copies ∈ gU := gU_p2 (q := (yX6_copies, 32)) (List.mem_of_getElem? (i := 14) rfl)
theorem u_555 : Cond.code yX6_copies cX6_copies 4 none ∈ gU := gU_t4 (List.mem_of_getElem? (i := 83) rfl) rfl
theorem u_556 : Cond.methodLink RX6 88 yX6_areLike ∈ gU := gU_t4 (List.mem_of_getElem? (i := 89) rfl) rfl
theorem u_557 : Cond.instanceMethod yX6_areLike ∈ gU := gU_t4 (List.mem_of_getElem? (i := 91) rfl) rfl
theorem u_558 : Cond.selects RX6 yX6_areLike yX6_areLike ∈ gU := gU_p2 (q := (yX6_areLike, 32)) (List.mem_of_getElem? (i := 15) rfl)
theorem u_559 : Cond.code yX6_areLike cX6_areLike 5 (some .boolean) ∈ gU := gU_t4 (List.mem_of_getElem? (i := 92) rfl) rfl
theorem u_560 : Cond.methodLink RX6 92 yX6_isValue ∈ gU := gU_t4 (List.mem_of_getElem? (i := 97) rfl) rfl
theorem u_561 : Cond.instanceMethod yX6_isValue ∈ gU := gU_t4 (List.mem_of_getElem? (i := 99) rfl) rfl
theorem u_562 : Cond.selects RX6 yX6_isValue yX6_isValue ∈ gU := gU_p3 (q := (yX6_isValue, 32)) (List.mem_of_getElem? (i := 0) rfl)
theorem u_563 : Cond.code yX6_isValue cX6_isValue 3 (some .boolean) ∈ gU := gU_t4 (List.mem_of_getElem? (i := 100) rfl) rfl
theorem u_564 : Cond.methodLink RX6 98 yX6_byteTo ∈ gU := gU_t4 (List.mem_of_getElem? (i := 130) rfl) rfl
theorem u_565 : Cond.instanceMethod yX6_byteTo ∈ gU := gU_t4 (List.mem_of_getElem? (i := 132) rfl) rfl
theorem u_566 : Cond.selects RX6 yX6_byteTo yX6_byteTo ∈ gU := gU_p3 (q := (yX6_byteTo, 32)) (List.mem_of_getElem? (i := 4) rfl)
theorem u_567 : Cond.code yX6_byteTo cX6_byteTo 2 none ∈ gU := gU_t4 (List.mem_of_getElem? (i := 133) rfl) rfl
theorem u_568 : Cond.fieldLink RX6 13 "ColumnPagesModel" "optional" "[Z" ∈ gU := gU_t3 (List.mem_of_getElem? (i := 187) rfl) rfl
theorem u_569 : Cond.fieldLink RX6 166 "ColumnPagesModel" "size" "I" ∈ gU := gU_t3 (List.mem_of_getElem? (i := 195) rfl) rfl
theorem u_570 : Cond.fieldLink RX6 169 "ColumnPagesModel" "bad" "I" ∈ gU := gU_t3 (List.mem_of_getElem? (i := 204) rfl) rfl
theorem u_571 : Cond.fieldLink RX6 17 "ColumnPagesModel" "many" "[I" ∈ gU := gU_t3 (List.mem_of_getElem? (i := 188) rfl) rfl
theorem u_572 : Cond.fieldLink RX6 172 "ColumnPagesModel" "badAt" "I" ∈ gU := gU_t3 (List.mem_of_getElem? (i := 205) rfl) rfl
theorem u_573 : Cond.fieldLink RX6 175 "ColumnPagesModel" "at" "I" ∈ gU := gU_t3 (List.mem_of_getElem? (i := 202) rfl) rfl
theorem u_574 : Cond.fieldLink RX6 178 "ColumnPagesModel" "end" "I" ∈ gU := gU_t3 (List.mem_of_getElem? (i := 203) rfl) rfl
theorem u_575 : Cond.fieldLink RX6 192 "ColumnPagesModel" "bitsLeft" "I" ∈ gU := gU_t3 (List.mem_of_getElem? (i := 208) rfl) rfl
theorem u_576 : Cond.fieldLink RX6 195 "ColumnPagesModel" "bitsByte" "I" ∈ gU := gU_t3 (List.mem_of_getElem? (i := 209) rfl) rfl
theorem u_577 : Cond.fieldLink RX6 20 "ColumnPagesModel" "there" "[Z" ∈ gU := gU_t3 (List.mem_of_getElem? (i := 189) rfl) rfl
theorem u_578 : Cond.fieldLink RX6 223 "ColumnPagesModel" "zigAt" "I" ∈ gU := gU_t3 (List.mem_of_getElem? (i := 211) rfl) rfl
theorem u_579 : Cond.fieldLink RX6 23 "ColumnPagesModel" "value" "[J" ∈ gU := gU_t3 (List.mem_of_getElem? (i := 190) rfl) rfl
theorem u_580 : Cond.fieldLink RX6 232 "ColumnPagesModel" "sort" "I" ∈ gU := gU_t3 (List.mem_of_getElem? (i := 212) rfl) rfl
theorem u_581 : Cond.fieldLink RX6 235 "ColumnPagesModel" "body" "I" ∈ gU := gU_t3 (List.mem_of_getElem? (i := 213) rfl) rfl
theorem u_582 : Cond.fieldLink RX6 241 "ColumnPagesModel" "count" "I" ∈ gU := gU_t3 (List.mem_of_getElem? (i := 214) rfl) rfl
theorem u_583 : Cond.fieldLink RX6 248 "ColumnPagesModel" "dictionary" "I" ∈ gU := gU_t3 (List.mem_of_getElem? (i := 207) rfl) rfl
theorem u_584 : Cond.fieldLink RX6 251 "ColumnPagesModel" "code" "I" ∈ gU := gU_t3 (List.mem_of_getElem? (i := 215) rfl) rfl
theorem u_585 : Cond.fieldLink RX6 263 "ColumnPagesModel" "pages" "I" ∈ gU := gU_t3 (List.mem_of_getElem? (i := 206) rfl) rfl
theorem u_586 : Cond.fieldLink RX6 28 "ColumnPagesModel" "text" "[B" ∈ gU := gU_t3 (List.mem_of_getElem? (i := 191) rfl) rfl
theorem u_587 : Cond.fieldLink RX6 284 "ColumnPagesModel" "isRead" "Z" ∈ gU := gU_t3 (List.mem_of_getElem? (i := 217) rfl) rfl
theorem u_588 : Cond.fieldLink RX6 32 "ColumnPagesModel" "tape" "[B" ∈ gU := gU_t3 (List.mem_of_getElem? (i := 192) rfl) rfl
theorem u_589 : Cond.fieldLink RX6 35 "ColumnPagesModel" "file" "[B" ∈ gU := gU_t3 (List.mem_of_getElem? (i := 194) rfl) rfl
theorem u_590 : Cond.fieldLink RX6 39 "ColumnPagesModel" "draft" "[B" ∈ gU := gU_t3 (List.mem_of_getElem? (i := 196) rfl) rfl
theorem u_591 : Cond.fieldLink RX6 42 "ColumnPagesModel" "numbers" "[J" ∈ gU := gU_t3 (List.mem_of_getElem? (i := 198) rfl) rfl
theorem u_592 : Cond.fieldLink RX6 45 "ColumnPagesModel" "steps" "[J" ∈ gU := gU_t3 (List.mem_of_getElem? (i := 199) rfl) rfl
theorem u_593 : Cond.fieldLink RX6 48 "ColumnPagesModel" "placeOf" "[I" ∈ gU := gU_t3 (List.mem_of_getElem? (i := 200) rfl) rfl
theorem u_594 : Cond.fieldLink RX6 51 "ColumnPagesModel" "bodyBytes" "[B" ∈ gU := gU_t3 (List.mem_of_getElem? (i := 201) rfl) rfl
theorem u_595 : Cond.fieldLink RX6 54 "ColumnPagesModel" "widths" "[I" ∈ gU := gU_t3 (List.mem_of_getElem? (i := 210) rfl) rfl
theorem u_596 : Cond.fieldLink RX6 57 "ColumnPagesModel" "level" "[Z" ∈ gU := gU_t3 (List.mem_of_getElem? (i := 216) rfl) rfl
theorem u_597 : Cond.fieldLink RX6 7 "ColumnPagesModel" "kind" "[I" ∈ gU := gU_t3 (List.mem_of_getElem? (i := 186) rfl) rfl
theorem u_598 : Cond.fieldLink RX6 76 "ColumnPagesModel" "taped" "I" ∈ gU := gU_t3 (List.mem_of_getElem? (i := 193) rfl) rfl
theorem u_599 : Cond.fieldLink RX6 95 "ColumnPagesModel" "drafted" "I" ∈ gU := gU_t3 (List.mem_of_getElem? (i := 197) rfl) rfl
theorem u_600 : Cond.fieldLink RX0 15 "ColumnPages$Column" "numbers" "[J" ∈ gU := gU_t1 (List.mem_of_getElem? (i := 37) rfl) rfl
theorem u_601 : Cond.fieldLink RX0 19 "ColumnPages$Column" "letters" "[B" ∈ gU := gU_t1 (List.mem_of_getElem? (i := 38) rfl) rfl
theorem u_602 : Cond.fieldLink RX0 23 "ColumnPages$Column" "kind" "I" ∈ gU := gU_t1 (List.mem_of_getElem? (i := 24) rfl) rfl
theorem u_603 : Cond.fieldLink RX0 27 "ColumnPages$Column" "optional" "Z" ∈ gU := gU_t1 (List.mem_of_getElem? (i := 28) rfl) rfl
theorem u_604 : Cond.fieldLink RX0 31 "ColumnPages$Column" "count" "I" ∈ gU := gU_t1 (List.mem_of_getElem? (i := 32) rfl) rfl
theorem u_605 : Cond.fieldLink RX0 9 "ColumnPages$Column" "there" "[Z" ∈ gU := gU_t1 (List.mem_of_getElem? (i := 36) rfl) rfl
theorem u_606 : Cond.fieldLink RX1 104 "ColumnPages$Column" "count" "I" ∈ gU := gU_t1 (List.mem_of_getElem? (i := 35) rfl) rfl
theorem u_607 : Cond.fieldLink RX1 109 "ColumnPages$PageReader" "pageValues" "I" ∈ gU := gU_t1 (List.mem_of_getElem? (i := 156) rfl) rfl
theorem u_608 : Cond.fieldLink RX1 112 "ColumnPages$PageReader" "pageCode" "I" ∈ gU := gU_t1 (List.mem_of_getElem? (i := 157) rfl) rfl
theorem u_609 : Cond.fieldLink RX1 12 "ColumnPages$PageReader" "source" "LColumnPages$Source;" ∈ gU := gU_t1 (List.mem_of_getElem? (i := 146) rfl) rfl
theorem u_610 : Cond.fieldLink RX1 134 "ColumnPages$Column" "optional" "Z" ∈ gU := gU_t1 (List.mem_of_getElem? (i := 31) rfl) rfl
theorem u_611 : Cond.fieldLink RX1 21 "ColumnPages$PageReader" "fresh" "LColumnPages$Column;" ∈ gU := gU_t1 (List.mem_of_getElem? (i := 148) rfl) rfl
theorem u_612 : Cond.fieldLink RX1 25 "ColumnPages$PageReader" "dictionary" "LColumnPages$Column;" ∈ gU := gU_t1 (List.mem_of_getElem? (i := 150) rfl) rfl
theorem u_613 : Cond.fieldLink RX1 28 "ColumnPages$PageReader" "levels" "[J" ∈ gU := gU_t1 (List.mem_of_getElem? (i := 159) rfl) rfl
theorem u_614 : Cond.fieldLink RX1 32 "ColumnPages$PageReader" "numbers" "[J" ∈ gU := gU_t1 (List.mem_of_getElem? (i := 160) rfl) rfl
theorem u_615 : Cond.fieldLink RX1 42 "ColumnPages$PageReader" "wholePages" "I" ∈ gU := gU_t1 (List.mem_of_getElem? (i := 152) rfl) rfl
theorem u_616 : Cond.fieldLink RX1 46 "ColumnPages$PageReader" "dictionaryRead" "Z" ∈ gU := gU_t1 (List.mem_of_getElem? (i := 154) rfl) rfl
theorem u_617 : Cond.fieldLink RX1 61 "ColumnPages$PageReader" "pageIsDictionary" "Z" ∈ gU := gU_t1 (List.mem_of_getElem? (i := 155) rfl) rfl
theorem u_618 : Cond.fieldLink RX1 73 "ColumnPages$Row" "count" "I" ∈ gU := gU_t1 (List.mem_of_getElem? (i := 65) rfl) rfl
theorem u_619 : Cond.fieldLink RX1 78 "ColumnPages$Source" "end" "I" ∈ gU := gU_t1 (List.mem_of_getElem? (i := 125) rfl) rfl
theorem u_620 : Cond.fieldLink RX1 81 "ColumnPages$Source" "spot" "I" ∈ gU := gU_t1 (List.mem_of_getElem? (i := 123) rfl) rfl
theorem u_621 : Cond.fieldLink RX1 90 "ColumnPages$Column" "kind" "I" ∈ gU := gU_t1 (List.mem_of_getElem? (i := 27) rfl) rfl
theorem u_622 : Cond.fieldLink RX1 93 "ColumnPages$PageReader" "zigPlace" "I" ∈ gU := gU_t1 (List.mem_of_getElem? (i := 158) rfl) rfl
theorem u_623 : Cond.fieldLink RX2 100 "ColumnPages$PageWriter" "chosenCount" "I" ∈ gU := gU_t1 (List.mem_of_getElem? (i := 89) rfl) rfl
theorem u_624 : Cond.fieldLink RX2 124 "ColumnPages$Row" "count" "I" ∈ gU := gU_t1 (List.mem_of_getElem? (i := 67) rfl) rfl
theorem u_625 : Cond.fieldLink RX2 14 "ColumnPages$PageWriter" "out" "LColumnPages$Row;" ∈ gU := gU_t1 (List.mem_of_getElem? (i := 85) rfl) rfl
theorem u_626 : Cond.fieldLink RX2 20 "ColumnPages$PageWriter" "body" "LColumnPages$Row;" ∈ gU := gU_t1 (List.mem_of_getElem? (i := 87) rfl) rfl
theorem u_627 : Cond.fieldLink RX2 23 "ColumnPages$PageWriter" "chosen" "[I" ∈ gU := gU_t1 (List.mem_of_getElem? (i := 88) rfl) rfl
theorem u_628 : Cond.fieldLink RX2 27 "ColumnPages$PageWriter" "places" "[I" ∈ gU := gU_t1 (List.mem_of_getElem? (i := 90) rfl) rfl
theorem u_629 : Cond.fieldLink RX2 30 "ColumnPages$PageWriter" "numbers" "[J" ∈ gU := gU_t1 (List.mem_of_getElem? (i := 92) rfl) rfl
theorem u_630 : Cond.fieldLink RX2 37 "ColumnPages$Column" "count" "I" ∈ gU := gU_t1 (List.mem_of_getElem? (i := 33) rfl) rfl
theorem u_631 : Cond.fieldLink RX2 56 "ColumnPages$Column" "kind" "I" ∈ gU := gU_t1 (List.mem_of_getElem? (i := 25) rfl) rfl
theorem u_632 : Cond.fieldLink RX2 72 "ColumnPages$PageWriter" "unlike" "I" ∈ gU := gU_t1 (List.mem_of_getElem? (i := 91) rfl) rfl
theorem u_633 : Cond.fieldLink RX2 83 "ColumnPages$Column" "optional" "Z" ∈ gU := gU_t1 (List.mem_of_getElem? (i := 29) rfl) rfl
theorem u_634 : Cond.fieldLink RX3 15 "ColumnPages$Row" "count" "I" ∈ gU := gU_t1 (List.mem_of_getElem? (i := 63) rfl) rfl
theorem u_635 : Cond.fieldLink RX3 19 "ColumnPages$Row" "over" "Z" ∈ gU := gU_t1 (List.mem_of_getElem? (i := 68) rfl) rfl
theorem u_636 : Cond.fieldLink RX3 9 "ColumnPages$Row" "bytes" "[B" ∈ gU := gU_t1 (List.mem_of_getElem? (i := 61) rfl) rfl
theorem u_637 : Cond.fieldLink RX4 15 "ColumnPages$Source" "row" "LColumnPages$Row;" ∈ gU := gU_t1 (List.mem_of_getElem? (i := 121) rfl) rfl
theorem u_638 : Cond.fieldLink RX4 19 "ColumnPages$Source" "spot" "I" ∈ gU := gU_t1 (List.mem_of_getElem? (i := 122) rfl) rfl
theorem u_639 : Cond.fieldLink RX4 23 "ColumnPages$Row" "count" "I" ∈ gU := gU_t1 (List.mem_of_getElem? (i := 64) rfl) rfl
theorem u_640 : Cond.fieldLink RX4 28 "ColumnPages$Source" "end" "I" ∈ gU := gU_t1 (List.mem_of_getElem? (i := 124) rfl) rfl
theorem u_641 : Cond.fieldLink RX4 31 "ColumnPages$Source" "trouble" "I" ∈ gU := gU_t1 (List.mem_of_getElem? (i := 126) rfl) rfl
theorem u_642 : Cond.fieldLink RX4 37 "ColumnPages$Row" "bytes" "[B" ∈ gU := gU_t1 (List.mem_of_getElem? (i := 62) rfl) rfl
theorem u_643 : Cond.fieldLink RX4 9 "ColumnPages$Source" "widths" "[I" ∈ gU := gU_t1 (List.mem_of_getElem? (i := 130) rfl) rfl
theorem u_644 : Cond.fieldLink RX5 11 "ColumnPages" "columns" "[LColumnPages$Column;" ∈ gU := gU_t1 (List.mem_of_getElem? (i := 184) rfl) rfl
theorem u_645 : Cond.fieldLink RX5 113 "ColumnPages$PageWriter" "out" "LColumnPages$Row;" ∈ gU := gU_t1 (List.mem_of_getElem? (i := 86) rfl) rfl
theorem u_646 : Cond.fieldLink RX5 116 "ColumnPages$Row" "over" "Z" ∈ gU := gU_t1 (List.mem_of_getElem? (i := 69) rfl) rfl
theorem u_647 : Cond.fieldLink RX5 130 "ColumnPages$PageReader" "source" "LColumnPages$Source;" ∈ gU := gU_t1 (List.mem_of_getElem? (i := 147) rfl) rfl
theorem u_648 : Cond.fieldLink RX5 140 "ColumnPages$Source" "trouble" "I" ∈ gU := gU_t1 (List.mem_of_getElem? (i := 127) rfl) rfl
theorem u_649 : Cond.fieldLink RX5 143 "ColumnPages$PageReader" "fresh" "LColumnPages$Column;" ∈ gU := gU_t1 (List.mem_of_getElem? (i := 149) rfl) rfl
theorem u_650 : Cond.fieldLink RX5 151 "ColumnPages$Source" "troublePlace" "I" ∈ gU := gU_t1 (List.mem_of_getElem? (i := 129) rfl) rfl
theorem u_651 : Cond.fieldLink RX5 154 "ColumnPages$PageReader" "wholePages" "I" ∈ gU := gU_t1 (List.mem_of_getElem? (i := 153) rfl) rfl
theorem u_652 : Cond.fieldLink RX5 157 "ColumnPages$PageReader" "dictionary" "LColumnPages$Column;" ∈ gU := gU_t1 (List.mem_of_getElem? (i := 151) rfl) rfl
theorem u_653 : Cond.fieldLink RX5 21 "ColumnPages" "tape" "LColumnPages$Row;" ∈ gU := gU_t1 (List.mem_of_getElem? (i := 185) rfl) rfl
theorem u_654 : Cond.fieldLink RX5 25 "ColumnPages" "file" "LColumnPages$Row;" ∈ gU := gU_t1 (List.mem_of_getElem? (i := 186) rfl) rfl
theorem u_655 : Cond.fieldLink RX5 31 "ColumnPages" "writer" "LColumnPages$PageWriter;" ∈ gU := gU_t1 (List.mem_of_getElem? (i := 187) rfl) rfl
theorem u_656 : Cond.fieldLink RX5 38 "ColumnPages" "reader" "LColumnPages$PageReader;" ∈ gU := gU_t1 (List.mem_of_getElem? (i := 188) rfl) rfl
theorem u_657 : Cond.fieldLink RX5 46 "ColumnPages$Column" "count" "I" ∈ gU := gU_t1 (List.mem_of_getElem? (i := 34) rfl) rfl
theorem u_658 : Cond.fieldLink RX5 54 "ColumnPages$Column" "kind" "I" ∈ gU := gU_t1 (List.mem_of_getElem? (i := 26) rfl) rfl
theorem u_659 : Cond.fieldLink RX5 61 "ColumnPages$Row" "count" "I" ∈ gU := gU_t1 (List.mem_of_getElem? (i := 66) rfl) rfl
theorem u_660 : Cond.fieldLink RX5 72 "ColumnPages$Column" "optional" "Z" ∈ gU := gU_t1 (List.mem_of_getElem? (i := 30) rfl) rfl
theorem u_661 : Cond.fieldLink RX4 34 "ColumnPages$Source" "troublePlace" "I" ∈ gU := gU_t1 (List.mem_of_getElem? (i := 128) rfl) rfl
theorem u_662 : Cond.lays RX0 "ColumnPages$Column" "kind" "I" ∈ gU := gU_t1 (List.mem_of_getElem? (i := 39) rfl) rfl
theorem u_663 : Cond.lays RX0 "ColumnPages$Column" "optional" "Z" ∈ gU := gU_t1 (List.mem_of_getElem? (i := 41) rfl) rfl
theorem u_664 : Cond.lays RX0 "ColumnPages$Column" "count" "I" ∈ gU := gU_t1 (List.mem_of_getElem? (i := 43) rfl) rfl
theorem u_665 : Cond.laysFinal RX0 "ColumnPages$Column" "there" "[Z" ∈ gU := gU_t1 (List.mem_of_getElem? (i := 45) rfl) rfl
theorem u_666 : Cond.laysFinal RX0 "ColumnPages$Column" "numbers" "[J" ∈ gU := gU_t1 (List.mem_of_getElem? (i := 47) rfl) rfl
theorem u_667 : Cond.laysFinal RX0 "ColumnPages$Column" "letters" "[B" ∈ gU := gU_t1 (List.mem_of_getElem? (i := 49) rfl) rfl
theorem u_668 : Cond.laysFinal RX1 "ColumnPages$PageReader" "source" "LColumnPages$Source;" ∈ gU := gU_t1 (List.mem_of_getElem? (i := 161) rfl) rfl
theorem u_669 : Cond.laysFinal RX1 "ColumnPages$PageReader" "fresh" "LColumnPages$Column;" ∈ gU := gU_t1 (List.mem_of_getElem? (i := 163) rfl) rfl
theorem u_670 : Cond.laysFinal RX1 "ColumnPages$PageReader" "dictionary" "LColumnPages$Column;" ∈ gU := gU_t1 (List.mem_of_getElem? (i := 165) rfl) rfl
theorem u_671 : Cond.lays RX1 "ColumnPages$PageReader" "wholePages" "I" ∈ gU := gU_t1 (List.mem_of_getElem? (i := 167) rfl) rfl
theorem u_672 : Cond.lays RX1 "ColumnPages$PageReader" "dictionaryRead" "Z" ∈ gU := gU_t1 (List.mem_of_getElem? (i := 169) rfl) rfl
theorem u_673 : Cond.lays RX1 "ColumnPages$PageReader" "pageIsDictionary" "Z" ∈ gU := gU_t1 (List.mem_of_getElem? (i := 171) rfl) rfl
theorem u_674 : Cond.lays RX1 "ColumnPages$PageReader" "pageValues" "I" ∈ gU := gU_t1 (List.mem_of_getElem? (i := 173) rfl) rfl
theorem u_675 : Cond.lays RX1 "ColumnPages$PageReader" "pageCode" "I" ∈ gU := gU_t1 (List.mem_of_getElem? (i := 175) rfl) rfl
theorem u_676 : Cond.lays RX1 "ColumnPages$PageReader" "zigPlace" "I" ∈ gU := gU_t1 (List.mem_of_getElem? (i := 177) rfl) rfl
theorem u_677 : Cond.laysFinal RX1 "ColumnPages$PageReader" "levels" "[J" ∈ gU := gU_t1 (List.mem_of_getElem? (i := 179) rfl) rfl
theorem u_678 : Cond.laysFinal RX1 "ColumnPages$PageReader" "numbers" "[J" ∈ gU := gU_t1 (List.mem_of_getElem? (i := 181) rfl) rfl
theorem u_679 : Cond.laysFinal RX2 "ColumnPages$PageWriter" "out" "LColumnPages$Row;" ∈ gU := gU_t1 (List.mem_of_getElem? (i := 93) rfl) rfl
theorem u_680 : Cond.laysFinal RX2 "ColumnPages$PageWriter" "body" "LColumnPages$Row;" ∈ gU := gU_t1 (List.mem_of_getElem? (i := 95) rfl) rfl
theorem u_681 : Cond.laysFinal RX2 "ColumnPages$PageWriter" "chosen" "[I" ∈ gU := gU_t1 (List.mem_of_getElem? (i := 97) rfl) rfl
theorem u_682 : Cond.lays RX2 "ColumnPages$PageWriter" "chosenCount" "I" ∈ gU := gU_t1 (List.mem_of_getElem? (i := 99) rfl) rfl
theorem u_683 : Cond.laysFinal RX2 "ColumnPages$PageWriter" "places" "[I" ∈ gU := gU_t1 (List.mem_of_getElem? (i := 101) rfl) rfl
theorem u_684 : Cond.lays RX2 "ColumnPages$PageWriter" "unlike" "I" ∈ gU := gU_t1 (List.mem_of_getElem? (i := 103) rfl) rfl
theorem u_685 : Cond.laysFinal RX2 "ColumnPages$PageWriter" "numbers" "[J" ∈ gU := gU_t1 (List.mem_of_getElem? (i := 105) rfl) rfl
theorem u_686 : Cond.laysFinal RX3 "ColumnPages$Row" "bytes" "[B" ∈ gU := gU_t1 (List.mem_of_getElem? (i := 70) rfl) rfl
theorem u_687 : Cond.lays RX3 "ColumnPages$Row" "count" "I" ∈ gU := gU_t1 (List.mem_of_getElem? (i := 72) rfl) rfl
theorem u_688 : Cond.lays RX3 "ColumnPages$Row" "over" "Z" ∈ gU := gU_t1 (List.mem_of_getElem? (i := 74) rfl) rfl
theorem u_689 : Cond.lays RX4 "ColumnPages$Source" "row" "LColumnPages$Row;" ∈ gU := gU_t1 (List.mem_of_getElem? (i := 131) rfl) rfl
theorem u_690 : Cond.lays RX4 "ColumnPages$Source" "spot" "I" ∈ gU := gU_t1 (List.mem_of_getElem? (i := 133) rfl) rfl
theorem u_691 : Cond.lays RX4 "ColumnPages$Source" "end" "I" ∈ gU := gU_t1 (List.mem_of_getElem? (i := 135) rfl) rfl
theorem u_692 : Cond.lays RX4 "ColumnPages$Source" "trouble" "I" ∈ gU := gU_t1 (List.mem_of_getElem? (i := 137) rfl) rfl
theorem u_693 : Cond.lays RX4 "ColumnPages$Source" "troublePlace" "I" ∈ gU := gU_t1 (List.mem_of_getElem? (i := 139) rfl) rfl
theorem u_694 : Cond.laysFinal RX4 "ColumnPages$Source" "widths" "[I" ∈ gU := gU_t1 (List.mem_of_getElem? (i := 141) rfl) rfl
theorem u_695 : Cond.laysFinal RX5 "ColumnPages" "columns" "[LColumnPages$Column;" ∈ gU := gU_t1 (List.mem_of_getElem? (i := 189) rfl) rfl
theorem u_696 : Cond.laysFinal RX5 "ColumnPages" "tape" "LColumnPages$Row;" ∈ gU := gU_t1 (List.mem_of_getElem? (i := 191) rfl) rfl
theorem u_697 : Cond.laysFinal RX5 "ColumnPages" "file" "LColumnPages$Row;" ∈ gU := gU_t1 (List.mem_of_getElem? (i := 193) rfl) rfl
theorem u_698 : Cond.laysFinal RX5 "ColumnPages" "writer" "LColumnPages$PageWriter;" ∈ gU := gU_t1 (List.mem_of_getElem? (i := 195) rfl) rfl
theorem u_699 : Cond.laysFinal RX5 "ColumnPages" "reader" "LColumnPages$PageReader;" ∈ gU := gU_t1 (List.mem_of_getElem? (i := 197) rfl) rfl
theorem u_700 : Cond.laysFinal RX6 "ColumnPagesModel" "kind" "[I" ∈ gU := gU_t3 (List.mem_of_getElem? (i := 218) rfl) rfl
theorem u_701 : Cond.laysFinal RX6 "ColumnPagesModel" "optional" "[Z" ∈ gU := gU_t3 (List.mem_of_getElem? (i := 220) rfl) rfl
theorem u_702 : Cond.laysFinal RX6 "ColumnPagesModel" "many" "[I" ∈ gU := gU_t3 (List.mem_of_getElem? (i := 222) rfl) rfl
theorem u_703 : Cond.laysFinal RX6 "ColumnPagesModel" "there" "[Z" ∈ gU := gU_t3 (List.mem_of_getElem? (i := 224) rfl) rfl
theorem u_704 : Cond.laysFinal RX6 "ColumnPagesModel" "value" "[J" ∈ gU := gU_t3 (List.mem_of_getElem? (i := 226) rfl) rfl
theorem u_705 : Cond.laysFinal RX6 "ColumnPagesModel" "text" "[B" ∈ gU := gU_t3 (List.mem_of_getElem? (i := 228) rfl) rfl
theorem u_706 : Cond.laysFinal RX6 "ColumnPagesModel" "tape" "[B" ∈ gU := gU_t3 (List.mem_of_getElem? (i := 230) rfl) rfl
theorem u_707 : Cond.lays RX6 "ColumnPagesModel" "taped" "I" ∈ gU := gU_t3 (List.mem_of_getElem? (i := 232) rfl) rfl
theorem u_708 : Cond.laysFinal RX6 "ColumnPagesModel" "file" "[B" ∈ gU := gU_t3 (List.mem_of_getElem? (i := 234) rfl) rfl
theorem u_709 : Cond.lays RX6 "ColumnPagesModel" "size" "I" ∈ gU := gU_t3 (List.mem_of_getElem? (i := 236) rfl) rfl
theorem u_710 : Cond.laysFinal RX6 "ColumnPagesModel" "draft" "[B" ∈ gU := gU_t3 (List.mem_of_getElem? (i := 238) rfl) rfl
theorem u_711 : Cond.lays RX6 "ColumnPagesModel" "drafted" "I" ∈ gU := gU_t4 (List.mem_of_getElem? (i := 0) rfl) rfl
theorem u_712 : Cond.laysFinal RX6 "ColumnPagesModel" "numbers" "[J" ∈ gU := gU_t4 (List.mem_of_getElem? (i := 2) rfl) rfl
theorem u_713 : Cond.laysFinal RX6 "ColumnPagesModel" "steps" "[J" ∈ gU := gU_t4 (List.mem_of_getElem? (i := 4) rfl) rfl
theorem u_714 : Cond.laysFinal RX6 "ColumnPagesModel" "placeOf" "[I" ∈ gU := gU_t4 (List.mem_of_getElem? (i := 6) rfl) rfl
theorem u_715 : Cond.laysFinal RX6 "ColumnPagesModel" "bodyBytes" "[B" ∈ gU := gU_t4 (List.mem_of_getElem? (i := 8) rfl) rfl
theorem u_716 : Cond.lays RX6 "ColumnPagesModel" "at" "I" ∈ gU := gU_t4 (List.mem_of_getElem? (i := 10) rfl) rfl
theorem u_717 : Cond.lays RX6 "ColumnPagesModel" "end" "I" ∈ gU := gU_t4 (List.mem_of_getElem? (i := 12) rfl) rfl
theorem u_718 : Cond.lays RX6 "ColumnPagesModel" "bad" "I" ∈ gU := gU_t4 (List.mem_of_getElem? (i := 14) rfl) rfl
theorem u_719 : Cond.lays RX6 "ColumnPagesModel" "badAt" "I" ∈ gU := gU_t4 (List.mem_of_getElem? (i := 16) rfl) rfl
theorem u_720 : Cond.lays RX6 "ColumnPagesModel" "pages" "I" ∈ gU := gU_t4 (List.mem_of_getElem? (i := 18) rfl) rfl
theorem u_721 : Cond.lays RX6 "ColumnPagesModel" "dictionary" "I" ∈ gU := gU_t4 (List.mem_of_getElem? (i := 20) rfl) rfl
theorem u_722 : Cond.lays RX6 "ColumnPagesModel" "bitsLeft" "I" ∈ gU := gU_t4 (List.mem_of_getElem? (i := 22) rfl) rfl
theorem u_723 : Cond.lays RX6 "ColumnPagesModel" "bitsByte" "I" ∈ gU := gU_t4 (List.mem_of_getElem? (i := 24) rfl) rfl
theorem u_724 : Cond.laysFinal RX6 "ColumnPagesModel" "widths" "[I" ∈ gU := gU_t4 (List.mem_of_getElem? (i := 26) rfl) rfl
theorem u_725 : Cond.lays RX6 "ColumnPagesModel" "zigAt" "I" ∈ gU := gU_t4 (List.mem_of_getElem? (i := 28) rfl) rfl
theorem u_726 : Cond.lays RX6 "ColumnPagesModel" "sort" "I" ∈ gU := gU_t4 (List.mem_of_getElem? (i := 30) rfl) rfl
theorem u_727 : Cond.lays RX6 "ColumnPagesModel" "body" "I" ∈ gU := gU_t4 (List.mem_of_getElem? (i := 32) rfl) rfl
theorem u_728 : Cond.lays RX6 "ColumnPagesModel" "count" "I" ∈ gU := gU_t4 (List.mem_of_getElem? (i := 34) rfl) rfl
theorem u_729 : Cond.lays RX6 "ColumnPagesModel" "code" "I" ∈ gU := gU_t4 (List.mem_of_getElem? (i := 36) rfl) rfl
theorem u_730 : Cond.laysFinal RX6 "ColumnPagesModel" "level" "[Z" ∈ gU := gU_t4 (List.mem_of_getElem? (i := 38) rfl) rfl
theorem u_731 : Cond.lays RX6 "ColumnPagesModel" "isRead" "Z" ∈ gU := gU_t4 (List.mem_of_getElem? (i := 40) rfl) rfl
theorem inlX0 : ∀ w ∈ u_ws RX0 TX0 6, w ∈ gU := by
  intro w hw
  obtain ⟨k, hk, rfl⟩ := List.mem_map.mp hw
  have hk := List.mem_range.mp hk
  match k, hk with
  | 0, _ => exact u_662
  | 1, _ => exact u_663
  | 2, _ => exact u_664
  | 3, _ => exact u_665
  | 4, _ => exact u_666
  | 5, _ => exact u_667
  | k + 6, h => exact absurd h (by omega)
theorem inlX1 : ∀ w ∈ u_ws RX1 TX1 11, w ∈ gU := by
  intro w hw
  obtain ⟨k, hk, rfl⟩ := List.mem_map.mp hw
  have hk := List.mem_range.mp hk
  match k, hk with
  | 0, _ => exact u_668
  | 1, _ => exact u_669
  | 2, _ => exact u_670
  | 3, _ => exact u_671
  | 4, _ => exact u_672
  | 5, _ => exact u_673
  | 6, _ => exact u_674
  | 7, _ => exact u_675
  | 8, _ => exact u_676
  | 9, _ => exact u_677
  | 10, _ => exact u_678
  | k + 11, h => exact absurd h (by omega)
theorem inlX2 : ∀ w ∈ u_ws RX2 TX2 7, w ∈ gU := by
  intro w hw
  obtain ⟨k, hk, rfl⟩ := List.mem_map.mp hw
  have hk := List.mem_range.mp hk
  match k, hk with
  | 0, _ => exact u_679
  | 1, _ => exact u_680
  | 2, _ => exact u_681
  | 3, _ => exact u_682
  | 4, _ => exact u_683
  | 5, _ => exact u_684
  | 6, _ => exact u_685
  | k + 7, h => exact absurd h (by omega)
theorem inlX3 : ∀ w ∈ u_ws RX3 TX3 3, w ∈ gU := by
  intro w hw
  obtain ⟨k, hk, rfl⟩ := List.mem_map.mp hw
  have hk := List.mem_range.mp hk
  match k, hk with
  | 0, _ => exact u_686
  | 1, _ => exact u_687
  | 2, _ => exact u_688
  | k + 3, h => exact absurd h (by omega)
theorem inlX4 : ∀ w ∈ u_ws RX4 TX4 6, w ∈ gU := by
  intro w hw
  obtain ⟨k, hk, rfl⟩ := List.mem_map.mp hw
  have hk := List.mem_range.mp hk
  match k, hk with
  | 0, _ => exact u_689
  | 1, _ => exact u_690
  | 2, _ => exact u_691
  | 3, _ => exact u_692
  | 4, _ => exact u_693
  | 5, _ => exact u_694
  | k + 6, h => exact absurd h (by omega)
theorem inlX5 : ∀ w ∈ u_ws RX5 TX5 5, w ∈ gU := by
  intro w hw
  obtain ⟨k, hk, rfl⟩ := List.mem_map.mp hw
  have hk := List.mem_range.mp hk
  match k, hk with
  | 0, _ => exact u_695
  | 1, _ => exact u_696
  | 2, _ => exact u_697
  | 3, _ => exact u_698
  | 4, _ => exact u_699
  | k + 5, h => exact absurd h (by omega)
theorem inlX6 : ∀ w ∈ u_ws RX6 TX6 32, w ∈ gU := by
  intro w hw
  obtain ⟨k, hk, rfl⟩ := List.mem_map.mp hw
  have hk := List.mem_range.mp hk
  match k, hk with
  | 0, _ => exact u_700
  | 1, _ => exact u_701
  | 2, _ => exact u_702
  | 3, _ => exact u_703
  | 4, _ => exact u_704
  | 5, _ => exact u_705
  | 6, _ => exact u_706
  | 7, _ => exact u_707
  | 8, _ => exact u_708
  | 9, _ => exact u_709
  | 10, _ => exact u_710
  | 11, _ => exact u_711
  | 12, _ => exact u_712
  | 13, _ => exact u_713
  | 14, _ => exact u_714
  | 15, _ => exact u_715
  | 16, _ => exact u_716
  | 17, _ => exact u_717
  | 18, _ => exact u_718
  | 19, _ => exact u_719
  | 20, _ => exact u_720
  | 21, _ => exact u_721
  | 22, _ => exact u_722
  | 23, _ => exact u_723
  | 24, _ => exact u_724
  | 25, _ => exact u_725
  | 26, _ => exact u_726
  | 27, _ => exact u_727
  | 28, _ => exact u_728
  | 29, _ => exact u_729
  | 30, _ => exact u_730
  | 31, _ => exact u_731
  | k + 32, h => exact absurd h (by omega)
def nestW : List Cond := [Cond.methodLinkNest RX1 118 yX5_unzigged RX5, Cond.methodLinkNest RX1 174 yX5_wholeGroups RX5, Cond.methodLinkNest RX2 116 yX5_zigged RX5, Cond.methodLinkNest RX2 148 yX5_wholeGroups RX5, Cond.methodLinkNest RX2 162 yX5_bitsOf RX5, Cond.methodLinkNest RX3 63 yX5_wholeGroups RX5, Cond.methodLinkNest RX3 74 yX5_zigged RX5, Cond.methodLinkNest RX3 94 yX5_bitsOf RX5, Cond.methodLinkNest RX4 62 yX5_wholeGroups RX5, Cond.methodLinkNest RX4 74 yX5_bitsOf RX5, Cond.methodLinkNest RX4 92 yX5_unzigged RX5]
