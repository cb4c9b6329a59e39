theorem v_0 : Cond.methodLink RX5 1 objectInit ∈ gU := gU_t1 (List.mem_of_getElem? (i := 14) rfl) rfl
theorem v_1 : Cond.instanceMethod objectInit ∈ gU := gU_t1 (List.mem_of_getElem? (i := 15) rfl) rfl
theorem v_2 : Cond.code objectInit ⟨#[0xb1]⟩ 1 none ∈ gU := gU_t1 (List.mem_of_getElem? (i := 16) rfl) rfl
theorem v_3 : Cond.arrayClass .boolean ∈ gU := gU_t1 (List.mem_of_getElem? (i := 52) rfl) rfl
theorem v_5 : Cond.classLink RX5 9 RX0 ∈ gU := gU_t1 (List.mem_of_getElem? (i := 17) rfl) rfl
theorem v_6 : Cond.instantiable RX0 6 ∈ gU := gU_t1 (List.mem_of_getElem? (i := 19) rfl) rfl
theorem v_7 : Cond.initialized RX0 ∈ gU := gU_t1 (List.mem_of_getElem? (i := 2) rfl) rfl
theorem v_8 : Cond.fieldLink RX0 9 "ColumnPages$Column" "there" "[Z" ∈ gU := gU_t1 (List.mem_of_getElem? (i := 36) rfl) rfl
theorem v_9 : Cond.methodLink RX5 15 yX0_init ∈ gU := gU_t1 (List.mem_of_getElem? (i := 20) rfl) rfl
theorem v_10 : Cond.code yX0_init cX0_init 1 none ∈ gU := gU_t1 (List.mem_of_getElem? (i := 22) rfl) rfl
theorem v_11 : Cond.constant RX6 27 56000 ∈ gU := gU_t3 (List.mem_of_getElem? (i := 184) rfl) rfl
theorem v_12 : Cond.constantLong RL 18 4294967295 ∈ gU := gU_t5 (List.mem_of_getElem? (i := 68) rfl) rfl
theorem v_13 : Cond.selects RX5 yX5_column yX5_column ∈ gU := gU_t1 (List.mem_of_getElem? (i := 202) rfl) rfl
