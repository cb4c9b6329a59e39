section WALK
variable {mk : Nat → Int32} {mo : Nat → Int32} {mm : Nat → Int32} {mt : Nat → Int32} {mv : Nat → Int64} {mx : Nat → Int32} {mp : Nat → Int32} {mtd : Int32} {mf : Nat → Int32} {ms : Int32} {md : Nat → Int32} {mdd : Int32} {mn : Nat → Int64} {mst : Nat → Int64} {mpl : Nat → Int32} {mbb : Nat → Int32} {ma : Int32} {me : Int32} {mb : Int32} {mba : Int32} {mpg : Int32} {mdi : Int32} {mbl : Int32} {mby : Int32} {mw : Nat → Int32} {mz : Int32} {mso : Int32} {mbo : Int32} {mco : Int32} {mcd : Int32} {ml : Nat → Int32} {mr : Int32}
set_option maxRecDepth 200000 in
theorem w_X6_page_L132 {κ : GK} {E : GE} {mdz : Nat → Int32} {mddz : Int32} {mnz : Nat → Int64} {mstz : Nat → Int64} {mbbz : Nat → Int32} {v1 : Int32} {v3 : Int32} {v4 : Int32} {v5 : Int32} {v7 : Int32} {k202 : Int32 → (Nat → Int64) → Option ((Nat → Int32) × Int32 × (Nat → Int64) × (Nat → Int64) × (Nat → Int32))} (hC : gC κ E cX6_page RX6 none rm_X6_page 10)  (hk202 : ∀ (v6 : Int32) (mn : Nat → Int64), k202 v6 mn = some (mdz, mddz, mnz, mstz, mbbz) → GG κ E (mws E mk mo mm mt mv mx mp mtd mf ms mdz mddz mnz mstz mpl mbbz ma me mb mba mpg mdi mbl mby mw mz mso mbo mco mcd ml mr, none) (mws E mk mo mm mt mv mx mp mtd mf ms md mdd mn mst mpl mbb ma me mb mba mpg mdi mbl mby mw mz mso mbo mco mcd ml mr) 202 [some (.ref (ea E 0)), some (.int v1), none, some (.int v3), some (.int v4), some (.int v5), some (.int v6), some (.int v7), none, none] []) : ∀ (n : Nat) (v6 : Int32) (v8 : Int32) (mn : Nat → Int64), itr3 (p_X6_page_L132 v1 v4 v7 mt mv mpl k202) n v6 v8 mn = some (mdz, mddz, mnz, mstz, mbbz) → GG κ E (mws E mk mo mm mt mv mx mp mtd mf ms mdz mddz mnz mstz mpl mbbz ma me mb mba mpg mdi mbl mby mw mz mso mbo mco mcd ml mr, none) (mws E mk mo mm mt mv mx mp mtd mf ms md mdd mn mst mpl mbb ma me mb mba mpg mdi mbl mby mw mz mso mbo mco mcd ml mr) 132 [some (.ref (ea E 0)), some (.int v1), none, some (.int v3), some (.int v4), some (.int v5), some (.int v6), some (.int v7), some (.int v8), none] [] :=
  itr3_ind (fun k132 hk132 v6 v8 mn h => by
    unfold p_X6_page_L132 at h
    refine g_iload (pc' := 134) (i := 8) hC dX6_page_132 rfl rfl ?_
    refine g_iload (pc' := 136) (i := 4) hC dX6_page_134 rfl rfl ?_
    refine g_icmp_ge (pc' := 139) (tgt := 202) hC dX6_page_136 (by decide) rfl h (fun h => ?_) (fun h => ?_)
    · refine g_aload_n (pc' := 140) (i := 0) hC dX6_page_139 rfl rfl rfl ?_
      refine gf_X6_20 (pc' := 143) hC dX6_page_140 rfl ?_
      refine g_sipush (pc' := 146) (v := (nI 200)) hC dX6_page_143 (by decide) rfl ?_
      refine g_iload_n (pc' := 147) (i := 1) hC dX6_page_146 rfl rfl rfl ?_
      refine g_imul (pc' := 148) hC dX6_page_147 rfl ?_
      refine g_iload (pc' := 150) (i := 8) hC dX6_page_148 rfl rfl ?_
      refine g_iadd (pc' := 151) hC dX6_page_150 rfl ?_
      obtain ⟨g_2, h⟩ := gd_some h
      refine ld_mt (pc' := 152) hC g_2 dX6_page_151 rfl ?_
      refine g_if_eq (pc' := 155) (tgt := 196) hC dX6_page_152 (by decide) rfl h (fun h => ?_) (fun h => ?_)
      · refine g_iinc (pc' := 199) (i := 8) (x := v8) (k := (nI 1)) (lo' := [some (.ref (ea E 0)), some (.int v1), none, some (.int v3), some (.int v4), some (.int v5), some (.int v6), some (.int v7), some (.int (v8 + (nI 1))), none]) hC dX6_page_196 rfl (by decide) rfl rfl rfl rfl ?_
        refine g_goto (tgt := 132) hC dX6_page_199 (by decide) ?_
        exact hk132 _ _ _ h
      · refine g_aload_n (pc' := 156) (i := 0) hC dX6_page_155 rfl rfl rfl ?_
        refine gf_X6_42 (pc' := 159) hC dX6_page_156 rfl ?_
        refine g_iload (pc' := 161) (i := 6) hC dX6_page_159 rfl rfl ?_
        refine g_iload (pc' := 163) (i := 7) hC dX6_page_161 rfl rfl ?_
        refine g_bipush (pc' := 165) (v := (nI 8)) hC dX6_page_163 (by decide) rfl ?_
        refine g_icmp_ne (pc' := 168) (tgt := 179) hC dX6_page_165 (by decide) rfl h (fun h => ?_) (fun h => ?_)
        · refine g_aload_n (pc' := 169) (i := 0) hC dX6_page_168 rfl rfl rfl ?_
          refine gf_X6_48 (pc' := 172) hC dX6_page_169 rfl ?_
          refine g_iload (pc' := 174) (i := 8) hC dX6_page_172 rfl rfl ?_
          obtain ⟨g_3, h⟩ := gd_some h
          refine ld_mpl (pc' := 175) hC g_3 dX6_page_174 rfl ?_
          refine g_i2l (pc' := 176) hC dX6_page_175 rfl ?_
          refine g_goto (tgt := 192) hC dX6_page_176 (by decide) ?_
          obtain ⟨g_4, h⟩ := gd_some h
          refine st_mn (pc' := 193) hC g_4 dX6_page_192 rfl ?_
          refine g_iinc (pc' := 196) (i := 6) (x := v6) (k := (nI 1)) (lo' := [some (.ref (ea E 0)), some (.int v1), none, some (.int v3), some (.int v4), some (.int v5), some (.int (v6 + (nI 1))), some (.int v7), some (.int v8), none]) hC dX6_page_193 rfl (by decide) rfl rfl rfl rfl ?_
          refine g_iinc (pc' := 199) (i := 8) (x := v8) (k := (nI 1)) (lo' := [some (.ref (ea E 0)), some (.int v1), none, some (.int v3), some (.int v4), some (.int v5), some (.int (v6 + (nI 1))), some (.int v7), some (.int (v8 + (nI 1))), none]) hC dX6_page_196 rfl (by decide) rfl rfl rfl rfl ?_
          refine g_goto (tgt := 132) hC dX6_page_199 (by decide) ?_
          exact hk132 _ _ _ h
        · refine g_aload_n (pc' := 180) (i := 0) hC dX6_page_179 rfl rfl rfl ?_
          refine gf_X6_23 (pc' := 183) hC dX6_page_180 rfl ?_
          refine g_sipush (pc' := 186) (v := (nI 200)) hC dX6_page_183 (by decide) rfl ?_
          refine g_iload_n (pc' := 187) (i := 1) hC dX6_page_186 rfl rfl rfl ?_
          refine g_imul (pc' := 188) hC dX6_page_187 rfl ?_
          refine g_iload (pc' := 190) (i := 8) hC dX6_page_188 rfl rfl ?_
          refine g_iadd (pc' := 191) hC dX6_page_190 rfl ?_
          obtain ⟨g_5, h⟩ := gd_some h
          refine ld_mv (pc' := 192) hC g_5 dX6_page_191 rfl ?_
          obtain ⟨g_6, h⟩ := gd_some h
          refine st_mn (pc' := 193) hC g_6 dX6_page_192 rfl ?_
          refine g_iinc (pc' := 196) (i := 6) (x := v6) (k := (nI 1)) (lo' := [some (.ref (ea E 0)), some (.int v1), none, some (.int v3), some (.int v4), some (.int v5), some (.int (v6 + (nI 1))), some (.int v7), some (.int v8), none]) hC dX6_page_193 rfl (by decide) rfl rfl rfl rfl ?_
          refine g_iinc (pc' := 199) (i := 8) (x := v8) (k := (nI 1)) (lo' := [some (.ref (ea E 0)), some (.int v1), none, some (.int v3), some (.int v4), some (.int v5), some (.int (v6 + (nI 1))), some (.int v7), some (.int (v8 + (nI 1))), none]) hC dX6_page_196 rfl (by decide) rfl rfl rfl rfl ?_
          refine g_goto (tgt := 132) hC dX6_page_199 (by decide) ?_
          exact hk132 _ _ _ h
    · refine g_weak (lo' := [some (.ref (ea E 0)), some (.int v1), none, some (.int v3), some (.int v4), some (.int v5), some (.int v6), some (.int v7), none, none]) rfl ?_
      exact hk202 _ _ h)
set_option maxRecDepth 200000 in
theorem w_X6_page_J385 {κ : GK} {E : GE} {mdz : Nat → Int32} {mddz : Int32} {mnz : Nat → Int64} {mstz : Nat → Int64} {mbbz : Nat → Int32} {v1 : Int32} {v3 : Int32} {v4 : Int32} {v5 : Int32} {v7 : Int32} {v9 : Int32} {k340 : Int32 → (Nat → Int32) → Int32 → Option ((Nat → Int32) × Int32 × (Nat → Int64) × (Nat → Int64) × (Nat → Int32))} (hC : gC κ E cX6_page RX6 none rm_X6_page 10)  (hk340 : ∀ (v9 : Int32) (md : Nat → Int32) (mdd : Int32), k340 v9 md mdd = some (mdz, mddz, mnz, mstz, mbbz) → GG κ E (mws E mk mo mm mt mv mx mp mtd mf ms mdz mddz mnz mstz mpl mbbz ma me mb mba mpg mdi mbl mby mw mz mso mbo mco mcd ml mr, none) (mws E mk mo mm mt mv mx mp mtd mf ms md mdd mn mst mpl mbb ma me mb mba mpg mdi mbl mby mw mz mso mbo mco mcd ml mr) 340 [some (.ref (ea E 0)), some (.int v1), none, some (.int v3), some (.int v4), some (.int v5), none, some (.int v7), none, some (.int v9)] []) (h : p_X6_page_J385 v1 v7 v9 mk mt mv mx md mdd k340 = some (mdz, mddz, mnz, mstz, mbbz)) : GG κ E (mws E mk mo mm mt mv mx mp mtd mf ms mdz mddz mnz mstz mpl mbbz ma me mb mba mpg mdi mbl mby mw mz mso mbo mco mcd ml mr, none) (mws E mk mo mm mt mv mx mp mtd mf ms md mdd mn mst mpl mbb ma me mb mba mpg mdi mbl mby mw mz mso mbo mco mcd ml mr) 385 [some (.ref (ea E 0)), some (.int v1), none, some (.int v3), some (.int v4), some (.int v5), none, some (.int v7), none, some (.int v9)] [] := by
  unfold p_X6_page_J385 at h
  refine g_aload_n (pc' := 386) (i := 0) hC dX6_page_385 rfl rfl rfl ?_
  refine gf_X6_20 (pc' := 389) hC dX6_page_386 rfl ?_
  refine g_sipush (pc' := 392) (v := (nI 200)) hC dX6_page_389 (by decide) rfl ?_
  refine g_iload_n (pc' := 393) (i := 1) hC dX6_page_392 rfl rfl rfl ?_
  refine g_imul (pc' := 394) hC dX6_page_393 rfl ?_
  refine g_iload (pc' := 396) (i := 9) hC dX6_page_394 rfl rfl ?_
  refine g_iadd (pc' := 397) hC dX6_page_396 rfl ?_
  obtain ⟨g_17, h⟩ := gd_some h
  refine ld_mt (pc' := 398) hC g_17 dX6_page_397 rfl ?_
  refine g_if_eq (pc' := 401) (tgt := 434) hC dX6_page_398 (by decide) rfl h (fun h => ?_) (fun h => ?_)
  · refine g_iinc (pc' := 437) (i := 9) (x := v9) (k := (nI 1)) (lo' := [some (.ref (ea E 0)), some (.int v1), none, some (.int v3), some (.int v4), some (.int v5), none, some (.int v7), none, some (.int (v9 + (nI 1)))]) hC dX6_page_434 rfl (by decide) rfl rfl rfl rfl ?_
    refine g_goto (tgt := 340) hC dX6_page_437 (by decide) ?_
    exact hk340 _ _ _ h
  · refine g_iload (pc' := 403) (i := 7) hC dX6_page_401 rfl rfl ?_
    refine g_if_ne (pc' := 406) (tgt := 434) hC dX6_page_403 (by decide) rfl h (fun h => ?_) (fun h => ?_)
    · refine g_aload_n (pc' := 407) (i := 0) hC dX6_page_406 rfl rfl rfl ?_
      refine gf_X6_7 (pc' := 410) hC dX6_page_407 rfl ?_
      refine g_iload_n (pc' := 411) (i := 1) hC dX6_page_410 rfl rfl rfl ?_
      obtain ⟨g_18, h⟩ := gd_some h
      refine ld_mk (pc' := 412) hC g_18 dX6_page_411 rfl ?_
      refine g_iconst (pc' := 413) (v := (nI 3)) hC dX6_page_412 (by decide) rfl ?_
      refine g_icmp_eq (pc' := 416) (tgt := 434) hC dX6_page_413 (by decide) rfl h (fun h => ?_) (fun h => ?_)
      · refine g_iinc (pc' := 437) (i := 9) (x := v9) (k := (nI 1)) (lo' := [some (.ref (ea E 0)), some (.int v1), none, some (.int v3), some (.int v4), some (.int v5), none, some (.int v7), none, some (.int (v9 + (nI 1)))]) hC dX6_page_434 rfl (by decide) rfl rfl rfl rfl ?_
        refine g_goto (tgt := 340) hC dX6_page_437 (by decide) ?_
        exact hk340 _ _ _ h
      · refine g_aload_n (pc' := 417) (i := 0) hC dX6_page_416 rfl rfl rfl ?_
        refine g_sipush (pc' := 420) (v := (nI 200)) hC dX6_page_417 (by decide) rfl ?_
        refine g_iload_n (pc' := 421) (i := 1) hC dX6_page_420 rfl rfl rfl ?_
        refine g_imul (pc' := 422) hC dX6_page_421 rfl ?_
        refine g_iload (pc' := 424) (i := 9) hC dX6_page_422 rfl rfl ?_
        refine g_iadd (pc' := 425) hC dX6_page_424 rfl ?_
        refine g_aload_n (pc' := 426) (i := 0) hC dX6_page_425 rfl rfl rfl ?_
        refine gf_X6_7 (pc' := 429) hC dX6_page_426 rfl ?_
        refine g_iload_n (pc' := 430) (i := 1) hC dX6_page_429 rfl rfl rfl ?_
        obtain ⟨g_19, h⟩ := gd_some h
        refine ld_mk (pc' := 431) hC g_19 dX6_page_430 rfl ?_
        obtain ⟨md_20, mdd_21, hc_22, h⟩ := bd2_some h
        refine g_callV (pc' := 434) hC (c_X6_plain _ hc_22) ml_X6_154 (rc_M) (by decide) rfl rfl rfl rfl dX6_page_431 rfl ?_
        refine g_iinc (pc' := 437) (i := 9) (x := v9) (k := (nI 1)) (lo' := [some (.ref (ea E 0)), some (.int v1), none, some (.int v3), some (.int v4), some (.int v5), none, some (.int v7), none, some (.int (v9 + (nI 1)))]) hC dX6_page_434 rfl (by decide) rfl rfl rfl rfl ?_
        refine g_goto (tgt := 340) hC dX6_page_437 (by decide) ?_
        exact hk340 _ _ _ h
    · refine g_iinc (pc' := 437) (i := 9) (x := v9) (k := (nI 1)) (lo' := [some (.ref (ea E 0)), some (.int v1), none, some (.int v3), some (.int v4), some (.int v5), none, some (.int v7), none, some (.int (v9 + (nI 1)))]) hC dX6_page_434 rfl (by decide) rfl rfl rfl rfl ?_
      refine g_goto (tgt := 340) hC dX6_page_437 (by decide) ?_
      exact hk340 _ _ _ h
set_option maxRecDepth 200000 in
theorem w_X6_page_L340 {κ : GK} {E : GE} {mdz : Nat → Int32} {mddz : Int32} {mnz : Nat → Int64} {mstz : Nat → Int64} {mbbz : Nat → Int32} {v1 : Int32} {v3 : Int32} {v4 : Int32} {v5 : Int32} {v7 : Int32} {k440 : (Nat → Int32) → Int32 → Option ((Nat → Int32) × Int32 × (Nat → Int64) × (Nat → Int64) × (Nat → Int32))} (hC : gC κ E cX6_page RX6 none rm_X6_page 10)  (hk440 : ∀ (md : Nat → Int32) (mdd : Int32), k440 md mdd = some (mdz, mddz, mnz, mstz, mbbz) → GG κ E (mws E mk mo mm mt mv mx mp mtd mf ms mdz mddz mnz mstz mpl mbbz ma me mb mba mpg mdi mbl mby mw mz mso mbo mco mcd ml mr, none) (mws E mk mo mm mt mv mx mp mtd mf ms md mdd mn mst mpl mbb ma me mb mba mpg mdi mbl mby mw mz mso mbo mco mcd ml mr) 440 [some (.ref (ea E 0)), none, none, some (.int v3), some (.int v4), some (.int v5), none, some (.int v7), none, none] []) : ∀ (n : Nat) (v9 : Int32) (md : Nat → Int32) (mdd : Int32), itr3 (p_X6_page_L340 v1 v4 v7 mk mt mv mx k440) n v9 md mdd = some (mdz, mddz, mnz, mstz, mbbz) → GG κ E (mws E mk mo mm mt mv mx mp mtd mf ms mdz mddz mnz mstz mpl mbbz ma me mb mba mpg mdi mbl mby mw mz mso mbo mco mcd ml mr, none) (mws E mk mo mm mt mv mx mp mtd mf ms md mdd mn mst mpl mbb ma me mb mba mpg mdi mbl mby mw mz mso mbo mco mcd ml mr) 340 [some (.ref (ea E 0)), some (.int v1), none, some (.int v3), some (.int v4), some (.int v5), none, some (.int v7), none, some (.int v9)] [] :=
  itr3_ind (fun k340 hk340 v9 md mdd h => by
    unfold p_X6_page_L340 at h
    refine g_iload (pc' := 342) (i := 9) hC dX6_page_340 rfl rfl ?_
    refine g_iload (pc' := 344) (i := 4) hC dX6_page_342 rfl rfl ?_
    refine g_icmp_ge (pc' := 347) (tgt := 440) hC dX6_page_344 (by decide) rfl h (fun h => ?_) (fun h => ?_)
    · refine g_aload_n (pc' := 348) (i := 0) hC dX6_page_347 rfl rfl rfl ?_
      refine gf_X6_20 (pc' := 351) hC dX6_page_348 rfl ?_
      refine g_sipush (pc' := 354) (v := (nI 200)) hC dX6_page_351 (by decide) rfl ?_
      refine g_iload_n (pc' := 355) (i := 1) hC dX6_page_354 rfl rfl rfl ?_
      refine g_imul (pc' := 356) hC dX6_page_355 rfl ?_
      refine g_iload (pc' := 358) (i := 9) hC dX6_page_356 rfl rfl ?_
      refine g_iadd (pc' := 359) hC dX6_page_358 rfl ?_
      obtain ⟨g_16, h⟩ := gd_some h
      refine ld_mt (pc' := 360) hC g_16 dX6_page_359 rfl ?_
      refine g_if_eq (pc' := 363) (tgt := 385) hC dX6_page_360 (by decide) rfl h (fun h => ?_) (fun h => ?_)
      · exact w_X6_page_J385 hC  hk340 h
      · refine g_iload (pc' := 365) (i := 7) hC dX6_page_363 rfl rfl ?_
        refine g_bipush (pc' := 367) (v := (nI 6)) hC dX6_page_365 (by decide) rfl ?_
        refine g_icmp_ne (pc' := 370) (tgt := 385) hC dX6_page_367 (by decide) rfl h (fun h => ?_) (fun h => ?_)
        · refine g_aload_n (pc' := 371) (i := 0) hC dX6_page_370 rfl rfl rfl ?_
          refine g_sipush (pc' := 374) (v := (nI 200)) hC dX6_page_371 (by decide) rfl ?_
          refine g_iload_n (pc' := 375) (i := 1) hC dX6_page_374 rfl rfl rfl ?_
          refine g_imul (pc' := 376) hC dX6_page_375 rfl ?_
          refine g_iload (pc' := 378) (i := 9) hC dX6_page_376 rfl rfl ?_
          refine g_iadd (pc' := 379) hC dX6_page_378 rfl ?_
          obtain ⟨md_23, mdd_24, hc_25, h⟩ := bd2_some h
          refine g_callV (pc' := 382) hC (c_X6_letters _ hc_25) ml_X6_138 (rc_M) (by decide) rfl rfl rfl rfl dX6_page_379 rfl ?_
          refine g_goto (tgt := 434) hC dX6_page_382 (by decide) ?_
          refine g_iinc (pc' := 437) (i := 9) (x := v9) (k := (nI 1)) (lo' := [some (.ref (ea E 0)), some (.int v1), none, some (.int v3), some (.int v4), some (.int v5), none, some (.int v7), none, some (.int (v9 + (nI 1)))]) hC dX6_page_434 rfl (by decide) rfl rfl rfl rfl ?_
          refine g_goto (tgt := 340) hC dX6_page_437 (by decide) ?_
          exact hk340 _ _ _ h
        · exact w_X6_page_J385 hC  hk340 h
    · refine g_weak (lo' := [some (.ref (ea E 0)), none, none, some (.int v3), some (.int v4), some (.int v5), none, some (.int v7), none, none]) rfl ?_
      exact hk440 _ _ h)
set_option maxRecDepth 200000 in
theorem w_X6_page_J241 {κ : GK} {E : GE} {mdz : Nat → Int32} {mddz : Int32} {mnz : Nat → Int64} {mstz : Nat → Int64} {mbbz : Nat → Int32} {v1 : Int32} {v3 : Int32} {v4 : Int32} {v5 : Int32} {v6 : Int32} {v7 : Int32} {s0 : Int32}  (hC : gC κ E cX6_page RX6 none rm_X6_page 10)   (h : p_X6_page_J241 v1 v3 v4 v5 v6 v7 s0 mk mt mv mx md mdd mn mst mbb = some (mdz, mddz, mnz, mstz, mbbz)) : GG κ E (mws E mk mo mm mt mv mx mp mtd mf ms mdz mddz mnz mstz mpl mbbz ma me mb mba mpg mdi mbl mby mw mz mso mbo mco mcd ml mr, none) (mws E mk mo mm mt mv mx mp mtd mf ms md mdd mn mst mpl mbb ma me mb mba mpg mdi mbl mby mw mz mso mbo mco mcd ml mr) 241 [some (.ref (ea E 0)), some (.int v1), none, some (.int v3), some (.int v4), some (.int v5), some (.int v6), some (.int v7), none, none] [.int s0] := by
  unfold p_X6_page_J241 at h
  refine g_istore (pc' := 243) (i := 9) (lo' := [some (.ref (ea E 0)), some (.int v1), none, some (.int v3), some (.int v4), some (.int v5), some (.int v6), some (.int v7), none, some (.int s0)]) hC dX6_page_241 rfl rfl rfl rfl ?_
  refine g_aload_n (pc' := 244) (i := 0) hC dX6_page_243 rfl rfl rfl ?_
  refine g_iload (pc' := 246) (i := 9) hC dX6_page_244 rfl rfl ?_
  obtain ⟨md_10, mdd_11, hc_12, h⟩ := bd2_some h
  refine g_callV (pc' := 249) hC (c_X6_byteTo _ hc_12) ml_X6_98 (rc_M) (by decide) rfl rfl rfl rfl dX6_page_246 rfl ?_
  refine g_aload_n (pc' := 250) (i := 0) hC dX6_page_249 rfl rfl rfl ?_
  refine g_iload (pc' := 252) (i := 6) hC dX6_page_250 rfl rfl ?_
  refine g_iload (pc' := 254) (i := 9) hC dX6_page_252 rfl rfl ?_
  obtain ⟨md_13, mdd_14, hc_15, h⟩ := bd2_some h
  refine g_callV (pc' := 257) hC (c_X6_runs _ hc_15) ml_X6_144 (rc_M) (by decide) rfl rfl rfl rfl dX6_page_254 rfl ?_
  refine g_goto (tgt := 337) hC dX6_page_257 (by decide) ?_
  refine g_iload_n (pc' := 338) (i := 3) hC dX6_page_337 rfl rfl rfl ?_
  refine g_istore (pc' := 340) (i := 9) (lo' := [some (.ref (ea E 0)), some (.int v1), none, some (.int v3), some (.int v4), some (.int v5), some (.int v6), some (.int v7), none, some (.int v3)]) hC dX6_page_338 rfl rfl rfl rfl ?_
  refine g_weak (lo' := [some (.ref (ea E 0)), some (.int v1), none, some (.int v3), some (.int v4), some (.int v5), none, some (.int v7), none, some (.int v3)]) rfl ?_
  refine w_X6_page_L340 hC  ?_ _ _ _ _ h
  · intro md_26 mdd_27 h
    refine g_aload_n (pc' := 441) (i := 0) hC dX6_page_440 rfl rfl rfl ?_
    refine g_iload (pc' := 443) (i := 5) hC dX6_page_441 rfl rfl ?_
    refine g_iconst (pc' := 444) (v := (nI 0)) hC dX6_page_443 (by decide) rfl ?_
    refine g_iload (pc' := 446) (i := 4) hC dX6_page_444 rfl rfl ?_
    refine g_iload_n (pc' := 447) (i := 3) hC dX6_page_446 rfl rfl rfl ?_
    refine g_isub (pc' := 448) hC dX6_page_447 rfl ?_
    refine g_iload (pc' := 450) (i := 7) hC dX6_page_448 rfl rfl ?_
    obtain ⟨md_28, mdd_29, mbb_30, hc_31, h⟩ := bd3_some h
    refine g_callV (pc' := 453) hC (c_X6_headed _ hc_31) ml_X6_157 (rc_M) (by decide) rfl rfl rfl rfl dX6_page_450 rfl ?_
    obtain ⟨rfl, rfl, rfl, rfl, rfl⟩ := inj5 h; exact g_vret hC dX6_page_453
set_option maxRecDepth 200000 in
theorem w_X6_page_J76 {κ : GK} {E : GE} {mdz : Nat → Int32} {mddz : Int32} {mnz : Nat → Int64} {mstz : Nat → Int64} {mbbz : Nat → Int32} {v1 : Int32} {v2 : Int32} {v3 : Int32} {v4 : Int32} {v5 : Int32}  (hC : gC κ E cX6_page RX6 none rm_X6_page 10)   (h : p_X6_page_J76 v1 v2 v3 v4 v5 mk mm mt mv mx md mdd mn mst mpl mbb = some (mdz, mddz, mnz, mstz, mbbz)) : GG κ E (mws E mk mo mm mt mv mx mp mtd mf ms mdz mddz mnz mstz mpl mbbz ma me mb mba mpg mdi mbl mby mw mz mso mbo mco mcd ml mr, none) (mws E mk mo mm mt mv mx mp mtd mf ms md mdd mn mst mpl mbb ma me mb mba mpg mdi mbl mby mw mz mso mbo mco mcd ml mr) 76 [some (.ref (ea E 0)), some (.int v1), some (.int v2), some (.int v3), some (.int v4), some (.int v5), none, none, none, none] [] := by
  unfold p_X6_page_J76 at h
  refine g_iconst (pc' := 77) (v := (nI 0)) hC dX6_page_76 (by decide) rfl ?_
  refine g_istore (pc' := 79) (i := 6) (lo' := [some (.ref (ea E 0)), some (.int v1), some (.int v2), some (.int v3), some (.int v4), some (.int v5), some (.int (nI 0)), none, none, none]) hC dX6_page_77 rfl rfl rfl rfl ?_
  refine g_iload_n (pc' := 80) (i := 2) hC dX6_page_79 rfl rfl rfl ?_
  refine g_if_ne (pc' := 83) (tgt := 87) hC dX6_page_80 (by decide) rfl h (fun h => ?_) (fun h => ?_)
  · refine g_iconst (pc' := 84) (v := (nI 0)) hC dX6_page_83 (by decide) rfl ?_
    refine g_goto (tgt := 127) hC dX6_page_84 (by decide) ?_
    refine g_istore (pc' := 129) (i := 7) (lo' := [some (.ref (ea E 0)), some (.int v1), some (.int v2), some (.int v3), some (.int v4), some (.int v5), some (.int (nI 0)), some (.int (nI 0)), none, none]) hC dX6_page_127 rfl rfl rfl rfl ?_
    refine g_iload_n (pc' := 130) (i := 3) hC dX6_page_129 rfl rfl rfl ?_
    refine g_istore (pc' := 132) (i := 8) (lo' := [some (.ref (ea E 0)), some (.int v1), some (.int v2), some (.int v3), some (.int v4), some (.int v5), some (.int (nI 0)), some (.int (nI 0)), some (.int v3), none]) hC dX6_page_130 rfl rfl rfl rfl ?_
    refine g_weak (lo' := [some (.ref (ea E 0)), some (.int v1), none, some (.int v3), some (.int v4), some (.int v5), some (.int (nI 0)), some (.int (nI 0)), some (.int v3), none]) rfl ?_
    refine w_X6_page_L132 hC  ?_ _ _ _ _ h
    · intro v6_7 mn_8 h
      refine g_aload_n (pc' := 203) (i := 0) hC dX6_page_202 rfl rfl rfl ?_
      refine gf_X6_95 (pc' := 206) hC dX6_page_203 rfl ?_
      refine g_istore (pc' := 208) (i := 8) (lo' := [some (.ref (ea E 0)), some (.int v1), none, some (.int v3), some (.int v4), some (.int v5), some (.int v6_7), some (.int (nI 0)), some (.int mdd), none]) hC dX6_page_206 rfl rfl rfl rfl ?_
      refine g_iload (pc' := 210) (i := 7) hC dX6_page_208 rfl rfl ?_
      refine g_bipush (pc' := 212) (v := (nI 8)) hC dX6_page_210 (by decide) rfl ?_
      refine g_icmp_ne (pc' := 215) (tgt := 260) hC dX6_page_212 (by decide) rfl h (fun h => ?_) (fun h => ?_)
      · refine g_aload_n (pc' := 216) (i := 0) hC dX6_page_215 rfl rfl rfl ?_
        refine gf_X6_17 (pc' := 219) hC dX6_page_216 rfl ?_
        refine g_iconst (pc' := 220) (v := (nI 5)) hC dX6_page_219 (by decide) rfl ?_
        obtain ⟨g_9, h⟩ := gd_some h
        refine ld_mm (pc' := 221) hC g_9 dX6_page_220 rfl ?_
        refine g_iconst (pc' := 222) (v := (nI 2)) hC dX6_page_221 (by decide) rfl ?_
        refine g_icmp_ge (pc' := 225) (tgt := 229) hC dX6_page_222 (by decide) rfl h (fun h => ?_) (fun h => ?_)
        · refine g_iconst (pc' := 226) (v := (nI 0)) hC dX6_page_225 (by decide) rfl ?_
          refine g_goto (tgt := 241) hC dX6_page_226 (by decide) ?_
          refine g_weak (lo' := [some (.ref (ea E 0)), some (.int v1), none, some (.int v3), some (.int v4), some (.int v5), some (.int v6_7), some (.int (nI 0)), none, none]) rfl ?_
          exact w_X6_page_J241 hC   h
        · refine g_aload_n (pc' := 230) (i := 0) hC dX6_page_229 rfl rfl rfl ?_
          refine gf_X6_17 (pc' := 233) hC dX6_page_230 rfl ?_
          refine g_iconst (pc' := 234) (v := (nI 5)) hC dX6_page_233 (by decide) rfl ?_
          obtain ⟨g_32, h⟩ := gd_some h
          refine ld_mm (pc' := 235) hC g_32 dX6_page_234 rfl ?_
          refine g_iconst (pc' := 236) (v := (nI 1)) hC dX6_page_235 (by decide) rfl ?_
          refine g_isub (pc' := 237) hC dX6_page_236 rfl ?_
          refine g_i2l (pc' := 238) hC dX6_page_237 rfl ?_
          obtain ⟨a_33, hc_34, h⟩ := bd1_some h
          refine g_callS (pc' := 241) hC (c_X6_widthOf _ hc_34) ml_X6_134  (by decide) rfl rfl rfl dX6_page_238 rfl ?_
          refine g_weak (lo' := [some (.ref (ea E 0)), some (.int v1), none, some (.int v3), some (.int v4), some (.int v5), some (.int v6_7), some (.int (nI 0)), none, none]) rfl ?_
          exact w_X6_page_J241 hC   h
      · refine g_iload (pc' := 262) (i := 7) hC dX6_page_260 rfl rfl ?_
        refine g_iconst (pc' := 263) (v := (nI 3)) hC dX6_page_262 (by decide) rfl ?_
        refine g_icmp_ne (pc' := 266) (tgt := 282) hC dX6_page_263 (by decide) rfl h (fun h => ?_) (fun h => ?_)
        · refine g_aload_n (pc' := 267) (i := 0) hC dX6_page_266 rfl rfl rfl ?_
          refine g_iload (pc' := 269) (i := 6) hC dX6_page_267 rfl rfl ?_
          refine g_iconst (pc' := 270) (v := (nI 1)) hC dX6_page_269 (by decide) rfl ?_
          obtain ⟨md_35, mdd_36, hc_37, h⟩ := bd2_some h
          refine g_callV (pc' := 273) hC (c_X6_runs _ hc_37) ml_X6_144 (rc_M) (by decide) rfl rfl rfl rfl dX6_page_270 rfl ?_
          refine g_aload_n (pc' := 274) (i := 0) hC dX6_page_273 rfl rfl rfl ?_
          refine g_iload (pc' := 276) (i := 8) hC dX6_page_274 rfl rfl ?_
          obtain ⟨md_38, mdd_39, mbb_40, hc_41, h⟩ := bd3_some h
          refine g_callV (pc' := 279) hC (c_X6_sized _ hc_41) ml_X6_147 (rc_M) (by decide) rfl rfl rfl rfl dX6_page_276 rfl ?_
          refine g_goto (tgt := 337) hC dX6_page_279 (by decide) ?_
          refine g_iload_n (pc' := 338) (i := 3) hC dX6_page_337 rfl rfl rfl ?_
          refine g_istore (pc' := 340) (i := 9) (lo' := [some (.ref (ea E 0)), some (.int v1), none, some (.int v3), some (.int v4), some (.int v5), some (.int v6_7), some (.int (nI 0)), some (.int mdd), some (.int v3)]) hC dX6_page_338 rfl rfl rfl rfl ?_
          refine g_weak (lo' := [some (.ref (ea E 0)), some (.int v1), none, some (.int v3), some (.int v4), some (.int v5), none, some (.int (nI 0)), none, some (.int v3)]) rfl ?_
          refine w_X6_page_L340 hC  ?_ _ _ _ _ h
          · intro md_42 mdd_43 h
            refine g_aload_n (pc' := 441) (i := 0) hC dX6_page_440 rfl rfl rfl ?_
            refine g_iload (pc' := 443) (i := 5) hC dX6_page_441 rfl rfl ?_
            refine g_iconst (pc' := 444) (v := (nI 0)) hC dX6_page_443 (by decide) rfl ?_
            refine g_iload (pc' := 446) (i := 4) hC dX6_page_444 rfl rfl ?_
            refine g_iload_n (pc' := 447) (i := 3) hC dX6_page_446 rfl rfl rfl ?_
            refine g_isub (pc' := 448) hC dX6_page_447 rfl ?_
            refine g_iload (pc' := 450) (i := 7) hC dX6_page_448 rfl rfl ?_
            obtain ⟨md_44, mdd_45, mbb_46, hc_47, h⟩ := bd3_some h
            refine g_callV (pc' := 453) hC (c_X6_headed _ hc_47) ml_X6_157 (rc_M) (by decide) rfl rfl rfl rfl dX6_page_450 rfl ?_
            obtain ⟨rfl, rfl, rfl, rfl, rfl⟩ := inj5 h; exact g_vret hC dX6_page_453
        · refine g_iload (pc' := 284) (i := 7) hC dX6_page_282 rfl rfl ?_
          refine g_if_le (pc' := 287) (tgt := 317) hC dX6_page_284 (by decide) rfl h (fun h => ?_) (fun h => ?_)
          · refine g_aload_n (pc' := 288) (i := 0) hC dX6_page_287 rfl rfl rfl ?_
            refine g_iload (pc' := 290) (i := 6) hC dX6_page_288 rfl rfl ?_
            refine g_iload (pc' := 292) (i := 7) hC dX6_page_290 rfl rfl ?_
            refine g_bipush (pc' := 294) (v := (nI 6)) hC dX6_page_292 (by decide) rfl ?_
            refine g_icmp_eq (pc' := 297) (tgt := 306) hC dX6_page_294 (by decide) rfl h (fun h => ?_) (fun h => ?_)
            · refine g_iconst (pc' := 307) (v := (nI 1)) hC dX6_page_306 (by decide) rfl ?_
              refine g_goto (tgt := 311) hC dX6_page_307 (by decide) ?_
              obtain ⟨md_48, mdd_49, mn_50, mst_51, hc_52, h⟩ := bd4_some h
              refine g_callV (pc' := 314) hC (c_X6_differences _ hc_52) ml_X6_150 (rc_M) (by decide) rfl rfl rfl rfl dX6_page_311 rfl ?_
              refine g_goto (tgt := 337) hC dX6_page_314 (by decide) ?_
              refine g_iload_n (pc' := 338) (i := 3) hC dX6_page_337 rfl rfl rfl ?_
              refine g_istore (pc' := 340) (i := 9) (lo' := [some (.ref (ea E 0)), some (.int v1), none, some (.int v3), some (.int v4), some (.int v5), some (.int v6_7), some (.int (nI 0)), some (.int mdd), some (.int v3)]) hC dX6_page_338 rfl rfl rfl rfl ?_
              refine g_weak (lo' := [some (.ref (ea E 0)), some (.int v1), none, some (.int v3), some (.int v4), some (.int v5), none, some (.int (nI 0)), none, some (.int v3)]) rfl ?_
              refine w_X6_page_L340 hC  ?_ _ _ _ _ h
              · intro md_53 mdd_54 h
                refine g_aload_n (pc' := 441) (i := 0) hC dX6_page_440 rfl rfl rfl ?_
                refine g_iload (pc' := 443) (i := 5) hC dX6_page_441 rfl rfl ?_
                refine g_iconst (pc' := 444) (v := (nI 0)) hC dX6_page_443 (by decide) rfl ?_
                refine g_iload (pc' := 446) (i := 4) hC dX6_page_444 rfl rfl ?_
                refine g_iload_n (pc' := 447) (i := 3) hC dX6_page_446 rfl rfl rfl ?_
                refine g_isub (pc' := 448) hC dX6_page_447 rfl ?_
                refine g_iload (pc' := 450) (i := 7) hC dX6_page_448 rfl rfl ?_
                obtain ⟨md_55, mdd_56, mbb_57, hc_58, h⟩ := bd3_some h
                refine g_callV (pc' := 453) hC (c_X6_headed _ hc_58) ml_X6_157 (rc_M) (by decide) rfl rfl rfl rfl dX6_page_450 rfl ?_
                obtain ⟨rfl, rfl, rfl, rfl, rfl⟩ := inj5 h; exact g_vret hC dX6_page_453
            · refine g_aload_n (pc' := 298) (i := 0) hC dX6_page_297 rfl rfl rfl ?_
              refine gf_X6_7 (pc' := 301) hC dX6_page_298 rfl ?_
              refine g_iload_n (pc' := 302) (i := 1) hC dX6_page_301 rfl rfl rfl ?_
              obtain ⟨g_59, h⟩ := gd_some h
              refine ld_mk (pc' := 303) hC g_59 dX6_page_302 rfl ?_
              refine g_if_ne (pc' := 306) (tgt := 310) hC dX6_page_303 (by decide) rfl h (fun h => ?_) (fun h => ?_)
              · refine g_iconst (pc' := 307) (v := (nI 1)) hC dX6_page_306 (by decide) rfl ?_
                refine g_goto (tgt := 311) hC dX6_page_307 (by decide) ?_
                obtain ⟨md_60, mdd_61, mn_62, mst_63, hc_64, h⟩ := bd4_some h
                refine g_callV (pc' := 314) hC (c_X6_differences _ hc_64) ml_X6_150 (rc_M) (by decide) rfl rfl rfl rfl dX6_page_311 rfl ?_
                refine g_goto (tgt := 337) hC dX6_page_314 (by decide) ?_
                refine g_iload_n (pc' := 338) (i := 3) hC dX6_page_337 rfl rfl rfl ?_
                refine g_istore (pc' := 340) (i := 9) (lo' := [some (.ref (ea E 0)), some (.int v1), none, some (.int v3), some (.int v4), some (.int v5), some (.int v6_7), some (.int (nI 0)), some (.int mdd), some (.int v3)]) hC dX6_page_338 rfl rfl rfl rfl ?_
                refine g_weak (lo' := [some (.ref (ea E 0)), some (.int v1), none, some (.int v3), some (.int v4), some (.int v5), none, some (.int (nI 0)), none, some (.int v3)]) rfl ?_
                refine w_X6_page_L340 hC  ?_ _ _ _ _ h
                · intro md_65 mdd_66 h
                  refine g_aload_n (pc' := 441) (i := 0) hC dX6_page_440 rfl rfl rfl ?_
                  refine g_iload (pc' := 443) (i := 5) hC dX6_page_441 rfl rfl ?_
                  refine g_iconst (pc' := 444) (v := (nI 0)) hC dX6_page_443 (by decide) rfl ?_
                  refine g_iload (pc' := 446) (i := 4) hC dX6_page_444 rfl rfl ?_
                  refine g_iload_n (pc' := 447) (i := 3) hC dX6_page_446 rfl rfl rfl ?_
                  refine g_isub (pc' := 448) hC dX6_page_447 rfl ?_
                  refine g_iload (pc' := 450) (i := 7) hC dX6_page_448 rfl rfl ?_
                  obtain ⟨md_67, mdd_68, mbb_69, hc_70, h⟩ := bd3_some h
                  refine g_callV (pc' := 453) hC (c_X6_headed _ hc_70) ml_X6_157 (rc_M) (by decide) rfl rfl rfl rfl dX6_page_450 rfl ?_
                  obtain ⟨rfl, rfl, rfl, rfl, rfl⟩ := inj5 h; exact g_vret hC dX6_page_453
              · refine g_iconst (pc' := 311) (v := (nI 0)) hC dX6_page_310 (by decide) rfl ?_
                obtain ⟨md_71, mdd_72, mn_73, mst_74, hc_75, h⟩ := bd4_some h
                refine g_callV (pc' := 314) hC (c_X6_differences _ hc_75) ml_X6_150 (rc_M) (by decide) rfl rfl rfl rfl dX6_page_311 rfl ?_
                refine g_goto (tgt := 337) hC dX6_page_314 (by decide) ?_
                refine g_iload_n (pc' := 338) (i := 3) hC dX6_page_337 rfl rfl rfl ?_
                refine g_istore (pc' := 340) (i := 9) (lo' := [some (.ref (ea E 0)), some (.int v1), none, some (.int v3), some (.int v4), some (.int v5), some (.int v6_7), some (.int (nI 0)), some (.int mdd), some (.int v3)]) hC dX6_page_338 rfl rfl rfl rfl ?_
                refine g_weak (lo' := [some (.ref (ea E 0)), some (.int v1), none, some (.int v3), some (.int v4), some (.int v5), none, some (.int (nI 0)), none, some (.int v3)]) rfl ?_
                refine w_X6_page_L340 hC  ?_ _ _ _ _ h
                · intro md_76 mdd_77 h
                  refine g_aload_n (pc' := 441) (i := 0) hC dX6_page_440 rfl rfl rfl ?_
                  refine g_iload (pc' := 443) (i := 5) hC dX6_page_441 rfl rfl ?_
                  refine g_iconst (pc' := 444) (v := (nI 0)) hC dX6_page_443 (by decide) rfl ?_
                  refine g_iload (pc' := 446) (i := 4) hC dX6_page_444 rfl rfl ?_
                  refine g_iload_n (pc' := 447) (i := 3) hC dX6_page_446 rfl rfl rfl ?_
                  refine g_isub (pc' := 448) hC dX6_page_447 rfl ?_
                  refine g_iload (pc' := 450) (i := 7) hC dX6_page_448 rfl rfl ?_
                  obtain ⟨md_78, mdd_79, mbb_80, hc_81, h⟩ := bd3_some h
                  refine g_callV (pc' := 453) hC (c_X6_headed _ hc_81) ml_X6_157 (rc_M) (by decide) rfl rfl rfl rfl dX6_page_450 rfl ?_
                  obtain ⟨rfl, rfl, rfl, rfl, rfl⟩ := inj5 h; exact g_vret hC dX6_page_453
          · refine g_aload_n (pc' := 318) (i := 0) hC dX6_page_317 rfl rfl rfl ?_
            refine gf_X6_7 (pc' := 321) hC dX6_page_318 rfl ?_
            refine g_iload_n (pc' := 322) (i := 1) hC dX6_page_321 rfl rfl rfl ?_
            obtain ⟨g_82, h⟩ := gd_some h
            refine ld_mk (pc' := 323) hC g_82 dX6_page_322 rfl ?_
            refine g_iconst (pc' := 324) (v := (nI 3)) hC dX6_page_323 (by decide) rfl ?_
            refine g_icmp_ne (pc' := 327) (tgt := 337) hC dX6_page_324 (by decide) rfl h (fun h => ?_) (fun h => ?_)
            · refine g_aload_n (pc' := 328) (i := 0) hC dX6_page_327 rfl rfl rfl ?_
              refine g_iconst (pc' := 329) (v := (nI 0)) hC dX6_page_328 (by decide) rfl ?_
              refine g_iload (pc' := 331) (i := 6) hC dX6_page_329 rfl rfl ?_
              refine g_iload (pc' := 333) (i := 6) hC dX6_page_331 rfl rfl ?_
              refine g_iconst (pc' := 334) (v := (nI 1)) hC dX6_page_333 (by decide) rfl ?_
              obtain ⟨md_83, mdd_84, hc_85, h⟩ := bd2_some h
              refine g_callV (pc' := 337) hC (c_X6_pack _ hc_85) ml_X6_120 (rc_M) (by decide) rfl rfl rfl rfl dX6_page_334 rfl ?_
              refine g_iload_n (pc' := 338) (i := 3) hC dX6_page_337 rfl rfl rfl ?_
              refine g_istore (pc' := 340) (i := 9) (lo' := [some (.ref (ea E 0)), some (.int v1), none, some (.int v3), some (.int v4), some (.int v5), some (.int v6_7), some (.int (nI 0)), some (.int mdd), some (.int v3)]) hC dX6_page_338 rfl rfl rfl rfl ?_
              refine g_weak (lo' := [some (.ref (ea E 0)), some (.int v1), none, some (.int v3), some (.int v4), some (.int v5), none, some (.int (nI 0)), none, some (.int v3)]) rfl ?_
              refine w_X6_page_L340 hC  ?_ _ _ _ _ h
              · intro md_86 mdd_87 h
                refine g_aload_n (pc' := 441) (i := 0) hC dX6_page_440 rfl rfl rfl ?_
                refine g_iload (pc' := 443) (i := 5) hC dX6_page_441 rfl rfl ?_
                refine g_iconst (pc' := 444) (v := (nI 0)) hC dX6_page_443 (by decide) rfl ?_
                refine g_iload (pc' := 446) (i := 4) hC dX6_page_444 rfl rfl ?_
                refine g_iload_n (pc' := 447) (i := 3) hC dX6_page_446 rfl rfl rfl ?_
                refine g_isub (pc' := 448) hC dX6_page_447 rfl ?_
                refine g_iload (pc' := 450) (i := 7) hC dX6_page_448 rfl rfl ?_
                obtain ⟨md_88, mdd_89, mbb_90, hc_91, h⟩ := bd3_some h
                refine g_callV (pc' := 453) hC (c_X6_headed _ hc_91) ml_X6_157 (rc_M) (by decide) rfl rfl rfl rfl dX6_page_450 rfl ?_
                obtain ⟨rfl, rfl, rfl, rfl, rfl⟩ := inj5 h; exact g_vret hC dX6_page_453
            · refine g_iload_n (pc' := 338) (i := 3) hC dX6_page_337 rfl rfl rfl ?_
              refine g_istore (pc' := 340) (i := 9) (lo' := [some (.ref (ea E 0)), some (.int v1), none, some (.int v3), some (.int v4), some (.int v5), some (.int v6_7), some (.int (nI 0)), some (.int mdd), some (.int v3)]) hC dX6_page_338 rfl rfl rfl rfl ?_
              refine g_weak (lo' := [some (.ref (ea E 0)), some (.int v1), none, some (.int v3), some (.int v4), some (.int v5), none, some (.int (nI 0)), none, some (.int v3)]) rfl ?_
              refine w_X6_page_L340 hC  ?_ _ _ _ _ h
              · intro md_92 mdd_93 h
                refine g_aload_n (pc' := 441) (i := 0) hC dX6_page_440 rfl rfl rfl ?_
                refine g_iload (pc' := 443) (i := 5) hC dX6_page_441 rfl rfl ?_
                refine g_iconst (pc' := 444) (v := (nI 0)) hC dX6_page_443 (by decide) rfl ?_
                refine g_iload (pc' := 446) (i := 4) hC dX6_page_444 rfl rfl ?_
                refine g_iload_n (pc' := 447) (i := 3) hC dX6_page_446 rfl rfl rfl ?_
                refine g_isub (pc' := 448) hC dX6_page_447 rfl ?_
                refine g_iload (pc' := 450) (i := 7) hC dX6_page_448 rfl rfl ?_
                obtain ⟨md_94, mdd_95, mbb_96, hc_97, h⟩ := bd3_some h
                refine g_callV (pc' := 453) hC (c_X6_headed _ hc_97) ml_X6_157 (rc_M) (by decide) rfl rfl rfl rfl dX6_page_450 rfl ?_
                obtain ⟨rfl, rfl, rfl, rfl, rfl⟩ := inj5 h; exact g_vret hC dX6_page_453
  · refine g_iload_n (pc' := 88) (i := 2) hC dX6_page_87 rfl rfl rfl ?_
    refine g_iconst (pc' := 89) (v := (nI 1)) hC dX6_page_88 (by decide) rfl ?_
    refine g_icmp_ne (pc' := 92) (tgt := 97) hC dX6_page_89 (by decide) rfl h (fun h => ?_) (fun h => ?_)
    · refine g_bipush (pc' := 94) (v := (nI 8)) hC dX6_page_92 (by decide) rfl ?_
      refine g_goto (tgt := 127) hC dX6_page_94 (by decide) ?_
      refine g_istore (pc' := 129) (i := 7) (lo' := [some (.ref (ea E 0)), some (.int v1), some (.int v2), some (.int v3), some (.int v4), some (.int v5), some (.int (nI 0)), some (.int (nI 8)), none, none]) hC dX6_page_127 rfl rfl rfl rfl ?_
      refine g_iload_n (pc' := 130) (i := 3) hC dX6_page_129 rfl rfl rfl ?_
      refine g_istore (pc' := 132) (i := 8) (lo' := [some (.ref (ea E 0)), some (.int v1), some (.int v2), some (.int v3), some (.int v4), some (.int v5), some (.int (nI 0)), some (.int (nI 8)), some (.int v3), none]) hC dX6_page_130 rfl rfl rfl rfl ?_
      refine g_weak (lo' := [some (.ref (ea E 0)), some (.int v1), none, some (.int v3), some (.int v4), some (.int v5), some (.int (nI 0)), some (.int (nI 8)), some (.int v3), none]) rfl ?_
      refine w_X6_page_L132 hC  ?_ _ _ _ _ h
      · intro v6_98 mn_99 h
        refine g_aload_n (pc' := 203) (i := 0) hC dX6_page_202 rfl rfl rfl ?_
        refine gf_X6_95 (pc' := 206) hC dX6_page_203 rfl ?_
        refine g_istore (pc' := 208) (i := 8) (lo' := [some (.ref (ea E 0)), some (.int v1), none, some (.int v3), some (.int v4), some (.int v5), some (.int v6_98), some (.int (nI 8)), some (.int mdd), none]) hC dX6_page_206 rfl rfl rfl rfl ?_
        refine g_iload (pc' := 210) (i := 7) hC dX6_page_208 rfl rfl ?_
        refine g_bipush (pc' := 212) (v := (nI 8)) hC dX6_page_210 (by decide) rfl ?_
        refine g_icmp_ne (pc' := 215) (tgt := 260) hC dX6_page_212 (by decide) rfl h (fun h => ?_) (fun h => ?_)
        · refine g_aload_n (pc' := 216) (i := 0) hC dX6_page_215 rfl rfl rfl ?_
          refine gf_X6_17 (pc' := 219) hC dX6_page_216 rfl ?_
          refine g_iconst (pc' := 220) (v := (nI 5)) hC dX6_page_219 (by decide) rfl ?_
          obtain ⟨g_100, h⟩ := gd_some h
          refine ld_mm (pc' := 221) hC g_100 dX6_page_220 rfl ?_
          refine g_iconst (pc' := 222) (v := (nI 2)) hC dX6_page_221 (by decide) rfl ?_
          refine g_icmp_ge (pc' := 225) (tgt := 229) hC dX6_page_222 (by decide) rfl h (fun h => ?_) (fun h => ?_)
          · refine g_iconst (pc' := 226) (v := (nI 0)) hC dX6_page_225 (by decide) rfl ?_
            refine g_goto (tgt := 241) hC dX6_page_226 (by decide) ?_
            refine g_weak (lo' := [some (.ref (ea E 0)), some (.int v1), none, some (.int v3), some (.int v4), some (.int v5), some (.int v6_98), some (.int (nI 8)), none, none]) rfl ?_
            exact w_X6_page_J241 hC   h
          · refine g_aload_n (pc' := 230) (i := 0) hC dX6_page_229 rfl rfl rfl ?_
            refine gf_X6_17 (pc' := 233) hC dX6_page_230 rfl ?_
            refine g_iconst (pc' := 234) (v := (nI 5)) hC dX6_page_233 (by decide) rfl ?_
            obtain ⟨g_101, h⟩ := gd_some h
            refine ld_mm (pc' := 235) hC g_101 dX6_page_234 rfl ?_
            refine g_iconst (pc' := 236) (v := (nI 1)) hC dX6_page_235 (by decide) rfl ?_
            refine g_isub (pc' := 237) hC dX6_page_236 rfl ?_
            refine g_i2l (pc' := 238) hC dX6_page_237 rfl ?_
            obtain ⟨a_102, hc_103, h⟩ := bd1_some h
            refine g_callS (pc' := 241) hC (c_X6_widthOf _ hc_103) ml_X6_134  (by decide) rfl rfl rfl dX6_page_238 rfl ?_
            refine g_weak (lo' := [some (.ref (ea E 0)), some (.int v1), none, some (.int v3), some (.int v4), some (.int v5), some (.int v6_98), some (.int (nI 8)), none, none]) rfl ?_
            exact w_X6_page_J241 hC   h
        · refine g_iload (pc' := 262) (i := 7) hC dX6_page_260 rfl rfl ?_
          refine g_iconst (pc' := 263) (v := (nI 3)) hC dX6_page_262 (by decide) rfl ?_
          refine g_icmp_ne (pc' := 266) (tgt := 282) hC dX6_page_263 (by decide) rfl h (fun h => ?_) (fun h => ?_)
          · refine g_aload_n (pc' := 267) (i := 0) hC dX6_page_266 rfl rfl rfl ?_
            refine g_iload (pc' := 269) (i := 6) hC dX6_page_267 rfl rfl ?_
            refine g_iconst (pc' := 270) (v := (nI 1)) hC dX6_page_269 (by decide) rfl ?_
            obtain ⟨md_104, mdd_105, hc_106, h⟩ := bd2_some h
            refine g_callV (pc' := 273) hC (c_X6_runs _ hc_106) ml_X6_144 (rc_M) (by decide) rfl rfl rfl rfl dX6_page_270 rfl ?_
            refine g_aload_n (pc' := 274) (i := 0) hC dX6_page_273 rfl rfl rfl ?_
            refine g_iload (pc' := 276) (i := 8) hC dX6_page_274 rfl rfl ?_
            obtain ⟨md_107, mdd_108, mbb_109, hc_110, h⟩ := bd3_some h
            refine g_callV (pc' := 279) hC (c_X6_sized _ hc_110) ml_X6_147 (rc_M) (by decide) rfl rfl rfl rfl dX6_page_276 rfl ?_
            refine g_goto (tgt := 337) hC dX6_page_279 (by decide) ?_
            refine g_iload_n (pc' := 338) (i := 3) hC dX6_page_337 rfl rfl rfl ?_
            refine g_istore (pc' := 340) (i := 9) (lo' := [some (.ref (ea E 0)), some (.int v1), none, some (.int v3), some (.int v4), some (.int v5), some (.int v6_98), some (.int (nI 8)), some (.int mdd), some (.int v3)]) hC dX6_page_338 rfl rfl rfl rfl ?_
            refine g_weak (lo' := [some (.ref (ea E 0)), some (.int v1), none, some (.int v3), some (.int v4), some (.int v5), none, some (.int (nI 8)), none, some (.int v3)]) rfl ?_
            refine w_X6_page_L340 hC  ?_ _ _ _ _ h
            · intro md_111 mdd_112 h
              refine g_aload_n (pc' := 441) (i := 0) hC dX6_page_440 rfl rfl rfl ?_
              refine g_iload (pc' := 443) (i := 5) hC dX6_page_441 rfl rfl ?_
              refine g_iconst (pc' := 444) (v := (nI 0)) hC dX6_page_443 (by decide) rfl ?_
              refine g_iload (pc' := 446) (i := 4) hC dX6_page_444 rfl rfl ?_
              refine g_iload_n (pc' := 447) (i := 3) hC dX6_page_446 rfl rfl rfl ?_
              refine g_isub (pc' := 448) hC dX6_page_447 rfl ?_
              refine g_iload (pc' := 450) (i := 7) hC dX6_page_448 rfl rfl ?_
              obtain ⟨md_113, mdd_114, mbb_115, hc_116, h⟩ := bd3_some h
              refine g_callV (pc' := 453) hC (c_X6_headed _ hc_116) ml_X6_157 (rc_M) (by decide) rfl rfl rfl rfl dX6_page_450 rfl ?_
              obtain ⟨rfl, rfl, rfl, rfl, rfl⟩ := inj5 h; exact g_vret hC dX6_page_453
          · refine g_iload (pc' := 284) (i := 7) hC dX6_page_282 rfl rfl ?_
            refine g_if_le (pc' := 287) (tgt := 317) hC dX6_page_284 (by decide) rfl h (fun h => ?_) (fun h => ?_)
            · refine g_aload_n (pc' := 288) (i := 0) hC dX6_page_287 rfl rfl rfl ?_
              refine g_iload (pc' := 290) (i := 6) hC dX6_page_288 rfl rfl ?_
              refine g_iload (pc' := 292) (i := 7) hC dX6_page_290 rfl rfl ?_
              refine g_bipush (pc' := 294) (v := (nI 6)) hC dX6_page_292 (by decide) rfl ?_
              refine g_icmp_eq (pc' := 297) (tgt := 306) hC dX6_page_294 (by decide) rfl h (fun h => ?_) (fun h => ?_)
              · refine g_iconst (pc' := 307) (v := (nI 1)) hC dX6_page_306 (by decide) rfl ?_
                refine g_goto (tgt := 311) hC dX6_page_307 (by decide) ?_
                obtain ⟨md_117, mdd_118, mn_119, mst_120, hc_121, h⟩ := bd4_some h
                refine g_callV (pc' := 314) hC (c_X6_differences _ hc_121) ml_X6_150 (rc_M) (by decide) rfl rfl rfl rfl dX6_page_311 rfl ?_
                refine g_goto (tgt := 337) hC dX6_page_314 (by decide) ?_
                refine g_iload_n (pc' := 338) (i := 3) hC dX6_page_337 rfl rfl rfl ?_
                refine g_istore (pc' := 340) (i := 9) (lo' := [some (.ref (ea E 0)), some (.int v1), none, some (.int v3), some (.int v4), some (.int v5), some (.int v6_98), some (.int (nI 8)), some (.int mdd), some (.int v3)]) hC dX6_page_338 rfl rfl rfl rfl ?_
                refine g_weak (lo' := [some (.ref (ea E 0)), some (.int v1), none, some (.int v3), some (.int v4), some (.int v5), none, some (.int (nI 8)), none, some (.int v3)]) rfl ?_
                refine w_X6_page_L340 hC  ?_ _ _ _ _ h
                · intro md_122 mdd_123 h
                  refine g_aload_n (pc' := 441) (i := 0) hC dX6_page_440 rfl rfl rfl ?_
                  refine g_iload (pc' := 443) (i := 5) hC dX6_page_441 rfl rfl ?_
                  refine g_iconst (pc' := 444) (v := (nI 0)) hC dX6_page_443 (by decide) rfl ?_
                  refine g_iload (pc' := 446) (i := 4) hC dX6_page_444 rfl rfl ?_
                  refine g_iload_n (pc' := 447) (i := 3) hC dX6_page_446 rfl rfl rfl ?_
                  refine g_isub (pc' := 448) hC dX6_page_447 rfl ?_
                  refine g_iload (pc' := 450) (i := 7) hC dX6_page_448 rfl rfl ?_
                  obtain ⟨md_124, mdd_125, mbb_126, hc_127, h⟩ := bd3_some h
                  refine g_callV (pc' := 453) hC (c_X6_headed _ hc_127) ml_X6_157 (rc_M) (by decide) rfl rfl rfl rfl dX6_page_450 rfl ?_
                  obtain ⟨rfl, rfl, rfl, rfl, rfl⟩ := inj5 h; exact g_vret hC dX6_page_453
              · refine g_aload_n (pc' := 298) (i := 0) hC dX6_page_297 rfl rfl rfl ?_
                refine gf_X6_7 (pc' := 301) hC dX6_page_298 rfl ?_
                refine g_iload_n (pc' := 302) (i := 1) hC dX6_page_301 rfl rfl rfl ?_
                obtain ⟨g_128, h⟩ := gd_some h
                refine ld_mk (pc' := 303) hC g_128 dX6_page_302 rfl ?_
                refine g_if_ne (pc' := 306) (tgt := 310) hC dX6_page_303 (by decide) rfl h (fun h => ?_) (fun h => ?_)
                · refine g_iconst (pc' := 307) (v := (nI 1)) hC dX6_page_306 (by decide) rfl ?_
                  refine g_goto (tgt := 311) hC dX6_page_307 (by decide) ?_
                  obtain ⟨md_129, mdd_130, mn_131, mst_132, hc_133, h⟩ := bd4_some h
                  refine g_callV (pc' := 314) hC (c_X6_differences _ hc_133) ml_X6_150 (rc_M) (by decide) rfl rfl rfl rfl dX6_page_311 rfl ?_
                  refine g_goto (tgt := 337) hC dX6_page_314 (by decide) ?_
                  refine g_iload_n (pc' := 338) (i := 3) hC dX6_page_337 rfl rfl rfl ?_
                  refine g_istore (pc' := 340) (i := 9) (lo' := [some (.ref (ea E 0)), some (.int v1), none, some (.int v3), some (.int v4), some (.int v5), some (.int v6_98), some (.int (nI 8)), some (.int mdd), some (.int v3)]) hC dX6_page_338 rfl rfl rfl rfl ?_
                  refine g_weak (lo' := [some (.ref (ea E 0)), some (.int v1), none, some (.int v3), some (.int v4), some (.int v5), none, some (.int (nI 8)), none, some (.int v3)]) rfl ?_
                  refine w_X6_page_L340 hC  ?_ _ _ _ _ h
                  · intro md_134 mdd_135 h
                    refine g_aload_n (pc' := 441) (i := 0) hC dX6_page_440 rfl rfl rfl ?_
                    refine g_iload (pc' := 443) (i := 5) hC dX6_page_441 rfl rfl ?_
                    refine g_iconst (pc' := 444) (v := (nI 0)) hC dX6_page_443 (by decide) rfl ?_
                    refine g_iload (pc' := 446) (i := 4) hC dX6_page_444 rfl rfl ?_
                    refine g_iload_n (pc' := 447) (i := 3) hC dX6_page_446 rfl rfl rfl ?_
                    refine g_isub (pc' := 448) hC dX6_page_447 rfl ?_
                    refine g_iload (pc' := 450) (i := 7) hC dX6_page_448 rfl rfl ?_
                    obtain ⟨md_136, mdd_137, mbb_138, hc_139, h⟩ := bd3_some h
                    refine g_callV (pc' := 453) hC (c_X6_headed _ hc_139) ml_X6_157 (rc_M) (by decide) rfl rfl rfl rfl dX6_page_450 rfl ?_
                    obtain ⟨rfl, rfl, rfl, rfl, rfl⟩ := inj5 h; exact g_vret hC dX6_page_453
                · refine g_iconst (pc' := 311) (v := (nI 0)) hC dX6_page_310 (by decide) rfl ?_
                  obtain ⟨md_140, mdd_141, mn_142, mst_143, hc_144, h⟩ := bd4_some h
                  refine g_callV (pc' := 314) hC (c_X6_differences _ hc_144) ml_X6_150 (rc_M) (by decide) rfl rfl rfl rfl dX6_page_311 rfl ?_
                  refine g_goto (tgt := 337) hC dX6_page_314 (by decide) ?_
                  refine g_iload_n (pc' := 338) (i := 3) hC dX6_page_337 rfl rfl rfl ?_
                  refine g_istore (pc' := 340) (i := 9) (lo' := [some (.ref (ea E 0)), some (.int v1), none, some (.int v3), some (.int v4), some (.int v5), some (.int v6_98), some (.int (nI 8)), some (.int mdd), some (.int v3)]) hC dX6_page_338 rfl rfl rfl rfl ?_
                  refine g_weak (lo' := [some (.ref (ea E 0)), some (.int v1), none, some (.int v3), some (.int v4), some (.int v5), none, some (.int (nI 8)), none, some (.int v3)]) rfl ?_
                  refine w_X6_page_L340 hC  ?_ _ _ _ _ h
                  · intro md_145 mdd_146 h
                    refine g_aload_n (pc' := 441) (i := 0) hC dX6_page_440 rfl rfl rfl ?_
                    refine g_iload (pc' := 443) (i := 5) hC dX6_page_441 rfl rfl ?_
                    refine g_iconst (pc' := 444) (v := (nI 0)) hC dX6_page_443 (by decide) rfl ?_
                    refine g_iload (pc' := 446) (i := 4) hC dX6_page_444 rfl rfl ?_
                    refine g_iload_n (pc' := 447) (i := 3) hC dX6_page_446 rfl rfl rfl ?_
                    refine g_isub (pc' := 448) hC dX6_page_447 rfl ?_
                    refine g_iload (pc' := 450) (i := 7) hC dX6_page_448 rfl rfl ?_
                    obtain ⟨md_147, mdd_148, mbb_149, hc_150, h⟩ := bd3_some h
                    refine g_callV (pc' := 453) hC (c_X6_headed _ hc_150) ml_X6_157 (rc_M) (by decide) rfl rfl rfl rfl dX6_page_450 rfl ?_
                    obtain ⟨rfl, rfl, rfl, rfl, rfl⟩ := inj5 h; exact g_vret hC dX6_page_453
            · refine g_aload_n (pc' := 318) (i := 0) hC dX6_page_317 rfl rfl rfl ?_
              refine gf_X6_7 (pc' := 321) hC dX6_page_318 rfl ?_
              refine g_iload_n (pc' := 322) (i := 1) hC dX6_page_321 rfl rfl rfl ?_
              obtain ⟨g_151, h⟩ := gd_some h
              refine ld_mk (pc' := 323) hC g_151 dX6_page_322 rfl ?_
              refine g_iconst (pc' := 324) (v := (nI 3)) hC dX6_page_323 (by decide) rfl ?_
              refine g_icmp_ne (pc' := 327) (tgt := 337) hC dX6_page_324 (by decide) rfl h (fun h => ?_) (fun h => ?_)
              · refine g_aload_n (pc' := 328) (i := 0) hC dX6_page_327 rfl rfl rfl ?_
                refine g_iconst (pc' := 329) (v := (nI 0)) hC dX6_page_328 (by decide) rfl ?_
                refine g_iload (pc' := 331) (i := 6) hC dX6_page_329 rfl rfl ?_
                refine g_iload (pc' := 333) (i := 6) hC dX6_page_331 rfl rfl ?_
                refine g_iconst (pc' := 334) (v := (nI 1)) hC dX6_page_333 (by decide) rfl ?_
                obtain ⟨md_152, mdd_153, hc_154, h⟩ := bd2_some h
                refine g_callV (pc' := 337) hC (c_X6_pack _ hc_154) ml_X6_120 (rc_M) (by decide) rfl rfl rfl rfl dX6_page_334 rfl ?_
                refine g_iload_n (pc' := 338) (i := 3) hC dX6_page_337 rfl rfl rfl ?_
                refine g_istore (pc' := 340) (i := 9) (lo' := [some (.ref (ea E 0)), some (.int v1), none, some (.int v3), some (.int v4), some (.int v5), some (.int v6_98), some (.int (nI 8)), some (.int mdd), some (.int v3)]) hC dX6_page_338 rfl rfl rfl rfl ?_
                refine g_weak (lo' := [some (.ref (ea E 0)), some (.int v1), none, some (.int v3), some (.int v4), some (.int v5), none, some (.int (nI 8)), none, some (.int v3)]) rfl ?_
                refine w_X6_page_L340 hC  ?_ _ _ _ _ h
                · intro md_155 mdd_156 h
                  refine g_aload_n (pc' := 441) (i := 0) hC dX6_page_440 rfl rfl rfl ?_
                  refine g_iload (pc' := 443) (i := 5) hC dX6_page_441 rfl rfl ?_
                  refine g_iconst (pc' := 444) (v := (nI 0)) hC dX6_page_443 (by decide) rfl ?_
                  refine g_iload (pc' := 446) (i := 4) hC dX6_page_444 rfl rfl ?_
                  refine g_iload_n (pc' := 447) (i := 3) hC dX6_page_446 rfl rfl rfl ?_
                  refine g_isub (pc' := 448) hC dX6_page_447 rfl ?_
                  refine g_iload (pc' := 450) (i := 7) hC dX6_page_448 rfl rfl ?_
                  obtain ⟨md_157, mdd_158, mbb_159, hc_160, h⟩ := bd3_some h
                  refine g_callV (pc' := 453) hC (c_X6_headed _ hc_160) ml_X6_157 (rc_M) (by decide) rfl rfl rfl rfl dX6_page_450 rfl ?_
                  obtain ⟨rfl, rfl, rfl, rfl, rfl⟩ := inj5 h; exact g_vret hC dX6_page_453
              · refine g_iload_n (pc' := 338) (i := 3) hC dX6_page_337 rfl rfl rfl ?_
                refine g_istore (pc' := 340) (i := 9) (lo' := [some (.ref (ea E 0)), some (.int v1), none, some (.int v3), some (.int v4), some (.int v5), some (.int v6_98), some (.int (nI 8)), some (.int mdd), some (.int v3)]) hC dX6_page_338 rfl rfl rfl rfl ?_
                refine g_weak (lo' := [some (.ref (ea E 0)), some (.int v1), none, some (.int v3), some (.int v4), some (.int v5), none, some (.int (nI 8)), none, some (.int v3)]) rfl ?_
                refine w_X6_page_L340 hC  ?_ _ _ _ _ h
                · intro md_161 mdd_162 h
                  refine g_aload_n (pc' := 441) (i := 0) hC dX6_page_440 rfl rfl rfl ?_
                  refine g_iload (pc' := 443) (i := 5) hC dX6_page_441 rfl rfl ?_
                  refine g_iconst (pc' := 444) (v := (nI 0)) hC dX6_page_443 (by decide) rfl ?_
                  refine g_iload (pc' := 446) (i := 4) hC dX6_page_444 rfl rfl ?_
                  refine g_iload_n (pc' := 447) (i := 3) hC dX6_page_446 rfl rfl rfl ?_
                  refine g_isub (pc' := 448) hC dX6_page_447 rfl ?_
                  refine g_iload (pc' := 450) (i := 7) hC dX6_page_448 rfl rfl ?_
                  obtain ⟨md_163, mdd_164, mbb_165, hc_166, h⟩ := bd3_some h
                  refine g_callV (pc' := 453) hC (c_X6_headed _ hc_166) ml_X6_157 (rc_M) (by decide) rfl rfl rfl rfl dX6_page_450 rfl ?_
                  obtain ⟨rfl, rfl, rfl, rfl, rfl⟩ := inj5 h; exact g_vret hC dX6_page_453
    · refine g_aload_n (pc' := 98) (i := 0) hC dX6_page_97 rfl rfl rfl ?_
      refine gf_X6_7 (pc' := 101) hC dX6_page_98 rfl ?_
      refine g_iload_n (pc' := 102) (i := 1) hC dX6_page_101 rfl rfl rfl ?_
      obtain ⟨g_167, h⟩ := gd_some h
      refine ld_mk (pc' := 103) hC g_167 dX6_page_102 rfl ?_
      refine g_iconst (pc' := 104) (v := (nI 2)) hC dX6_page_103 (by decide) rfl ?_
      refine g_icmp_ne (pc' := 107) (tgt := 112) hC dX6_page_104 (by decide) rfl h (fun h => ?_) (fun h => ?_)
      · refine g_bipush (pc' := 109) (v := (nI 6)) hC dX6_page_107 (by decide) rfl ?_
        refine g_goto (tgt := 127) hC dX6_page_109 (by decide) ?_
        refine g_istore (pc' := 129) (i := 7) (lo' := [some (.ref (ea E 0)), some (.int v1), some (.int v2), some (.int v3), some (.int v4), some (.int v5), some (.int (nI 0)), some (.int (nI 6)), none, none]) hC dX6_page_127 rfl rfl rfl rfl ?_
        refine g_iload_n (pc' := 130) (i := 3) hC dX6_page_129 rfl rfl rfl ?_
        refine g_istore (pc' := 132) (i := 8) (lo' := [some (.ref (ea E 0)), some (.int v1), some (.int v2), some (.int v3), some (.int v4), some (.int v5), some (.int (nI 0)), some (.int (nI 6)), some (.int v3), none]) hC dX6_page_130 rfl rfl rfl rfl ?_
        refine g_weak (lo' := [some (.ref (ea E 0)), some (.int v1), none, some (.int v3), some (.int v4), some (.int v5), some (.int (nI 0)), some (.int (nI 6)), some (.int v3), none]) rfl ?_
        refine w_X6_page_L132 hC  ?_ _ _ _ _ h
        · intro v6_168 mn_169 h
          refine g_aload_n (pc' := 203) (i := 0) hC dX6_page_202 rfl rfl rfl ?_
          refine gf_X6_95 (pc' := 206) hC dX6_page_203 rfl ?_
          refine g_istore (pc' := 208) (i := 8) (lo' := [some (.ref (ea E 0)), some (.int v1), none, some (.int v3), some (.int v4), some (.int v5), some (.int v6_168), some (.int (nI 6)), some (.int mdd), none]) hC dX6_page_206 rfl rfl rfl rfl ?_
          refine g_iload (pc' := 210) (i := 7) hC dX6_page_208 rfl rfl ?_
          refine g_bipush (pc' := 212) (v := (nI 8)) hC dX6_page_210 (by decide) rfl ?_
          refine g_icmp_ne (pc' := 215) (tgt := 260) hC dX6_page_212 (by decide) rfl h (fun h => ?_) (fun h => ?_)
          · refine g_aload_n (pc' := 216) (i := 0) hC dX6_page_215 rfl rfl rfl ?_
            refine gf_X6_17 (pc' := 219) hC dX6_page_216 rfl ?_
            refine g_iconst (pc' := 220) (v := (nI 5)) hC dX6_page_219 (by decide) rfl ?_
            obtain ⟨g_170, h⟩ := gd_some h
            refine ld_mm (pc' := 221) hC g_170 dX6_page_220 rfl ?_
            refine g_iconst (pc' := 222) (v := (nI 2)) hC dX6_page_221 (by decide) rfl ?_
            refine g_icmp_ge (pc' := 225) (tgt := 229) hC dX6_page_222 (by decide) rfl h (fun h => ?_) (fun h => ?_)
            · refine g_iconst (pc' := 226) (v := (nI 0)) hC dX6_page_225 (by decide) rfl ?_
              refine g_goto (tgt := 241) hC dX6_page_226 (by decide) ?_
              refine g_weak (lo' := [some (.ref (ea E 0)), some (.int v1), none, some (.int v3), some (.int v4), some (.int v5), some (.int v6_168), some (.int (nI 6)), none, none]) rfl ?_
              exact w_X6_page_J241 hC   h
            · refine g_aload_n (pc' := 230) (i := 0) hC dX6_page_229 rfl rfl rfl ?_
              refine gf_X6_17 (pc' := 233) hC dX6_page_230 rfl ?_
              refine g_iconst (pc' := 234) (v := (nI 5)) hC dX6_page_233 (by decide) rfl ?_
              obtain ⟨g_171, h⟩ := gd_some h
              refine ld_mm (pc' := 235) hC g_171 dX6_page_234 rfl ?_
              refine g_iconst (pc' := 236) (v := (nI 1)) hC dX6_page_235 (by decide) rfl ?_
              refine g_isub (pc' := 237) hC dX6_page_236 rfl ?_
              refine g_i2l (pc' := 238) hC dX6_page_237 rfl ?_
              obtain ⟨a_172, hc_173, h⟩ := bd1_some h
              refine g_callS (pc' := 241) hC (c_X6_widthOf _ hc_173) ml_X6_134  (by decide) rfl rfl rfl dX6_page_238 rfl ?_
              refine g_weak (lo' := [some (.ref (ea E 0)), some (.int v1), none, some (.int v3), some (.int v4), some (.int v5), some (.int v6_168), some (.int (nI 6)), none, none]) rfl ?_
              exact w_X6_page_J241 hC   h
          · refine g_iload (pc' := 262) (i := 7) hC dX6_page_260 rfl rfl ?_
            refine g_iconst (pc' := 263) (v := (nI 3)) hC dX6_page_262 (by decide) rfl ?_
            refine g_icmp_ne (pc' := 266) (tgt := 282) hC dX6_page_263 (by decide) rfl h (fun h => ?_) (fun h => ?_)
            · refine g_aload_n (pc' := 267) (i := 0) hC dX6_page_266 rfl rfl rfl ?_
              refine g_iload (pc' := 269) (i := 6) hC dX6_page_267 rfl rfl ?_
              refine g_iconst (pc' := 270) (v := (nI 1)) hC dX6_page_269 (by decide) rfl ?_
              obtain ⟨md_174, mdd_175, hc_176, h⟩ := bd2_some h
              refine g_callV (pc' := 273) hC (c_X6_runs _ hc_176) ml_X6_144 (rc_M) (by decide) rfl rfl rfl rfl dX6_page_270 rfl ?_
              refine g_aload_n (pc' := 274) (i := 0) hC dX6_page_273 rfl rfl rfl ?_
              refine g_iload (pc' := 276) (i := 8) hC dX6_page_274 rfl rfl ?_
              obtain ⟨md_177, mdd_178, mbb_179, hc_180, h⟩ := bd3_some h
              refine g_callV (pc' := 279) hC (c_X6_sized _ hc_180) ml_X6_147 (rc_M) (by decide) rfl rfl rfl rfl dX6_page_276 rfl ?_
              refine g_goto (tgt := 337) hC dX6_page_279 (by decide) ?_
              refine g_iload_n (pc' := 338) (i := 3) hC dX6_page_337 rfl rfl rfl ?_
              refine g_istore (pc' := 340) (i := 9) (lo' := [some (.ref (ea E 0)), some (.int v1), none, some (.int v3), some (.int v4), some (.int v5), some (.int v6_168), some (.int (nI 6)), some (.int mdd), some (.int v3)]) hC dX6_page_338 rfl rfl rfl rfl ?_
              refine g_weak (lo' := [some (.ref (ea E 0)), some (.int v1), none, some (.int v3), some (.int v4), some (.int v5), none, some (.int (nI 6)), none, some (.int v3)]) rfl ?_
              refine w_X6_page_L340 hC  ?_ _ _ _ _ h
              · intro md_181 mdd_182 h
                refine g_aload_n (pc' := 441) (i := 0) hC dX6_page_440 rfl rfl rfl ?_
                refine g_iload (pc' := 443) (i := 5) hC dX6_page_441 rfl rfl ?_
                refine g_iconst (pc' := 444) (v := (nI 0)) hC dX6_page_443 (by decide) rfl ?_
                refine g_iload (pc' := 446) (i := 4) hC dX6_page_444 rfl rfl ?_
                refine g_iload_n (pc' := 447) (i := 3) hC dX6_page_446 rfl rfl rfl ?_
                refine g_isub (pc' := 448) hC dX6_page_447 rfl ?_
                refine g_iload (pc' := 450) (i := 7) hC dX6_page_448 rfl rfl ?_
                obtain ⟨md_183, mdd_184, mbb_185, hc_186, h⟩ := bd3_some h
                refine g_callV (pc' := 453) hC (c_X6_headed _ hc_186) ml_X6_157 (rc_M) (by decide) rfl rfl rfl rfl dX6_page_450 rfl ?_
                obtain ⟨rfl, rfl, rfl, rfl, rfl⟩ := inj5 h; exact g_vret hC dX6_page_453
            · refine g_iload (pc' := 284) (i := 7) hC dX6_page_282 rfl rfl ?_
              refine g_if_le (pc' := 287) (tgt := 317) hC dX6_page_284 (by decide) rfl h (fun h => ?_) (fun h => ?_)
              · refine g_aload_n (pc' := 288) (i := 0) hC dX6_page_287 rfl rfl rfl ?_
                refine g_iload (pc' := 290) (i := 6) hC dX6_page_288 rfl rfl ?_
                refine g_iload (pc' := 292) (i := 7) hC dX6_page_290 rfl rfl ?_
                refine g_bipush (pc' := 294) (v := (nI 6)) hC dX6_page_292 (by decide) rfl ?_
                refine g_icmp_eq (pc' := 297) (tgt := 306) hC dX6_page_294 (by decide) rfl h (fun h => ?_) (fun h => ?_)
                · refine g_iconst (pc' := 307) (v := (nI 1)) hC dX6_page_306 (by decide) rfl ?_
                  refine g_goto (tgt := 311) hC dX6_page_307 (by decide) ?_
                  obtain ⟨md_187, mdd_188, mn_189, mst_190, hc_191, h⟩ := bd4_some h
                  refine g_callV (pc' := 314) hC (c_X6_differences _ hc_191) ml_X6_150 (rc_M) (by decide) rfl rfl rfl rfl dX6_page_311 rfl ?_
                  refine g_goto (tgt := 337) hC dX6_page_314 (by decide) ?_
                  refine g_iload_n (pc' := 338) (i := 3) hC dX6_page_337 rfl rfl rfl ?_
                  refine g_istore (pc' := 340) (i := 9) (lo' := [some (.ref (ea E 0)), some (.int v1), none, some (.int v3), some (.int v4), some (.int v5), some (.int v6_168), some (.int (nI 6)), some (.int mdd), some (.int v3)]) hC dX6_page_338 rfl rfl rfl rfl ?_
                  refine g_weak (lo' := [some (.ref (ea E 0)), some (.int v1), none, some (.int v3), some (.int v4), some (.int v5), none, some (.int (nI 6)), none, some (.int v3)]) rfl ?_
                  refine w_X6_page_L340 hC  ?_ _ _ _ _ h
                  · intro md_192 mdd_193 h
                    refine g_aload_n (pc' := 441) (i := 0) hC dX6_page_440 rfl rfl rfl ?_
                    refine g_iload (pc' := 443) (i := 5) hC dX6_page_441 rfl rfl ?_
                    refine g_iconst (pc' := 444) (v := (nI 0)) hC dX6_page_443 (by decide) rfl ?_
                    refine g_iload (pc' := 446) (i := 4) hC dX6_page_444 rfl rfl ?_
                    refine g_iload_n (pc' := 447) (i := 3) hC dX6_page_446 rfl rfl rfl ?_
                    refine g_isub (pc' := 448) hC dX6_page_447 rfl ?_
                    refine g_iload (pc' := 450) (i := 7) hC dX6_page_448 rfl rfl ?_
                    obtain ⟨md_194, mdd_195, mbb_196, hc_197, h⟩ := bd3_some h
                    refine g_callV (pc' := 453) hC (c_X6_headed _ hc_197) ml_X6_157 (rc_M) (by decide) rfl rfl rfl rfl dX6_page_450 rfl ?_
                    obtain ⟨rfl, rfl, rfl, rfl, rfl⟩ := inj5 h; exact g_vret hC dX6_page_453
                · refine g_aload_n (pc' := 298) (i := 0) hC dX6_page_297 rfl rfl rfl ?_
                  refine gf_X6_7 (pc' := 301) hC dX6_page_298 rfl ?_
                  refine g_iload_n (pc' := 302) (i := 1) hC dX6_page_301 rfl rfl rfl ?_
                  obtain ⟨g_198, h⟩ := gd_some h
                  refine ld_mk (pc' := 303) hC g_198 dX6_page_302 rfl ?_
                  refine g_if_ne (pc' := 306) (tgt := 310) hC dX6_page_303 (by decide) rfl h (fun h => ?_) (fun h => ?_)
                  · refine g_iconst (pc' := 307) (v := (nI 1)) hC dX6_page_306 (by decide) rfl ?_
                    refine g_goto (tgt := 311) hC dX6_page_307 (by decide) ?_
                    obtain ⟨md_199, mdd_200, mn_201, mst_202, hc_203, h⟩ := bd4_some h
                    refine g_callV (pc' := 314) hC (c_X6_differences _ hc_203) ml_X6_150 (rc_M) (by decide) rfl rfl rfl rfl dX6_page_311 rfl ?_
                    refine g_goto (tgt := 337) hC dX6_page_314 (by decide) ?_
                    refine g_iload_n (pc' := 338) (i := 3) hC dX6_page_337 rfl rfl rfl ?_
                    refine g_istore (pc' := 340) (i := 9) (lo' := [some (.ref (ea E 0)), some (.int v1), none, some (.int v3), some (.int v4), some (.int v5), some (.int v6_168), some (.int (nI 6)), some (.int mdd), some (.int v3)]) hC dX6_page_338 rfl rfl rfl rfl ?_
                    refine g_weak (lo' := [some (.ref (ea E 0)), some (.int v1), none, some (.int v3), some (.int v4), some (.int v5), none, some (.int (nI 6)), none, some (.int v3)]) rfl ?_
                    refine w_X6_page_L340 hC  ?_ _ _ _ _ h
                    · intro md_204 mdd_205 h
                      refine g_aload_n (pc' := 441) (i := 0) hC dX6_page_440 rfl rfl rfl ?_
                      refine g_iload (pc' := 443) (i := 5) hC dX6_page_441 rfl rfl ?_
                      refine g_iconst (pc' := 444) (v := (nI 0)) hC dX6_page_443 (by decide) rfl ?_
                      refine g_iload (pc' := 446) (i := 4) hC dX6_page_444 rfl rfl ?_
                      refine g_iload_n (pc' := 447) (i := 3) hC dX6_page_446 rfl rfl rfl ?_
                      refine g_isub (pc' := 448) hC dX6_page_447 rfl ?_
                      refine g_iload (pc' := 450) (i := 7) hC dX6_page_448 rfl rfl ?_
                      obtain ⟨md_206, mdd_207, mbb_208, hc_209, h⟩ := bd3_some h
                      refine g_callV (pc' := 453) hC (c_X6_headed _ hc_209) ml_X6_157 (rc_M) (by decide) rfl rfl rfl rfl dX6_page_450 rfl ?_
                      obtain ⟨rfl, rfl, rfl, rfl, rfl⟩ := inj5 h; exact g_vret hC dX6_page_453
                  · refine g_iconst (pc' := 311) (v := (nI 0)) hC dX6_page_310 (by decide) rfl ?_
                    obtain ⟨md_210, mdd_211, mn_212, mst_213, hc_214, h⟩ := bd4_some h
                    refine g_callV (pc' := 314) hC (c_X6_differences _ hc_214) ml_X6_150 (rc_M) (by decide) rfl rfl rfl rfl dX6_page_311 rfl ?_
                    refine g_goto (tgt := 337) hC dX6_page_314 (by decide) ?_
                    refine g_iload_n (pc' := 338) (i := 3) hC dX6_page_337 rfl rfl rfl ?_
                    refine g_istore (pc' := 340) (i := 9) (lo' := [some (.ref (ea E 0)), some (.int v1), none, some (.int v3), some (.int v4), some (.int v5), some (.int v6_168), some (.int (nI 6)), some (.int mdd), some (.int v3)]) hC dX6_page_338 rfl rfl rfl rfl ?_
                    refine g_weak (lo' := [some (.ref (ea E 0)), some (.int v1), none, some (.int v3), some (.int v4), some (.int v5), none, some (.int (nI 6)), none, some (.int v3)]) rfl ?_
                    refine w_X6_page_L340 hC  ?_ _ _ _ _ h
                    · intro md_215 mdd_216 h
                      refine g_aload_n (pc' := 441) (i := 0) hC dX6_page_440 rfl rfl rfl ?_
                      refine g_iload (pc' := 443) (i := 5) hC dX6_page_441 rfl rfl ?_
                      refine g_iconst (pc' := 444) (v := (nI 0)) hC dX6_page_443 (by decide) rfl ?_
                      refine g_iload (pc' := 446) (i := 4) hC dX6_page_444 rfl rfl ?_
                      refine g_iload_n (pc' := 447) (i := 3) hC dX6_page_446 rfl rfl rfl ?_
                      refine g_isub (pc' := 448) hC dX6_page_447 rfl ?_
                      refine g_iload (pc' := 450) (i := 7) hC dX6_page_448 rfl rfl ?_
                      obtain ⟨md_217, mdd_218, mbb_219, hc_220, h⟩ := bd3_some h
                      refine g_callV (pc' := 453) hC (c_X6_headed _ hc_220) ml_X6_157 (rc_M) (by decide) rfl rfl rfl rfl dX6_page_450 rfl ?_
                      obtain ⟨rfl, rfl, rfl, rfl, rfl⟩ := inj5 h; exact g_vret hC dX6_page_453
              · refine g_aload_n (pc' := 318) (i := 0) hC dX6_page_317 rfl rfl rfl ?_
                refine gf_X6_7 (pc' := 321) hC dX6_page_318 rfl ?_
                refine g_iload_n (pc' := 322) (i := 1) hC dX6_page_321 rfl rfl rfl ?_
                obtain ⟨g_221, h⟩ := gd_some h
                refine ld_mk (pc' := 323) hC g_221 dX6_page_322 rfl ?_
                refine g_iconst (pc' := 324) (v := (nI 3)) hC dX6_page_323 (by decide) rfl ?_
                refine g_icmp_ne (pc' := 327) (tgt := 337) hC dX6_page_324 (by decide) rfl h (fun h => ?_) (fun h => ?_)
                · refine g_aload_n (pc' := 328) (i := 0) hC dX6_page_327 rfl rfl rfl ?_
                  refine g_iconst (pc' := 329) (v := (nI 0)) hC dX6_page_328 (by decide) rfl ?_
                  refine g_iload (pc' := 331) (i := 6) hC dX6_page_329 rfl rfl ?_
                  refine g_iload (pc' := 333) (i := 6) hC dX6_page_331 rfl rfl ?_
                  refine g_iconst (pc' := 334) (v := (nI 1)) hC dX6_page_333 (by decide) rfl ?_
                  obtain ⟨md_222, mdd_223, hc_224, h⟩ := bd2_some h
                  refine g_callV (pc' := 337) hC (c_X6_pack _ hc_224) ml_X6_120 (rc_M) (by decide) rfl rfl rfl rfl dX6_page_334 rfl ?_
                  refine g_iload_n (pc' := 338) (i := 3) hC dX6_page_337 rfl rfl rfl ?_
                  refine g_istore (pc' := 340) (i := 9) (lo' := [some (.ref (ea E 0)), some (.int v1), none, some (.int v3), some (.int v4), some (.int v5), some (.int v6_168), some (.int (nI 6)), some (.int mdd), some (.int v3)]) hC dX6_page_338 rfl rfl rfl rfl ?_
                  refine g_weak (lo' := [some (.ref (ea E 0)), some (.int v1), none, some (.int v3), some (.int v4), some (.int v5), none, some (.int (nI 6)), none, some (.int v3)]) rfl ?_
                  refine w_X6_page_L340 hC  ?_ _ _ _ _ h
                  · intro md_225 mdd_226 h
                    refine g_aload_n (pc' := 441) (i := 0) hC dX6_page_440 rfl rfl rfl ?_
                    refine g_iload (pc' := 443) (i := 5) hC dX6_page_441 rfl rfl ?_
                    refine g_iconst (pc' := 444) (v := (nI 0)) hC dX6_page_443 (by decide) rfl ?_
                    refine g_iload (pc' := 446) (i := 4) hC dX6_page_444 rfl rfl ?_
                    refine g_iload_n (pc' := 447) (i := 3) hC dX6_page_446 rfl rfl rfl ?_
                    refine g_isub (pc' := 448) hC dX6_page_447 rfl ?_
                    refine g_iload (pc' := 450) (i := 7) hC dX6_page_448 rfl rfl ?_
                    obtain ⟨md_227, mdd_228, mbb_229, hc_230, h⟩ := bd3_some h
                    refine g_callV (pc' := 453) hC (c_X6_headed _ hc_230) ml_X6_157 (rc_M) (by decide) rfl rfl rfl rfl dX6_page_450 rfl ?_
                    obtain ⟨rfl, rfl, rfl, rfl, rfl⟩ := inj5 h; exact g_vret hC dX6_page_453
                · refine g_iload_n (pc' := 338) (i := 3) hC dX6_page_337 rfl rfl rfl ?_
                  refine g_istore (pc' := 340) (i := 9) (lo' := [some (.ref (ea E 0)), some (.int v1), none, some (.int v3), some (.int v4), some (.int v5), some (.int v6_168), some (.int (nI 6)), some (.int mdd), some (.int v3)]) hC dX6_page_338 rfl rfl rfl rfl ?_
                  refine g_weak (lo' := [some (.ref (ea E 0)), some (.int v1), none, some (.int v3), some (.int v4), some (.int v5), none, some (.int (nI 6)), none, some (.int v3)]) rfl ?_
                  refine w_X6_page_L340 hC  ?_ _ _ _ _ h
                  · intro md_231 mdd_232 h
                    refine g_aload_n (pc' := 441) (i := 0) hC dX6_page_440 rfl rfl rfl ?_
                    refine g_iload (pc' := 443) (i := 5) hC dX6_page_441 rfl rfl ?_
                    refine g_iconst (pc' := 444) (v := (nI 0)) hC dX6_page_443 (by decide) rfl ?_
                    refine g_iload (pc' := 446) (i := 4) hC dX6_page_444 rfl rfl ?_
                    refine g_iload_n (pc' := 447) (i := 3) hC dX6_page_446 rfl rfl rfl ?_
                    refine g_isub (pc' := 448) hC dX6_page_447 rfl ?_
                    refine g_iload (pc' := 450) (i := 7) hC dX6_page_448 rfl rfl ?_
                    obtain ⟨md_233, mdd_234, mbb_235, hc_236, h⟩ := bd3_some h
                    refine g_callV (pc' := 453) hC (c_X6_headed _ hc_236) ml_X6_157 (rc_M) (by decide) rfl rfl rfl rfl dX6_page_450 rfl ?_
                    obtain ⟨rfl, rfl, rfl, rfl, rfl⟩ := inj5 h; exact g_vret hC dX6_page_453
      · refine g_aload_n (pc' := 113) (i := 0) hC dX6_page_112 rfl rfl rfl ?_
        refine gf_X6_7 (pc' := 116) hC dX6_page_113 rfl ?_
        refine g_iload_n (pc' := 117) (i := 1) hC dX6_page_116 rfl rfl rfl ?_
        obtain ⟨g_237, h⟩ := gd_some h
        refine ld_mk (pc' := 118) hC g_237 dX6_page_117 rfl ?_
        refine g_iconst (pc' := 119) (v := (nI 3)) hC dX6_page_118 (by decide) rfl ?_
        refine g_icmp_ne (pc' := 122) (tgt := 126) hC dX6_page_119 (by decide) rfl h (fun h => ?_) (fun h => ?_)
        · refine g_iconst (pc' := 123) (v := (nI 3)) hC dX6_page_122 (by decide) rfl ?_
          refine g_goto (tgt := 127) hC dX6_page_123 (by decide) ?_
          refine g_istore (pc' := 129) (i := 7) (lo' := [some (.ref (ea E 0)), some (.int v1), some (.int v2), some (.int v3), some (.int v4), some (.int v5), some (.int (nI 0)), some (.int (nI 3)), none, none]) hC dX6_page_127 rfl rfl rfl rfl ?_
          refine g_iload_n (pc' := 130) (i := 3) hC dX6_page_129 rfl rfl rfl ?_
          refine g_istore (pc' := 132) (i := 8) (lo' := [some (.ref (ea E 0)), some (.int v1), some (.int v2), some (.int v3), some (.int v4), some (.int v5), some (.int (nI 0)), some (.int (nI 3)), some (.int v3), none]) hC dX6_page_130 rfl rfl rfl rfl ?_
          refine g_weak (lo' := [some (.ref (ea E 0)), some (.int v1), none, some (.int v3), some (.int v4), some (.int v5), some (.int (nI 0)), some (.int (nI 3)), some (.int v3), none]) rfl ?_
          refine w_X6_page_L132 hC  ?_ _ _ _ _ h
          · intro v6_238 mn_239 h
            refine g_aload_n (pc' := 203) (i := 0) hC dX6_page_202 rfl rfl rfl ?_
            refine gf_X6_95 (pc' := 206) hC dX6_page_203 rfl ?_
            refine g_istore (pc' := 208) (i := 8) (lo' := [some (.ref (ea E 0)), some (.int v1), none, some (.int v3), some (.int v4), some (.int v5), some (.int v6_238), some (.int (nI 3)), some (.int mdd), none]) hC dX6_page_206 rfl rfl rfl rfl ?_
            refine g_iload (pc' := 210) (i := 7) hC dX6_page_208 rfl rfl ?_
            refine g_bipush (pc' := 212) (v := (nI 8)) hC dX6_page_210 (by decide) rfl ?_
            refine g_icmp_ne (pc' := 215) (tgt := 260) hC dX6_page_212 (by decide) rfl h (fun h => ?_) (fun h => ?_)
            · refine g_aload_n (pc' := 216) (i := 0) hC dX6_page_215 rfl rfl rfl ?_
              refine gf_X6_17 (pc' := 219) hC dX6_page_216 rfl ?_
              refine g_iconst (pc' := 220) (v := (nI 5)) hC dX6_page_219 (by decide) rfl ?_
              obtain ⟨g_240, h⟩ := gd_some h
              refine ld_mm (pc' := 221) hC g_240 dX6_page_220 rfl ?_
              refine g_iconst (pc' := 222) (v := (nI 2)) hC dX6_page_221 (by decide) rfl ?_
              refine g_icmp_ge (pc' := 225) (tgt := 229) hC dX6_page_222 (by decide) rfl h (fun h => ?_) (fun h => ?_)
              · refine g_iconst (pc' := 226) (v := (nI 0)) hC dX6_page_225 (by decide) rfl ?_
                refine g_goto (tgt := 241) hC dX6_page_226 (by decide) ?_
                refine g_weak (lo' := [some (.ref (ea E 0)), some (.int v1), none, some (.int v3), some (.int v4), some (.int v5), some (.int v6_238), some (.int (nI 3)), none, none]) rfl ?_
                exact w_X6_page_J241 hC   h
              · refine g_aload_n (pc' := 230) (i := 0) hC dX6_page_229 rfl rfl rfl ?_
                refine gf_X6_17 (pc' := 233) hC dX6_page_230 rfl ?_
                refine g_iconst (pc' := 234) (v := (nI 5)) hC dX6_page_233 (by decide) rfl ?_
                obtain ⟨g_241, h⟩ := gd_some h
                refine ld_mm (pc' := 235) hC g_241 dX6_page_234 rfl ?_
                refine g_iconst (pc' := 236) (v := (nI 1)) hC dX6_page_235 (by decide) rfl ?_
                refine g_isub (pc' := 237) hC dX6_page_236 rfl ?_
                refine g_i2l (pc' := 238) hC dX6_page_237 rfl ?_
                obtain ⟨a_242, hc_243, h⟩ := bd1_some h
                refine g_callS (pc' := 241) hC (c_X6_widthOf _ hc_243) ml_X6_134  (by decide) rfl rfl rfl dX6_page_238 rfl ?_
                refine g_weak (lo' := [some (.ref (ea E 0)), some (.int v1), none, some (.int v3), some (.int v4), some (.int v5), some (.int v6_238), some (.int (nI 3)), none, none]) rfl ?_
                exact w_X6_page_J241 hC   h
            · refine g_iload (pc' := 262) (i := 7) hC dX6_page_260 rfl rfl ?_
              refine g_iconst (pc' := 263) (v := (nI 3)) hC dX6_page_262 (by decide) rfl ?_
              refine g_icmp_ne (pc' := 266) (tgt := 282) hC dX6_page_263 (by decide) rfl h (fun h => ?_) (fun h => ?_)
              · refine g_aload_n (pc' := 267) (i := 0) hC dX6_page_266 rfl rfl rfl ?_
                refine g_iload (pc' := 269) (i := 6) hC dX6_page_267 rfl rfl ?_
                refine g_iconst (pc' := 270) (v := (nI 1)) hC dX6_page_269 (by decide) rfl ?_
                obtain ⟨md_244, mdd_245, hc_246, h⟩ := bd2_some h
                refine g_callV (pc' := 273) hC (c_X6_runs _ hc_246) ml_X6_144 (rc_M) (by decide) rfl rfl rfl rfl dX6_page_270 rfl ?_
                refine g_aload_n (pc' := 274) (i := 0) hC dX6_page_273 rfl rfl rfl ?_
                refine g_iload (pc' := 276) (i := 8) hC dX6_page_274 rfl rfl ?_
                obtain ⟨md_247, mdd_248, mbb_249, hc_250, h⟩ := bd3_some h
                refine g_callV (pc' := 279) hC (c_X6_sized _ hc_250) ml_X6_147 (rc_M) (by decide) rfl rfl rfl rfl dX6_page_276 rfl ?_
                refine g_goto (tgt := 337) hC dX6_page_279 (by decide) ?_
                refine g_iload_n (pc' := 338) (i := 3) hC dX6_page_337 rfl rfl rfl ?_
                refine g_istore (pc' := 340) (i := 9) (lo' := [some (.ref (ea E 0)), some (.int v1), none, some (.int v3), some (.int v4), some (.int v5), some (.int v6_238), some (.int (nI 3)), some (.int mdd), some (.int v3)]) hC dX6_page_338 rfl rfl rfl rfl ?_
                refine g_weak (lo' := [some (.ref (ea E 0)), some (.int v1), none, some (.int v3), some (.int v4), some (.int v5), none, some (.int (nI 3)), none, some (.int v3)]) rfl ?_
                refine w_X6_page_L340 hC  ?_ _ _ _ _ h
                · intro md_251 mdd_252 h
                  refine g_aload_n (pc' := 441) (i := 0) hC dX6_page_440 rfl rfl rfl ?_
                  refine g_iload (pc' := 443) (i := 5) hC dX6_page_441 rfl rfl ?_
                  refine g_iconst (pc' := 444) (v := (nI 0)) hC dX6_page_443 (by decide) rfl ?_
                  refine g_iload (pc' := 446) (i := 4) hC dX6_page_444 rfl rfl ?_
                  refine g_iload_n (pc' := 447) (i := 3) hC dX6_page_446 rfl rfl rfl ?_
                  refine g_isub (pc' := 448) hC dX6_page_447 rfl ?_
                  refine g_iload (pc' := 450) (i := 7) hC dX6_page_448 rfl rfl ?_
                  obtain ⟨md_253, mdd_254, mbb_255, hc_256, h⟩ := bd3_some h
                  refine g_callV (pc' := 453) hC (c_X6_headed _ hc_256) ml_X6_157 (rc_M) (by decide) rfl rfl rfl rfl dX6_page_450 rfl ?_
                  obtain ⟨rfl, rfl, rfl, rfl, rfl⟩ := inj5 h; exact g_vret hC dX6_page_453
              · refine g_iload (pc' := 284) (i := 7) hC dX6_page_282 rfl rfl ?_
                refine g_if_le (pc' := 287) (tgt := 317) hC dX6_page_284 (by decide) rfl h (fun h => ?_) (fun h => ?_)
                · refine g_aload_n (pc' := 288) (i := 0) hC dX6_page_287 rfl rfl rfl ?_
                  refine g_iload (pc' := 290) (i := 6) hC dX6_page_288 rfl rfl ?_
                  refine g_iload (pc' := 292) (i := 7) hC dX6_page_290 rfl rfl ?_
                  refine g_bipush (pc' := 294) (v := (nI 6)) hC dX6_page_292 (by decide) rfl ?_
                  refine g_icmp_eq (pc' := 297) (tgt := 306) hC dX6_page_294 (by decide) rfl h (fun h => ?_) (fun h => ?_)
                  · refine g_iconst (pc' := 307) (v := (nI 1)) hC dX6_page_306 (by decide) rfl ?_
                    refine g_goto (tgt := 311) hC dX6_page_307 (by decide) ?_
                    obtain ⟨md_257, mdd_258, mn_259, mst_260, hc_261, h⟩ := bd4_some h
                    refine g_callV (pc' := 314) hC (c_X6_differences _ hc_261) ml_X6_150 (rc_M) (by decide) rfl rfl rfl rfl dX6_page_311 rfl ?_
                    refine g_goto (tgt := 337) hC dX6_page_314 (by decide) ?_
                    refine g_iload_n (pc' := 338) (i := 3) hC dX6_page_337 rfl rfl rfl ?_
                    refine g_istore (pc' := 340) (i := 9) (lo' := [some (.ref (ea E 0)), some (.int v1), none, some (.int v3), some (.int v4), some (.int v5), some (.int v6_238), some (.int (nI 3)), some (.int mdd), some (.int v3)]) hC dX6_page_338 rfl rfl rfl rfl ?_
                    refine g_weak (lo' := [some (.ref (ea E 0)), some (.int v1), none, some (.int v3), some (.int v4), some (.int v5), none, some (.int (nI 3)), none, some (.int v3)]) rfl ?_
                    refine w_X6_page_L340 hC  ?_ _ _ _ _ h
                    · intro md_262 mdd_263 h
                      refine g_aload_n (pc' := 441) (i := 0) hC dX6_page_440 rfl rfl rfl ?_
                      refine g_iload (pc' := 443) (i := 5) hC dX6_page_441 rfl rfl ?_
                      refine g_iconst (pc' := 444) (v := (nI 0)) hC dX6_page_443 (by decide) rfl ?_
                      refine g_iload (pc' := 446) (i := 4) hC dX6_page_444 rfl rfl ?_
                      refine g_iload_n (pc' := 447) (i := 3) hC dX6_page_446 rfl rfl rfl ?_
                      refine g_isub (pc' := 448) hC dX6_page_447 rfl ?_
                      refine g_iload (pc' := 450) (i := 7) hC dX6_page_448 rfl rfl ?_
                      obtain ⟨md_264, mdd_265, mbb_266, hc_267, h⟩ := bd3_some h
                      refine g_callV (pc' := 453) hC (c_X6_headed _ hc_267) ml_X6_157 (rc_M) (by decide) rfl rfl rfl rfl dX6_page_450 rfl ?_
                      obtain ⟨rfl, rfl, rfl, rfl, rfl⟩ := inj5 h; exact g_vret hC dX6_page_453
                  · refine g_aload_n (pc' := 298) (i := 0) hC dX6_page_297 rfl rfl rfl ?_
                    refine gf_X6_7 (pc' := 301) hC dX6_page_298 rfl ?_
                    refine g_iload_n (pc' := 302) (i := 1) hC dX6_page_301 rfl rfl rfl ?_
                    obtain ⟨g_268, h⟩ := gd_some h
                    refine ld_mk (pc' := 303) hC g_268 dX6_page_302 rfl ?_
                    refine g_if_ne (pc' := 306) (tgt := 310) hC dX6_page_303 (by decide) rfl h (fun h => ?_) (fun h => ?_)
                    · refine g_iconst (pc' := 307) (v := (nI 1)) hC dX6_page_306 (by decide) rfl ?_
                      refine g_goto (tgt := 311) hC dX6_page_307 (by decide) ?_
                      obtain ⟨md_269, mdd_270, mn_271, mst_272, hc_273, h⟩ := bd4_some h
                      refine g_callV (pc' := 314) hC (c_X6_differences _ hc_273) ml_X6_150 (rc_M) (by decide) rfl rfl rfl rfl dX6_page_311 rfl ?_
                      refine g_goto (tgt := 337) hC dX6_page_314 (by decide) ?_
                      refine g_iload_n (pc' := 338) (i := 3) hC dX6_page_337 rfl rfl rfl ?_
                      refine g_istore (pc' := 340) (i := 9) (lo' := [some (.ref (ea E 0)), some (.int v1), none, some (.int v3), some (.int v4), some (.int v5), some (.int v6_238), some (.int (nI 3)), some (.int mdd), some (.int v3)]) hC dX6_page_338 rfl rfl rfl rfl ?_
                      refine g_weak (lo' := [some (.ref (ea E 0)), some (.int v1), none, some (.int v3), some (.int v4), some (.int v5), none, some (.int (nI 3)), none, some (.int v3)]) rfl ?_
                      refine w_X6_page_L340 hC  ?_ _ _ _ _ h
                      · intro md_274 mdd_275 h
                        refine g_aload_n (pc' := 441) (i := 0) hC dX6_page_440 rfl rfl rfl ?_
                        refine g_iload (pc' := 443) (i := 5) hC dX6_page_441 rfl rfl ?_
                        refine g_iconst (pc' := 444) (v := (nI 0)) hC dX6_page_443 (by decide) rfl ?_
                        refine g_iload (pc' := 446) (i := 4) hC dX6_page_444 rfl rfl ?_
                        refine g_iload_n (pc' := 447) (i := 3) hC dX6_page_446 rfl rfl rfl ?_
                        refine g_isub (pc' := 448) hC dX6_page_447 rfl ?_
                        refine g_iload (pc' := 450) (i := 7) hC dX6_page_448 rfl rfl ?_
                        obtain ⟨md_276, mdd_277, mbb_278, hc_279, h⟩ := bd3_some h
                        refine g_callV (pc' := 453) hC (c_X6_headed _ hc_279) ml_X6_157 (rc_M) (by decide) rfl rfl rfl rfl dX6_page_450 rfl ?_
                        obtain ⟨rfl, rfl, rfl, rfl, rfl⟩ := inj5 h; exact g_vret hC dX6_page_453
                    · refine g_iconst (pc' := 311) (v := (nI 0)) hC dX6_page_310 (by decide) rfl ?_
                      obtain ⟨md_280, mdd_281, mn_282, mst_283, hc_284, h⟩ := bd4_some h
                      refine g_callV (pc' := 314) hC (c_X6_differences _ hc_284) ml_X6_150 (rc_M) (by decide) rfl rfl rfl rfl dX6_page_311 rfl ?_
                      refine g_goto (tgt := 337) hC dX6_page_314 (by decide) ?_
                      refine g_iload_n (pc' := 338) (i := 3) hC dX6_page_337 rfl rfl rfl ?_
                      refine g_istore (pc' := 340) (i := 9) (lo' := [some (.ref (ea E 0)), some (.int v1), none, some (.int v3), some (.int v4), some (.int v5), some (.int v6_238), some (.int (nI 3)), some (.int mdd), some (.int v3)]) hC dX6_page_338 rfl rfl rfl rfl ?_
                      refine g_weak (lo' := [some (.ref (ea E 0)), some (.int v1), none, some (.int v3), some (.int v4), some (.int v5), none, some (.int (nI 3)), none, some (.int v3)]) rfl ?_
                      refine w_X6_page_L340 hC  ?_ _ _ _ _ h
                      · intro md_285 mdd_286 h
                        refine g_aload_n (pc' := 441) (i := 0) hC dX6_page_440 rfl rfl rfl ?_
                        refine g_iload (pc' := 443) (i := 5) hC dX6_page_441 rfl rfl ?_
                        refine g_iconst (pc' := 444) (v := (nI 0)) hC dX6_page_443 (by decide) rfl ?_
                        refine g_iload (pc' := 446) (i := 4) hC dX6_page_444 rfl rfl ?_
                        refine g_iload_n (pc' := 447) (i := 3) hC dX6_page_446 rfl rfl rfl ?_
                        refine g_isub (pc' := 448) hC dX6_page_447 rfl ?_
                        refine g_iload (pc' := 450) (i := 7) hC dX6_page_448 rfl rfl ?_
                        obtain ⟨md_287, mdd_288, mbb_289, hc_290, h⟩ := bd3_some h
                        refine g_callV (pc' := 453) hC (c_X6_headed _ hc_290) ml_X6_157 (rc_M) (by decide) rfl rfl rfl rfl dX6_page_450 rfl ?_
                        obtain ⟨rfl, rfl, rfl, rfl, rfl⟩ := inj5 h; exact g_vret hC dX6_page_453
                · refine g_aload_n (pc' := 318) (i := 0) hC dX6_page_317 rfl rfl rfl ?_
                  refine gf_X6_7 (pc' := 321) hC dX6_page_318 rfl ?_
                  refine g_iload_n (pc' := 322) (i := 1) hC dX6_page_321 rfl rfl rfl ?_
                  obtain ⟨g_291, h⟩ := gd_some h
                  refine ld_mk (pc' := 323) hC g_291 dX6_page_322 rfl ?_
                  refine g_iconst (pc' := 324) (v := (nI 3)) hC dX6_page_323 (by decide) rfl ?_
                  refine g_icmp_ne (pc' := 327) (tgt := 337) hC dX6_page_324 (by decide) rfl h (fun h => ?_) (fun h => ?_)
                  · refine g_aload_n (pc' := 328) (i := 0) hC dX6_page_327 rfl rfl rfl ?_
                    refine g_iconst (pc' := 329) (v := (nI 0)) hC dX6_page_328 (by decide) rfl ?_
                    refine g_iload (pc' := 331) (i := 6) hC dX6_page_329 rfl rfl ?_
                    refine g_iload (pc' := 333) (i := 6) hC dX6_page_331 rfl rfl ?_
                    refine g_iconst (pc' := 334) (v := (nI 1)) hC dX6_page_333 (by decide) rfl ?_
                    obtain ⟨md_292, mdd_293, hc_294, h⟩ := bd2_some h
                    refine g_callV (pc' := 337) hC (c_X6_pack _ hc_294) ml_X6_120 (rc_M) (by decide) rfl rfl rfl rfl dX6_page_334 rfl ?_
                    refine g_iload_n (pc' := 338) (i := 3) hC dX6_page_337 rfl rfl rfl ?_
                    refine g_istore (pc' := 340) (i := 9) (lo' := [some (.ref (ea E 0)), some (.int v1), none, some (.int v3), some (.int v4), some (.int v5), some (.int v6_238), some (.int (nI 3)), some (.int mdd), some (.int v3)]) hC dX6_page_338 rfl rfl rfl rfl ?_
                    refine g_weak (lo' := [some (.ref (ea E 0)), some (.int v1), none, some (.int v3), some (.int v4), some (.int v5), none, some (.int (nI 3)), none, some (.int v3)]) rfl ?_
                    refine w_X6_page_L340 hC  ?_ _ _ _ _ h
                    · intro md_295 mdd_296 h
                      refine g_aload_n (pc' := 441) (i := 0) hC dX6_page_440 rfl rfl rfl ?_
                      refine g_iload (pc' := 443) (i := 5) hC dX6_page_441 rfl rfl ?_
                      refine g_iconst (pc' := 444) (v := (nI 0)) hC dX6_page_443 (by decide) rfl ?_
                      refine g_iload (pc' := 446) (i := 4) hC dX6_page_444 rfl rfl ?_
                      refine g_iload_n (pc' := 447) (i := 3) hC dX6_page_446 rfl rfl rfl ?_
                      refine g_isub (pc' := 448) hC dX6_page_447 rfl ?_
                      refine g_iload (pc' := 450) (i := 7) hC dX6_page_448 rfl rfl ?_
                      obtain ⟨md_297, mdd_298, mbb_299, hc_300, h⟩ := bd3_some h
                      refine g_callV (pc' := 453) hC (c_X6_headed _ hc_300) ml_X6_157 (rc_M) (by decide) rfl rfl rfl rfl dX6_page_450 rfl ?_
                      obtain ⟨rfl, rfl, rfl, rfl, rfl⟩ := inj5 h; exact g_vret hC dX6_page_453
                  · refine g_iload_n (pc' := 338) (i := 3) hC dX6_page_337 rfl rfl rfl ?_
                    refine g_istore (pc' := 340) (i := 9) (lo' := [some (.ref (ea E 0)), some (.int v1), none, some (.int v3), some (.int v4), some (.int v5), some (.int v6_238), some (.int (nI 3)), some (.int mdd), some (.int v3)]) hC dX6_page_338 rfl rfl rfl rfl ?_
                    refine g_weak (lo' := [some (.ref (ea E 0)), some (.int v1), none, some (.int v3), some (.int v4), some (.int v5), none, some (.int (nI 3)), none, some (.int v3)]) rfl ?_
                    refine w_X6_page_L340 hC  ?_ _ _ _ _ h
                    · intro md_301 mdd_302 h
                      refine g_aload_n (pc' := 441) (i := 0) hC dX6_page_440 rfl rfl rfl ?_
                      refine g_iload (pc' := 443) (i := 5) hC dX6_page_441 rfl rfl ?_
                      refine g_iconst (pc' := 444) (v := (nI 0)) hC dX6_page_443 (by decide) rfl ?_
                      refine g_iload (pc' := 446) (i := 4) hC dX6_page_444 rfl rfl ?_
                      refine g_iload_n (pc' := 447) (i := 3) hC dX6_page_446 rfl rfl rfl ?_
                      refine g_isub (pc' := 448) hC dX6_page_447 rfl ?_
                      refine g_iload (pc' := 450) (i := 7) hC dX6_page_448 rfl rfl ?_
                      obtain ⟨md_303, mdd_304, mbb_305, hc_306, h⟩ := bd3_some h
                      refine g_callV (pc' := 453) hC (c_X6_headed _ hc_306) ml_X6_157 (rc_M) (by decide) rfl rfl rfl rfl dX6_page_450 rfl ?_
                      obtain ⟨rfl, rfl, rfl, rfl, rfl⟩ := inj5 h; exact g_vret hC dX6_page_453
        · refine g_iconst (pc' := 127) (v := (nI 5)) hC dX6_page_126 (by decide) rfl ?_
          refine g_istore (pc' := 129) (i := 7) (lo' := [some (.ref (ea E 0)), some (.int v1), some (.int v2), some (.int v3), some (.int v4), some (.int v5), some (.int (nI 0)), some (.int (nI 5)), none, none]) hC dX6_page_127 rfl rfl rfl rfl ?_
          refine g_iload_n (pc' := 130) (i := 3) hC dX6_page_129 rfl rfl rfl ?_
          refine g_istore (pc' := 132) (i := 8) (lo' := [some (.ref (ea E 0)), some (.int v1), some (.int v2), some (.int v3), some (.int v4), some (.int v5), some (.int (nI 0)), some (.int (nI 5)), some (.int v3), none]) hC dX6_page_130 rfl rfl rfl rfl ?_
          refine g_weak (lo' := [some (.ref (ea E 0)), some (.int v1), none, some (.int v3), some (.int v4), some (.int v5), some (.int (nI 0)), some (.int (nI 5)), some (.int v3), none]) rfl ?_
          refine w_X6_page_L132 hC  ?_ _ _ _ _ h
          · intro v6_307 mn_308 h
            refine g_aload_n (pc' := 203) (i := 0) hC dX6_page_202 rfl rfl rfl ?_
            refine gf_X6_95 (pc' := 206) hC dX6_page_203 rfl ?_
            refine g_istore (pc' := 208) (i := 8) (lo' := [some (.ref (ea E 0)), some (.int v1), none, some (.int v3), some (.int v4), some (.int v5), some (.int v6_307), some (.int (nI 5)), some (.int mdd), none]) hC dX6_page_206 rfl rfl rfl rfl ?_
            refine g_iload (pc' := 210) (i := 7) hC dX6_page_208 rfl rfl ?_
            refine g_bipush (pc' := 212) (v := (nI 8)) hC dX6_page_210 (by decide) rfl ?_
            refine g_icmp_ne (pc' := 215) (tgt := 260) hC dX6_page_212 (by decide) rfl h (fun h => ?_) (fun h => ?_)
            · refine g_aload_n (pc' := 216) (i := 0) hC dX6_page_215 rfl rfl rfl ?_
              refine gf_X6_17 (pc' := 219) hC dX6_page_216 rfl ?_
              refine g_iconst (pc' := 220) (v := (nI 5)) hC dX6_page_219 (by decide) rfl ?_
              obtain ⟨g_309, h⟩ := gd_some h
              refine ld_mm (pc' := 221) hC g_309 dX6_page_220 rfl ?_
              refine g_iconst (pc' := 222) (v := (nI 2)) hC dX6_page_221 (by decide) rfl ?_
              refine g_icmp_ge (pc' := 225) (tgt := 229) hC dX6_page_222 (by decide) rfl h (fun h => ?_) (fun h => ?_)
              · refine g_iconst (pc' := 226) (v := (nI 0)) hC dX6_page_225 (by decide) rfl ?_
                refine g_goto (tgt := 241) hC dX6_page_226 (by decide) ?_
                refine g_weak (lo' := [some (.ref (ea E 0)), some (.int v1), none, some (.int v3), some (.int v4), some (.int v5), some (.int v6_307), some (.int (nI 5)), none, none]) rfl ?_
                exact w_X6_page_J241 hC   h
              · refine g_aload_n (pc' := 230) (i := 0) hC dX6_page_229 rfl rfl rfl ?_
                refine gf_X6_17 (pc' := 233) hC dX6_page_230 rfl ?_
                refine g_iconst (pc' := 234) (v := (nI 5)) hC dX6_page_233 (by decide) rfl ?_
                obtain ⟨g_310, h⟩ := gd_some h
                refine ld_mm (pc' := 235) hC g_310 dX6_page_234 rfl ?_
                refine g_iconst (pc' := 236) (v := (nI 1)) hC dX6_page_235 (by decide) rfl ?_
                refine g_isub (pc' := 237) hC dX6_page_236 rfl ?_
                refine g_i2l (pc' := 238) hC dX6_page_237 rfl ?_
                obtain ⟨a_311, hc_312, h⟩ := bd1_some h
                refine g_callS (pc' := 241) hC (c_X6_widthOf _ hc_312) ml_X6_134  (by decide) rfl rfl rfl dX6_page_238 rfl ?_
                refine g_weak (lo' := [some (.ref (ea E 0)), some (.int v1), none, some (.int v3), some (.int v4), some (.int v5), some (.int v6_307), some (.int (nI 5)), none, none]) rfl ?_
                exact w_X6_page_J241 hC   h
            · refine g_iload (pc' := 262) (i := 7) hC dX6_page_260 rfl rfl ?_
              refine g_iconst (pc' := 263) (v := (nI 3)) hC dX6_page_262 (by decide) rfl ?_
              refine g_icmp_ne (pc' := 266) (tgt := 282) hC dX6_page_263 (by decide) rfl h (fun h => ?_) (fun h => ?_)
              · refine g_aload_n (pc' := 267) (i := 0) hC dX6_page_266 rfl rfl rfl ?_
                refine g_iload (pc' := 269) (i := 6) hC dX6_page_267 rfl rfl ?_
                refine g_iconst (pc' := 270) (v := (nI 1)) hC dX6_page_269 (by decide) rfl ?_
                obtain ⟨md_313, mdd_314, hc_315, h⟩ := bd2_some h
                refine g_callV (pc' := 273) hC (c_X6_runs _ hc_315) ml_X6_144 (rc_M) (by decide) rfl rfl rfl rfl dX6_page_270 rfl ?_
                refine g_aload_n (pc' := 274) (i := 0) hC dX6_page_273 rfl rfl rfl ?_
                refine g_iload (pc' := 276) (i := 8) hC dX6_page_274 rfl rfl ?_
                obtain ⟨md_316, mdd_317, mbb_318, hc_319, h⟩ := bd3_some h
                refine g_callV (pc' := 279) hC (c_X6_sized _ hc_319) ml_X6_147 (rc_M) (by decide) rfl rfl rfl rfl dX6_page_276 rfl ?_
                refine g_goto (tgt := 337) hC dX6_page_279 (by decide) ?_
                refine g_iload_n (pc' := 338) (i := 3) hC dX6_page_337 rfl rfl rfl ?_
                refine g_istore (pc' := 340) (i := 9) (lo' := [some (.ref (ea E 0)), some (.int v1), none, some (.int v3), some (.int v4), some (.int v5), some (.int v6_307), some (.int (nI 5)), some (.int mdd), some (.int v3)]) hC dX6_page_338 rfl rfl rfl rfl ?_
                refine g_weak (lo' := [some (.ref (ea E 0)), some (.int v1), none, some (.int v3), some (.int v4), some (.int v5), none, some (.int (nI 5)), none, some (.int v3)]) rfl ?_
                refine w_X6_page_L340 hC  ?_ _ _ _ _ h
                · intro md_320 mdd_321 h
                  refine g_aload_n (pc' := 441) (i := 0) hC dX6_page_440 rfl rfl rfl ?_
                  refine g_iload (pc' := 443) (i := 5) hC dX6_page_441 rfl rfl ?_
                  refine g_iconst (pc' := 444) (v := (nI 0)) hC dX6_page_443 (by decide) rfl ?_
                  refine g_iload (pc' := 446) (i := 4) hC dX6_page_444 rfl rfl ?_
                  refine g_iload_n (pc' := 447) (i := 3) hC dX6_page_446 rfl rfl rfl ?_
                  refine g_isub (pc' := 448) hC dX6_page_447 rfl ?_
                  refine g_iload (pc' := 450) (i := 7) hC dX6_page_448 rfl rfl ?_
                  obtain ⟨md_322, mdd_323, mbb_324, hc_325, h⟩ := bd3_some h
                  refine g_callV (pc' := 453) hC (c_X6_headed _ hc_325) ml_X6_157 (rc_M) (by decide) rfl rfl rfl rfl dX6_page_450 rfl ?_
                  obtain ⟨rfl, rfl, rfl, rfl, rfl⟩ := inj5 h; exact g_vret hC dX6_page_453
              · refine g_iload (pc' := 284) (i := 7) hC dX6_page_282 rfl rfl ?_
                refine g_if_le (pc' := 287) (tgt := 317) hC dX6_page_284 (by decide) rfl h (fun h => ?_) (fun h => ?_)
                · refine g_aload_n (pc' := 288) (i := 0) hC dX6_page_287 rfl rfl rfl ?_
                  refine g_iload (pc' := 290) (i := 6) hC dX6_page_288 rfl rfl ?_
                  refine g_iload (pc' := 292) (i := 7) hC dX6_page_290 rfl rfl ?_
                  refine g_bipush (pc' := 294) (v := (nI 6)) hC dX6_page_292 (by decide) rfl ?_
                  refine g_icmp_eq (pc' := 297) (tgt := 306) hC dX6_page_294 (by decide) rfl h (fun h => ?_) (fun h => ?_)
                  · refine g_iconst (pc' := 307) (v := (nI 1)) hC dX6_page_306 (by decide) rfl ?_
                    refine g_goto (tgt := 311) hC dX6_page_307 (by decide) ?_
                    obtain ⟨md_326, mdd_327, mn_328, mst_329, hc_330, h⟩ := bd4_some h
                    refine g_callV (pc' := 314) hC (c_X6_differences _ hc_330) ml_X6_150 (rc_M) (by decide) rfl rfl rfl rfl dX6_page_311 rfl ?_
                    refine g_goto (tgt := 337) hC dX6_page_314 (by decide) ?_
                    refine g_iload_n (pc' := 338) (i := 3) hC dX6_page_337 rfl rfl rfl ?_
                    refine g_istore (pc' := 340) (i := 9) (lo' := [some (.ref (ea E 0)), some (.int v1), none, some (.int v3), some (.int v4), some (.int v5), some (.int v6_307), some (.int (nI 5)), some (.int mdd), some (.int v3)]) hC dX6_page_338 rfl rfl rfl rfl ?_
                    refine g_weak (lo' := [some (.ref (ea E 0)), some (.int v1), none, some (.int v3), some (.int v4), some (.int v5), none, some (.int (nI 5)), none, some (.int v3)]) rfl ?_
                    refine w_X6_page_L340 hC  ?_ _ _ _ _ h
                    · intro md_331 mdd_332 h
                      refine g_aload_n (pc' := 441) (i := 0) hC dX6_page_440 rfl rfl rfl ?_
                      refine g_iload (pc' := 443) (i := 5) hC dX6_page_441 rfl rfl ?_
                      refine g_iconst (pc' := 444) (v := (nI 0)) hC dX6_page_443 (by decide) rfl ?_
                      refine g_iload (pc' := 446) (i := 4) hC dX6_page_444 rfl rfl ?_
                      refine g_iload_n (pc' := 447) (i := 3) hC dX6_page_446 rfl rfl rfl ?_
                      refine g_isub (pc' := 448) hC dX6_page_447 rfl ?_
                      refine g_iload (pc' := 450) (i := 7) hC dX6_page_448 rfl rfl ?_
                      obtain ⟨md_333, mdd_334, mbb_335, hc_336, h⟩ := bd3_some h
                      refine g_callV (pc' := 453) hC (c_X6_headed _ hc_336) ml_X6_157 (rc_M) (by decide) rfl rfl rfl rfl dX6_page_450 rfl ?_
                      obtain ⟨rfl, rfl, rfl, rfl, rfl⟩ := inj5 h; exact g_vret hC dX6_page_453
                  · refine g_aload_n (pc' := 298) (i := 0) hC dX6_page_297 rfl rfl rfl ?_
                    refine gf_X6_7 (pc' := 301) hC dX6_page_298 rfl ?_
                    refine g_iload_n (pc' := 302) (i := 1) hC dX6_page_301 rfl rfl rfl ?_
                    obtain ⟨g_337, h⟩ := gd_some h
                    refine ld_mk (pc' := 303) hC g_337 dX6_page_302 rfl ?_
                    refine g_if_ne (pc' := 306) (tgt := 310) hC dX6_page_303 (by decide) rfl h (fun h => ?_) (fun h => ?_)
                    · refine g_iconst (pc' := 307) (v := (nI 1)) hC dX6_page_306 (by decide) rfl ?_
                      refine g_goto (tgt := 311) hC dX6_page_307 (by decide) ?_
                      obtain ⟨md_338, mdd_339, mn_340, mst_341, hc_342, h⟩ := bd4_some h
                      refine g_callV (pc' := 314) hC (c_X6_differences _ hc_342) ml_X6_150 (rc_M) (by decide) rfl rfl rfl rfl dX6_page_311 rfl ?_
                      refine g_goto (tgt := 337) hC dX6_page_314 (by decide) ?_
                      refine g_iload_n (pc' := 338) (i := 3) hC dX6_page_337 rfl rfl rfl ?_
                      refine g_istore (pc' := 340) (i := 9) (lo' := [some (.ref (ea E 0)), some (.int v1), none, some (.int v3), some (.int v4), some (.int v5), some (.int v6_307), some (.int (nI 5)), some (.int mdd), some (.int v3)]) hC dX6_page_338 rfl rfl rfl rfl ?_
                      refine g_weak (lo' := [some (.ref (ea E 0)), some (.int v1), none, some (.int v3), some (.int v4), some (.int v5), none, some (.int (nI 5)), none, some (.int v3)]) rfl ?_
                      refine w_X6_page_L340 hC  ?_ _ _ _ _ h
                      · intro md_343 mdd_344 h
                        refine g_aload_n (pc' := 441) (i := 0) hC dX6_page_440 rfl rfl rfl ?_
                        refine g_iload (pc' := 443) (i := 5) hC dX6_page_441 rfl rfl ?_
                        refine g_iconst (pc' := 444) (v := (nI 0)) hC dX6_page_443 (by decide) rfl ?_
                        refine g_iload (pc' := 446) (i := 4) hC dX6_page_444 rfl rfl ?_
                        refine g_iload_n (pc' := 447) (i := 3) hC dX6_page_446 rfl rfl rfl ?_
                        refine g_isub (pc' := 448) hC dX6_page_447 rfl ?_
                        refine g_iload (pc' := 450) (i := 7) hC dX6_page_448 rfl rfl ?_
                        obtain ⟨md_345, mdd_346, mbb_347, hc_348, h⟩ := bd3_some h
                        refine g_callV (pc' := 453) hC (c_X6_headed _ hc_348) ml_X6_157 (rc_M) (by decide) rfl rfl rfl rfl dX6_page_450 rfl ?_
                        obtain ⟨rfl, rfl, rfl, rfl, rfl⟩ := inj5 h; exact g_vret hC dX6_page_453
                    · refine g_iconst (pc' := 311) (v := (nI 0)) hC dX6_page_310 (by decide) rfl ?_
                      obtain ⟨md_349, mdd_350, mn_351, mst_352, hc_353, h⟩ := bd4_some h
                      refine g_callV (pc' := 314) hC (c_X6_differences _ hc_353) ml_X6_150 (rc_M) (by decide) rfl rfl rfl rfl dX6_page_311 rfl ?_
                      refine g_goto (tgt := 337) hC dX6_page_314 (by decide) ?_
                      refine g_iload_n (pc' := 338) (i := 3) hC dX6_page_337 rfl rfl rfl ?_
                      refine g_istore (pc' := 340) (i := 9) (lo' := [some (.ref (ea E 0)), some (.int v1), none, some (.int v3), some (.int v4), some (.int v5), some (.int v6_307), some (.int (nI 5)), some (.int mdd), some (.int v3)]) hC dX6_page_338 rfl rfl rfl rfl ?_
                      refine g_weak (lo' := [some (.ref (ea E 0)), some (.int v1), none, some (.int v3), some (.int v4), some (.int v5), none, some (.int (nI 5)), none, some (.int v3)]) rfl ?_
                      refine w_X6_page_L340 hC  ?_ _ _ _ _ h
                      · intro md_354 mdd_355 h
                        refine g_aload_n (pc' := 441) (i := 0) hC dX6_page_440 rfl rfl rfl ?_
                        refine g_iload (pc' := 443) (i := 5) hC dX6_page_441 rfl rfl ?_
                        refine g_iconst (pc' := 444) (v := (nI 0)) hC dX6_page_443 (by decide) rfl ?_
                        refine g_iload (pc' := 446) (i := 4) hC dX6_page_444 rfl rfl ?_
                        refine g_iload_n (pc' := 447) (i := 3) hC dX6_page_446 rfl rfl rfl ?_
                        refine g_isub (pc' := 448) hC dX6_page_447 rfl ?_
                        refine g_iload (pc' := 450) (i := 7) hC dX6_page_448 rfl rfl ?_
                        obtain ⟨md_356, mdd_357, mbb_358, hc_359, h⟩ := bd3_some h
                        refine g_callV (pc' := 453) hC (c_X6_headed _ hc_359) ml_X6_157 (rc_M) (by decide) rfl rfl rfl rfl dX6_page_450 rfl ?_
                        obtain ⟨rfl, rfl, rfl, rfl, rfl⟩ := inj5 h; exact g_vret hC dX6_page_453
                · refine g_aload_n (pc' := 318) (i := 0) hC dX6_page_317 rfl rfl rfl ?_
                  refine gf_X6_7 (pc' := 321) hC dX6_page_318 rfl ?_
                  refine g_iload_n (pc' := 322) (i := 1) hC dX6_page_321 rfl rfl rfl ?_
                  obtain ⟨g_360, h⟩ := gd_some h
                  refine ld_mk (pc' := 323) hC g_360 dX6_page_322 rfl ?_
                  refine g_iconst (pc' := 324) (v := (nI 3)) hC dX6_page_323 (by decide) rfl ?_
                  refine g_icmp_ne (pc' := 327) (tgt := 337) hC dX6_page_324 (by decide) rfl h (fun h => ?_) (fun h => ?_)
                  · refine g_aload_n (pc' := 328) (i := 0) hC dX6_page_327 rfl rfl rfl ?_
                    refine g_iconst (pc' := 329) (v := (nI 0)) hC dX6_page_328 (by decide) rfl ?_
                    refine g_iload (pc' := 331) (i := 6) hC dX6_page_329 rfl rfl ?_
                    refine g_iload (pc' := 333) (i := 6) hC dX6_page_331 rfl rfl ?_
                    refine g_iconst (pc' := 334) (v := (nI 1)) hC dX6_page_333 (by decide) rfl ?_
                    obtain ⟨md_361, mdd_362, hc_363, h⟩ := bd2_some h
                    refine g_callV (pc' := 337) hC (c_X6_pack _ hc_363) ml_X6_120 (rc_M) (by decide) rfl rfl rfl rfl dX6_page_334 rfl ?_
                    refine g_iload_n (pc' := 338) (i := 3) hC dX6_page_337 rfl rfl rfl ?_
                    refine g_istore (pc' := 340) (i := 9) (lo' := [some (.ref (ea E 0)), some (.int v1), none, some (.int v3), some (.int v4), some (.int v5), some (.int v6_307), some (.int (nI 5)), some (.int mdd), some (.int v3)]) hC dX6_page_338 rfl rfl rfl rfl ?_
                    refine g_weak (lo' := [some (.ref (ea E 0)), some (.int v1), none, some (.int v3), some (.int v4), some (.int v5), none, some (.int (nI 5)), none, some (.int v3)]) rfl ?_
                    refine w_X6_page_L340 hC  ?_ _ _ _ _ h
                    · intro md_364 mdd_365 h
                      refine g_aload_n (pc' := 441) (i := 0) hC dX6_page_440 rfl rfl rfl ?_
                      refine g_iload (pc' := 443) (i := 5) hC dX6_page_441 rfl rfl ?_
                      refine g_iconst (pc' := 444) (v := (nI 0)) hC dX6_page_443 (by decide) rfl ?_
                      refine g_iload (pc' := 446) (i := 4) hC dX6_page_444 rfl rfl ?_
                      refine g_iload_n (pc' := 447) (i := 3) hC dX6_page_446 rfl rfl rfl ?_
                      refine g_isub (pc' := 448) hC dX6_page_447 rfl ?_
                      refine g_iload (pc' := 450) (i := 7) hC dX6_page_448 rfl rfl ?_
                      obtain ⟨md_366, mdd_367, mbb_368, hc_369, h⟩ := bd3_some h
                      refine g_callV (pc' := 453) hC (c_X6_headed _ hc_369) ml_X6_157 (rc_M) (by decide) rfl rfl rfl rfl dX6_page_450 rfl ?_
                      obtain ⟨rfl, rfl, rfl, rfl, rfl⟩ := inj5 h; exact g_vret hC dX6_page_453
                  · refine g_iload_n (pc' := 338) (i := 3) hC dX6_page_337 rfl rfl rfl ?_
                    refine g_istore (pc' := 340) (i := 9) (lo' := [some (.ref (ea E 0)), some (.int v1), none, some (.int v3), some (.int v4), some (.int v5), some (.int v6_307), some (.int (nI 5)), some (.int mdd), some (.int v3)]) hC dX6_page_338 rfl rfl rfl rfl ?_
                    refine g_weak (lo' := [some (.ref (ea E 0)), some (.int v1), none, some (.int v3), some (.int v4), some (.int v5), none, some (.int (nI 5)), none, some (.int v3)]) rfl ?_
                    refine w_X6_page_L340 hC  ?_ _ _ _ _ h
                    · intro md_370 mdd_371 h
                      refine g_aload_n (pc' := 441) (i := 0) hC dX6_page_440 rfl rfl rfl ?_
                      refine g_iload (pc' := 443) (i := 5) hC dX6_page_441 rfl rfl ?_
                      refine g_iconst (pc' := 444) (v := (nI 0)) hC dX6_page_443 (by decide) rfl ?_
                      refine g_iload (pc' := 446) (i := 4) hC dX6_page_444 rfl rfl ?_
                      refine g_iload_n (pc' := 447) (i := 3) hC dX6_page_446 rfl rfl rfl ?_
                      refine g_isub (pc' := 448) hC dX6_page_447 rfl ?_
                      refine g_iload (pc' := 450) (i := 7) hC dX6_page_448 rfl rfl ?_
                      obtain ⟨md_372, mdd_373, mbb_374, hc_375, h⟩ := bd3_some h
                      refine g_callV (pc' := 453) hC (c_X6_headed _ hc_375) ml_X6_157 (rc_M) (by decide) rfl rfl rfl rfl dX6_page_450 rfl ?_
                      obtain ⟨rfl, rfl, rfl, rfl, rfl⟩ := inj5 h; exact g_vret hC dX6_page_453
set_option maxRecDepth 200000 in
theorem w_X6_page_L18 {κ : GK} {E : GE} {mdz : Nat → Int32} {mddz : Int32} {mnz : Nat → Int64} {mstz : Nat → Int64} {mbbz : Nat → Int32} {v1 : Int32} {v2 : Int32} {v3 : Int32} {v4 : Int32} {v5 : Int32} {k61 : (Nat → Int64) → Option ((Nat → Int32) × Int32 × (Nat → Int64) × (Nat → Int64) × (Nat → Int32))} (hC : gC κ E cX6_page RX6 none rm_X6_page 10)  (hk61 : ∀ (mn : Nat → Int64), k61 mn = some (mdz, mddz, mnz, mstz, mbbz) → GG κ E (mws E mk mo mm mt mv mx mp mtd mf ms mdz mddz mnz mstz mpl mbbz ma me mb mba mpg mdi mbl mby mw mz mso mbo mco mcd ml mr, none) (mws E mk mo mm mt mv mx mp mtd mf ms md mdd mn mst mpl mbb ma me mb mba mpg mdi mbl mby mw mz mso mbo mco mcd ml mr) 61 [some (.ref (ea E 0)), some (.int v1), some (.int v2), some (.int v3), some (.int v4), some (.int v5), none, none, none, none] []) : ∀ (n : Nat) (v6 : Int32) (mn : Nat → Int64), itr2 (p_X6_page_L18 v1 v3 v4 mt k61) n v6 mn = some (mdz, mddz, mnz, mstz, mbbz) → GG κ E (mws E mk mo mm mt mv mx mp mtd mf ms mdz mddz mnz mstz mpl mbbz ma me mb mba mpg mdi mbl mby mw mz mso mbo mco mcd ml mr, none) (mws E mk mo mm mt mv mx mp mtd mf ms md mdd mn mst mpl mbb ma me mb mba mpg mdi mbl mby mw mz mso mbo mco mcd ml mr) 18 [some (.ref (ea E 0)), some (.int v1), some (.int v2), some (.int v3), some (.int v4), some (.int v5), some (.int v6), none, none, none] [] :=
  itr2_ind (fun k18 hk18 v6 mn h => by
    unfold p_X6_page_L18 at h
    refine g_iload (pc' := 20) (i := 6) hC dX6_page_18 rfl rfl ?_
    refine g_iload (pc' := 22) (i := 4) hC dX6_page_20 rfl rfl ?_
    refine g_icmp_ge (pc' := 25) (tgt := 61) hC dX6_page_22 (by decide) rfl h (fun h => ?_) (fun h => ?_)
    · refine g_aload_n (pc' := 26) (i := 0) hC dX6_page_25 rfl rfl rfl ?_
      refine gf_X6_42 (pc' := 29) hC dX6_page_26 rfl ?_
      refine g_iload (pc' := 31) (i := 6) hC dX6_page_29 rfl rfl ?_
      refine g_iload_n (pc' := 32) (i := 3) hC dX6_page_31 rfl rfl rfl ?_
      refine g_isub (pc' := 33) hC dX6_page_32 rfl ?_
      refine g_aload_n (pc' := 34) (i := 0) hC dX6_page_33 rfl rfl rfl ?_
      refine gf_X6_20 (pc' := 37) hC dX6_page_34 rfl ?_
      refine g_sipush (pc' := 40) (v := (nI 200)) hC dX6_page_37 (by decide) rfl ?_
      refine g_iload_n (pc' := 41) (i := 1) hC dX6_page_40 rfl rfl rfl ?_
      refine g_imul (pc' := 42) hC dX6_page_41 rfl ?_
      refine g_iload (pc' := 44) (i := 6) hC dX6_page_42 rfl rfl ?_
      refine g_iadd (pc' := 45) hC dX6_page_44 rfl ?_
      obtain ⟨g_376, h⟩ := gd_some h
      refine ld_mt (pc' := 46) hC g_376 dX6_page_45 rfl ?_
      refine g_if_eq (pc' := 49) (tgt := 53) hC dX6_page_46 (by decide) rfl h (fun h => ?_) (fun h => ?_)
      · refine g_lconst (pc' := 54) (v := (lN 0)) hC dX6_page_53 (by decide) rfl ?_
        obtain ⟨g_377, h⟩ := gd_some h
        refine st_mn (pc' := 55) hC g_377 dX6_page_54 rfl ?_
        refine g_iinc (pc' := 58) (i := 6) (x := v6) (k := (nI 1)) (lo' := [some (.ref (ea E 0)), some (.int v1), some (.int v2), some (.int v3), some (.int v4), some (.int v5), some (.int (v6 + (nI 1))), none, none, none]) hC dX6_page_55 rfl (by decide) rfl rfl rfl rfl ?_
        refine g_goto (tgt := 18) hC dX6_page_58 (by decide) ?_
        exact hk18 _ _ h
      · refine g_lconst (pc' := 50) (v := (lN 1)) hC dX6_page_49 (by decide) rfl ?_
        refine g_goto (tgt := 54) hC dX6_page_50 (by decide) ?_
        obtain ⟨g_378, h⟩ := gd_some h
        refine st_mn (pc' := 55) hC g_378 dX6_page_54 rfl ?_
        refine g_iinc (pc' := 58) (i := 6) (x := v6) (k := (nI 1)) (lo' := [some (.ref (ea E 0)), some (.int v1), some (.int v2), some (.int v3), some (.int v4), some (.int v5), some (.int (v6 + (nI 1))), none, none, none]) hC dX6_page_55 rfl (by decide) rfl rfl rfl rfl ?_
        refine g_goto (tgt := 18) hC dX6_page_58 (by decide) ?_
        exact hk18 _ _ h
    · refine g_weak (lo' := [some (.ref (ea E 0)), some (.int v1), some (.int v2), some (.int v3), some (.int v4), some (.int v5), none, none, none, none]) rfl ?_
      exact hk61 _ h)
set_option maxRecDepth 200000 in
theorem c_X6_page (l : Launch) {E : GE} {mdz : Nat → Int32} {mddz : Int32} {mnz : Nat → Int64} {mstz : Nat → Int64} {mbbz : Nat → Int32} {v1 : Int32} {v2 : Int32} {v3 : Int32} {v4 : Int32}  (h : p_X6_page v1 v2 v3 v4 mk mo mm mt mv mx md mdd mn mst mpl mbb = some (mdz, mddz, mnz, mstz, mbbz)) : Met l yX6_page (.code yX6_page cX6_page 10 none :: gU) rm_X6_page (gP E (mws E mk mo mm mt mv mx mp mtd mf ms md mdd mn mst mpl mbb ma me mb mba mpg mdi mbl mby mw mz mso mbo mco mcd ml mr) [.ref (ea E 0), .int v1, .int v2, .int v3, .int v4]) (gQ E (mws E mk mo mm mt mv mx mp mtd mf ms mdz mddz mnz mstz mpl mbbz ma me mb mba mpg mdi mbl mby mw mz mso mbo mco mcd ml mr) none) 0 0 E.2.2.1 := by
  refine met_of (y := yX6_page) (own := RX6) (lo := [some (.ref (ea E 0)), some (.int v1), some (.int v2), some (.int v3), some (.int v4), none, none, none, none, none]) (by decide) rfl rfl rfl (fun κ hl hC => ?_)
  subst hl
  unfold p_X6_page at h
  refine g_aload_n (pc' := 1) (i := 0) hC dX6_page_0 rfl rfl rfl ?_
  refine gf_X6_95 (pc' := 4) hC dX6_page_1 rfl ?_
  refine g_istore (pc' := 6) (i := 5) (lo' := [some (.ref (ea E 0)), some (.int v1), some (.int v2), some (.int v3), some (.int v4), some (.int mdd), none, none, none, none]) hC dX6_page_4 rfl rfl rfl rfl ?_
  refine g_aload_n (pc' := 7) (i := 0) hC dX6_page_6 rfl rfl rfl ?_
  refine gf_X6_13 (pc' := 10) hC dX6_page_7 rfl ?_
  refine g_iload_n (pc' := 11) (i := 1) hC dX6_page_10 rfl rfl rfl ?_
  obtain ⟨g_1, h⟩ := gd_some h
  refine ld_mo (pc' := 12) hC g_1 dX6_page_11 rfl ?_
  refine g_if_eq (pc' := 15) (tgt := 76) hC dX6_page_12 (by decide) rfl h (fun h => ?_) (fun h => ?_)
  · exact w_X6_page_J76 hC   h
  · refine g_iload_n (pc' := 16) (i := 3) hC dX6_page_15 rfl rfl rfl ?_
    refine g_istore (pc' := 18) (i := 6) (lo' := [some (.ref (ea E 0)), some (.int v1), some (.int v2), some (.int v3), some (.int v4), some (.int mdd), some (.int v3), none, none, none]) hC dX6_page_16 rfl rfl rfl rfl ?_
    refine w_X6_page_L18 hC  ?_ _ _ _ h
    · intro mn_379 h
      refine g_aload_n (pc' := 62) (i := 0) hC dX6_page_61 rfl rfl rfl ?_
      refine g_iload (pc' := 64) (i := 4) hC dX6_page_62 rfl rfl ?_
      refine g_iload_n (pc' := 65) (i := 3) hC dX6_page_64 rfl rfl rfl ?_
      refine g_isub (pc' := 66) hC dX6_page_65 rfl ?_
      refine g_iconst (pc' := 67) (v := (nI 1)) hC dX6_page_66 (by decide) rfl ?_
      obtain ⟨md_380, mdd_381, hc_382, h⟩ := bd2_some h
      refine g_callV (pc' := 70) hC (c_X6_runs _ hc_382) ml_X6_144 (rc_M) (by decide) rfl rfl rfl rfl dX6_page_67 rfl ?_
      refine g_aload_n (pc' := 71) (i := 0) hC dX6_page_70 rfl rfl rfl ?_
      refine g_iload (pc' := 73) (i := 5) hC dX6_page_71 rfl rfl ?_
      obtain ⟨md_383, mdd_384, mbb_385, hc_386, h⟩ := bd3_some h
      refine g_callV (pc' := 76) hC (c_X6_sized _ hc_386) ml_X6_147 (rc_M) (by decide) rfl rfl rfl rfl dX6_page_73 rfl ?_
      exact w_X6_page_J76 hC   h
end WALK
