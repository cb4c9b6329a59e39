section WALK
variable {mk : Nat → Int32} {mo : Nat → Int32} {mm : Nat → Int32} {mt : Nat → Int32} {mv : Nat → Int64} {mx : Nat → Int32} {mp : Nat → Int32} {mtd : Int32} {mf : Nat → Int32} {ms : Int32} {md : Nat → Int32} {mdd : Int32} {mn : Nat → Int64} {mst : Nat → Int64} {mpl : Nat → Int32} {mbb : Nat → Int32} {ma : Int32} {me : Int32} {mb : Int32} {mba : Int32} {mpg : Int32} {mdi : Int32} {mbl : Int32} {mby : Int32} {mw : Nat → Int32} {mz : Int32} {mso : Int32} {mbo : Int32} {mco : Int32} {mcd : Int32} {ml : Nat → Int32} {mr : Int32}
set_option maxRecDepth 200000 in
theorem w_X6_pack_J50 {κ : GK} {E : GE} {mdz : Nat → Int32} {mddz : Int32} {v1 : Int32} {v2 : Int32} {v3 : Int32} {v4 : Int32} {v5 : Int32} {v6 : Int32} {v7 : Int32} {v8 : Int32} {s0 : Int32} {k20 : Int32 → Int32 → Int32 → (Nat → Int32) → Int32 → Option ((Nat → Int32) × Int32)} (hC : gC κ E cX6_pack RX6 none rm_X6_pack 10)  (hk20 : ∀ (v5 : Int32) (v6 : Int32) (v8 : Int32) (md : Nat → Int32) (mdd : Int32), k20 v5 v6 v8 md mdd = some (mdz, mddz) → GG κ E (mws E mk mo mm mt mv mx mp mtd mf ms mdz mddz mn mst mpl mbb ma me mb mba mpg mdi mbl mby mw mz mso mbo mco mcd ml mr, none) (mws E mk mo mm mt mv mx mp mtd mf ms md mdd mn mst mpl mbb ma me mb mba mpg mdi mbl mby mw mz mso mbo mco mcd ml mr) 20 [some (.ref (ea E 0)), some (.int v1), some (.int v2), some (.int v3), some (.int v4), some (.int v5), some (.int v6), some (.int v7), some (.int v8), none] []) (h : p_X6_pack_J50 v5 v6 v8 s0 md mdd k20 = some (mdz, mddz)) : GG κ E (mws E mk mo mm mt mv mx mp mtd mf ms mdz mddz mn mst mpl mbb ma me mb mba mpg mdi mbl mby mw mz mso mbo mco mcd ml mr, none) (mws E mk mo mm mt mv mx mp mtd mf ms md mdd mn mst mpl mbb ma me mb mba mpg mdi mbl mby mw mz mso mbo mco mcd ml mr) 50 [some (.ref (ea E 0)), some (.int v1), some (.int v2), some (.int v3), some (.int v4), some (.int v5), some (.int v6), some (.int v7), some (.int v8), none] [.int s0] := by
  unfold p_X6_pack_J50 at h
  refine g_istore (pc' := 52) (i := 9) (lo' := [some (.ref (ea E 0)), some (.int v1), some (.int v2), some (.int v3), some (.int v4), some (.int v5), some (.int v6), some (.int v7), some (.int v8), some (.int s0)]) hC dX6_pack_50 rfl rfl rfl rfl ?_
  refine g_iload (pc' := 54) (i := 6) hC dX6_pack_52 rfl rfl ?_
  refine g_iload (pc' := 56) (i := 9) hC dX6_pack_54 rfl rfl ?_
  refine g_iload (pc' := 58) (i := 5) hC dX6_pack_56 rfl rfl ?_
  refine g_ishl (pc' := 59) hC dX6_pack_58 rfl ?_
  refine g_ior (pc' := 60) hC dX6_pack_59 rfl ?_
  refine g_istore (pc' := 62) (i := 6) (lo' := [some (.ref (ea E 0)), some (.int v1), some (.int v2), some (.int v3), some (.int v4), some (.int v5), some (.int (v6 ||| (ishl s0 v5))), some (.int v7), some (.int v8), some (.int s0)]) hC dX6_pack_60 rfl rfl rfl rfl ?_
  refine g_iinc (pc' := 65) (i := 5) (x := v5) (k := (nI 1)) (lo' := [some (.ref (ea E 0)), some (.int v1), some (.int v2), some (.int v3), some (.int v4), some (.int (v5 + (nI 1))), some (.int (v6 ||| (ishl s0 v5))), some (.int v7), some (.int v8), some (.int s0)]) hC dX6_pack_62 rfl (by decide) rfl rfl rfl rfl ?_
  refine g_iload (pc' := 67) (i := 5) hC dX6_pack_65 rfl rfl ?_
  refine g_bipush (pc' := 69) (v := (nI 8)) hC dX6_pack_67 (by decide) rfl ?_
  refine g_icmp_ne (pc' := 72) (tgt := 84) hC dX6_pack_69 (by decide) rfl h (fun h => ?_) (fun h => ?_)
  · refine g_aload_n (pc' := 73) (i := 0) hC dX6_pack_72 rfl rfl rfl ?_
    refine g_iload (pc' := 75) (i := 6) hC dX6_pack_73 rfl rfl ?_
    obtain ⟨md_2, mdd_3, hc_4, h⟩ := bd2_some h
    refine g_callV (pc' := 78) hC (c_X6_byteTo _ hc_4) ml_X6_98 (rc_M) (by decide) rfl rfl rfl rfl dX6_pack_75 rfl ?_
    refine g_iconst (pc' := 79) (v := (nI 0)) hC dX6_pack_78 (by decide) rfl ?_
    refine g_istore (pc' := 81) (i := 6) (lo' := [some (.ref (ea E 0)), some (.int v1), some (.int v2), some (.int v3), some (.int v4), some (.int (v5 + (nI 1))), some (.int (nI 0)), some (.int v7), some (.int v8), some (.int s0)]) hC dX6_pack_79 rfl rfl rfl rfl ?_
    refine g_iconst (pc' := 82) (v := (nI 0)) hC dX6_pack_81 (by decide) rfl ?_
    refine g_istore (pc' := 84) (i := 5) (lo' := [some (.ref (ea E 0)), some (.int v1), some (.int v2), some (.int v3), some (.int v4), some (.int (nI 0)), some (.int (nI 0)), some (.int v7), some (.int v8), some (.int s0)]) hC dX6_pack_82 rfl rfl rfl rfl ?_
    refine g_iinc (pc' := 87) (i := 8) (x := v8) (k := (nI 1)) (lo' := [some (.ref (ea E 0)), some (.int v1), some (.int v2), some (.int v3), some (.int v4), some (.int (nI 0)), some (.int (nI 0)), some (.int v7), some (.int (v8 + (nI 1))), some (.int s0)]) hC dX6_pack_84 rfl (by decide) rfl rfl rfl rfl ?_
    refine g_goto (tgt := 20) hC dX6_pack_87 (by decide) ?_
    refine g_weak (lo' := [some (.ref (ea E 0)), some (.int v1), some (.int v2), some (.int v3), some (.int v4), some (.int (nI 0)), some (.int (nI 0)), some (.int v7), some (.int (v8 + (nI 1))), none]) rfl ?_
    exact hk20 _ _ _ _ _ h
  · refine g_iinc (pc' := 87) (i := 8) (x := v8) (k := (nI 1)) (lo' := [some (.ref (ea E 0)), some (.int v1), some (.int v2), some (.int v3), some (.int v4), some (.int (v5 + (nI 1))), some (.int (v6 ||| (ishl s0 v5))), some (.int v7), some (.int (v8 + (nI 1))), some (.int s0)]) hC dX6_pack_84 rfl (by decide) rfl rfl rfl rfl ?_
    refine g_goto (tgt := 20) hC dX6_pack_87 (by decide) ?_
    refine g_weak (lo' := [some (.ref (ea E 0)), some (.int v1), some (.int v2), some (.int v3), some (.int v4), some (.int (v5 + (nI 1))), some (.int (v6 ||| (ishl s0 v5))), some (.int v7), some (.int (v8 + (nI 1))), none]) rfl ?_
    exact hk20 _ _ _ _ _ h
set_option maxRecDepth 200000 in
theorem w_X6_pack_L20 {κ : GK} {E : GE} {mdz : Nat → Int32} {mddz : Int32} {v1 : Int32} {v2 : Int32} {v3 : Int32} {v4 : Int32} {v7 : Int32} {k90 : Int32 → Int32 → (Nat → Int32) → Int32 → Option ((Nat → Int32) × Int32)} (hC : gC κ E cX6_pack RX6 none rm_X6_pack 10)  (hk90 : ∀ (v5 : Int32) (v6 : Int32) (md : Nat → Int32) (mdd : Int32), k90 v5 v6 md mdd = some (mdz, mddz) → GG κ E (mws E mk mo mm mt mv mx mp mtd mf ms mdz mddz mn mst mpl mbb ma me mb mba mpg mdi mbl mby mw mz mso mbo mco mcd ml mr, none) (mws E mk mo mm mt mv mx mp mtd mf ms md mdd mn mst mpl mbb ma me mb mba mpg mdi mbl mby mw mz mso mbo mco mcd ml mr) 90 [some (.ref (ea E 0)), some (.int v1), some (.int v2), some (.int v3), some (.int v4), some (.int v5), some (.int v6), some (.int v7), none, none] []) : ∀ (n : Nat) (v5 : Int32) (v6 : Int32) (v8 : Int32) (md : Nat → Int32) (mdd : Int32), itr5 (p_X6_pack_L20 v3 v4 v7 mn k90) n v5 v6 v8 md mdd = some (mdz, mddz) → GG κ E (mws E mk mo mm mt mv mx mp mtd mf ms mdz mddz mn mst mpl mbb ma me mb mba mpg mdi mbl mby mw mz mso mbo mco mcd ml mr, none) (mws E mk mo mm mt mv mx mp mtd mf ms md mdd mn mst mpl mbb ma me mb mba mpg mdi mbl mby mw mz mso mbo mco mcd ml mr) 20 [some (.ref (ea E 0)), some (.int v1), some (.int v2), some (.int v3), some (.int v4), some (.int v5), some (.int v6), some (.int v7), some (.int v8), none] [] :=
  itr5_ind (fun k20 hk20 v5 v6 v8 md mdd h => by
    unfold p_X6_pack_L20 at h
    refine g_iload (pc' := 22) (i := 8) hC dX6_pack_20 rfl rfl ?_
    refine g_iload (pc' := 24) (i := 4) hC dX6_pack_22 rfl rfl ?_
    refine g_icmp_ge (pc' := 27) (tgt := 90) hC dX6_pack_24 (by decide) rfl h (fun h => ?_) (fun h => ?_)
    · refine g_iload (pc' := 29) (i := 7) hC dX6_pack_27 rfl rfl ?_
      refine g_iload_n (pc' := 30) (i := 3) hC dX6_pack_29 rfl rfl rfl ?_
      refine g_icmp_ge (pc' := 33) (tgt := 49) hC dX6_pack_30 (by decide) rfl h (fun h => ?_) (fun h => ?_)
      · refine g_aload_n (pc' := 34) (i := 0) hC dX6_pack_33 rfl rfl rfl ?_
        refine gf_X6_42 (pc' := 37) hC dX6_pack_34 rfl ?_
        refine g_iload (pc' := 39) (i := 7) hC dX6_pack_37 rfl rfl ?_
        obtain ⟨g_1, h⟩ := gd_some h
        refine ld_mn (pc' := 40) hC g_1 dX6_pack_39 rfl ?_
        refine g_iload (pc' := 42) (i := 8) hC dX6_pack_40 rfl rfl ?_
        refine g_lushr (pc' := 43) hC dX6_pack_42 rfl ?_
        refine g_lconst (pc' := 44) (v := (lN 1)) hC dX6_pack_43 (by decide) rfl ?_
        refine g_land (pc' := 45) hC dX6_pack_44 rfl ?_
        refine g_l2i (pc' := 46) hC dX6_pack_45 rfl ?_
        refine g_goto (tgt := 50) hC dX6_pack_46 (by decide) ?_
        exact w_X6_pack_J50 hC  hk20 h
      · refine g_iconst (pc' := 50) (v := (nI 0)) hC dX6_pack_49 (by decide) rfl ?_
        exact w_X6_pack_J50 hC  hk20 h
    · refine g_weak (lo' := [some (.ref (ea E 0)), some (.int v1), some (.int v2), some (.int v3), some (.int v4), some (.int v5), some (.int v6), some (.int v7), none, none]) rfl ?_
      exact hk90 _ _ _ _ h)
set_option maxRecDepth 200000 in
theorem w_X6_pack_L9 {κ : GK} {E : GE} {mdz : Nat → Int32} {mddz : Int32} {v1 : Int32} {v2 : Int32} {v3 : Int32} {v4 : Int32} {k96 : Int32 → Int32 → (Nat → Int32) → Int32 → Option ((Nat → Int32) × Int32)} (hC : gC κ E cX6_pack RX6 none rm_X6_pack 10)  (hk96 : ∀ (v5 : Int32) (v6 : Int32) (md : Nat → Int32) (mdd : Int32), k96 v5 v6 md mdd = some (mdz, mddz) → GG κ E (mws E mk mo mm mt mv mx mp mtd mf ms mdz mddz mn mst mpl mbb ma me mb mba mpg mdi mbl mby mw mz mso mbo mco mcd ml mr, none) (mws E mk mo mm mt mv mx mp mtd mf ms md mdd mn mst mpl mbb ma me mb mba mpg mdi mbl mby mw mz mso mbo mco mcd ml mr) 96 [some (.ref (ea E 0)), none, none, none, none, some (.int v5), some (.int v6), none, none, none] []) : ∀ (n : Nat) (v5 : Int32) (v6 : Int32) (v7 : Int32) (md : Nat → Int32) (mdd : Int32), itr5 (p_X6_pack_L9 v1 v2 v3 v4 mn k96) n v5 v6 v7 md mdd = some (mdz, mddz) → GG κ E (mws E mk mo mm mt mv mx mp mtd mf ms mdz mddz mn mst mpl mbb ma me mb mba mpg mdi mbl mby mw mz mso mbo mco mcd ml mr, none) (mws E mk mo mm mt mv mx mp mtd mf ms md mdd mn mst mpl mbb ma me mb mba mpg mdi mbl mby mw mz mso mbo mco mcd ml mr) 9 [some (.ref (ea E 0)), some (.int v1), some (.int v2), some (.int v3), some (.int v4), some (.int v5), some (.int v6), some (.int v7), none, none] [] :=
  itr5_ind (fun k9 hk9 v5 v6 v7 md mdd h => by
    unfold p_X6_pack_L9 at h
    refine g_iload (pc' := 11) (i := 7) hC dX6_pack_9 rfl rfl ?_
    refine g_iload_n (pc' := 12) (i := 1) hC dX6_pack_11 rfl rfl rfl ?_
    refine g_iload_n (pc' := 13) (i := 2) hC dX6_pack_12 rfl rfl rfl ?_
    refine g_iadd (pc' := 14) hC dX6_pack_13 rfl ?_
    refine g_icmp_ge (pc' := 17) (tgt := 96) hC dX6_pack_14 (by decide) rfl h (fun h => ?_) (fun h => ?_)
    · refine g_iconst (pc' := 18) (v := (nI 0)) hC dX6_pack_17 (by decide) rfl ?_
      refine g_istore (pc' := 20) (i := 8) (lo' := [some (.ref (ea E 0)), some (.int v1), some (.int v2), some (.int v3), some (.int v4), some (.int v5), some (.int v6), some (.int v7), some (.int (nI 0)), none]) hC dX6_pack_18 rfl rfl rfl rfl ?_
      refine w_X6_pack_L20 hC  ?_ _ _ _ _ _ _ h
      · intro v5_5 v6_6 md_7 mdd_8 h
        refine g_iinc (pc' := 93) (i := 7) (x := v7) (k := (nI 1)) (lo' := [some (.ref (ea E 0)), some (.int v1), some (.int v2), some (.int v3), some (.int v4), some (.int v5_5), some (.int v6_6), some (.int (v7 + (nI 1))), none, none]) hC dX6_pack_90 rfl (by decide) rfl rfl rfl rfl ?_
        refine g_goto (tgt := 9) hC dX6_pack_93 (by decide) ?_
        exact hk9 _ _ _ _ _ h
    · refine g_weak (lo' := [some (.ref (ea E 0)), none, none, none, none, some (.int v5), some (.int v6), none, none, none]) rfl ?_
      exact hk96 _ _ _ _ h)
set_option maxRecDepth 200000 in
theorem c_X6_pack (l : Launch) {E : GE} {mdz : Nat → Int32} {mddz : Int32} {v1 : Int32} {v2 : Int32} {v3 : Int32} {v4 : Int32}  (h : p_X6_pack v1 v2 v3 v4 md mdd mn = some (mdz, mddz)) : Met l yX6_pack (.code yX6_pack cX6_pack 10 none :: gU) rm_X6_pack (gP E (mws E mk mo mm mt mv mx mp mtd mf ms md mdd mn mst mpl mbb ma me mb mba mpg mdi mbl mby mw mz mso mbo mco mcd ml mr) [.ref (ea E 0), .int v1, .int v2, .int v3, .int v4]) (gQ E (mws E mk mo mm mt mv mx mp mtd mf ms mdz mddz mn mst mpl mbb ma me mb mba mpg mdi mbl mby mw mz mso mbo mco mcd ml mr) none) 0 0 E.2.2.1 := by
  refine met_of (y := yX6_pack) (own := RX6) (lo := [some (.ref (ea E 0)), some (.int v1), some (.int v2), some (.int v3), some (.int v4), none, none, none, none, none]) (by decide) rfl rfl rfl (fun κ hl hC => ?_)
  subst hl
  unfold p_X6_pack at h
  refine g_iconst (pc' := 1) (v := (nI 0)) hC dX6_pack_0 (by decide) rfl ?_
  refine g_istore (pc' := 3) (i := 5) (lo' := [some (.ref (ea E 0)), some (.int v1), some (.int v2), some (.int v3), some (.int v4), some (.int (nI 0)), none, none, none, none]) hC dX6_pack_1 rfl rfl rfl rfl ?_
  refine g_iconst (pc' := 4) (v := (nI 0)) hC dX6_pack_3 (by decide) rfl ?_
  refine g_istore (pc' := 6) (i := 6) (lo' := [some (.ref (ea E 0)), some (.int v1), some (.int v2), some (.int v3), some (.int v4), some (.int (nI 0)), some (.int (nI 0)), none, none, none]) hC dX6_pack_4 rfl rfl rfl rfl ?_
  refine g_iload_n (pc' := 7) (i := 1) hC dX6_pack_6 rfl rfl rfl ?_
  refine g_istore (pc' := 9) (i := 7) (lo' := [some (.ref (ea E 0)), some (.int v1), some (.int v2), some (.int v3), some (.int v4), some (.int (nI 0)), some (.int (nI 0)), some (.int v1), none, none]) hC dX6_pack_7 rfl rfl rfl rfl ?_
  refine w_X6_pack_L9 hC  ?_ _ _ _ _ _ _ h
  · intro v5_9 v6_10 md_11 mdd_12 h
    refine g_iload (pc' := 98) (i := 5) hC dX6_pack_96 rfl rfl ?_
    refine g_if_le (pc' := 101) (tgt := 107) hC dX6_pack_98 (by decide) rfl h (fun h => ?_) (fun h => ?_)
    · refine g_aload_n (pc' := 102) (i := 0) hC dX6_pack_101 rfl rfl rfl ?_
      refine g_iload (pc' := 104) (i := 6) hC dX6_pack_102 rfl rfl ?_
      obtain ⟨md_13, mdd_14, hc_15, h⟩ := bd2_some h
      refine g_callV (pc' := 107) hC (c_X6_byteTo _ hc_15) ml_X6_98 (rc_M) (by decide) rfl rfl rfl rfl dX6_pack_104 rfl ?_
      obtain ⟨rfl, rfl⟩ := inj2 h; exact g_vret hC dX6_pack_107
    · obtain ⟨rfl, rfl⟩ := inj2 h; exact g_vret hC dX6_pack_107
set_option maxRecDepth 200000 in
theorem w_X6_alikeFrom_L2 {κ : GK} {E : GE} {rr : Int32} {v1 : Int32} {v2 : Int32}  (hC : gC κ E cX6_alikeFrom RX6 (some .int) rm_X6_alikeFrom 4)   : ∀ (n : Nat) (v3 : Int32), itr1 (p_X6_alikeFrom_L2 v1 v2 mn) n v3 = some rr → GG κ E (mws E mk mo mm mt mv mx mp mtd mf ms md mdd mn mst mpl mbb ma me mb mba mpg mdi mbl mby mw mz mso mbo mco mcd ml mr, some (.int rr)) (mws E mk mo mm mt mv mx mp mtd mf ms md mdd mn mst mpl mbb ma me mb mba mpg mdi mbl mby mw mz mso mbo mco mcd ml mr) 2 [some (.ref (ea E 0)), some (.int v1), some (.int v2), some (.int v3)] [] :=
  itr1_ind (fun k2 hk2 v3 h => by
    unfold p_X6_alikeFrom_L2 at h
    refine g_iload_n (pc' := 3) (i := 3) hC dX6_alikeFrom_2 rfl rfl rfl ?_
    refine g_iload_n (pc' := 4) (i := 2) hC dX6_alikeFrom_3 rfl rfl rfl ?_
    refine g_icmp_ge (pc' := 7) (tgt := 29) hC dX6_alikeFrom_4 (by decide) rfl h (fun h => ?_) (fun h => ?_)
    · refine g_aload_n (pc' := 8) (i := 0) hC dX6_alikeFrom_7 rfl rfl rfl ?_
      refine gf_X6_42 (pc' := 11) hC dX6_alikeFrom_8 rfl ?_
      refine g_iload_n (pc' := 12) (i := 3) hC dX6_alikeFrom_11 rfl rfl rfl ?_
      obtain ⟨g_1, h⟩ := gd_some h
      refine ld_mn (pc' := 13) hC g_1 dX6_alikeFrom_12 rfl ?_
      refine g_aload_n (pc' := 14) (i := 0) hC dX6_alikeFrom_13 rfl rfl rfl ?_
      refine gf_X6_42 (pc' := 17) hC dX6_alikeFrom_14 rfl ?_
      refine g_iload_n (pc' := 18) (i := 1) hC dX6_alikeFrom_17 rfl rfl rfl ?_
      obtain ⟨g_2, h⟩ := gd_some h
      refine ld_mn (pc' := 19) hC g_2 dX6_alikeFrom_18 rfl ?_
      refine g_lcmp_ne (pc' := 23) (tgt := 29) hC dX6_alikeFrom_19 dX6_alikeFrom_20 rfl (by decide) rfl h (fun h => ?_) (fun h => ?_)
      · refine g_iinc (pc' := 26) (i := 3) (x := v3) (k := (nI 1)) (lo' := [some (.ref (ea E 0)), some (.int v1), some (.int v2), some (.int (v3 + (nI 1)))]) hC dX6_alikeFrom_23 rfl (by decide) rfl rfl rfl rfl ?_
        refine g_goto (tgt := 2) hC dX6_alikeFrom_26 (by decide) ?_
        exact hk2 _ h
      · refine g_iload_n (pc' := 30) (i := 3) hC dX6_alikeFrom_29 rfl rfl rfl ?_
        refine g_iload_n (pc' := 31) (i := 1) hC dX6_alikeFrom_30 rfl rfl rfl ?_
        refine g_isub (pc' := 32) hC dX6_alikeFrom_31 rfl ?_
        obtain rfl := inj1 h; exact g_iret hC dX6_alikeFrom_32
    · refine g_iload_n (pc' := 30) (i := 3) hC dX6_alikeFrom_29 rfl rfl rfl ?_
      refine g_iload_n (pc' := 31) (i := 1) hC dX6_alikeFrom_30 rfl rfl rfl ?_
      refine g_isub (pc' := 32) hC dX6_alikeFrom_31 rfl ?_
      obtain rfl := inj1 h; exact g_iret hC dX6_alikeFrom_32)
set_option maxRecDepth 200000 in
theorem c_X6_alikeFrom (l : Launch) {E : GE} {rr : Int32} {v1 : Int32} {v2 : Int32}  (h : p_X6_alikeFrom v1 v2 mn = some rr) : Met l yX6_alikeFrom (.code yX6_alikeFrom cX6_alikeFrom 4 (some .int) :: gU) rm_X6_alikeFrom (gP E (mws E mk mo mm mt mv mx mp mtd mf ms md mdd mn mst mpl mbb ma me mb mba mpg mdi mbl mby mw mz mso mbo mco mcd ml mr) [.ref (ea E 0), .int v1, .int v2]) (gQ E (mws E mk mo mm mt mv mx mp mtd mf ms md mdd mn mst mpl mbb ma me mb mba mpg mdi mbl mby mw mz mso mbo mco mcd ml mr) (some (.int rr))) 0 0 E.2.2.1 := by
  refine met_of (y := yX6_alikeFrom) (own := RX6) (lo := [some (.ref (ea E 0)), some (.int v1), some (.int v2), none]) (by decide) rfl rfl rfl (fun κ hl hC => ?_)
  subst hl
  unfold p_X6_alikeFrom at h
  refine g_iload_n (pc' := 1) (i := 1) hC dX6_alikeFrom_0 rfl rfl rfl ?_
  refine g_istore_n (pc' := 2) (i := 3) (lo' := [some (.ref (ea E 0)), some (.int v1), some (.int v2), some (.int v1)]) hC dX6_alikeFrom_1 rfl rfl rfl rfl rfl ?_
  refine w_X6_alikeFrom_L2 hC   _ _ h
set_option maxRecDepth 200000 in
theorem w_X6_runs_L61 {κ : GK} {E : GE} {mdz : Nat → Int32} {mddz : Int32} {v1 : Int32} {v2 : Int32} {v3 : Int32} {k95 : Int32 → Option ((Nat → Int32) × Int32)} (hC : gC κ E cX6_runs RX6 none rm_X6_runs 6)  (hk95 : ∀ (v5 : Int32), k95 v5 = some (mdz, mddz) → GG κ E (mws E mk mo mm mt mv mx mp mtd mf ms mdz mddz mn mst mpl mbb ma me mb mba mpg mdi mbl mby mw mz mso mbo mco mcd ml mr, none) (mws E mk mo mm mt mv mx mp mtd mf ms md mdd mn mst mpl mbb ma me mb mba mpg mdi mbl mby mw mz mso mbo mco mcd ml mr) 95 [some (.ref (ea E 0)), some (.int v1), some (.int v2), some (.int v3), none, some (.int v5)] []) : ∀ (n : Nat) (v5 : Int32), itr1 (p_X6_runs_L61 v1 v3 mn k95) n v5 = some (mdz, mddz) → GG κ E (mws E mk mo mm mt mv mx mp mtd mf ms mdz mddz mn mst mpl mbb ma me mb mba mpg mdi mbl mby mw mz mso mbo mco mcd ml mr, none) (mws E mk mo mm mt mv mx mp mtd mf ms md mdd mn mst mpl mbb ma me mb mba mpg mdi mbl mby mw mz mso mbo mco mcd ml mr) 61 [some (.ref (ea E 0)), some (.int v1), some (.int v2), some (.int v3), none, some (.int v5)] [] :=
  itr1_ind (fun k61 hk61 v5 h => by
    unfold p_X6_runs_L61 at h
    refine g_iload_n (pc' := 62) (i := 3) hC dX6_runs_61 rfl rfl rfl ?_
    refine g_bipush (pc' := 64) (v := (nI 8)) hC dX6_runs_62 (by decide) rfl ?_
    refine g_iload (pc' := 66) (i := 5) hC dX6_runs_64 rfl rfl ?_
    refine g_imul (pc' := 67) hC dX6_runs_66 rfl ?_
    refine g_iadd (pc' := 68) hC dX6_runs_67 rfl ?_
    refine g_iload_n (pc' := 69) (i := 1) hC dX6_runs_68 rfl rfl rfl ?_
    refine g_icmp_ge (pc' := 72) (tgt := 95) hC dX6_runs_69 (by decide) rfl h (fun h => ?_) (fun h => ?_)
    · refine g_aload_n (pc' := 73) (i := 0) hC dX6_runs_72 rfl rfl rfl ?_
      refine g_iload_n (pc' := 74) (i := 3) hC dX6_runs_73 rfl rfl rfl ?_
      refine g_bipush (pc' := 76) (v := (nI 8)) hC dX6_runs_74 (by decide) rfl ?_
      refine g_iload (pc' := 78) (i := 5) hC dX6_runs_76 rfl rfl ?_
      refine g_imul (pc' := 79) hC dX6_runs_78 rfl ?_
      refine g_iadd (pc' := 80) hC dX6_runs_79 rfl ?_
      refine g_iload_n (pc' := 81) (i := 1) hC dX6_runs_80 rfl rfl rfl ?_
      obtain ⟨a_3, hc_4, h⟩ := bd1_some h
      refine g_callV (pc' := 84) hC (c_X6_alikeFrom _ hc_4) ml_X6_110 (rc_M) (by decide) rfl rfl rfl rfl dX6_runs_81 rfl ?_
      refine g_bipush (pc' := 86) (v := (nI 8)) hC dX6_runs_84 (by decide) rfl ?_
      refine g_icmp_ge (pc' := 89) (tgt := 95) hC dX6_runs_86 (by decide) rfl h (fun h => ?_) (fun h => ?_)
      · refine g_iinc (pc' := 92) (i := 5) (x := v5) (k := (nI 1)) (lo' := [some (.ref (ea E 0)), some (.int v1), some (.int v2), some (.int v3), none, some (.int (v5 + (nI 1)))]) hC dX6_runs_89 rfl (by decide) rfl rfl rfl rfl ?_
        refine g_goto (tgt := 61) hC dX6_runs_92 (by decide) ?_
        exact hk61 _ h
      · exact hk95 _ h
    · exact hk95 _ h)
set_option maxRecDepth 200000 in
theorem w_X6_runs_J95 {κ : GK} {E : GE} {mdz : Nat → Int32} {mddz : Int32} {v1 : Int32} {v2 : Int32} {v3 : Int32} {v5 : Int32} {k2 : Int32 → (Nat → Int32) → Int32 → Option ((Nat → Int32) × Int32)} (hC : gC κ E cX6_runs RX6 none rm_X6_runs 6)  (hk2 : ∀ (v3 : Int32) (md : Nat → Int32) (mdd : Int32), k2 v3 md mdd = some (mdz, mddz) → GG κ E (mws E mk mo mm mt mv mx mp mtd mf ms mdz mddz mn mst mpl mbb ma me mb mba mpg mdi mbl mby mw mz mso mbo mco mcd ml mr, none) (mws E mk mo mm mt mv mx mp mtd mf ms md mdd mn mst mpl mbb ma me mb mba mpg mdi mbl mby mw mz mso mbo mco mcd ml mr) 2 [some (.ref (ea E 0)), some (.int v1), some (.int v2), some (.int v3), none, none] []) (h : p_X6_runs_J95 v1 v2 v3 v5 md mdd mn k2 = some (mdz, mddz)) : GG κ E (mws E mk mo mm mt mv mx mp mtd mf ms mdz mddz mn mst mpl mbb ma me mb mba mpg mdi mbl mby mw mz mso mbo mco mcd ml mr, none) (mws E mk mo mm mt mv mx mp mtd mf ms md mdd mn mst mpl mbb ma me mb mba mpg mdi mbl mby mw mz mso mbo mco mcd ml mr) 95 [some (.ref (ea E 0)), some (.int v1), some (.int v2), some (.int v3), none, some (.int v5)] [] := by
  unfold p_X6_runs_J95 at h
  refine g_aload_n (pc' := 96) (i := 0) hC dX6_runs_95 rfl rfl rfl ?_
  refine g_ldc2_w (pc' := 99) (v := (lN 2)) hC u_19 dX6_runs_96 rfl ?_
  refine g_iload (pc' := 101) (i := 5) hC dX6_runs_99 rfl rfl ?_
  refine g_i2l (pc' := 102) hC dX6_runs_101 rfl ?_
  refine g_lmul (pc' := 103) hC dX6_runs_102 rfl ?_
  refine g_lconst (pc' := 104) (v := (lN 1)) hC dX6_runs_103 (by decide) rfl ?_
  refine g_ladd (pc' := 105) hC dX6_runs_104 rfl ?_
  obtain ⟨md_6, mdd_7, hc_8, h⟩ := bd2_some h
  refine g_callV (pc' := 108) hC (c_X6_var _ hc_8) ml_X6_106 (rc_M) (by decide) rfl rfl rfl rfl dX6_runs_105 rfl ?_
  refine g_aload_n (pc' := 109) (i := 0) hC dX6_runs_108 rfl rfl rfl ?_
  refine g_iload_n (pc' := 110) (i := 3) hC dX6_runs_109 rfl rfl rfl ?_
  refine g_bipush (pc' := 112) (v := (nI 8)) hC dX6_runs_110 (by decide) rfl ?_
  refine g_iload (pc' := 114) (i := 5) hC dX6_runs_112 rfl rfl ?_
  refine g_imul (pc' := 115) hC dX6_runs_114 rfl ?_
  refine g_iload_n (pc' := 116) (i := 1) hC dX6_runs_115 rfl rfl rfl ?_
  refine g_iload_n (pc' := 117) (i := 2) hC dX6_runs_116 rfl rfl rfl ?_
  obtain ⟨md_9, mdd_10, hc_11, h⟩ := bd2_some h
  refine g_callV (pc' := 120) hC (c_X6_pack _ hc_11) ml_X6_120 (rc_M) (by decide) rfl rfl rfl rfl dX6_runs_117 rfl ?_
  refine g_iload_n (pc' := 121) (i := 3) hC dX6_runs_120 rfl rfl rfl ?_
  refine g_bipush (pc' := 123) (v := (nI 8)) hC dX6_runs_121 (by decide) rfl ?_
  refine g_iload (pc' := 125) (i := 5) hC dX6_runs_123 rfl rfl ?_
  refine g_imul (pc' := 126) hC dX6_runs_125 rfl ?_
  refine g_iadd (pc' := 127) hC dX6_runs_126 rfl ?_
  refine g_istore_n (pc' := 128) (i := 3) (lo' := [some (.ref (ea E 0)), some (.int v1), some (.int v2), some (.int (v3 + ((nI 8) * v5))), none, some (.int v5)]) hC dX6_runs_127 rfl rfl rfl rfl rfl ?_
  refine g_goto (tgt := 2) hC dX6_runs_128 (by decide) ?_
  refine g_weak (lo' := [some (.ref (ea E 0)), some (.int v1), some (.int v2), some (.int (v3 + ((nI 8) * v5))), none, none]) rfl ?_
  exact hk2 _ _ _ h
set_option maxRecDepth 200000 in
theorem w_X6_runs_L2 {κ : GK} {E : GE} {mdz : Nat → Int32} {mddz : Int32} {v1 : Int32} {v2 : Int32}  (hC : gC κ E cX6_runs RX6 none rm_X6_runs 6)   : ∀ (n : Nat) (v3 : Int32) (md : Nat → Int32) (mdd : Int32), itr3 (p_X6_runs_L2 v1 v2 mn) n v3 md mdd = some (mdz, mddz) → GG κ E (mws E mk mo mm mt mv mx mp mtd mf ms mdz mddz mn mst mpl mbb ma me mb mba mpg mdi mbl mby mw mz mso mbo mco mcd ml mr, none) (mws E mk mo mm mt mv mx mp mtd mf ms md mdd mn mst mpl mbb ma me mb mba mpg mdi mbl mby mw mz mso mbo mco mcd ml mr) 2 [some (.ref (ea E 0)), some (.int v1), some (.int v2), some (.int v3), none, none] [] :=
  itr3_ind (fun k2 hk2 v3 md mdd h => by
    unfold p_X6_runs_L2 at h
    refine g_iload_n (pc' := 3) (i := 3) hC dX6_runs_2 rfl rfl rfl ?_
    refine g_iload_n (pc' := 4) (i := 1) hC dX6_runs_3 rfl rfl rfl ?_
    refine g_icmp_ge (pc' := 7) (tgt := 131) hC dX6_runs_4 (by decide) rfl h (fun h => ?_) (fun h => ?_)
    · refine g_aload_n (pc' := 8) (i := 0) hC dX6_runs_7 rfl rfl rfl ?_
      refine g_iload_n (pc' := 9) (i := 3) hC dX6_runs_8 rfl rfl rfl ?_
      refine g_iload_n (pc' := 10) (i := 1) hC dX6_runs_9 rfl rfl rfl ?_
      obtain ⟨a_1, hc_2, h⟩ := bd1_some h
      refine g_callV (pc' := 13) hC (c_X6_alikeFrom _ hc_2) ml_X6_110 (rc_M) (by decide) rfl rfl rfl rfl dX6_runs_10 rfl ?_
      refine g_istore (pc' := 15) (i := 4) (lo' := [some (.ref (ea E 0)), some (.int v1), some (.int v2), some (.int v3), some (.int a_1), none]) hC dX6_runs_13 rfl rfl rfl rfl ?_
      refine g_iload (pc' := 17) (i := 4) hC dX6_runs_15 rfl rfl ?_
      refine g_bipush (pc' := 19) (v := (nI 8)) hC dX6_runs_17 (by decide) rfl ?_
      refine g_icmp_lt (pc' := 22) (tgt := 58) hC dX6_runs_19 (by decide) rfl h (fun h => ?_) (fun h => ?_)
      · refine g_iconst (pc' := 59) (v := (nI 1)) hC dX6_runs_58 (by decide) rfl ?_
        refine g_istore (pc' := 61) (i := 5) (lo' := [some (.ref (ea E 0)), some (.int v1), some (.int v2), some (.int v3), some (.int a_1), some (.int (nI 1))]) hC dX6_runs_59 rfl rfl rfl rfl ?_
        refine g_weak (lo' := [some (.ref (ea E 0)), some (.int v1), some (.int v2), some (.int v3), none, some (.int (nI 1))]) rfl ?_
        refine w_X6_runs_L61 hC  ?_ _ _ h
        · intro v5_5 h
          exact w_X6_runs_J95 hC  hk2 h
      · refine g_aload_n (pc' := 23) (i := 0) hC dX6_runs_22 rfl rfl rfl ?_
        refine g_ldc2_w (pc' := 26) (v := (lN 2)) hC u_19 dX6_runs_23 rfl ?_
        refine g_iload (pc' := 28) (i := 4) hC dX6_runs_26 rfl rfl ?_
        refine g_i2l (pc' := 29) hC dX6_runs_28 rfl ?_
        refine g_lmul (pc' := 30) hC dX6_runs_29 rfl ?_
        obtain ⟨md_12, mdd_13, hc_14, h⟩ := bd2_some h
        refine g_callV (pc' := 33) hC (c_X6_var _ hc_14) ml_X6_106 (rc_M) (by decide) rfl rfl rfl rfl dX6_runs_30 rfl ?_
        refine g_aload_n (pc' := 34) (i := 0) hC dX6_runs_33 rfl rfl rfl ?_
        refine g_aload_n (pc' := 35) (i := 0) hC dX6_runs_34 rfl rfl rfl ?_
        refine gf_X6_42 (pc' := 38) hC dX6_runs_35 rfl ?_
        refine g_iload_n (pc' := 39) (i := 3) hC dX6_runs_38 rfl rfl rfl ?_
        obtain ⟨g_15, h⟩ := gd_some h
        refine ld_mn (pc' := 40) hC g_15 dX6_runs_39 rfl ?_
        refine g_iload_n (pc' := 41) (i := 2) hC dX6_runs_40 rfl rfl rfl ?_
        refine g_bipush (pc' := 43) (v := (nI 7)) hC dX6_runs_41 (by decide) rfl ?_
        refine g_iadd (pc' := 44) hC dX6_runs_43 rfl ?_
        refine g_bipush (pc' := 46) (v := (nI 8)) hC dX6_runs_44 (by decide) rfl ?_
        refine g_idiv (pc' := 47) hC dX6_runs_46 (by decide) rfl ?_
        obtain ⟨md_16, mdd_17, hc_18, h⟩ := bd2_some h
        refine g_callV (pc' := 50) hC (c_X6_bytesTo _ hc_18) ml_X6_116 (rc_M) (by decide) rfl rfl rfl rfl dX6_runs_47 rfl ?_
        refine g_iload_n (pc' := 51) (i := 3) hC dX6_runs_50 rfl rfl rfl ?_
        refine g_iload (pc' := 53) (i := 4) hC dX6_runs_51 rfl rfl ?_
        refine g_iadd (pc' := 54) hC dX6_runs_53 rfl ?_
        refine g_istore_n (pc' := 55) (i := 3) (lo' := [some (.ref (ea E 0)), some (.int v1), some (.int v2), some (.int (v3 + a_1)), some (.int a_1), none]) hC dX6_runs_54 rfl rfl rfl rfl rfl ?_
        refine g_goto (tgt := 128) hC dX6_runs_55 (by decide) ?_
        refine g_goto (tgt := 2) hC dX6_runs_128 (by decide) ?_
        refine g_weak (lo' := [some (.ref (ea E 0)), some (.int v1), some (.int v2), some (.int (v3 + a_1)), none, none]) rfl ?_
        exact hk2 _ _ _ h
    · obtain ⟨rfl, rfl⟩ := inj2 h; exact g_vret hC dX6_runs_131)
set_option maxRecDepth 200000 in
theorem c_X6_runs (l : Launch) {E : GE} {mdz : Nat → Int32} {mddz : Int32} {v1 : Int32} {v2 : Int32}  (h : p_X6_runs v1 v2 md mdd mn = some (mdz, mddz)) : Met l yX6_runs (.code yX6_runs cX6_runs 6 none :: gU) rm_X6_runs (gP E (mws E mk mo mm mt mv mx mp mtd mf ms md mdd mn mst mpl mbb ma me mb mba mpg mdi mbl mby mw mz mso mbo mco mcd ml mr) [.ref (ea E 0), .int v1, .int v2]) (gQ E (mws E mk mo mm mt mv mx mp mtd mf ms mdz mddz mn mst mpl mbb ma me mb mba mpg mdi mbl mby mw mz mso mbo mco mcd ml mr) none) 0 0 E.2.2.1 := by
  refine met_of (y := yX6_runs) (own := RX6) (lo := [some (.ref (ea E 0)), some (.int v1), some (.int v2), none, none, none]) (by decide) rfl rfl rfl (fun κ hl hC => ?_)
  subst hl
  unfold p_X6_runs at h
  refine g_iconst (pc' := 1) (v := (nI 0)) hC dX6_runs_0 (by decide) rfl ?_
  refine g_istore_n (pc' := 2) (i := 3) (lo' := [some (.ref (ea E 0)), some (.int v1), some (.int v2), some (.int (nI 0)), none, none]) hC dX6_runs_1 rfl rfl rfl rfl rfl ?_
  refine w_X6_runs_L2 hC   _ _ _ _ h
set_option maxRecDepth 200000 in
theorem w_X6_widthOf_L4 {κ : GK} {E : GE} {rr : Int32}   (hC : gC κ E cX6_widthOf RX6 (some .int) rm_X6_widthOf 5)   : ∀ (n : Nat) (v2 : Int32) (v3 : Int64), itr2 (p_X6_widthOf_L4 ) n v2 v3 = some rr → GG κ E (mws E mk mo mm mt mv mx mp mtd mf ms md mdd mn mst mpl mbb ma me mb mba mpg mdi mbl mby mw mz mso mbo mco mcd ml mr, some (.int rr)) (mws E mk mo mm mt mv mx mp mtd mf ms md mdd mn mst mpl mbb ma me mb mba mpg mdi mbl mby mw mz mso mbo mco mcd ml mr) 4 [none, none, some (.int v2), some (.long v3), none] [] :=
  itr2_ind (fun k4 hk4 v2 v3 h => by
    unfold p_X6_widthOf_L4 at h
    refine g_lload_n (pc' := 5) (i := 3) hC dX6_widthOf_4 rfl rfl rfl ?_
    refine g_lconst (pc' := 6) (v := (lN 0)) hC dX6_widthOf_5 (by decide) rfl ?_
    refine g_lcmp_eq (pc' := 10) (tgt := 20) hC dX6_widthOf_6 dX6_widthOf_7 rfl (by decide) rfl h (fun h => ?_) (fun h => ?_)
    · refine g_iload_n (pc' := 21) (i := 2) hC dX6_widthOf_20 rfl rfl rfl ?_
      obtain rfl := inj1 h; exact g_iret hC dX6_widthOf_21
    · refine g_lload_n (pc' := 11) (i := 3) hC dX6_widthOf_10 rfl rfl rfl ?_
      refine g_iconst (pc' := 12) (v := (nI 1)) hC dX6_widthOf_11 (by decide) rfl ?_
      refine g_lushr (pc' := 13) hC dX6_widthOf_12 rfl ?_
      refine g_lstore_n (pc' := 14) (i := 3) (lo' := [none, none, some (.int v2), some (.long (lushr v3 (nI 1))), none]) hC dX6_widthOf_13 rfl rfl rfl rfl rfl ?_
      refine g_iinc (pc' := 17) (i := 2) (x := v2) (k := (nI 1)) (lo' := [none, none, some (.int (v2 + (nI 1))), some (.long (lushr v3 (nI 1))), none]) hC dX6_widthOf_14 rfl (by decide) rfl rfl rfl rfl ?_
      refine g_goto (tgt := 4) hC dX6_widthOf_17 (by decide) ?_
      exact hk4 _ _ h)
set_option maxRecDepth 200000 in
theorem c_X6_widthOf (l : Launch) {E : GE} {rr : Int32} {v0 : Int64}  (h : p_X6_widthOf v0 = some rr) : Met l yX6_widthOf (.code yX6_widthOf cX6_widthOf 5 (some .int) :: gU) rm_X6_widthOf (gP E (mws E mk mo mm mt mv mx mp mtd mf ms md mdd mn mst mpl mbb ma me mb mba mpg mdi mbl mby mw mz mso mbo mco mcd ml mr) [.long v0]) (gQ E (mws E mk mo mm mt mv mx mp mtd mf ms md mdd mn mst mpl mbb ma me mb mba mpg mdi mbl mby mw mz mso mbo mco mcd ml mr) (some (.int rr))) 0 0 E.2.2.1 := by
  refine met_of (y := yX6_widthOf) (own := RX6) (lo := [some (.long v0), none, none, none, none]) (by decide) rfl rfl rfl (fun κ hl hC => ?_)
  subst hl
  unfold p_X6_widthOf at h
  refine g_iconst (pc' := 1) (v := (nI 0)) hC dX6_widthOf_0 (by decide) rfl ?_
  refine g_istore_n (pc' := 2) (i := 2) (lo' := [some (.long v0), none, some (.int (nI 0)), none, none]) hC dX6_widthOf_1 rfl rfl rfl rfl rfl ?_
  refine g_lload_n (pc' := 3) (i := 0) hC dX6_widthOf_2 rfl rfl rfl ?_
  refine g_lstore_n (pc' := 4) (i := 3) (lo' := [some (.long v0), none, some (.int (nI 0)), some (.long v0), none]) hC dX6_widthOf_3 rfl rfl rfl rfl rfl ?_
  refine g_weak (lo' := [none, none, some (.int (nI 0)), some (.long v0), none]) rfl ?_
  refine w_X6_widthOf_L4 hC   _ _ _ h
set_option maxRecDepth 200000 in
theorem w_X6_partWidth_L5 {κ : GK} {E : GE} {rr : Int32} {v1 : Int32} {v2 : Int32}  (hC : gC κ E cX6_partWidth RX6 (some .int) rm_X6_partWidth 5)   : ∀ (n : Nat) (v3 : Int32) (v4 : Int32), itr2 (p_X6_partWidth_L5 v1 v2 mn) n v3 v4 = some rr → GG κ E (mws E mk mo mm mt mv mx mp mtd mf ms md mdd mn mst mpl mbb ma me mb mba mpg mdi mbl mby mw mz mso mbo mco mcd ml mr, some (.int rr)) (mws E mk mo mm mt mv mx mp mtd mf ms md mdd mn mst mpl mbb ma me mb mba mpg mdi mbl mby mw mz mso mbo mco mcd ml mr) 5 [some (.ref (ea E 0)), some (.int v1), some (.int v2), some (.int v3), some (.int v4)] [] :=
  itr2_ind (fun k5 hk5 v3 v4 h => by
    unfold p_X6_partWidth_L5 at h
    refine g_iload (pc' := 7) (i := 4) hC dX6_partWidth_5 rfl rfl ?_
    refine g_iload_n (pc' := 8) (i := 1) hC dX6_partWidth_7 rfl rfl rfl ?_
    refine g_bipush (pc' := 10) (v := (nI 32)) hC dX6_partWidth_8 (by decide) rfl ?_
    refine g_iadd (pc' := 11) hC dX6_partWidth_10 rfl ?_
    refine g_icmp_ge (pc' := 14) (tgt := 55) hC dX6_partWidth_11 (by decide) rfl h (fun h => ?_) (fun h => ?_)
    · refine g_iload (pc' := 16) (i := 4) hC dX6_partWidth_14 rfl rfl ?_
      refine g_iload_n (pc' := 17) (i := 2) hC dX6_partWidth_16 rfl rfl rfl ?_
      refine g_icmp_ge (pc' := 20) (tgt := 55) hC dX6_partWidth_17 (by decide) rfl h (fun h => ?_) (fun h => ?_)
      · refine g_aload_n (pc' := 21) (i := 0) hC dX6_partWidth_20 rfl rfl rfl ?_
        refine gf_X6_42 (pc' := 24) hC dX6_partWidth_21 rfl ?_
        refine g_iload (pc' := 26) (i := 4) hC dX6_partWidth_24 rfl rfl ?_
        obtain ⟨g_1, h⟩ := gd_some h
        refine ld_mn (pc' := 27) hC g_1 dX6_partWidth_26 rfl ?_
        obtain ⟨a_2, hc_3, h⟩ := bd1_some h
        refine g_callS (pc' := 30) hC (c_X6_widthOf _ hc_3) ml_X6_134  (by decide) rfl rfl rfl dX6_partWidth_27 rfl ?_
        refine g_iload_n (pc' := 31) (i := 3) hC dX6_partWidth_30 rfl rfl rfl ?_
        refine g_icmp_le (pc' := 34) (tgt := 47) hC dX6_partWidth_31 (by decide) rfl h (fun h => ?_) (fun h => ?_)
        · refine g_aload_n (pc' := 35) (i := 0) hC dX6_partWidth_34 rfl rfl rfl ?_
          refine gf_X6_42 (pc' := 38) hC dX6_partWidth_35 rfl ?_
          refine g_iload (pc' := 40) (i := 4) hC dX6_partWidth_38 rfl rfl ?_
          obtain ⟨g_4, h⟩ := gd_some h
          refine ld_mn (pc' := 41) hC g_4 dX6_partWidth_40 rfl ?_
          obtain ⟨a_5, hc_6, h⟩ := bd1_some h
          refine g_callS (pc' := 44) hC (c_X6_widthOf _ hc_6) ml_X6_134  (by decide) rfl rfl rfl dX6_partWidth_41 rfl ?_
          refine g_goto (tgt := 48) hC dX6_partWidth_44 (by decide) ?_
          refine g_istore_n (pc' := 49) (i := 3) (lo' := [some (.ref (ea E 0)), some (.int v1), some (.int v2), some (.int a_5), some (.int v4)]) hC dX6_partWidth_48 rfl rfl rfl rfl rfl ?_
          refine g_iinc (pc' := 52) (i := 4) (x := v4) (k := (nI 1)) (lo' := [some (.ref (ea E 0)), some (.int v1), some (.int v2), some (.int a_5), some (.int (v4 + (nI 1)))]) hC dX6_partWidth_49 rfl (by decide) rfl rfl rfl rfl ?_
          refine g_goto (tgt := 5) hC dX6_partWidth_52 (by decide) ?_
          exact hk5 _ _ h
        · refine g_iload_n (pc' := 48) (i := 3) hC dX6_partWidth_47 rfl rfl rfl ?_
          refine g_istore_n (pc' := 49) (i := 3) (lo' := [some (.ref (ea E 0)), some (.int v1), some (.int v2), some (.int v3), some (.int v4)]) hC dX6_partWidth_48 rfl rfl rfl rfl rfl ?_
          refine g_iinc (pc' := 52) (i := 4) (x := v4) (k := (nI 1)) (lo' := [some (.ref (ea E 0)), some (.int v1), some (.int v2), some (.int v3), some (.int (v4 + (nI 1)))]) hC dX6_partWidth_49 rfl (by decide) rfl rfl rfl rfl ?_
          refine g_goto (tgt := 5) hC dX6_partWidth_52 (by decide) ?_
          exact hk5 _ _ h
      · refine g_iload_n (pc' := 56) (i := 3) hC dX6_partWidth_55 rfl rfl rfl ?_
        obtain rfl := inj1 h; exact g_iret hC dX6_partWidth_56
    · refine g_iload_n (pc' := 56) (i := 3) hC dX6_partWidth_55 rfl rfl rfl ?_
      obtain rfl := inj1 h; exact g_iret hC dX6_partWidth_56)
set_option maxRecDepth 200000 in
theorem c_X6_partWidth (l : Launch) {E : GE} {rr : Int32} {v1 : Int32} {v2 : Int32}  (h : p_X6_partWidth v1 v2 mn = some rr) : Met l yX6_partWidth (.code yX6_partWidth cX6_partWidth 5 (some .int) :: gU) rm_X6_partWidth (gP E (mws E mk mo mm mt mv mx mp mtd mf ms md mdd mn mst mpl mbb ma me mb mba mpg mdi mbl mby mw mz mso mbo mco mcd ml mr) [.ref (ea E 0), .int v1, .int v2]) (gQ E (mws E mk mo mm mt mv mx mp mtd mf ms md mdd mn mst mpl mbb ma me mb mba mpg mdi mbl mby mw mz mso mbo mco mcd ml mr) (some (.int rr))) 0 0 E.2.2.1 := by
  refine met_of (y := yX6_partWidth) (own := RX6) (lo := [some (.ref (ea E 0)), some (.int v1), some (.int v2), none, none]) (by decide) rfl rfl rfl (fun κ hl hC => ?_)
  subst hl
  unfold p_X6_partWidth at h
  refine g_iconst (pc' := 1) (v := (nI 0)) hC dX6_partWidth_0 (by decide) rfl ?_
  refine g_istore_n (pc' := 2) (i := 3) (lo' := [some (.ref (ea E 0)), some (.int v1), some (.int v2), some (.int (nI 0)), none]) hC dX6_partWidth_1 rfl rfl rfl rfl rfl ?_
  refine g_iload_n (pc' := 3) (i := 1) hC dX6_partWidth_2 rfl rfl rfl ?_
  refine g_istore (pc' := 5) (i := 4) (lo' := [some (.ref (ea E 0)), some (.int v1), some (.int v2), some (.int (nI 0)), some (.int v1)]) hC dX6_partWidth_3 rfl rfl rfl rfl ?_
  refine w_X6_partWidth_L5 hC   _ _ _ h
set_option maxRecDepth 200000 in
theorem w_X6_differences_L40 {κ : GK} {E : GE} {mdz : Nat → Int32} {mddz : Int32} {mnz : Nat → Int64} {mstz : Nat → Int64} {v1 : Int32} {v2 : Int32} {k99 : (Nat → Int64) → Option ((Nat → Int32) × Int32 × (Nat → Int64) × (Nat → Int64))} (hC : gC κ E cX6_differences RX6 none rm_X6_differences 8)  (hk99 : ∀ (mst : Nat → Int64), k99 mst = some (mdz, mddz, mnz, mstz) → GG κ E (mws E mk mo mm mt mv mx mp mtd mf ms mdz mddz mnz mstz mpl mbb ma me mb mba mpg mdi mbl mby mw mz mso mbo mco mcd ml mr, none) (mws E mk mo mm mt mv mx mp mtd mf ms md mdd mn mst mpl mbb ma me mb mba mpg mdi mbl mby mw mz mso mbo mco mcd ml mr) 99 [some (.ref (ea E 0)), some (.int v1), some (.int v2), none, none, none, none, none] []) : ∀ (n : Nat) (v3 : Int32) (mst : Nat → Int64), itr2 (p_X6_differences_L40 v1 v2 mn k99) n v3 mst = some (mdz, mddz, mnz, mstz) → GG κ E (mws E mk mo mm mt mv mx mp mtd mf ms mdz mddz mnz mstz mpl mbb ma me mb mba mpg mdi mbl mby mw mz mso mbo mco mcd ml mr, none) (mws E mk mo mm mt mv mx mp mtd mf ms md mdd mn mst mpl mbb ma me mb mba mpg mdi mbl mby mw mz mso mbo mco mcd ml mr) 40 [some (.ref (ea E 0)), some (.int v1), some (.int v2), some (.int v3), none, none, none, none] [] :=
  itr2_ind (fun k40 hk40 v3 mst h => by
    unfold p_X6_differences_L40 at h
    refine g_iload_n (pc' := 41) (i := 3) hC dX6_differences_40 rfl rfl rfl ?_
    refine g_iload_n (pc' := 42) (i := 1) hC dX6_differences_41 rfl rfl rfl ?_
    refine g_icmp_ge (pc' := 45) (tgt := 99) hC dX6_differences_42 (by decide) rfl h (fun h => ?_) (fun h => ?_)
    · refine g_aload_n (pc' := 46) (i := 0) hC dX6_differences_45 rfl rfl rfl ?_
      refine gf_X6_45 (pc' := 49) hC dX6_differences_46 rfl ?_
      refine g_iload_n (pc' := 50) (i := 3) hC dX6_differences_49 rfl rfl rfl ?_
      refine g_iconst (pc' := 51) (v := (nI 1)) hC dX6_differences_50 (by decide) rfl ?_
      refine g_isub (pc' := 52) hC dX6_differences_51 rfl ?_
      refine g_iload_n (pc' := 53) (i := 2) hC dX6_differences_52 rfl rfl rfl ?_
      refine g_if_eq (pc' := 56) (tgt := 77) hC dX6_differences_53 (by decide) rfl h (fun h => ?_) (fun h => ?_)
      · refine g_aload_n (pc' := 78) (i := 0) hC dX6_differences_77 rfl rfl rfl ?_
        refine gf_X6_42 (pc' := 81) hC dX6_differences_78 rfl ?_
        refine g_iload_n (pc' := 82) (i := 3) hC dX6_differences_81 rfl rfl rfl ?_
        obtain ⟨g_13, h⟩ := gd_some h
        refine ld_mn (pc' := 83) hC g_13 dX6_differences_82 rfl ?_
        refine g_aload_n (pc' := 84) (i := 0) hC dX6_differences_83 rfl rfl rfl ?_
        refine gf_X6_42 (pc' := 87) hC dX6_differences_84 rfl ?_
        refine g_iload_n (pc' := 88) (i := 3) hC dX6_differences_87 rfl rfl rfl ?_
        refine g_iconst (pc' := 89) (v := (nI 1)) hC dX6_differences_88 (by decide) rfl ?_
        refine g_isub (pc' := 90) hC dX6_differences_89 rfl ?_
        obtain ⟨g_14, h⟩ := gd_some h
        refine ld_mn (pc' := 91) hC g_14 dX6_differences_90 rfl ?_
        refine g_lsub (pc' := 92) hC dX6_differences_91 rfl ?_
        obtain ⟨g_15, h⟩ := gd_some h
        refine st_mst (pc' := 93) hC g_15 dX6_differences_92 rfl ?_
        refine g_iinc (pc' := 96) (i := 3) (x := v3) (k := (nI 1)) (lo' := [some (.ref (ea E 0)), some (.int v1), some (.int v2), some (.int (v3 + (nI 1))), none, none, none, none]) hC dX6_differences_93 rfl (by decide) rfl rfl rfl rfl ?_
        refine g_goto (tgt := 40) hC dX6_differences_96 (by decide) ?_
        exact hk40 _ _ h
      · refine g_aload_n (pc' := 57) (i := 0) hC dX6_differences_56 rfl rfl rfl ?_
        refine gf_X6_42 (pc' := 60) hC dX6_differences_57 rfl ?_
        refine g_iload_n (pc' := 61) (i := 3) hC dX6_differences_60 rfl rfl rfl ?_
        obtain ⟨g_16, h⟩ := gd_some h
        refine ld_mn (pc' := 62) hC g_16 dX6_differences_61 rfl ?_
        refine g_l2i (pc' := 63) hC dX6_differences_62 rfl ?_
        refine g_aload_n (pc' := 64) (i := 0) hC dX6_differences_63 rfl rfl rfl ?_
        refine gf_X6_42 (pc' := 67) hC dX6_differences_64 rfl ?_
        refine g_iload_n (pc' := 68) (i := 3) hC dX6_differences_67 rfl rfl rfl ?_
        refine g_iconst (pc' := 69) (v := (nI 1)) hC dX6_differences_68 (by decide) rfl ?_
        refine g_isub (pc' := 70) hC dX6_differences_69 rfl ?_
        obtain ⟨g_17, h⟩ := gd_some h
        refine ld_mn (pc' := 71) hC g_17 dX6_differences_70 rfl ?_
        refine g_l2i (pc' := 72) hC dX6_differences_71 rfl ?_
        refine g_isub (pc' := 73) hC dX6_differences_72 rfl ?_
        refine g_i2l (pc' := 74) hC dX6_differences_73 rfl ?_
        refine g_goto (tgt := 92) hC dX6_differences_74 (by decide) ?_
        obtain ⟨g_18, h⟩ := gd_some h
        refine st_mst (pc' := 93) hC g_18 dX6_differences_92 rfl ?_
        refine g_iinc (pc' := 96) (i := 3) (x := v3) (k := (nI 1)) (lo' := [some (.ref (ea E 0)), some (.int v1), some (.int v2), some (.int (v3 + (nI 1))), none, none, none, none]) hC dX6_differences_93 rfl (by decide) rfl rfl rfl rfl ?_
        refine g_goto (tgt := 40) hC dX6_differences_96 (by decide) ?_
        exact hk40 _ _ h
    · refine g_weak (lo' := [some (.ref (ea E 0)), some (.int v1), some (.int v2), none, none, none, none, none]) rfl ?_
      exact hk99 _ h)
set_option maxRecDepth 200000 in
theorem w_X6_differences_L143 {κ : GK} {E : GE} {mdz : Nat → Int32} {mddz : Int32} {mnz : Nat → Int64} {mstz : Nat → Int64} {v1 : Int32} {v2 : Int32} {v3 : Int32} {v4 : Int32} {k183 : Int64 → Option ((Nat → Int32) × Int32 × (Nat → Int64) × (Nat → Int64))} (hC : gC κ E cX6_differences RX6 none rm_X6_differences 8)  (hk183 : ∀ (v5 : Int64), k183 v5 = some (mdz, mddz, mnz, mstz) → GG κ E (mws E mk mo mm mt mv mx mp mtd mf ms mdz mddz mnz mstz mpl mbb ma me mb mba mpg mdi mbl mby mw mz mso mbo mco mcd ml mr, none) (mws E mk mo mm mt mv mx mp mtd mf ms md mdd mn mst mpl mbb ma me mb mba mpg mdi mbl mby mw mz mso mbo mco mcd ml mr) 183 [some (.ref (ea E 0)), some (.int v1), some (.int v2), some (.int v3), some (.int v4), some (.long v5), none, none] []) : ∀ (n : Nat) (v5 : Int64) (v7 : Int32), itr2 (p_X6_differences_L143 v4 mst k183) n v5 v7 = some (mdz, mddz, mnz, mstz) → GG κ E (mws E mk mo mm mt mv mx mp mtd mf ms mdz mddz mnz mstz mpl mbb ma me mb mba mpg mdi mbl mby mw mz mso mbo mco mcd ml mr, none) (mws E mk mo mm mt mv mx mp mtd mf ms md mdd mn mst mpl mbb ma me mb mba mpg mdi mbl mby mw mz mso mbo mco mcd ml mr) 143 [some (.ref (ea E 0)), some (.int v1), some (.int v2), some (.int v3), some (.int v4), some (.long v5), none, some (.int v7)] [] :=
  itr2_ind (fun k143 hk143 v5 v7 h => by
    unfold p_X6_differences_L143 at h
    refine g_iload (pc' := 145) (i := 7) hC dX6_differences_143 rfl rfl ?_
    refine g_iload (pc' := 147) (i := 4) hC dX6_differences_145 rfl rfl ?_
    refine g_icmp_ge (pc' := 150) (tgt := 183) hC dX6_differences_147 (by decide) rfl h (fun h => ?_) (fun h => ?_)
    · refine g_aload_n (pc' := 151) (i := 0) hC dX6_differences_150 rfl rfl rfl ?_
      refine gf_X6_45 (pc' := 154) hC dX6_differences_151 rfl ?_
      refine g_iload (pc' := 156) (i := 7) hC dX6_differences_154 rfl rfl ?_
      obtain ⟨g_21, h⟩ := gd_some h
      refine ld_mst (pc' := 157) hC g_21 dX6_differences_156 rfl ?_
      refine g_lload (pc' := 159) (i := 5) hC dX6_differences_157 rfl rfl ?_
      refine g_lcmp_ge (pc' := 163) (tgt := 173) hC dX6_differences_159 dX6_differences_160 rfl (by decide) rfl h (fun h => ?_) (fun h => ?_)
      · refine g_aload_n (pc' := 164) (i := 0) hC dX6_differences_163 rfl rfl rfl ?_
        refine gf_X6_45 (pc' := 167) hC dX6_differences_164 rfl ?_
        refine g_iload (pc' := 169) (i := 7) hC dX6_differences_167 rfl rfl ?_
        obtain ⟨g_22, h⟩ := gd_some h
        refine ld_mst (pc' := 170) hC g_22 dX6_differences_169 rfl ?_
        refine g_goto (tgt := 175) hC dX6_differences_170 (by decide) ?_
        refine g_lstore (pc' := 177) (i := 5) (lo' := [some (.ref (ea E 0)), some (.int v1), some (.int v2), some (.int v3), some (.int v4), some (.long (mst (ix v7))), none, some (.int v7)]) hC dX6_differences_175 rfl rfl rfl rfl ?_
        refine g_iinc (pc' := 180) (i := 7) (x := v7) (k := (nI 1)) (lo' := [some (.ref (ea E 0)), some (.int v1), some (.int v2), some (.int v3), some (.int v4), some (.long (mst (ix v7))), none, some (.int (v7 + (nI 1)))]) hC dX6_differences_177 rfl (by decide) rfl rfl rfl rfl ?_
        refine g_goto (tgt := 143) hC dX6_differences_180 (by decide) ?_
        exact hk143 _ _ h
      · refine g_lload (pc' := 175) (i := 5) hC dX6_differences_173 rfl rfl ?_
        refine g_lstore (pc' := 177) (i := 5) (lo' := [some (.ref (ea E 0)), some (.int v1), some (.int v2), some (.int v3), some (.int v4), some (.long v5), none, some (.int v7)]) hC dX6_differences_175 rfl rfl rfl rfl ?_
        refine g_iinc (pc' := 180) (i := 7) (x := v7) (k := (nI 1)) (lo' := [some (.ref (ea E 0)), some (.int v1), some (.int v2), some (.int v3), some (.int v4), some (.long v5), none, some (.int (v7 + (nI 1)))]) hC dX6_differences_177 rfl (by decide) rfl rfl rfl rfl ?_
        refine g_goto (tgt := 143) hC dX6_differences_180 (by decide) ?_
        exact hk143 _ _ h
    · refine g_weak (lo' := [some (.ref (ea E 0)), some (.int v1), some (.int v2), some (.int v3), some (.int v4), some (.long v5), none, none]) rfl ?_
      exact hk183 _ h)
set_option maxRecDepth 200000 in
theorem w_X6_differences_L192 {κ : GK} {E : GE} {mdz : Nat → Int32} {mddz : Int32} {mnz : Nat → Int64} {mstz : Nat → Int64} {v1 : Int32} {v2 : Int32} {v3 : Int32} {v4 : Int32} {v5 : Int64} {k243 : (Nat → Int64) → Option ((Nat → Int32) × Int32 × (Nat → Int64) × (Nat → Int64))} (hC : gC κ E cX6_differences RX6 none rm_X6_differences 8)  (hk243 : ∀ (mn : Nat → Int64), k243 mn = some (mdz, mddz, mnz, mstz) → GG κ E (mws E mk mo mm mt mv mx mp mtd mf ms mdz mddz mnz mstz mpl mbb ma me mb mba mpg mdi mbl mby mw mz mso mbo mco mcd ml mr, none) (mws E mk mo mm mt mv mx mp mtd mf ms md mdd mn mst mpl mbb ma me mb mba mpg mdi mbl mby mw mz mso mbo mco mcd ml mr) 243 [some (.ref (ea E 0)), some (.int v1), some (.int v2), some (.int v3), some (.int v4), none, none, none] []) : ∀ (n : Nat) (v7 : Int32) (mn : Nat → Int64), itr2 (p_X6_differences_L192 v2 v4 v5 mst k243) n v7 mn = some (mdz, mddz, mnz, mstz) → GG κ E (mws E mk mo mm mt mv mx mp mtd mf ms mdz mddz mnz mstz mpl mbb ma me mb mba mpg mdi mbl mby mw mz mso mbo mco mcd ml mr, none) (mws E mk mo mm mt mv mx mp mtd mf ms md mdd mn mst mpl mbb ma me mb mba mpg mdi mbl mby mw mz mso mbo mco mcd ml mr) 192 [some (.ref (ea E 0)), some (.int v1), some (.int v2), some (.int v3), some (.int v4), some (.long v5), none, some (.int v7)] [] :=
  itr2_ind (fun k192 hk192 v7 mn h => by
    unfold p_X6_differences_L192 at h
    refine g_iload (pc' := 194) (i := 7) hC dX6_differences_192 rfl rfl ?_
    refine g_iload (pc' := 196) (i := 4) hC dX6_differences_194 rfl rfl ?_
    refine g_icmp_ge (pc' := 199) (tgt := 243) hC dX6_differences_196 (by decide) rfl h (fun h => ?_) (fun h => ?_)
    · refine g_aload_n (pc' := 200) (i := 0) hC dX6_differences_199 rfl rfl rfl ?_
      refine gf_X6_42 (pc' := 203) hC dX6_differences_200 rfl ?_
      refine g_iload (pc' := 205) (i := 7) hC dX6_differences_203 rfl rfl ?_
      refine g_iload_n (pc' := 206) (i := 2) hC dX6_differences_205 rfl rfl rfl ?_
      refine g_if_eq (pc' := 209) (tgt := 226) hC dX6_differences_206 (by decide) rfl h (fun h => ?_) (fun h => ?_)
      · refine g_aload_n (pc' := 227) (i := 0) hC dX6_differences_226 rfl rfl rfl ?_
        refine gf_X6_45 (pc' := 230) hC dX6_differences_227 rfl ?_
        refine g_iload (pc' := 232) (i := 7) hC dX6_differences_230 rfl rfl ?_
        obtain ⟨g_27, h⟩ := gd_some h
        refine ld_mst (pc' := 233) hC g_27 dX6_differences_232 rfl ?_
        refine g_lload (pc' := 235) (i := 5) hC dX6_differences_233 rfl rfl ?_
        refine g_lsub (pc' := 236) hC dX6_differences_235 rfl ?_
        obtain ⟨g_28, h⟩ := gd_some h
        refine st_mn (pc' := 237) hC g_28 dX6_differences_236 rfl ?_
        refine g_iinc (pc' := 240) (i := 7) (x := v7) (k := (nI 1)) (lo' := [some (.ref (ea E 0)), some (.int v1), some (.int v2), some (.int v3), some (.int v4), some (.long v5), none, some (.int (v7 + (nI 1)))]) hC dX6_differences_237 rfl (by decide) rfl rfl rfl rfl ?_
        refine g_goto (tgt := 192) hC dX6_differences_240 (by decide) ?_
        exact hk192 _ _ h
      · refine g_aload_n (pc' := 210) (i := 0) hC dX6_differences_209 rfl rfl rfl ?_
        refine gf_X6_45 (pc' := 213) hC dX6_differences_210 rfl ?_
        refine g_iload (pc' := 215) (i := 7) hC dX6_differences_213 rfl rfl ?_
        obtain ⟨g_29, h⟩ := gd_some h
        refine ld_mst (pc' := 216) hC g_29 dX6_differences_215 rfl ?_
        refine g_lload (pc' := 218) (i := 5) hC dX6_differences_216 rfl rfl ?_
        refine g_lsub (pc' := 219) hC dX6_differences_218 rfl ?_
        refine g_ldc2_w (pc' := 222) (v := (lN 4294967295)) hC u_21 dX6_differences_219 rfl ?_
        refine g_land (pc' := 223) hC dX6_differences_222 rfl ?_
        refine g_goto (tgt := 236) hC dX6_differences_223 (by decide) ?_
        obtain ⟨g_30, h⟩ := gd_some h
        refine st_mn (pc' := 237) hC g_30 dX6_differences_236 rfl ?_
        refine g_iinc (pc' := 240) (i := 7) (x := v7) (k := (nI 1)) (lo' := [some (.ref (ea E 0)), some (.int v1), some (.int v2), some (.int v3), some (.int v4), some (.long v5), none, some (.int (v7 + (nI 1)))]) hC dX6_differences_237 rfl (by decide) rfl rfl rfl rfl ?_
        refine g_goto (tgt := 192) hC dX6_differences_240 (by decide) ?_
        exact hk192 _ _ h
    · refine g_weak (lo' := [some (.ref (ea E 0)), some (.int v1), some (.int v2), some (.int v3), some (.int v4), none, none, none]) rfl ?_
      exact hk243 _ h)
set_option maxRecDepth 200000 in
theorem w_X6_differences_L246 {κ : GK} {E : GE} {mdz : Nat → Int32} {mddz : Int32} {mnz : Nat → Int64} {mstz : Nat → Int64} {v1 : Int32} {v2 : Int32} {v3 : Int32} {v4 : Int32} {k275 : (Nat → Int32) → Int32 → Option ((Nat → Int32) × Int32 × (Nat → Int64) × (Nat → Int64))} (hC : gC κ E cX6_differences RX6 none rm_X6_differences 8)  (hk275 : ∀ (md : Nat → Int32) (mdd : Int32), k275 md mdd = some (mdz, mddz, mnz, mstz) → GG κ E (mws E mk mo mm mt mv mx mp mtd mf ms mdz mddz mnz mstz mpl mbb ma me mb mba mpg mdi mbl mby mw mz mso mbo mco mcd ml mr, none) (mws E mk mo mm mt mv mx mp mtd mf ms md mdd mn mst mpl mbb ma me mb mba mpg mdi mbl mby mw mz mso mbo mco mcd ml mr) 275 [some (.ref (ea E 0)), some (.int v1), some (.int v2), some (.int v3), some (.int v4), none, none, none] []) : ∀ (n : Nat) (v7 : Int32) (md : Nat → Int32) (mdd : Int32), itr3 (p_X6_differences_L246 v3 v4 mn k275) n v7 md mdd = some (mdz, mddz, mnz, mstz) → GG κ E (mws E mk mo mm mt mv mx mp mtd mf ms mdz mddz mnz mstz mpl mbb ma me mb mba mpg mdi mbl mby mw mz mso mbo mco mcd ml mr, none) (mws E mk mo mm mt mv mx mp mtd mf ms md mdd mn mst mpl mbb ma me mb mba mpg mdi mbl mby mw mz mso mbo mco mcd ml mr) 246 [some (.ref (ea E 0)), some (.int v1), some (.int v2), some (.int v3), some (.int v4), none, none, some (.int v7)] [] :=
  itr3_ind (fun k246 hk246 v7 md mdd h => by
    unfold p_X6_differences_L246 at h
    refine g_iload (pc' := 248) (i := 7) hC dX6_differences_246 rfl rfl ?_
    refine g_iconst (pc' := 249) (v := (nI 4)) hC dX6_differences_248 (by decide) rfl ?_
    refine g_icmp_ge (pc' := 252) (tgt := 275) hC dX6_differences_249 (by decide) rfl h (fun h => ?_) (fun h => ?_)
    · refine g_aload_n (pc' := 253) (i := 0) hC dX6_differences_252 rfl rfl rfl ?_
      refine g_aload_n (pc' := 254) (i := 0) hC dX6_differences_253 rfl rfl rfl ?_
      refine g_iload_n (pc' := 255) (i := 3) hC dX6_differences_254 rfl rfl rfl ?_
      refine g_bipush (pc' := 257) (v := (nI 32)) hC dX6_differences_255 (by decide) rfl ?_
      refine g_iload (pc' := 259) (i := 7) hC dX6_differences_257 rfl rfl ?_
      refine g_imul (pc' := 260) hC dX6_differences_259 rfl ?_
      refine g_iadd (pc' := 261) hC dX6_differences_260 rfl ?_
      refine g_iload (pc' := 263) (i := 4) hC dX6_differences_261 rfl rfl ?_
      obtain ⟨a_32, hc_33, h⟩ := bd1_some h
      refine g_callV (pc' := 266) hC (c_X6_partWidth _ hc_33) ml_X6_131 (rc_M) (by decide) rfl rfl rfl rfl dX6_differences_263 rfl ?_
      obtain ⟨md_34, mdd_35, hc_36, h⟩ := bd2_some h
      refine g_callV (pc' := 269) hC (c_X6_byteTo _ hc_36) ml_X6_98 (rc_M) (by decide) rfl rfl rfl rfl dX6_differences_266 rfl ?_
      refine g_iinc (pc' := 272) (i := 7) (x := v7) (k := (nI 1)) (lo' := [some (.ref (ea E 0)), some (.int v1), some (.int v2), some (.int v3), some (.int v4), none, none, some (.int (v7 + (nI 1)))]) hC dX6_differences_269 rfl (by decide) rfl rfl rfl rfl ?_
      refine g_goto (tgt := 246) hC dX6_differences_272 (by decide) ?_
      exact hk246 _ _ _ h
    · refine g_weak (lo' := [some (.ref (ea E 0)), some (.int v1), some (.int v2), some (.int v3), some (.int v4), none, none, none]) rfl ?_
      exact hk275 _ _ h)
set_option maxRecDepth 200000 in
theorem w_X6_differences_L278 {κ : GK} {E : GE} {mdz : Nat → Int32} {mddz : Int32} {mnz : Nat → Int64} {mstz : Nat → Int64} {v1 : Int32} {v2 : Int32} {v3 : Int32} {v4 : Int32} {k330 : (Nat → Int32) → Int32 → Option ((Nat → Int32) × Int32 × (Nat → Int64) × (Nat → Int64))} (hC : gC κ E cX6_differences RX6 none rm_X6_differences 8)  (hk330 : ∀ (md : Nat → Int32) (mdd : Int32), k330 md mdd = some (mdz, mddz, mnz, mstz) → GG κ E (mws E mk mo mm mt mv mx mp mtd mf ms mdz mddz mnz mstz mpl mbb ma me mb mba mpg mdi mbl mby mw mz mso mbo mco mcd ml mr, none) (mws E mk mo mm mt mv mx mp mtd mf ms md mdd mn mst mpl mbb ma me mb mba mpg mdi mbl mby mw mz mso mbo mco mcd ml mr) 330 [some (.ref (ea E 0)), some (.int v1), some (.int v2), some (.int v3), none, none, none, none] []) : ∀ (n : Nat) (v7 : Int32) (md : Nat → Int32) (mdd : Int32), itr3 (p_X6_differences_L278 v3 v4 mn k330) n v7 md mdd = some (mdz, mddz, mnz, mstz) → GG κ E (mws E mk mo mm mt mv mx mp mtd mf ms mdz mddz mnz mstz mpl mbb ma me mb mba mpg mdi mbl mby mw mz mso mbo mco mcd ml mr, none) (mws E mk mo mm mt mv mx mp mtd mf ms md mdd mn mst mpl mbb ma me mb mba mpg mdi mbl mby mw mz mso mbo mco mcd ml mr) 278 [some (.ref (ea E 0)), some (.int v1), some (.int v2), some (.int v3), some (.int v4), none, none, some (.int v7)] [] :=
  itr3_ind (fun k278 hk278 v7 md mdd h => by
    unfold p_X6_differences_L278 at h
    refine g_iload (pc' := 280) (i := 7) hC dX6_differences_278 rfl rfl ?_
    refine g_iconst (pc' := 281) (v := (nI 4)) hC dX6_differences_280 (by decide) rfl ?_
    refine g_icmp_ge (pc' := 284) (tgt := 330) hC dX6_differences_281 (by decide) rfl h (fun h => ?_) (fun h => ?_)
    · refine g_iload_n (pc' := 285) (i := 3) hC dX6_differences_284 rfl rfl rfl ?_
      refine g_bipush (pc' := 287) (v := (nI 32)) hC dX6_differences_285 (by decide) rfl ?_
      refine g_iload (pc' := 289) (i := 7) hC dX6_differences_287 rfl rfl ?_
      refine g_imul (pc' := 290) hC dX6_differences_289 rfl ?_
      refine g_iadd (pc' := 291) hC dX6_differences_290 rfl ?_
      refine g_iload (pc' := 293) (i := 4) hC dX6_differences_291 rfl rfl ?_
      refine g_icmp_ge (pc' := 296) (tgt := 324) hC dX6_differences_293 (by decide) rfl h (fun h => ?_) (fun h => ?_)
      · refine g_aload_n (pc' := 297) (i := 0) hC dX6_differences_296 rfl rfl rfl ?_
        refine g_iload_n (pc' := 298) (i := 3) hC dX6_differences_297 rfl rfl rfl ?_
        refine g_bipush (pc' := 300) (v := (nI 32)) hC dX6_differences_298 (by decide) rfl ?_
        refine g_iload (pc' := 302) (i := 7) hC dX6_differences_300 rfl rfl ?_
        refine g_imul (pc' := 303) hC dX6_differences_302 rfl ?_
        refine g_iadd (pc' := 304) hC dX6_differences_303 rfl ?_
        refine g_bipush (pc' := 306) (v := (nI 32)) hC dX6_differences_304 (by decide) rfl ?_
        refine g_iload (pc' := 308) (i := 4) hC dX6_differences_306 rfl rfl ?_
        refine g_aload_n (pc' := 309) (i := 0) hC dX6_differences_308 rfl rfl rfl ?_
        refine g_iload_n (pc' := 310) (i := 3) hC dX6_differences_309 rfl rfl rfl ?_
        refine g_bipush (pc' := 312) (v := (nI 32)) hC dX6_differences_310 (by decide) rfl ?_
        refine g_iload (pc' := 314) (i := 7) hC dX6_differences_312 rfl rfl ?_
        refine g_imul (pc' := 315) hC dX6_differences_314 rfl ?_
        refine g_iadd (pc' := 316) hC dX6_differences_315 rfl ?_
        refine g_iload (pc' := 318) (i := 4) hC dX6_differences_316 rfl rfl ?_
        obtain ⟨a_39, hc_40, h⟩ := bd1_some h
        refine g_callV (pc' := 321) hC (c_X6_partWidth _ hc_40) ml_X6_131 (rc_M) (by decide) rfl rfl rfl rfl dX6_differences_318 rfl ?_
        obtain ⟨md_41, mdd_42, hc_43, h⟩ := bd2_some h
        refine g_callV (pc' := 324) hC (c_X6_pack _ hc_43) ml_X6_120 (rc_M) (by decide) rfl rfl rfl rfl dX6_differences_321 rfl ?_
        refine g_iinc (pc' := 327) (i := 7) (x := v7) (k := (nI 1)) (lo' := [some (.ref (ea E 0)), some (.int v1), some (.int v2), some (.int v3), some (.int v4), none, none, some (.int (v7 + (nI 1)))]) hC dX6_differences_324 rfl (by decide) rfl rfl rfl rfl ?_
        refine g_goto (tgt := 278) hC dX6_differences_327 (by decide) ?_
        exact hk278 _ _ _ h
      · refine g_iinc (pc' := 327) (i := 7) (x := v7) (k := (nI 1)) (lo' := [some (.ref (ea E 0)), some (.int v1), some (.int v2), some (.int v3), some (.int v4), none, none, some (.int (v7 + (nI 1)))]) hC dX6_differences_324 rfl (by decide) rfl rfl rfl rfl ?_
        refine g_goto (tgt := 278) hC dX6_differences_327 (by decide) ?_
        exact hk278 _ _ _ h
    · refine g_weak (lo' := [some (.ref (ea E 0)), some (.int v1), some (.int v2), some (.int v3), none, none, none, none]) rfl ?_
      exact hk330 _ _ h)
set_option maxRecDepth 200000 in
theorem w_X6_differences_L101 {κ : GK} {E : GE} {mdz : Nat → Int32} {mddz : Int32} {mnz : Nat → Int64} {mstz : Nat → Int64} {v1 : Int32} {v2 : Int32}  (hC : gC κ E cX6_differences RX6 none rm_X6_differences 8)   : ∀ (n : Nat) (v3 : Int32) (md : Nat → Int32) (mdd : Int32) (mn : Nat → Int64), itr4 (p_X6_differences_L101 v1 v2 mst) n v3 md mdd mn = some (mdz, mddz, mnz, mstz) → GG κ E (mws E mk mo mm mt mv mx mp mtd mf ms mdz mddz mnz mstz mpl mbb ma me mb mba mpg mdi mbl mby mw mz mso mbo mco mcd ml mr, none) (mws E mk mo mm mt mv mx mp mtd mf ms md mdd mn mst mpl mbb ma me mb mba mpg mdi mbl mby mw mz mso mbo mco mcd ml mr) 101 [some (.ref (ea E 0)), some (.int v1), some (.int v2), some (.int v3), none, none, none, none] [] :=
  itr4_ind (fun k101 hk101 v3 md mdd mn h => by
    unfold p_X6_differences_L101 at h
    refine g_iload_n (pc' := 102) (i := 3) hC dX6_differences_101 rfl rfl rfl ?_
    refine g_iload_n (pc' := 103) (i := 1) hC dX6_differences_102 rfl rfl rfl ?_
    refine g_iconst (pc' := 104) (v := (nI 1)) hC dX6_differences_103 (by decide) rfl ?_
    refine g_isub (pc' := 105) hC dX6_differences_104 rfl ?_
    refine g_icmp_ge (pc' := 108) (tgt := 339) hC dX6_differences_105 (by decide) rfl h (fun h => ?_) (fun h => ?_)
    · refine g_iload_n (pc' := 109) (i := 3) hC dX6_differences_108 rfl rfl rfl ?_
      refine g_sipush (pc' := 112) (v := (nI 128)) hC dX6_differences_109 (by decide) rfl ?_
      refine g_iadd (pc' := 113) hC dX6_differences_112 rfl ?_
      refine g_iload_n (pc' := 114) (i := 1) hC dX6_differences_113 rfl rfl rfl ?_
      refine g_iconst (pc' := 115) (v := (nI 1)) hC dX6_differences_114 (by decide) rfl ?_
      refine g_isub (pc' := 116) hC dX6_differences_115 rfl ?_
      refine g_icmp_ge (pc' := 119) (tgt := 127) hC dX6_differences_116 (by decide) rfl h (fun h => ?_) (fun h => ?_)
      · refine g_iload_n (pc' := 120) (i := 3) hC dX6_differences_119 rfl rfl rfl ?_
        refine g_sipush (pc' := 123) (v := (nI 128)) hC dX6_differences_120 (by decide) rfl ?_
        refine g_iadd (pc' := 124) hC dX6_differences_123 rfl ?_
        refine g_goto (tgt := 130) hC dX6_differences_124 (by decide) ?_
        refine g_istore (pc' := 132) (i := 4) (lo' := [some (.ref (ea E 0)), some (.int v1), some (.int v2), some (.int v3), some (.int (v3 + (nI 128))), none, none, none]) hC dX6_differences_130 rfl rfl rfl rfl ?_
        refine g_aload_n (pc' := 133) (i := 0) hC dX6_differences_132 rfl rfl rfl ?_
        refine gf_X6_45 (pc' := 136) hC dX6_differences_133 rfl ?_
        refine g_iload_n (pc' := 137) (i := 3) hC dX6_differences_136 rfl rfl rfl ?_
        obtain ⟨g_20, h⟩ := gd_some h
        refine ld_mst (pc' := 138) hC g_20 dX6_differences_137 rfl ?_
        refine g_lstore (pc' := 140) (i := 5) (lo' := [some (.ref (ea E 0)), some (.int v1), some (.int v2), some (.int v3), some (.int (v3 + (nI 128))), some (.long (mst (ix v3))), none, none]) hC dX6_differences_138 rfl rfl rfl rfl ?_
        refine g_iload_n (pc' := 141) (i := 3) hC dX6_differences_140 rfl rfl rfl ?_
        refine g_istore (pc' := 143) (i := 7) (lo' := [some (.ref (ea E 0)), some (.int v1), some (.int v2), some (.int v3), some (.int (v3 + (nI 128))), some (.long (mst (ix v3))), none, some (.int v3)]) hC dX6_differences_141 rfl rfl rfl rfl ?_
        refine w_X6_differences_L143 hC  ?_ _ _ _ h
        · intro v5_23 h
          refine g_aload_n (pc' := 184) (i := 0) hC dX6_differences_183 rfl rfl rfl ?_
          refine g_lload (pc' := 186) (i := 5) hC dX6_differences_184 rfl rfl ?_
          obtain ⟨md_24, mdd_25, hc_26, h⟩ := bd2_some h
          refine g_callV (pc' := 189) hC (c_X6_zig _ hc_26) ml_X6_126 (rc_M) (by decide) rfl rfl rfl rfl dX6_differences_186 rfl ?_
          refine g_iload_n (pc' := 190) (i := 3) hC dX6_differences_189 rfl rfl rfl ?_
          refine g_istore (pc' := 192) (i := 7) (lo' := [some (.ref (ea E 0)), some (.int v1), some (.int v2), some (.int v3), some (.int (v3 + (nI 128))), some (.long v5_23), none, some (.int v3)]) hC dX6_differences_190 rfl rfl rfl rfl ?_
          refine w_X6_differences_L192 hC  ?_ _ _ _ h
          · intro mn_31 h
            refine g_iconst (pc' := 244) (v := (nI 0)) hC dX6_differences_243 (by decide) rfl ?_
            refine g_istore (pc' := 246) (i := 7) (lo' := [some (.ref (ea E 0)), some (.int v1), some (.int v2), some (.int v3), some (.int (v3 + (nI 128))), none, none, some (.int (nI 0))]) hC dX6_differences_244 rfl rfl rfl rfl ?_
            refine w_X6_differences_L246 hC  ?_ _ _ _ _ h
            · intro md_37 mdd_38 h
              refine g_iconst (pc' := 276) (v := (nI 0)) hC dX6_differences_275 (by decide) rfl ?_
              refine g_istore (pc' := 278) (i := 7) (lo' := [some (.ref (ea E 0)), some (.int v1), some (.int v2), some (.int v3), some (.int (v3 + (nI 128))), none, none, some (.int (nI 0))]) hC dX6_differences_276 rfl rfl rfl rfl ?_
              refine w_X6_differences_L278 hC  ?_ _ _ _ _ h
              · intro md_44 mdd_45 h
                refine g_iincW (pc' := 336) (i := 3) (x := v3) (k := (nI 128)) (lo' := [some (.ref (ea E 0)), some (.int v1), some (.int v2), some (.int (v3 + (nI 128))), none, none, none, none]) hC dX6_differences_330 rfl (by decide) rfl rfl rfl rfl ?_
                refine g_goto (tgt := 101) hC dX6_differences_336 (by decide) ?_
                exact hk101 _ _ _ _ h
      · refine g_iload_n (pc' := 128) (i := 1) hC dX6_differences_127 rfl rfl rfl ?_
        refine g_iconst (pc' := 129) (v := (nI 1)) hC dX6_differences_128 (by decide) rfl ?_
        refine g_isub (pc' := 130) hC dX6_differences_129 rfl ?_
        refine g_istore (pc' := 132) (i := 4) (lo' := [some (.ref (ea E 0)), some (.int v1), some (.int v2), some (.int v3), some (.int (v1 - (nI 1))), none, none, none]) hC dX6_differences_130 rfl rfl rfl rfl ?_
        refine g_aload_n (pc' := 133) (i := 0) hC dX6_differences_132 rfl rfl rfl ?_
        refine gf_X6_45 (pc' := 136) hC dX6_differences_133 rfl ?_
        refine g_iload_n (pc' := 137) (i := 3) hC dX6_differences_136 rfl rfl rfl ?_
        obtain ⟨g_46, h⟩ := gd_some h
        refine ld_mst (pc' := 138) hC g_46 dX6_differences_137 rfl ?_
        refine g_lstore (pc' := 140) (i := 5) (lo' := [some (.ref (ea E 0)), some (.int v1), some (.int v2), some (.int v3), some (.int (v1 - (nI 1))), some (.long (mst (ix v3))), none, none]) hC dX6_differences_138 rfl rfl rfl rfl ?_
        refine g_iload_n (pc' := 141) (i := 3) hC dX6_differences_140 rfl rfl rfl ?_
        refine g_istore (pc' := 143) (i := 7) (lo' := [some (.ref (ea E 0)), some (.int v1), some (.int v2), some (.int v3), some (.int (v1 - (nI 1))), some (.long (mst (ix v3))), none, some (.int v3)]) hC dX6_differences_141 rfl rfl rfl rfl ?_
        refine w_X6_differences_L143 hC  ?_ _ _ _ h
        · intro v5_47 h
          refine g_aload_n (pc' := 184) (i := 0) hC dX6_differences_183 rfl rfl rfl ?_
          refine g_lload (pc' := 186) (i := 5) hC dX6_differences_184 rfl rfl ?_
          obtain ⟨md_48, mdd_49, hc_50, h⟩ := bd2_some h
          refine g_callV (pc' := 189) hC (c_X6_zig _ hc_50) ml_X6_126 (rc_M) (by decide) rfl rfl rfl rfl dX6_differences_186 rfl ?_
          refine g_iload_n (pc' := 190) (i := 3) hC dX6_differences_189 rfl rfl rfl ?_
          refine g_istore (pc' := 192) (i := 7) (lo' := [some (.ref (ea E 0)), some (.int v1), some (.int v2), some (.int v3), some (.int (v1 - (nI 1))), some (.long v5_47), none, some (.int v3)]) hC dX6_differences_190 rfl rfl rfl rfl ?_
          refine w_X6_differences_L192 hC  ?_ _ _ _ h
          · intro mn_51 h
            refine g_iconst (pc' := 244) (v := (nI 0)) hC dX6_differences_243 (by decide) rfl ?_
            refine g_istore (pc' := 246) (i := 7) (lo' := [some (.ref (ea E 0)), some (.int v1), some (.int v2), some (.int v3), some (.int (v1 - (nI 1))), none, none, some (.int (nI 0))]) hC dX6_differences_244 rfl rfl rfl rfl ?_
            refine w_X6_differences_L246 hC  ?_ _ _ _ _ h
            · intro md_52 mdd_53 h
              refine g_iconst (pc' := 276) (v := (nI 0)) hC dX6_differences_275 (by decide) rfl ?_
              refine g_istore (pc' := 278) (i := 7) (lo' := [some (.ref (ea E 0)), some (.int v1), some (.int v2), some (.int v3), some (.int (v1 - (nI 1))), none, none, some (.int (nI 0))]) hC dX6_differences_276 rfl rfl rfl rfl ?_
              refine w_X6_differences_L278 hC  ?_ _ _ _ _ h
              · intro md_54 mdd_55 h
                refine g_iincW (pc' := 336) (i := 3) (x := v3) (k := (nI 128)) (lo' := [some (.ref (ea E 0)), some (.int v1), some (.int v2), some (.int (v3 + (nI 128))), none, none, none, none]) hC dX6_differences_330 rfl (by decide) rfl rfl rfl rfl ?_
                refine g_goto (tgt := 101) hC dX6_differences_336 (by decide) ?_
                exact hk101 _ _ _ _ h
    · obtain ⟨rfl, rfl, rfl, rfl⟩ := inj4 h; exact g_vret hC dX6_differences_339)
set_option maxRecDepth 200000 in
theorem c_X6_differences (l : Launch) {E : GE} {mdz : Nat → Int32} {mddz : Int32} {mnz : Nat → Int64} {mstz : Nat → Int64} {v1 : Int32} {v2 : Int32}  (h : p_X6_differences v1 v2 md mdd mn mst = some (mdz, mddz, mnz, mstz)) : Met l yX6_differences (.code yX6_differences cX6_differences 8 none :: gU) rm_X6_differences (gP E (mws E mk mo mm mt mv mx mp mtd mf ms md mdd mn mst mpl mbb ma me mb mba mpg mdi mbl mby mw mz mso mbo mco mcd ml mr) [.ref (ea E 0), .int v1, .int v2]) (gQ E (mws E mk mo mm mt mv mx mp mtd mf ms mdz mddz mnz mstz mpl mbb ma me mb mba mpg mdi mbl mby mw mz mso mbo mco mcd ml mr) none) 0 0 E.2.2.1 := by
  refine met_of (y := yX6_differences) (own := RX6) (lo := [some (.ref (ea E 0)), some (.int v1), some (.int v2), none, none, none, none, none]) (by decide) rfl rfl rfl (fun κ hl hC => ?_)
  subst hl
  unfold p_X6_differences at h
  refine g_aload_n (pc' := 1) (i := 0) hC dX6_differences_0 rfl rfl rfl ?_
  refine g_ldc2_w (pc' := 4) (v := (lN 128)) hC u_20 dX6_differences_1 rfl ?_
  obtain ⟨md_1, mdd_2, hc_3, h⟩ := bd2_some h
  refine g_callV (pc' := 7) hC (c_X6_var _ hc_3) ml_X6_106 (rc_M) (by decide) rfl rfl rfl rfl dX6_differences_4 rfl ?_
  refine g_aload_n (pc' := 8) (i := 0) hC dX6_differences_7 rfl rfl rfl ?_
  refine g_ldc2_w (pc' := 11) (v := (lN 4)) hC u_16 dX6_differences_8 rfl ?_
  obtain ⟨md_4, mdd_5, hc_6, h⟩ := bd2_some h
  refine g_callV (pc' := 14) hC (c_X6_var _ hc_6) ml_X6_106 (rc_M) (by decide) rfl rfl rfl rfl dX6_differences_11 rfl ?_
  refine g_aload_n (pc' := 15) (i := 0) hC dX6_differences_14 rfl rfl rfl ?_
  refine g_iload_n (pc' := 16) (i := 1) hC dX6_differences_15 rfl rfl rfl ?_
  refine g_i2l (pc' := 17) hC dX6_differences_16 rfl ?_
  obtain ⟨md_7, mdd_8, hc_9, h⟩ := bd2_some h
  refine g_callV (pc' := 20) hC (c_X6_var _ hc_9) ml_X6_106 (rc_M) (by decide) rfl rfl rfl rfl dX6_differences_17 rfl ?_
  refine g_aload_n (pc' := 21) (i := 0) hC dX6_differences_20 rfl rfl rfl ?_
  refine g_iload_n (pc' := 22) (i := 1) hC dX6_differences_21 rfl rfl rfl ?_
  refine g_if_ne (pc' := 25) (tgt := 29) hC dX6_differences_22 (by decide) rfl h (fun h => ?_) (fun h => ?_)
  · refine g_lconst (pc' := 26) (v := (lN 0)) hC dX6_differences_25 (by decide) rfl ?_
    refine g_goto (tgt := 35) hC dX6_differences_26 (by decide) ?_
    obtain ⟨md_10, mdd_11, hc_12, h⟩ := bd2_some h
    refine g_callV (pc' := 38) hC (c_X6_zig _ hc_12) ml_X6_126 (rc_M) (by decide) rfl rfl rfl rfl dX6_differences_35 rfl ?_
    refine g_iconst (pc' := 39) (v := (nI 1)) hC dX6_differences_38 (by decide) rfl ?_
    refine g_istore_n (pc' := 40) (i := 3) (lo' := [some (.ref (ea E 0)), some (.int v1), some (.int v2), some (.int (nI 1)), none, none, none, none]) hC dX6_differences_39 rfl rfl rfl rfl rfl ?_
    refine w_X6_differences_L40 hC  ?_ _ _ _ h
    · intro mst_19 h
      refine g_iconst (pc' := 100) (v := (nI 0)) hC dX6_differences_99 (by decide) rfl ?_
      refine g_istore_n (pc' := 101) (i := 3) (lo' := [some (.ref (ea E 0)), some (.int v1), some (.int v2), some (.int (nI 0)), none, none, none, none]) hC dX6_differences_100 rfl rfl rfl rfl rfl ?_
      refine w_X6_differences_L101 hC   _ _ _ _ _ h
  · refine g_aload_n (pc' := 30) (i := 0) hC dX6_differences_29 rfl rfl rfl ?_
    refine gf_X6_42 (pc' := 33) hC dX6_differences_30 rfl ?_
    refine g_iconst (pc' := 34) (v := (nI 0)) hC dX6_differences_33 (by decide) rfl ?_
    obtain ⟨g_56, h⟩ := gd_some h
    refine ld_mn (pc' := 35) hC g_56 dX6_differences_34 rfl ?_
    obtain ⟨md_57, mdd_58, hc_59, h⟩ := bd2_some h
    refine g_callV (pc' := 38) hC (c_X6_zig _ hc_59) ml_X6_126 (rc_M) (by decide) rfl rfl rfl rfl dX6_differences_35 rfl ?_
    refine g_iconst (pc' := 39) (v := (nI 1)) hC dX6_differences_38 (by decide) rfl ?_
    refine g_istore_n (pc' := 40) (i := 3) (lo' := [some (.ref (ea E 0)), some (.int v1), some (.int v2), some (.int (nI 1)), none, none, none, none]) hC dX6_differences_39 rfl rfl rfl rfl rfl ?_
    refine w_X6_differences_L40 hC  ?_ _ _ _ h
    · intro mst_60 h
      refine g_iconst (pc' := 100) (v := (nI 0)) hC dX6_differences_99 (by decide) rfl ?_
      refine g_istore_n (pc' := 101) (i := 3) (lo' := [some (.ref (ea E 0)), some (.int v1), some (.int v2), some (.int (nI 0)), none, none, none, none]) hC dX6_differences_100 rfl rfl rfl rfl rfl ?_
      refine w_X6_differences_L101 hC   _ _ _ _ _ h
set_option maxRecDepth 200000 in
theorem w_X6_letters_L2 {κ : GK} {E : GE} {mdz : Nat → Int32} {mddz : Int32} {v1 : Int32}  (hC : gC κ E cX6_letters RX6 none rm_X6_letters 3)   : ∀ (n : Nat) (v2 : Int32) (md : Nat → Int32) (mdd : Int32), itr3 (p_X6_letters_L2 v1 mv mx) n v2 md mdd = some (mdz, mddz) → GG κ E (mws E mk mo mm mt mv mx mp mtd mf ms mdz mddz mn mst mpl mbb ma me mb mba mpg mdi mbl mby mw mz mso mbo mco mcd ml mr, none) (mws E mk mo mm mt mv mx mp mtd mf ms md mdd mn mst mpl mbb ma me mb mba mpg mdi mbl mby mw mz mso mbo mco mcd ml mr) 2 [some (.ref (ea E 0)), some (.int v1), some (.int v2)] [] :=
  itr3_ind (fun k2 hk2 v2 md mdd h => by
    unfold p_X6_letters_L2 at h
    refine g_iload_n (pc' := 3) (i := 2) hC dX6_letters_2 rfl rfl rfl ?_
    refine g_i2l (pc' := 4) hC dX6_letters_3 rfl ?_
    refine g_aload_n (pc' := 5) (i := 0) hC dX6_letters_4 rfl rfl rfl ?_
    refine gf_X6_23 (pc' := 8) hC dX6_letters_5 rfl ?_
    refine g_iload_n (pc' := 9) (i := 1) hC dX6_letters_8 rfl rfl rfl ?_
    obtain ⟨g_1, h⟩ := gd_some h
    refine ld_mv (pc' := 10) hC g_1 dX6_letters_9 rfl ?_
    refine g_lcmp_ge (pc' := 14) (tgt := 35) hC dX6_letters_10 dX6_letters_11 rfl (by decide) rfl h (fun h => ?_) (fun h => ?_)
    · refine g_aload_n (pc' := 15) (i := 0) hC dX6_letters_14 rfl rfl rfl ?_
      refine g_aload_n (pc' := 16) (i := 0) hC dX6_letters_15 rfl rfl rfl ?_
      refine gf_X6_28 (pc' := 19) hC dX6_letters_16 rfl ?_
      refine g_bipush (pc' := 21) (v := (nI 40)) hC dX6_letters_19 (by decide) rfl ?_
      refine g_iload_n (pc' := 22) (i := 1) hC dX6_letters_21 rfl rfl rfl ?_
      refine g_imul (pc' := 23) hC dX6_letters_22 rfl ?_
      refine g_iload_n (pc' := 24) (i := 2) hC dX6_letters_23 rfl rfl rfl ?_
      refine g_iadd (pc' := 25) hC dX6_letters_24 rfl ?_
      obtain ⟨g_2, h⟩ := gd_some h
      refine ld_mx (pc' := 26) hC g_2 dX6_letters_25 rfl ?_
      obtain ⟨md_3, mdd_4, hc_5, h⟩ := bd2_some h
      refine g_callV (pc' := 29) hC (c_X6_byteTo _ hc_5) ml_X6_98 (rc_M) (by decide) rfl rfl rfl rfl dX6_letters_26 rfl ?_
      refine g_iinc (pc' := 32) (i := 2) (x := v2) (k := (nI 1)) (lo' := [some (.ref (ea E 0)), some (.int v1), some (.int (v2 + (nI 1)))]) hC dX6_letters_29 rfl (by decide) rfl rfl rfl rfl ?_
      refine g_goto (tgt := 2) hC dX6_letters_32 (by decide) ?_
      exact hk2 _ _ _ h
    · obtain ⟨rfl, rfl⟩ := inj2 h; exact g_vret hC dX6_letters_35)
set_option maxRecDepth 200000 in
theorem c_X6_letters (l : Launch) {E : GE} {mdz : Nat → Int32} {mddz : Int32} {v1 : Int32}  (h : p_X6_letters v1 mv mx md mdd = some (mdz, mddz)) : Met l yX6_letters (.code yX6_letters cX6_letters 3 none :: gU) rm_X6_letters (gP E (mws E mk mo mm mt mv mx mp mtd mf ms md mdd mn mst mpl mbb ma me mb mba mpg mdi mbl mby mw mz mso mbo mco mcd ml mr) [.ref (ea E 0), .int v1]) (gQ E (mws E mk mo mm mt mv mx mp mtd mf ms mdz mddz mn mst mpl mbb ma me mb mba mpg mdi mbl mby mw mz mso mbo mco mcd ml mr) none) 0 0 E.2.2.1 := by
  refine met_of (y := yX6_letters) (own := RX6) (lo := [some (.ref (ea E 0)), some (.int v1), none]) (by decide) rfl rfl rfl (fun κ hl hC => ?_)
  subst hl
  unfold p_X6_letters at h
  refine g_iconst (pc' := 1) (v := (nI 0)) hC dX6_letters_0 (by decide) rfl ?_
  refine g_istore_n (pc' := 2) (i := 2) (lo' := [some (.ref (ea E 0)), some (.int v1), some (.int (nI 0))]) hC dX6_letters_1 rfl rfl rfl rfl rfl ?_
  refine w_X6_letters_L2 hC   _ _ _ _ h
set_option maxRecDepth 200000 in
theorem c_X6_plain (l : Launch) {E : GE} {mdz : Nat → Int32} {mddz : Int32} {v1 : Int32} {v2 : Int32}  (h : p_X6_plain v1 v2 mv mx md mdd = some (mdz, mddz)) : Met l yX6_plain (.code yX6_plain cX6_plain 3 none :: gU) rm_X6_plain (gP E (mws E mk mo mm mt mv mx mp mtd mf ms md mdd mn mst mpl mbb ma me mb mba mpg mdi mbl mby mw mz mso mbo mco mcd ml mr) [.ref (ea E 0), .int v1, .int v2]) (gQ E (mws E mk mo mm mt mv mx mp mtd mf ms mdz mddz mn mst mpl mbb ma me mb mba mpg mdi mbl mby mw mz mso mbo mco mcd ml mr) none) 0 0 E.2.2.1 := by
  refine met_of (y := yX6_plain) (own := RX6) (lo := [some (.ref (ea E 0)), some (.int v1), some (.int v2)]) (by decide) rfl rfl rfl (fun κ hl hC => ?_)
  subst hl
  unfold p_X6_plain at h
  refine g_iload_n (pc' := 1) (i := 2) hC dX6_plain_0 rfl rfl rfl ?_
  refine g_iconst (pc' := 2) (v := (nI 2)) hC dX6_plain_1 (by decide) rfl ?_
  refine g_icmp_ne (pc' := 5) (tgt := 24) hC dX6_plain_2 (by decide) rfl h (fun h => ?_) (fun h => ?_)
  · refine g_aload_n (pc' := 6) (i := 0) hC dX6_plain_5 rfl rfl rfl ?_
    refine g_aload_n (pc' := 7) (i := 0) hC dX6_plain_6 rfl rfl rfl ?_
    refine gf_X6_23 (pc' := 10) hC dX6_plain_7 rfl ?_
    refine g_iload_n (pc' := 11) (i := 1) hC dX6_plain_10 rfl rfl rfl ?_
    obtain ⟨g_1, h⟩ := gd_some h
    refine ld_mv (pc' := 12) hC g_1 dX6_plain_11 rfl ?_
    refine g_iconst (pc' := 13) (v := (nI 4)) hC dX6_plain_12 (by decide) rfl ?_
    obtain ⟨md_2, mdd_3, hc_4, h⟩ := bd2_some h
    refine g_callV (pc' := 16) hC (c_X6_bytesTo _ hc_4) ml_X6_116 (rc_M) (by decide) rfl rfl rfl rfl dX6_plain_13 rfl ?_
    refine g_aload_n (pc' := 17) (i := 0) hC dX6_plain_16 rfl rfl rfl ?_
    refine g_iload_n (pc' := 18) (i := 1) hC dX6_plain_17 rfl rfl rfl ?_
    obtain ⟨md_5, mdd_6, hc_7, h⟩ := bd2_some h
    refine g_callV (pc' := 21) hC (c_X6_letters _ hc_7) ml_X6_138 (rc_M) (by decide) rfl rfl rfl rfl dX6_plain_18 rfl ?_
    refine g_goto (tgt := 44) hC dX6_plain_21 (by decide) ?_
    obtain ⟨rfl, rfl⟩ := inj2 h; exact g_vret hC dX6_plain_44
  · refine g_aload_n (pc' := 25) (i := 0) hC dX6_plain_24 rfl rfl rfl ?_
    refine g_aload_n (pc' := 26) (i := 0) hC dX6_plain_25 rfl rfl rfl ?_
    refine gf_X6_23 (pc' := 29) hC dX6_plain_26 rfl ?_
    refine g_iload_n (pc' := 30) (i := 1) hC dX6_plain_29 rfl rfl rfl ?_
    obtain ⟨g_8, h⟩ := gd_some h
    refine ld_mv (pc' := 31) hC g_8 dX6_plain_30 rfl ?_
    refine g_iload_n (pc' := 32) (i := 2) hC dX6_plain_31 rfl rfl rfl ?_
    refine g_if_ne (pc' := 35) (tgt := 39) hC dX6_plain_32 (by decide) rfl h (fun h => ?_) (fun h => ?_)
    · refine g_iconst (pc' := 36) (v := (nI 4)) hC dX6_plain_35 (by decide) rfl ?_
      refine g_goto (tgt := 41) hC dX6_plain_36 (by decide) ?_
      obtain ⟨md_9, mdd_10, hc_11, h⟩ := bd2_some h
      refine g_callV (pc' := 44) hC (c_X6_bytesTo _ hc_11) ml_X6_116 (rc_M) (by decide) rfl rfl rfl rfl dX6_plain_41 rfl ?_
      obtain ⟨rfl, rfl⟩ := inj2 h; exact g_vret hC dX6_plain_44
    · refine g_bipush (pc' := 41) (v := (nI 8)) hC dX6_plain_39 (by decide) rfl ?_
      obtain ⟨md_12, mdd_13, hc_14, h⟩ := bd2_some h
      refine g_callV (pc' := 44) hC (c_X6_bytesTo _ hc_14) ml_X6_116 (rc_M) (by decide) rfl rfl rfl rfl dX6_plain_41 rfl ?_
      obtain ⟨rfl, rfl⟩ := inj2 h; exact g_vret hC dX6_plain_44
set_option maxRecDepth 200000 in
theorem w_X6_head_J48 {κ : GK} {E : GE} {mdz : Nat → Int32} {mddz : Int32} {v3 : Int32} {v4 : Int32} {s1 : Int32}  (hC : gC κ E cX6_head RX6 none rm_X6_head 5)   (h : p_X6_head_J48 v3 v4 s1 md mdd = some (mdz, mddz)) : GG κ E (mws E mk mo mm mt mv mx mp mtd mf ms mdz mddz mn mst mpl mbb ma me mb mba mpg mdi mbl mby mw mz mso mbo mco mcd ml mr, none) (mws E mk mo mm mt mv mx mp mtd mf ms md mdd mn mst mpl mbb ma me mb mba mpg mdi mbl mby mw mz mso mbo mco mcd ml mr) 48 [some (.ref (ea E 0)), none, none, some (.int v3), some (.int v4)] [.int s1, .ref (ea E 0)] := by
  unfold p_X6_head_J48 at h
  obtain ⟨md_19, mdd_20, hc_21, h⟩ := bd2_some h
  refine g_callV (pc' := 51) hC (c_X6_byteTo _ hc_21) ml_X6_98 (rc_M) (by decide) rfl rfl rfl rfl dX6_head_48 rfl ?_
  refine g_aload_n (pc' := 52) (i := 0) hC dX6_head_51 rfl rfl rfl ?_
  refine g_bipush (pc' := 54) (v := (nI 21)) hC dX6_head_52 (by decide) rfl ?_
  obtain ⟨md_22, mdd_23, hc_24, h⟩ := bd2_some h
  refine g_callV (pc' := 57) hC (c_X6_byteTo _ hc_24) ml_X6_98 (rc_M) (by decide) rfl rfl rfl rfl dX6_head_54 rfl ?_
  refine g_aload_n (pc' := 58) (i := 0) hC dX6_head_57 rfl rfl rfl ?_
  refine g_iload_n (pc' := 59) (i := 3) hC dX6_head_58 rfl rfl rfl ?_
  refine g_i2l (pc' := 60) hC dX6_head_59 rfl ?_
  obtain ⟨md_25, mdd_26, hc_27, h⟩ := bd2_some h
  refine g_callV (pc' := 63) hC (c_X6_zig _ hc_27) ml_X6_126 (rc_M) (by decide) rfl rfl rfl rfl dX6_head_60 rfl ?_
  refine g_aload_n (pc' := 64) (i := 0) hC dX6_head_63 rfl rfl rfl ?_
  refine g_bipush (pc' := 66) (v := (nI 21)) hC dX6_head_64 (by decide) rfl ?_
  obtain ⟨md_28, mdd_29, hc_30, h⟩ := bd2_some h
  refine g_callV (pc' := 69) hC (c_X6_byteTo _ hc_30) ml_X6_98 (rc_M) (by decide) rfl rfl rfl rfl dX6_head_66 rfl ?_
  refine g_aload_n (pc' := 70) (i := 0) hC dX6_head_69 rfl rfl rfl ?_
  refine g_iload (pc' := 72) (i := 4) hC dX6_head_70 rfl rfl ?_
  refine g_i2l (pc' := 73) hC dX6_head_72 rfl ?_
  obtain ⟨md_31, mdd_32, hc_33, h⟩ := bd2_some h
  refine g_callV (pc' := 76) hC (c_X6_zig _ hc_33) ml_X6_126 (rc_M) (by decide) rfl rfl rfl rfl dX6_head_73 rfl ?_
  refine g_aload_n (pc' := 77) (i := 0) hC dX6_head_76 rfl rfl rfl ?_
  refine g_iconst (pc' := 78) (v := (nI 0)) hC dX6_head_77 (by decide) rfl ?_
  obtain ⟨md_34, mdd_35, hc_36, h⟩ := bd2_some h
  refine g_callV (pc' := 81) hC (c_X6_byteTo _ hc_36) ml_X6_98 (rc_M) (by decide) rfl rfl rfl rfl dX6_head_78 rfl ?_
  refine g_aload_n (pc' := 82) (i := 0) hC dX6_head_81 rfl rfl rfl ?_
  refine g_iconst (pc' := 83) (v := (nI 0)) hC dX6_head_82 (by decide) rfl ?_
  obtain ⟨md_37, mdd_38, hc_39, h⟩ := bd2_some h
  refine g_callV (pc' := 86) hC (c_X6_byteTo _ hc_39) ml_X6_98 (rc_M) (by decide) rfl rfl rfl rfl dX6_head_83 rfl ?_
  obtain ⟨rfl, rfl⟩ := inj2 h; exact g_vret hC dX6_head_86
set_option maxRecDepth 200000 in
theorem c_X6_head (l : Launch) {E : GE} {mdz : Nat → Int32} {mddz : Int32} {v1 : Int32} {v2 : Int32} {v3 : Int32} {v4 : Int32}  (h : p_X6_head v1 v2 v3 v4 md mdd = some (mdz, mddz)) : Met l yX6_head (.code yX6_head cX6_head 5 none :: gU) rm_X6_head (gP E (mws E mk mo mm mt mv mx mp mtd mf ms md mdd mn mst mpl mbb ma me mb mba mpg mdi mbl mby mw mz mso mbo mco mcd ml mr) [.ref (ea E 0), .int v1, .int v2, .int v3, .int v4]) (gQ E (mws E mk mo mm mt mv mx mp mtd mf ms mdz mddz mn mst mpl mbb ma me mb mba mpg mdi mbl mby mw mz mso mbo mco mcd ml mr) none) 0 0 E.2.2.1 := by
  refine met_of (y := yX6_head) (own := RX6) (lo := [some (.ref (ea E 0)), some (.int v1), some (.int v2), some (.int v3), some (.int v4)]) (by decide) rfl rfl rfl (fun κ hl hC => ?_)
  subst hl
  unfold p_X6_head at h
  refine g_aload_n (pc' := 1) (i := 0) hC dX6_head_0 rfl rfl rfl ?_
  refine g_bipush (pc' := 3) (v := (nI 21)) hC dX6_head_1 (by decide) rfl ?_
  obtain ⟨md_1, mdd_2, hc_3, h⟩ := bd2_some h
  refine g_callV (pc' := 6) hC (c_X6_byteTo _ hc_3) ml_X6_98 (rc_M) (by decide) rfl rfl rfl rfl dX6_head_3 rfl ?_
  refine g_aload_n (pc' := 7) (i := 0) hC dX6_head_6 rfl rfl rfl ?_
  refine g_iload_n (pc' := 8) (i := 1) hC dX6_head_7 rfl rfl rfl ?_
  refine g_i2l (pc' := 9) hC dX6_head_8 rfl ?_
  obtain ⟨md_4, mdd_5, hc_6, h⟩ := bd2_some h
  refine g_callV (pc' := 12) hC (c_X6_zig _ hc_6) ml_X6_126 (rc_M) (by decide) rfl rfl rfl rfl dX6_head_9 rfl ?_
  refine g_aload_n (pc' := 13) (i := 0) hC dX6_head_12 rfl rfl rfl ?_
  refine g_bipush (pc' := 15) (v := (nI 21)) hC dX6_head_13 (by decide) rfl ?_
  obtain ⟨md_7, mdd_8, hc_9, h⟩ := bd2_some h
  refine g_callV (pc' := 18) hC (c_X6_byteTo _ hc_9) ml_X6_98 (rc_M) (by decide) rfl rfl rfl rfl dX6_head_15 rfl ?_
  refine g_aload_n (pc' := 19) (i := 0) hC dX6_head_18 rfl rfl rfl ?_
  refine g_iload_n (pc' := 20) (i := 2) hC dX6_head_19 rfl rfl rfl ?_
  refine g_i2l (pc' := 21) hC dX6_head_20 rfl ?_
  obtain ⟨md_10, mdd_11, hc_12, h⟩ := bd2_some h
  refine g_callV (pc' := 24) hC (c_X6_zig _ hc_12) ml_X6_126 (rc_M) (by decide) rfl rfl rfl rfl dX6_head_21 rfl ?_
  refine g_aload_n (pc' := 25) (i := 0) hC dX6_head_24 rfl rfl rfl ?_
  refine g_bipush (pc' := 27) (v := (nI 21)) hC dX6_head_25 (by decide) rfl ?_
  obtain ⟨md_13, mdd_14, hc_15, h⟩ := bd2_some h
  refine g_callV (pc' := 30) hC (c_X6_byteTo _ hc_15) ml_X6_98 (rc_M) (by decide) rfl rfl rfl rfl dX6_head_27 rfl ?_
  refine g_aload_n (pc' := 31) (i := 0) hC dX6_head_30 rfl rfl rfl ?_
  refine g_iload_n (pc' := 32) (i := 2) hC dX6_head_31 rfl rfl rfl ?_
  refine g_i2l (pc' := 33) hC dX6_head_32 rfl ?_
  obtain ⟨md_16, mdd_17, hc_18, h⟩ := bd2_some h
  refine g_callV (pc' := 36) hC (c_X6_zig _ hc_18) ml_X6_126 (rc_M) (by decide) rfl rfl rfl rfl dX6_head_33 rfl ?_
  refine g_aload_n (pc' := 37) (i := 0) hC dX6_head_36 rfl rfl rfl ?_
  refine g_iload_n (pc' := 38) (i := 1) hC dX6_head_37 rfl rfl rfl ?_
  refine g_if_ne (pc' := 41) (tgt := 46) hC dX6_head_38 (by decide) rfl h (fun h => ?_) (fun h => ?_)
  · refine g_bipush (pc' := 43) (v := (nI 44)) hC dX6_head_41 (by decide) rfl ?_
    refine g_goto (tgt := 48) hC dX6_head_43 (by decide) ?_
    refine g_weak (lo' := [some (.ref (ea E 0)), none, none, some (.int v3), some (.int v4)]) rfl ?_
    exact w_X6_head_J48 hC   h
  · refine g_bipush (pc' := 48) (v := (nI 76)) hC dX6_head_46 (by decide) rfl ?_
    refine g_weak (lo' := [some (.ref (ea E 0)), none, none, some (.int v3), some (.int v4)]) rfl ?_
    exact w_X6_head_J48 hC   h
set_option maxRecDepth 200000 in
theorem w_X6_makeDictionary_L39 {κ : GK} {E : GE} {mmz : Nat → Int32} {mtz : Nat → Int32} {mvz : Nat → Int64} {mxz : Nat → Int32} {mplz : Nat → Int32} {v1 : Int32} {v2 : Int32} {v3 : Int32} {k70 : Int32 → Option ((Nat → Int32) × (Nat → Int32) × (Nat → Int64) × (Nat → Int32) × (Nat → Int32))} (hC : gC κ E cX6_makeDictionary RX6 none rm_X6_makeDictionary 5)  (hk70 : ∀ (v4 : Int32), k70 v4 = some (mmz, mtz, mvz, mxz, mplz) → GG κ E (mws E mk mo mmz mtz mvz mxz mp mtd mf ms md mdd mn mst mplz mbb ma me mb mba mpg mdi mbl mby mw mz mso mbo mco mcd ml mr, none) (mws E mk mo mm mt mv mx mp mtd mf ms md mdd mn mst mpl mbb ma me mb mba mpg mdi mbl mby mw mz mso mbo mco mcd ml mr) 70 [some (.ref (ea E 0)), some (.int v1), some (.int v2), some (.int v3), some (.int v4)] []) : ∀ (n : Nat) (v4 : Int32), itr1 (p_X6_makeDictionary_L39 v3 mm mt mv mx k70) n v4 = some (mmz, mtz, mvz, mxz, mplz) → GG κ E (mws E mk mo mmz mtz mvz mxz mp mtd mf ms md mdd mn mst mplz mbb ma me mb mba mpg mdi mbl mby mw mz mso mbo mco mcd ml mr, none) (mws E mk mo mm mt mv mx mp mtd mf ms md mdd mn mst mpl mbb ma me mb mba mpg mdi mbl mby mw mz mso mbo mco mcd ml mr) 39 [some (.ref (ea E 0)), some (.int v1), some (.int v2), some (.int v3), some (.int v4)] [] :=
  itr1_ind (fun k39 hk39 v4 h => by
    unfold p_X6_makeDictionary_L39 at h
    refine g_iload (pc' := 41) (i := 4) hC dX6_makeDictionary_39 rfl rfl ?_
    refine g_aload_n (pc' := 42) (i := 0) hC dX6_makeDictionary_41 rfl rfl rfl ?_
    refine gf_X6_17 (pc' := 45) hC dX6_makeDictionary_42 rfl ?_
    refine g_iconst (pc' := 46) (v := (nI 5)) hC dX6_makeDictionary_45 (by decide) rfl ?_
    obtain ⟨g_4, h⟩ := gd_some h
    refine ld_mm (pc' := 47) hC g_4 dX6_makeDictionary_46 rfl ?_
    refine g_icmp_ge (pc' := 50) (tgt := 70) hC dX6_makeDictionary_47 (by decide) rfl h (fun h => ?_) (fun h => ?_)
    · refine g_aload_n (pc' := 51) (i := 0) hC dX6_makeDictionary_50 rfl rfl rfl ?_
      refine g_sipush (pc' := 54) (v := (nI 1000)) hC dX6_makeDictionary_51 (by decide) rfl ?_
      refine g_iload (pc' := 56) (i := 4) hC dX6_makeDictionary_54 rfl rfl ?_
      refine g_iadd (pc' := 57) hC dX6_makeDictionary_56 rfl ?_
      refine g_iload_n (pc' := 58) (i := 3) hC dX6_makeDictionary_57 rfl rfl rfl ?_
      obtain ⟨a_5, hc_6, h⟩ := bd1_some h
      refine g_callV (pc' := 61) hC (c_X6_areLike _ hc_6) ml_X6_88 (rc_M) (by decide) rfl rfl rfl rfl dX6_makeDictionary_58 rfl ?_
      refine g_if_ne (pc' := 64) (tgt := 70) hC dX6_makeDictionary_61 (by decide) rfl h (fun h => ?_) (fun h => ?_)
      · refine g_iinc (pc' := 67) (i := 4) (x := v4) (k := (nI 1)) (lo' := [some (.ref (ea E 0)), some (.int v1), some (.int v2), some (.int v3), some (.int (v4 + (nI 1)))]) hC dX6_makeDictionary_64 rfl (by decide) rfl rfl rfl rfl ?_
        refine g_goto (tgt := 39) hC dX6_makeDictionary_67 (by decide) ?_
        exact hk39 _ h
      · exact hk70 _ h
    · exact hk70 _ h)
set_option maxRecDepth 200000 in
theorem w_X6_makeDictionary_J70 {κ : GK} {E : GE} {mmz : Nat → Int32} {mtz : Nat → Int32} {mvz : Nat → Int64} {mxz : Nat → Int32} {mplz : Nat → Int32} {v1 : Int32} {v2 : Int32} {v3 : Int32} {v4 : Int32} {k9 : Int32 → (Nat → Int32) → (Nat → Int32) → (Nat → Int64) → (Nat → Int32) → (Nat → Int32) → Option ((Nat → Int32) × (Nat → Int32) × (Nat → Int64) × (Nat → Int32) × (Nat → Int32))} (hC : gC κ E cX6_makeDictionary RX6 none rm_X6_makeDictionary 5)  (hk9 : ∀ (v2 : Int32) (mm : Nat → Int32) (mt : Nat → Int32) (mv : Nat → Int64) (mx : Nat → Int32) (mpl : Nat → Int32), k9 v2 mm mt mv mx mpl = some (mmz, mtz, mvz, mxz, mplz) → GG κ E (mws E mk mo mmz mtz mvz mxz mp mtd mf ms md mdd mn mst mplz mbb ma me mb mba mpg mdi mbl mby mw mz mso mbo mco mcd ml mr, none) (mws E mk mo mm mt mv mx mp mtd mf ms md mdd mn mst mpl mbb ma me mb mba mpg mdi mbl mby mw mz mso mbo mco mcd ml mr) 9 [some (.ref (ea E 0)), some (.int v1), some (.int v2), none, none] []) (h : p_X6_makeDictionary_J70 v2 v3 v4 mm mt mv mx mpl k9 = some (mmz, mtz, mvz, mxz, mplz)) : GG κ E (mws E mk mo mmz mtz mvz mxz mp mtd mf ms md mdd mn mst mplz mbb ma me mb mba mpg mdi mbl mby mw mz mso mbo mco mcd ml mr, none) (mws E mk mo mm mt mv mx mp mtd mf ms md mdd mn mst mpl mbb ma me mb mba mpg mdi mbl mby mw mz mso mbo mco mcd ml mr) 70 [some (.ref (ea E 0)), some (.int v1), some (.int v2), some (.int v3), some (.int v4)] [] := by
  unfold p_X6_makeDictionary_J70 at h
  refine g_iload (pc' := 72) (i := 4) hC dX6_makeDictionary_70 rfl rfl ?_
  refine g_aload_n (pc' := 73) (i := 0) hC dX6_makeDictionary_72 rfl rfl rfl ?_
  refine gf_X6_17 (pc' := 76) hC dX6_makeDictionary_73 rfl ?_
  refine g_iconst (pc' := 77) (v := (nI 5)) hC dX6_makeDictionary_76 (by decide) rfl ?_
  obtain ⟨g_8, h⟩ := gd_some h
  refine ld_mm (pc' := 78) hC g_8 dX6_makeDictionary_77 rfl ?_
  refine g_icmp_ne (pc' := 81) (tgt := 102) hC dX6_makeDictionary_78 (by decide) rfl h (fun h => ?_) (fun h => ?_)
  · refine g_aload_n (pc' := 82) (i := 0) hC dX6_makeDictionary_81 rfl rfl rfl ?_
    refine g_sipush (pc' := 85) (v := (nI 1000)) hC dX6_makeDictionary_82 (by decide) rfl ?_
    refine g_iload (pc' := 87) (i := 4) hC dX6_makeDictionary_85 rfl rfl ?_
    refine g_iadd (pc' := 88) hC dX6_makeDictionary_87 rfl ?_
    refine g_iload_n (pc' := 89) (i := 3) hC dX6_makeDictionary_88 rfl rfl rfl ?_
    obtain ⟨mt_9, mv_10, mx_11, hc_12, h⟩ := bd3_some h
    refine g_callV (pc' := 92) hC (c_X6_copies _ hc_12) ml_X6_82 (rc_M) (by decide) rfl rfl rfl rfl dX6_makeDictionary_89 rfl ?_
    refine g_aload_n (pc' := 93) (i := 0) hC dX6_makeDictionary_92 rfl rfl rfl ?_
    refine gf_X6_17 (pc' := 96) hC dX6_makeDictionary_93 rfl ?_
    refine g_iconst (pc' := 97) (v := (nI 5)) hC dX6_makeDictionary_96 (by decide) rfl ?_
    refine g_dup2 (pc' := 98) hC dX6_makeDictionary_97 rfl rfl rfl ?_
    obtain ⟨g_13, h⟩ := gd_some h
    refine ld_mm (pc' := 99) hC g_13 dX6_makeDictionary_98 rfl ?_
    refine g_iconst (pc' := 100) (v := (nI 1)) hC dX6_makeDictionary_99 (by decide) rfl ?_
    refine g_iadd (pc' := 101) hC dX6_makeDictionary_100 rfl ?_
    obtain ⟨g_14, h⟩ := gd_some h
    refine st_mm (pc' := 102) hC g_14 dX6_makeDictionary_101 rfl ?_
    refine g_aload_n (pc' := 103) (i := 0) hC dX6_makeDictionary_102 rfl rfl rfl ?_
    refine gf_X6_48 (pc' := 106) hC dX6_makeDictionary_103 rfl ?_
    refine g_iload_n (pc' := 107) (i := 2) hC dX6_makeDictionary_106 rfl rfl rfl ?_
    refine g_iload (pc' := 109) (i := 4) hC dX6_makeDictionary_107 rfl rfl ?_
    obtain ⟨g_15, h⟩ := gd_some h
    refine st_mpl (pc' := 110) hC g_15 dX6_makeDictionary_109 rfl ?_
    refine g_iinc (pc' := 113) (i := 2) (x := v2) (k := (nI 1)) (lo' := [some (.ref (ea E 0)), some (.int v1), some (.int (v2 + (nI 1))), some (.int v3), some (.int v4)]) hC dX6_makeDictionary_110 rfl (by decide) rfl rfl rfl rfl ?_
    refine g_goto (tgt := 9) hC dX6_makeDictionary_113 (by decide) ?_
    refine g_weak (lo' := [some (.ref (ea E 0)), some (.int v1), some (.int (v2 + (nI 1))), none, none]) rfl ?_
    exact hk9 _ _ _ _ _ _ h
  · refine g_aload_n (pc' := 103) (i := 0) hC dX6_makeDictionary_102 rfl rfl rfl ?_
    refine gf_X6_48 (pc' := 106) hC dX6_makeDictionary_103 rfl ?_
    refine g_iload_n (pc' := 107) (i := 2) hC dX6_makeDictionary_106 rfl rfl rfl ?_
    refine g_iload (pc' := 109) (i := 4) hC dX6_makeDictionary_107 rfl rfl ?_
    obtain ⟨g_16, h⟩ := gd_some h
    refine st_mpl (pc' := 110) hC g_16 dX6_makeDictionary_109 rfl ?_
    refine g_iinc (pc' := 113) (i := 2) (x := v2) (k := (nI 1)) (lo' := [some (.ref (ea E 0)), some (.int v1), some (.int (v2 + (nI 1))), some (.int v3), some (.int v4)]) hC dX6_makeDictionary_110 rfl (by decide) rfl rfl rfl rfl ?_
    refine g_goto (tgt := 9) hC dX6_makeDictionary_113 (by decide) ?_
    refine g_weak (lo' := [some (.ref (ea E 0)), some (.int v1), some (.int (v2 + (nI 1))), none, none]) rfl ?_
    exact hk9 _ _ _ _ _ _ h
set_option maxRecDepth 200000 in
theorem w_X6_makeDictionary_L9 {κ : GK} {E : GE} {mmz : Nat → Int32} {mtz : Nat → Int32} {mvz : Nat → Int64} {mxz : Nat → Int32} {mplz : Nat → Int32} {v1 : Int32}  (hC : gC κ E cX6_makeDictionary RX6 none rm_X6_makeDictionary 5)   : ∀ (n : Nat) (v2 : Int32) (mm : Nat → Int32) (mt : Nat → Int32) (mv : Nat → Int64) (mx : Nat → Int32) (mpl : Nat → Int32), itr6 (p_X6_makeDictionary_L9 v1) n v2 mm mt mv mx mpl = some (mmz, mtz, mvz, mxz, mplz) → GG κ E (mws E mk mo mmz mtz mvz mxz mp mtd mf ms md mdd mn mst mplz mbb ma me mb mba mpg mdi mbl mby mw mz mso mbo mco mcd ml mr, none) (mws E mk mo mm mt mv mx mp mtd mf ms md mdd mn mst mpl mbb ma me mb mba mpg mdi mbl mby mw mz mso mbo mco mcd ml mr) 9 [some (.ref (ea E 0)), some (.int v1), some (.int v2), none, none] [] :=
  itr6_ind (fun k9 hk9 v2 mm mt mv mx mpl h => by
    unfold p_X6_makeDictionary_L9 at h
    refine g_iload_n (pc' := 10) (i := 2) hC dX6_makeDictionary_9 rfl rfl rfl ?_
    refine g_aload_n (pc' := 11) (i := 0) hC dX6_makeDictionary_10 rfl rfl rfl ?_
    refine gf_X6_17 (pc' := 14) hC dX6_makeDictionary_11 rfl ?_
    refine g_iload_n (pc' := 15) (i := 1) hC dX6_makeDictionary_14 rfl rfl rfl ?_
    obtain ⟨g_2, h⟩ := gd_some h
    refine ld_mm (pc' := 16) hC g_2 dX6_makeDictionary_15 rfl ?_
    refine g_icmp_ge (pc' := 19) (tgt := 116) hC dX6_makeDictionary_16 (by decide) rfl h (fun h => ?_) (fun h => ?_)
    · refine g_sipush (pc' := 22) (v := (nI 200)) hC dX6_makeDictionary_19 (by decide) rfl ?_
      refine g_iload_n (pc' := 23) (i := 1) hC dX6_makeDictionary_22 rfl rfl rfl ?_
      refine g_imul (pc' := 24) hC dX6_makeDictionary_23 rfl ?_
      refine g_iload_n (pc' := 25) (i := 2) hC dX6_makeDictionary_24 rfl rfl rfl ?_
      refine g_iadd (pc' := 26) hC dX6_makeDictionary_25 rfl ?_
      refine g_istore_n (pc' := 27) (i := 3) (lo' := [some (.ref (ea E 0)), some (.int v1), some (.int v2), some (.int (((nI 200) * v1) + v2)), none]) hC dX6_makeDictionary_26 rfl rfl rfl rfl rfl ?_
      refine g_aload_n (pc' := 28) (i := 0) hC dX6_makeDictionary_27 rfl rfl rfl ?_
      refine gf_X6_20 (pc' := 31) hC dX6_makeDictionary_28 rfl ?_
      refine g_iload_n (pc' := 32) (i := 3) hC dX6_makeDictionary_31 rfl rfl rfl ?_
      obtain ⟨g_3, h⟩ := gd_some h
      refine ld_mt (pc' := 33) hC g_3 dX6_makeDictionary_32 rfl ?_
      refine g_if_eq (pc' := 36) (tgt := 110) hC dX6_makeDictionary_33 (by decide) rfl h (fun h => ?_) (fun h => ?_)
      · refine g_iinc (pc' := 113) (i := 2) (x := v2) (k := (nI 1)) (lo' := [some (.ref (ea E 0)), some (.int v1), some (.int (v2 + (nI 1))), some (.int (((nI 200) * v1) + v2)), none]) hC dX6_makeDictionary_110 rfl (by decide) rfl rfl rfl rfl ?_
        refine g_goto (tgt := 9) hC dX6_makeDictionary_113 (by decide) ?_
        refine g_weak (lo' := [some (.ref (ea E 0)), some (.int v1), some (.int (v2 + (nI 1))), none, none]) rfl ?_
        exact hk9 _ _ _ _ _ _ h
      · refine g_iconst (pc' := 37) (v := (nI 0)) hC dX6_makeDictionary_36 (by decide) rfl ?_
        refine g_istore (pc' := 39) (i := 4) (lo' := [some (.ref (ea E 0)), some (.int v1), some (.int v2), some (.int (((nI 200) * v1) + v2)), some (.int (nI 0))]) hC dX6_makeDictionary_37 rfl rfl rfl rfl ?_
        refine w_X6_makeDictionary_L39 hC  ?_ _ _ h
        · intro v4_7 h
          exact w_X6_makeDictionary_J70 hC  hk9 h
    · obtain ⟨rfl, rfl, rfl, rfl, rfl⟩ := inj5 h; exact g_vret hC dX6_makeDictionary_116)
set_option maxRecDepth 200000 in
theorem c_X6_makeDictionary (l : Launch) {E : GE} {mmz : Nat → Int32} {mtz : Nat → Int32} {mvz : Nat → Int64} {mxz : Nat → Int32} {mplz : Nat → Int32} {v1 : Int32}  (h : p_X6_makeDictionary v1 mm mt mv mx mpl = some (mmz, mtz, mvz, mxz, mplz)) : Met l yX6_makeDictionary (.code yX6_makeDictionary cX6_makeDictionary 5 none :: gU) rm_X6_makeDictionary (gP E (mws E mk mo mm mt mv mx mp mtd mf ms md mdd mn mst mpl mbb ma me mb mba mpg mdi mbl mby mw mz mso mbo mco mcd ml mr) [.ref (ea E 0), .int v1]) (gQ E (mws E mk mo mmz mtz mvz mxz mp mtd mf ms md mdd mn mst mplz mbb ma me mb mba mpg mdi mbl mby mw mz mso mbo mco mcd ml mr) none) 0 0 E.2.2.1 := by
  refine met_of (y := yX6_makeDictionary) (own := RX6) (lo := [some (.ref (ea E 0)), some (.int v1), none, none, none]) (by decide) rfl rfl rfl (fun κ hl hC => ?_)
  subst hl
  unfold p_X6_makeDictionary at h
  refine g_aload_n (pc' := 1) (i := 0) hC dX6_makeDictionary_0 rfl rfl rfl ?_
  refine gf_X6_17 (pc' := 4) hC dX6_makeDictionary_1 rfl ?_
  refine g_iconst (pc' := 5) (v := (nI 5)) hC dX6_makeDictionary_4 (by decide) rfl ?_
  refine g_iconst (pc' := 6) (v := (nI 0)) hC dX6_makeDictionary_5 (by decide) rfl ?_
  obtain ⟨g_1, h⟩ := gd_some h
  refine st_mm (pc' := 7) hC g_1 dX6_makeDictionary_6 rfl ?_
  refine g_iconst (pc' := 8) (v := (nI 0)) hC dX6_makeDictionary_7 (by decide) rfl ?_
  refine g_istore_n (pc' := 9) (i := 2) (lo' := [some (.ref (ea E 0)), some (.int v1), some (.int (nI 0)), none, none]) hC dX6_makeDictionary_8 rfl rfl rfl rfl rfl ?_
  refine w_X6_makeDictionary_L9 hC   _ _ _ _ _ _ _ h
set_option maxRecDepth 200000 in
theorem w_X6_headed_L11 {κ : GK} {E : GE} {mdz : Nat → Int32} {mddz : Int32} {mbbz : Nat → Int32} {v1 : Int32} {v2 : Int32} {v3 : Int32} {v4 : Int32} {v5 : Int32} {k40 : (Nat → Int32) → Option ((Nat → Int32) × Int32 × (Nat → Int32))} (hC : gC κ E cX6_headed RX6 none rm_X6_headed 7)  (hk40 : ∀ (mbb : Nat → Int32), k40 mbb = some (mdz, mddz, mbbz) → GG κ E (mws E mk mo mm mt mv mx mp mtd mf ms mdz mddz mn mst mpl mbbz ma me mb mba mpg mdi mbl mby mw mz mso mbo mco mcd ml mr, none) (mws E mk mo mm mt mv mx mp mtd mf ms md mdd mn mst mpl mbb ma me mb mba mpg mdi mbl mby mw mz mso mbo mco mcd ml mr) 40 [some (.ref (ea E 0)), some (.int v1), some (.int v2), some (.int v3), some (.int v4), some (.int v5), none] []) : ∀ (n : Nat) (v6 : Int32) (mbb : Nat → Int32), itr2 (p_X6_headed_L11 v1 v5 md k40) n v6 mbb = some (mdz, mddz, mbbz) → GG κ E (mws E mk mo mm mt mv mx mp mtd mf ms mdz mddz mn mst mpl mbbz ma me mb mba mpg mdi mbl mby mw mz mso mbo mco mcd ml mr, none) (mws E mk mo mm mt mv mx mp mtd mf ms md mdd mn mst mpl mbb ma me mb mba mpg mdi mbl mby mw mz mso mbo mco mcd ml mr) 11 [some (.ref (ea E 0)), some (.int v1), some (.int v2), some (.int v3), some (.int v4), some (.int v5), some (.int v6)] [] :=
  itr2_ind (fun k11 hk11 v6 mbb h => by
    unfold p_X6_headed_L11 at h
    refine g_iload (pc' := 13) (i := 6) hC dX6_headed_11 rfl rfl ?_
    refine g_iload (pc' := 15) (i := 5) hC dX6_headed_13 rfl rfl ?_
    refine g_icmp_ge (pc' := 18) (tgt := 40) hC dX6_headed_15 (by decide) rfl h (fun h => ?_) (fun h => ?_)
    · refine g_aload_n (pc' := 19) (i := 0) hC dX6_headed_18 rfl rfl rfl ?_
      refine gf_X6_51 (pc' := 22) hC dX6_headed_19 rfl ?_
      refine g_iload (pc' := 24) (i := 6) hC dX6_headed_22 rfl rfl ?_
      refine g_aload_n (pc' := 25) (i := 0) hC dX6_headed_24 rfl rfl rfl ?_
      refine gf_X6_39 (pc' := 28) hC dX6_headed_25 rfl ?_
      refine g_iload_n (pc' := 29) (i := 1) hC dX6_headed_28 rfl rfl rfl ?_
      refine g_iload (pc' := 31) (i := 6) hC dX6_headed_29 rfl rfl ?_
      refine g_iadd (pc' := 32) hC dX6_headed_31 rfl ?_
      obtain ⟨g_1, h⟩ := gd_some h
      refine ld_md (pc' := 33) hC g_1 dX6_headed_32 rfl ?_
      obtain ⟨g_2, h⟩ := gd_some h
      refine st_mbb (pc' := 34) hC g_2 dX6_headed_33 rfl ?_
      refine g_iinc (pc' := 37) (i := 6) (x := v6) (k := (nI 1)) (lo' := [some (.ref (ea E 0)), some (.int v1), some (.int v2), some (.int v3), some (.int v4), some (.int v5), some (.int (v6 + (nI 1)))]) hC dX6_headed_34 rfl (by decide) rfl rfl rfl rfl ?_
      refine g_goto (tgt := 11) hC dX6_headed_37 (by decide) ?_
      exact hk11 _ _ h
    · refine g_weak (lo' := [some (.ref (ea E 0)), some (.int v1), some (.int v2), some (.int v3), some (.int v4), some (.int v5), none]) rfl ?_
      exact hk40 _ h)
set_option maxRecDepth 200000 in
theorem w_X6_headed_L58 {κ : GK} {E : GE} {mdz : Nat → Int32} {mddz : Int32} {mbbz : Nat → Int32} {v5 : Int32}  (hC : gC κ E cX6_headed RX6 none rm_X6_headed 7)   : ∀ (n : Nat) (v6 : Int32) (md : Nat → Int32) (mdd : Int32), itr3 (p_X6_headed_L58 v5 mbb) n v6 md mdd = some (mdz, mddz, mbbz) → GG κ E (mws E mk mo mm mt mv mx mp mtd mf ms mdz mddz mn mst mpl mbbz ma me mb mba mpg mdi mbl mby mw mz mso mbo mco mcd ml mr, none) (mws E mk mo mm mt mv mx mp mtd mf ms md mdd mn mst mpl mbb ma me mb mba mpg mdi mbl mby mw mz mso mbo mco mcd ml mr) 58 [some (.ref (ea E 0)), none, none, none, none, some (.int v5), some (.int v6)] [] :=
  itr3_ind (fun k58 hk58 v6 md mdd h => by
    unfold p_X6_headed_L58 at h
    refine g_iload (pc' := 60) (i := 6) hC dX6_headed_58 rfl rfl ?_
    refine g_iload (pc' := 62) (i := 5) hC dX6_headed_60 rfl rfl ?_
    refine g_icmp_ge (pc' := 65) (tgt := 82) hC dX6_headed_62 (by decide) rfl h (fun h => ?_) (fun h => ?_)
    · refine g_aload_n (pc' := 66) (i := 0) hC dX6_headed_65 rfl rfl rfl ?_
      refine g_aload_n (pc' := 67) (i := 0) hC dX6_headed_66 rfl rfl rfl ?_
      refine gf_X6_51 (pc' := 70) hC dX6_headed_67 rfl ?_
      refine g_iload (pc' := 72) (i := 6) hC dX6_headed_70 rfl rfl ?_
      obtain ⟨g_7, h⟩ := gd_some h
      refine ld_mbb (pc' := 73) hC g_7 dX6_headed_72 rfl ?_
      obtain ⟨md_8, mdd_9, hc_10, h⟩ := bd2_some h
      refine g_callV (pc' := 76) hC (c_X6_byteTo _ hc_10) ml_X6_98 (rc_M) (by decide) rfl rfl rfl rfl dX6_headed_73 rfl ?_
      refine g_iinc (pc' := 79) (i := 6) (x := v6) (k := (nI 1)) (lo' := [some (.ref (ea E 0)), none, none, none, none, some (.int v5), some (.int (v6 + (nI 1)))]) hC dX6_headed_76 rfl (by decide) rfl rfl rfl rfl ?_
      refine g_goto (tgt := 58) hC dX6_headed_79 (by decide) ?_
      exact hk58 _ _ _ h
    · obtain ⟨rfl, rfl, rfl⟩ := inj3 h; exact g_vret hC dX6_headed_82)
set_option maxRecDepth 200000 in
theorem c_X6_headed (l : Launch) {E : GE} {mdz : Nat → Int32} {mddz : Int32} {mbbz : Nat → Int32} {v1 : Int32} {v2 : Int32} {v3 : Int32} {v4 : Int32}  (h : p_X6_headed v1 v2 v3 v4 md mdd mbb = some (mdz, mddz, mbbz)) : Met l yX6_headed (.code yX6_headed cX6_headed 7 none :: gU) rm_X6_headed (gP E (mws E mk mo mm mt mv mx mp mtd mf ms md mdd mn mst mpl mbb ma me mb mba mpg mdi mbl mby mw mz mso mbo mco mcd ml mr) [.ref (ea E 0), .int v1, .int v2, .int v3, .int v4]) (gQ E (mws E mk mo mm mt mv mx mp mtd mf ms mdz mddz mn mst mpl mbbz ma me mb mba mpg mdi mbl mby mw mz mso mbo mco mcd ml mr) none) 0 0 E.2.2.1 := by
  refine met_of (y := yX6_headed) (own := RX6) (lo := [some (.ref (ea E 0)), some (.int v1), some (.int v2), some (.int v3), some (.int v4), none, none]) (by decide) rfl rfl rfl (fun κ hl hC => ?_)
  subst hl
  unfold p_X6_headed at h
  refine g_aload_n (pc' := 1) (i := 0) hC dX6_headed_0 rfl rfl rfl ?_
  refine gf_X6_95 (pc' := 4) hC dX6_headed_1 rfl ?_
  refine g_iload_n (pc' := 5) (i := 1) hC dX6_headed_4 rfl rfl rfl ?_
  refine g_isub (pc' := 6) hC dX6_headed_5 rfl ?_
  refine g_istore (pc' := 8) (i := 5) (lo' := [some (.ref (ea E 0)), some (.int v1), some (.int v2), some (.int v3), some (.int v4), some (.int (mdd - v1)), none]) hC dX6_headed_6 rfl rfl rfl rfl ?_
  refine g_iconst (pc' := 9) (v := (nI 0)) hC dX6_headed_8 (by decide) rfl ?_
  refine g_istore (pc' := 11) (i := 6) (lo' := [some (.ref (ea E 0)), some (.int v1), some (.int v2), some (.int v3), some (.int v4), some (.int (mdd - v1)), some (.int (nI 0))]) hC dX6_headed_9 rfl rfl rfl rfl ?_
  refine w_X6_headed_L11 hC  ?_ _ _ _ h
  · intro mbb_3 h
    refine g_aload_n (pc' := 41) (i := 0) hC dX6_headed_40 rfl rfl rfl ?_
    refine g_iload_n (pc' := 42) (i := 1) hC dX6_headed_41 rfl rfl rfl ?_
    refine pf_X6_95 (pc' := 45) hC dX6_headed_42 rfl ?_
    refine g_aload_n (pc' := 46) (i := 0) hC dX6_headed_45 rfl rfl rfl ?_
    refine g_iload_n (pc' := 47) (i := 2) hC dX6_headed_46 rfl rfl rfl ?_
    refine g_iload (pc' := 49) (i := 5) hC dX6_headed_47 rfl rfl ?_
    refine g_iload_n (pc' := 50) (i := 3) hC dX6_headed_49 rfl rfl rfl ?_
    refine g_iload (pc' := 52) (i := 4) hC dX6_headed_50 rfl rfl ?_
    obtain ⟨md_4, mdd_5, hc_6, h⟩ := bd2_some h
    refine g_callV (pc' := 55) hC (c_X6_head _ hc_6) ml_X6_141 (rc_M) (by decide) rfl rfl rfl rfl dX6_headed_52 rfl ?_
    refine g_iconst (pc' := 56) (v := (nI 0)) hC dX6_headed_55 (by decide) rfl ?_
    refine g_istore (pc' := 58) (i := 6) (lo' := [some (.ref (ea E 0)), some (.int v1), some (.int v2), some (.int v3), some (.int v4), some (.int (mdd - v1)), some (.int (nI 0))]) hC dX6_headed_56 rfl rfl rfl rfl ?_
    refine g_weak (lo' := [some (.ref (ea E 0)), none, none, none, none, some (.int (mdd - v1)), some (.int (nI 0))]) rfl ?_
    refine w_X6_headed_L58 hC   _ _ _ _ h
set_option maxRecDepth 200000 in
theorem w_X6_sized_L9 {κ : GK} {E : GE} {mdz : Nat → Int32} {mddz : Int32} {mbbz : Nat → Int32} {v1 : Int32} {v2 : Int32} {k34 : (Nat → Int32) → Option ((Nat → Int32) × Int32 × (Nat → Int32))} (hC : gC κ E cX6_sized RX6 none rm_X6_sized 4)  (hk34 : ∀ (mbb : Nat → Int32), k34 mbb = some (mdz, mddz, mbbz) → GG κ E (mws E mk mo mm mt mv mx mp mtd mf ms mdz mddz mn mst mpl mbbz ma me mb mba mpg mdi mbl mby mw mz mso mbo mco mcd ml mr, none) (mws E mk mo mm mt mv mx mp mtd mf ms md mdd mn mst mpl mbb ma me mb mba mpg mdi mbl mby mw mz mso mbo mco mcd ml mr) 34 [some (.ref (ea E 0)), some (.int v1), some (.int v2), none] []) : ∀ (n : Nat) (v3 : Int32) (mbb : Nat → Int32), itr2 (p_X6_sized_L9 v1 v2 md k34) n v3 mbb = some (mdz, mddz, mbbz) → GG κ E (mws E mk mo mm mt mv mx mp mtd mf ms mdz mddz mn mst mpl mbbz ma me mb mba mpg mdi mbl mby mw mz mso mbo mco mcd ml mr, none) (mws E mk mo mm mt mv mx mp mtd mf ms md mdd mn mst mpl mbb ma me mb mba mpg mdi mbl mby mw mz mso mbo mco mcd ml mr) 9 [some (.ref (ea E 0)), some (.int v1), some (.int v2), some (.int v3)] [] :=
  itr2_ind (fun k9 hk9 v3 mbb h => by
    unfold p_X6_sized_L9 at h
    refine g_iload_n (pc' := 10) (i := 3) hC dX6_sized_9 rfl rfl rfl ?_
    refine g_iload_n (pc' := 11) (i := 2) hC dX6_sized_10 rfl rfl rfl ?_
    refine g_icmp_ge (pc' := 14) (tgt := 34) hC dX6_sized_11 (by decide) rfl h (fun h => ?_) (fun h => ?_)
    · refine g_aload_n (pc' := 15) (i := 0) hC dX6_sized_14 rfl rfl rfl ?_
      refine gf_X6_51 (pc' := 18) hC dX6_sized_15 rfl ?_
      refine g_iload_n (pc' := 19) (i := 3) hC dX6_sized_18 rfl rfl rfl ?_
      refine g_aload_n (pc' := 20) (i := 0) hC dX6_sized_19 rfl rfl rfl ?_
      refine gf_X6_39 (pc' := 23) hC dX6_sized_20 rfl ?_
      refine g_iload_n (pc' := 24) (i := 1) hC dX6_sized_23 rfl rfl rfl ?_
      refine g_iload_n (pc' := 25) (i := 3) hC dX6_sized_24 rfl rfl rfl ?_
      refine g_iadd (pc' := 26) hC dX6_sized_25 rfl ?_
      obtain ⟨g_1, h⟩ := gd_some h
      refine ld_md (pc' := 27) hC g_1 dX6_sized_26 rfl ?_
      obtain ⟨g_2, h⟩ := gd_some h
      refine st_mbb (pc' := 28) hC g_2 dX6_sized_27 rfl ?_
      refine g_iinc (pc' := 31) (i := 3) (x := v3) (k := (nI 1)) (lo' := [some (.ref (ea E 0)), some (.int v1), some (.int v2), some (.int (v3 + (nI 1)))]) hC dX6_sized_28 rfl (by decide) rfl rfl rfl rfl ?_
      refine g_goto (tgt := 9) hC dX6_sized_31 (by decide) ?_
      exact hk9 _ _ h
    · refine g_weak (lo' := [some (.ref (ea E 0)), some (.int v1), some (.int v2), none]) rfl ?_
      exact hk34 _ h)
set_option maxRecDepth 200000 in
theorem w_X6_sized_L48 {κ : GK} {E : GE} {mdz : Nat → Int32} {mddz : Int32} {mbbz : Nat → Int32} {v2 : Int32}  (hC : gC κ E cX6_sized RX6 none rm_X6_sized 4)   : ∀ (n : Nat) (v3 : Int32) (md : Nat → Int32) (mdd : Int32), itr3 (p_X6_sized_L48 v2 mbb) n v3 md mdd = some (mdz, mddz, mbbz) → GG κ E (mws E mk mo mm mt mv mx mp mtd mf ms mdz mddz mn mst mpl mbbz ma me mb mba mpg mdi mbl mby mw mz mso mbo mco mcd ml mr, none) (mws E mk mo mm mt mv mx mp mtd mf ms md mdd mn mst mpl mbb ma me mb mba mpg mdi mbl mby mw mz mso mbo mco mcd ml mr) 48 [some (.ref (ea E 0)), none, some (.int v2), some (.int v3)] [] :=
  itr3_ind (fun k48 hk48 v3 md mdd h => by
    unfold p_X6_sized_L48 at h
    refine g_iload_n (pc' := 49) (i := 3) hC dX6_sized_48 rfl rfl rfl ?_
    refine g_iload_n (pc' := 50) (i := 2) hC dX6_sized_49 rfl rfl rfl ?_
    refine g_icmp_ge (pc' := 53) (tgt := 69) hC dX6_sized_50 (by decide) rfl h (fun h => ?_) (fun h => ?_)
    · refine g_aload_n (pc' := 54) (i := 0) hC dX6_sized_53 rfl rfl rfl ?_
      refine g_aload_n (pc' := 55) (i := 0) hC dX6_sized_54 rfl rfl rfl ?_
      refine gf_X6_51 (pc' := 58) hC dX6_sized_55 rfl ?_
      refine g_iload_n (pc' := 59) (i := 3) hC dX6_sized_58 rfl rfl rfl ?_
      obtain ⟨g_7, h⟩ := gd_some h
      refine ld_mbb (pc' := 60) hC g_7 dX6_sized_59 rfl ?_
      obtain ⟨md_8, mdd_9, hc_10, h⟩ := bd2_some h
      refine g_callV (pc' := 63) hC (c_X6_byteTo _ hc_10) ml_X6_98 (rc_M) (by decide) rfl rfl rfl rfl dX6_sized_60 rfl ?_
      refine g_iinc (pc' := 66) (i := 3) (x := v3) (k := (nI 1)) (lo' := [some (.ref (ea E 0)), none, some (.int v2), some (.int (v3 + (nI 1)))]) hC dX6_sized_63 rfl (by decide) rfl rfl rfl rfl ?_
      refine g_goto (tgt := 48) hC dX6_sized_66 (by decide) ?_
      exact hk48 _ _ _ h
    · obtain ⟨rfl, rfl, rfl⟩ := inj3 h; exact g_vret hC dX6_sized_69)
set_option maxRecDepth 200000 in
theorem c_X6_sized (l : Launch) {E : GE} {mdz : Nat → Int32} {mddz : Int32} {mbbz : Nat → Int32} {v1 : Int32}  (h : p_X6_sized v1 md mdd mbb = some (mdz, mddz, mbbz)) : Met l yX6_sized (.code yX6_sized cX6_sized 4 none :: gU) rm_X6_sized (gP E (mws E mk mo mm mt mv mx mp mtd mf ms md mdd mn mst mpl mbb ma me mb mba mpg mdi mbl mby mw mz mso mbo mco mcd ml mr) [.ref (ea E 0), .int v1]) (gQ E (mws E mk mo mm mt mv mx mp mtd mf ms mdz mddz mn mst mpl mbbz ma me mb mba mpg mdi mbl mby mw mz mso mbo mco mcd ml mr) none) 0 0 E.2.2.1 := by
  refine met_of (y := yX6_sized) (own := RX6) (lo := [some (.ref (ea E 0)), some (.int v1), none, none]) (by decide) rfl rfl rfl (fun κ hl hC => ?_)
  subst hl
  unfold p_X6_sized at h
  refine g_aload_n (pc' := 1) (i := 0) hC dX6_sized_0 rfl rfl rfl ?_
  refine gf_X6_95 (pc' := 4) hC dX6_sized_1 rfl ?_
  refine g_iload_n (pc' := 5) (i := 1) hC dX6_sized_4 rfl rfl rfl ?_
  refine g_isub (pc' := 6) hC dX6_sized_5 rfl ?_
  refine g_istore_n (pc' := 7) (i := 2) (lo' := [some (.ref (ea E 0)), some (.int v1), some (.int (mdd - v1)), none]) hC dX6_sized_6 rfl rfl rfl rfl rfl ?_
  refine g_iconst (pc' := 8) (v := (nI 0)) hC dX6_sized_7 (by decide) rfl ?_
  refine g_istore_n (pc' := 9) (i := 3) (lo' := [some (.ref (ea E 0)), some (.int v1), some (.int (mdd - v1)), some (.int (nI 0))]) hC dX6_sized_8 rfl rfl rfl rfl rfl ?_
  refine w_X6_sized_L9 hC  ?_ _ _ _ h
  · intro mbb_3 h
    refine g_aload_n (pc' := 35) (i := 0) hC dX6_sized_34 rfl rfl rfl ?_
    refine g_iload_n (pc' := 36) (i := 1) hC dX6_sized_35 rfl rfl rfl ?_
    refine pf_X6_95 (pc' := 39) hC dX6_sized_36 rfl ?_
    refine g_aload_n (pc' := 40) (i := 0) hC dX6_sized_39 rfl rfl rfl ?_
    refine g_iload_n (pc' := 41) (i := 2) hC dX6_sized_40 rfl rfl rfl ?_
    refine g_i2l (pc' := 42) hC dX6_sized_41 rfl ?_
    refine g_iconst (pc' := 43) (v := (nI 4)) hC dX6_sized_42 (by decide) rfl ?_
    obtain ⟨md_4, mdd_5, hc_6, h⟩ := bd2_some h
    refine g_callV (pc' := 46) hC (c_X6_bytesTo _ hc_6) ml_X6_116 (rc_M) (by decide) rfl rfl rfl rfl dX6_sized_43 rfl ?_
    refine g_iconst (pc' := 47) (v := (nI 0)) hC dX6_sized_46 (by decide) rfl ?_
    refine g_istore_n (pc' := 48) (i := 3) (lo' := [some (.ref (ea E 0)), some (.int v1), some (.int (mdd - v1)), some (.int (nI 0))]) hC dX6_sized_47 rfl rfl rfl rfl rfl ?_
    refine g_weak (lo' := [some (.ref (ea E 0)), none, some (.int (mdd - v1)), some (.int (nI 0))]) rfl ?_
    refine w_X6_sized_L48 hC   _ _ _ _ h
end WALK
