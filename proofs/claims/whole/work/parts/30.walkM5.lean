section WALK
variable {mk : Nat → Int32} {mo : Nat → Int32} {mm : Nat → Int32} {mt : Nat → Int32} {mv : Nat → Int64} {mx : Nat → Int32} {mp : Nat → Int32} {mtd : Int32} {mf : Nat → Int32} {ms : Int32} {md : Nat → Int32} {mdd : Int32} {mn : Nat → Int64} {mst : Nat → Int64} {mpl : Nat → Int32} {mbb : Nat → Int32} {ma : Int32} {me : Int32} {mb : Int32} {mba : Int32} {mpg : Int32} {mdi : Int32} {mbl : Int32} {mby : Int32} {mw : Nat → Int32} {mz : Int32} {mso : Int32} {mbo : Int32} {mco : Int32} {mcd : Int32} {ml : Nat → Int32} {mr : Int32}
set_option maxRecDepth 200000 in
theorem w_X6_readPlaces_L53 {κ : GK} {E : GE} {rr : Int32} {mmz : Nat → Int32} {mtz : Nat → Int32} {mvz : Nat → Int64} {mxz : Nat → Int32} {mnz : Nat → Int64} {maz : Int32} {mbz : Int32} {mbaz : Int32} {mblz : Int32} {mbyz : Int32} {v1 : Int32} {v4 : Int32} {k90 : Option (Int32 × (Nat → Int32) × (Nat → Int32) × (Nat → Int64) × (Nat → Int32) × (Nat → Int64) × Int32 × Int32 × Int32 × Int32 × Int32)} (hC : gC κ E cX6_readPlaces RX6 (some .boolean) rm_X6_readPlaces 7)  (hk90 : k90 = some (rr, mmz, mtz, mvz, mxz, mnz, maz, mbz, mbaz, mblz, mbyz) → GG κ E (mws E mk mo mmz mtz mvz mxz mp mtd mf ms md mdd mnz mst mpl mbb maz me mbz mbaz mpg mdi mblz mbyz mw mz mso mbo mco mcd ml mr, some (.int rr)) (mws E mk mo mm mt mv mx mp mtd mf ms md mdd mn mst mpl mbb ma me mb mba mpg mdi mbl mby mw mz mso mbo mco mcd ml mr) 90 [some (.ref (ea E 0)), some (.int v1), none, none, none, none, none] []) : ∀ (n : Nat) (v5 : Int32), itr1 (p_X6_readPlaces_L53 v1 v4 mm mt mv mx mn ma mb mba mdi mbl mby k90) n v5 = some (rr, mmz, mtz, mvz, mxz, mnz, maz, mbz, mbaz, mblz, mbyz) → GG κ E (mws E mk mo mmz mtz mvz mxz mp mtd mf ms md mdd mnz mst mpl mbb maz me mbz mbaz mpg mdi mblz mbyz mw mz mso mbo mco mcd ml mr, some (.int rr)) (mws E mk mo mm mt mv mx mp mtd mf ms md mdd mn mst mpl mbb ma me mb mba mpg mdi mbl mby mw mz mso mbo mco mcd ml mr) 53 [some (.ref (ea E 0)), some (.int v1), none, none, some (.int v4), some (.int v5), none] [] :=
  itr1_ind (fun k53 hk53 v5 h => by
    unfold p_X6_readPlaces_L53 at h
    refine g_iload (pc' := 55) (i := 5) hC dX6_readPlaces_53 rfl rfl ?_
    refine g_iload_n (pc' := 56) (i := 1) hC dX6_readPlaces_55 rfl rfl rfl ?_
    refine g_icmp_ge (pc' := 59) (tgt := 90) hC dX6_readPlaces_56 (by decide) rfl h (fun h => ?_) (fun h => ?_)
    · refine g_aload_n (pc' := 60) (i := 0) hC dX6_readPlaces_59 rfl rfl rfl ?_
      refine gf_X6_42 (pc' := 63) hC dX6_readPlaces_60 rfl ?_
      refine g_iload (pc' := 65) (i := 5) hC dX6_readPlaces_63 rfl rfl ?_
      obtain ⟨g_19, h⟩ := gd_some h
      refine ld_mn (pc' := 66) hC g_19 dX6_readPlaces_65 rfl ?_
      refine g_aload_n (pc' := 67) (i := 0) hC dX6_readPlaces_66 rfl rfl rfl ?_
      refine gf_X6_248 (pc' := 70) hC dX6_readPlaces_67 rfl ?_
      refine g_i2l (pc' := 71) hC dX6_readPlaces_70 rfl ?_
      refine g_lcmp_lt (pc' := 75) (tgt := 84) hC dX6_readPlaces_71 dX6_readPlaces_72 rfl (by decide) rfl h (fun h => ?_) (fun h => ?_)
      · refine g_iinc (pc' := 87) (i := 5) (x := v5) (k := (nI 1)) (lo' := [some (.ref (ea E 0)), some (.int v1), none, none, some (.int v4), some (.int (v5 + (nI 1))), none]) hC dX6_readPlaces_84 rfl (by decide) rfl rfl rfl rfl ?_
        refine g_goto (tgt := 53) hC dX6_readPlaces_87 (by decide) ?_
        exact hk53 _ h
      · refine g_aload_n (pc' := 76) (i := 0) hC dX6_readPlaces_75 rfl rfl rfl ?_
        refine g_bipush (pc' := 78) (v := (nI 12)) hC dX6_readPlaces_76 (by decide) rfl ?_
        refine g_iload (pc' := 80) (i := 4) hC dX6_readPlaces_78 rfl rfl ?_
        obtain ⟨a_20, mb_21, mba_22, hc_23, h⟩ := bd3_some h
        refine g_callV (pc' := 83) hC (c_X6_fails _ hc_23) ml_X6_181 (rc_M) (by decide) rfl rfl rfl rfl dX6_readPlaces_80 rfl ?_
        obtain ⟨g_24, h⟩ := gd_some h
        obtain ⟨rfl, rfl, rfl, rfl, rfl, rfl, rfl, rfl, rfl, rfl, rfl⟩ := inj11 h; exact g_zret hC g_24 dX6_readPlaces_83
    · refine g_weak (lo' := [some (.ref (ea E 0)), some (.int v1), none, none, none, none, none]) rfl ?_
      exact hk90 h)
set_option maxRecDepth 200000 in
theorem w_X6_readPlaces_L93 {κ : GK} {E : GE} {rr : Int32} {mmz : Nat → Int32} {mtz : Nat → Int32} {mvz : Nat → Int64} {mxz : Nat → Int32} {mnz : Nat → Int64} {maz : Int32} {mbz : Int32} {mbaz : Int32} {mblz : Int32} {mbyz : Int32} {v1 : Int32}  (hC : gC κ E cX6_readPlaces RX6 (some .boolean) rm_X6_readPlaces 7)   : ∀ (n : Nat) (v5 : Int32) (mm : Nat → Int32) (mt : Nat → Int32) (mv : Nat → Int64) (mx : Nat → Int32), itr5 (p_X6_readPlaces_L93 v1 mn ma mb mba mbl mby) n v5 mm mt mv mx = some (rr, mmz, mtz, mvz, mxz, mnz, maz, mbz, mbaz, mblz, mbyz) → GG κ E (mws E mk mo mmz mtz mvz mxz mp mtd mf ms md mdd mnz mst mpl mbb maz me mbz mbaz mpg mdi mblz mbyz mw mz mso mbo mco mcd ml mr, some (.int rr)) (mws E mk mo mm mt mv mx mp mtd mf ms md mdd mn mst mpl mbb ma me mb mba mpg mdi mbl mby mw mz mso mbo mco mcd ml mr) 93 [some (.ref (ea E 0)), some (.int v1), none, none, none, some (.int v5), none] [] :=
  itr5_ind (fun k93 hk93 v5 mm mt mv mx h => by
    unfold p_X6_readPlaces_L93 at h
    refine g_iload (pc' := 95) (i := 5) hC dX6_readPlaces_93 rfl rfl ?_
    refine g_iload_n (pc' := 96) (i := 1) hC dX6_readPlaces_95 rfl rfl rfl ?_
    refine g_icmp_ge (pc' := 99) (tgt := 137) hC dX6_readPlaces_96 (by decide) rfl h (fun h => ?_) (fun h => ?_)
    · refine g_aload_n (pc' := 100) (i := 0) hC dX6_readPlaces_99 rfl rfl rfl ?_
      refine g_bipush (pc' := 102) (v := (nI 6)) hC dX6_readPlaces_100 (by decide) rfl ?_
      refine g_iconst (pc' := 103) (v := (nI 1)) hC dX6_readPlaces_102 (by decide) rfl ?_
      refine g_lconst (pc' := 104) (v := (lN 0)) hC dX6_readPlaces_103 (by decide) rfl ?_
      obtain ⟨a_25, mm_26, mt_27, mv_28, mx_29, hc_30, h⟩ := bd5_some h
      refine g_callV (pc' := 107) hC (c_X6_adds _ hc_30) ml_X6_70 (rc_M) (by decide) rfl rfl rfl rfl dX6_readPlaces_104 rfl ?_
      refine g_istore (pc' := 109) (i := 6) (lo' := [some (.ref (ea E 0)), some (.int v1), none, none, none, some (.int v5), some (.int a_25)]) hC dX6_readPlaces_107 rfl rfl rfl rfl ?_
      refine g_aload_n (pc' := 110) (i := 0) hC dX6_readPlaces_109 rfl rfl rfl ?_
      refine g_sipush (pc' := 113) (v := (nI 1200)) hC dX6_readPlaces_110 (by decide) rfl ?_
      refine g_iload (pc' := 115) (i := 6) hC dX6_readPlaces_113 rfl rfl ?_
      refine g_iadd (pc' := 116) hC dX6_readPlaces_115 rfl ?_
      refine g_sipush (pc' := 119) (v := (nI 1000)) hC dX6_readPlaces_116 (by decide) rfl ?_
      refine g_aload_n (pc' := 120) (i := 0) hC dX6_readPlaces_119 rfl rfl rfl ?_
      refine gf_X6_42 (pc' := 123) hC dX6_readPlaces_120 rfl ?_
      refine g_iload (pc' := 125) (i := 5) hC dX6_readPlaces_123 rfl rfl ?_
      obtain ⟨g_31, h⟩ := gd_some h
      refine ld_mn (pc' := 126) hC g_31 dX6_readPlaces_125 rfl ?_
      refine g_l2i (pc' := 127) hC dX6_readPlaces_126 rfl ?_
      refine g_iadd (pc' := 128) hC dX6_readPlaces_127 rfl ?_
      obtain ⟨mt_32, mv_33, mx_34, hc_35, h⟩ := bd3_some h
      refine g_callV (pc' := 131) hC (c_X6_copies _ hc_35) ml_X6_82 (rc_M) (by decide) rfl rfl rfl rfl dX6_readPlaces_128 rfl ?_
      refine g_iinc (pc' := 134) (i := 5) (x := v5) (k := (nI 1)) (lo' := [some (.ref (ea E 0)), some (.int v1), none, none, none, some (.int (v5 + (nI 1))), some (.int a_25)]) hC dX6_readPlaces_131 rfl (by decide) rfl rfl rfl rfl ?_
      refine g_goto (tgt := 93) hC dX6_readPlaces_134 (by decide) ?_
      refine g_weak (lo' := [some (.ref (ea E 0)), some (.int v1), none, none, none, some (.int (v5 + (nI 1))), none]) rfl ?_
      exact hk93 _ _ _ _ _ h
    · refine g_iconst (pc' := 138) (v := (nI 1)) hC dX6_readPlaces_137 (by decide) rfl ?_
      obtain ⟨rfl, rfl, rfl, rfl, rfl, rfl, rfl, rfl, rfl, rfl, rfl⟩ := inj11 h; exact g_zret hC (by decide) dX6_readPlaces_138)
set_option maxRecDepth 200000 in
theorem c_X6_readPlaces (l : Launch) {E : GE} {rr : Int32} {mmz : Nat → Int32} {mtz : Nat → Int32} {mvz : Nat → Int64} {mxz : Nat → Int32} {mnz : Nat → Int64} {maz : Int32} {mbz : Int32} {mbaz : Int32} {mblz : Int32} {mbyz : Int32} {v1 : Int32}  (h : p_X6_readPlaces v1 mm mt mv mx mf mn ma me mb mba mdi mbl mby = some (rr, mmz, mtz, mvz, mxz, mnz, maz, mbz, mbaz, mblz, mbyz)) : Met l yX6_readPlaces (.code yX6_readPlaces cX6_readPlaces 7 (some .boolean) :: gU) rm_X6_readPlaces (gP E (mws E mk mo mm mt mv mx mp mtd mf ms md mdd mn mst mpl mbb ma me mb mba mpg mdi mbl mby mw mz mso mbo mco mcd ml mr) [.ref (ea E 0), .int v1]) (gQ E (mws E mk mo mmz mtz mvz mxz mp mtd mf ms md mdd mnz mst mpl mbb maz me mbz mbaz mpg mdi mblz mbyz mw mz mso mbo mco mcd ml mr) (some (.int rr))) 0 0 E.2.2.1 := by
  refine met_of (y := yX6_readPlaces) (own := RX6) (lo := [some (.ref (ea E 0)), some (.int v1), none, none, none, none, none]) (by decide) rfl rfl rfl (fun κ hl hC => ?_)
  subst hl
  unfold p_X6_readPlaces at h
  refine g_aload_n (pc' := 1) (i := 0) hC dX6_readPlaces_0 rfl rfl rfl ?_
  refine gf_X6_175 (pc' := 4) hC dX6_readPlaces_1 rfl ?_
  refine g_istore_n (pc' := 5) (i := 2) (lo' := [some (.ref (ea E 0)), some (.int v1), some (.int ma), none, none, none, none]) hC dX6_readPlaces_4 rfl rfl rfl rfl rfl ?_
  refine g_aload_n (pc' := 6) (i := 0) hC dX6_readPlaces_5 rfl rfl rfl ?_
  obtain ⟨a_1, ma_2, mb_3, mba_4, hc_5, h⟩ := bd4_some h
  refine g_callV (pc' := 9) hC (c_X6_next _ hc_5) ml_X6_184 (rc_M) (by decide) rfl rfl rfl rfl dX6_readPlaces_6 rfl ?_
  refine g_istore_n (pc' := 10) (i := 3) (lo' := [some (.ref (ea E 0)), some (.int v1), some (.int ma), some (.int a_1), none, none, none]) hC dX6_readPlaces_9 rfl rfl rfl rfl rfl ?_
  refine g_aload_n (pc' := 11) (i := 0) hC dX6_readPlaces_10 rfl rfl rfl ?_
  refine gf_X6_169 (pc' := 14) hC dX6_readPlaces_11 rfl ?_
  refine g_if_eq (pc' := 17) (tgt := 19) hC dX6_readPlaces_14 (by decide) rfl h (fun h => ?_) (fun h => ?_)
  · refine g_iload_n (pc' := 20) (i := 3) hC dX6_readPlaces_19 rfl rfl rfl ?_
    refine g_bipush (pc' := 22) (v := (nI 32)) hC dX6_readPlaces_20 (by decide) rfl ?_
    refine g_icmp_le (pc' := 25) (tgt := 33) hC dX6_readPlaces_22 (by decide) rfl h (fun h => ?_) (fun h => ?_)
    · refine g_aload_n (pc' := 26) (i := 0) hC dX6_readPlaces_25 rfl rfl rfl ?_
      refine g_bipush (pc' := 28) (v := (nI 11)) hC dX6_readPlaces_26 (by decide) rfl ?_
      refine g_iload_n (pc' := 29) (i := 2) hC dX6_readPlaces_28 rfl rfl rfl ?_
      obtain ⟨a_6, mb_7, mba_8, hc_9, h⟩ := bd3_some h
      refine g_callV (pc' := 32) hC (c_X6_fails _ hc_9) ml_X6_181 (rc_M) (by decide) rfl rfl rfl rfl dX6_readPlaces_29 rfl ?_
      obtain ⟨g_10, h⟩ := gd_some h
      obtain ⟨rfl, rfl, rfl, rfl, rfl, rfl, rfl, rfl, rfl, rfl, rfl⟩ := inj11 h; exact g_zret hC g_10 dX6_readPlaces_32
    · refine g_aload_n (pc' := 34) (i := 0) hC dX6_readPlaces_33 rfl rfl rfl ?_
      refine gf_X6_175 (pc' := 37) hC dX6_readPlaces_34 rfl ?_
      refine g_istore (pc' := 39) (i := 4) (lo' := [some (.ref (ea E 0)), some (.int v1), some (.int ma), some (.int a_1), some (.int ma_2), none, none]) hC dX6_readPlaces_37 rfl rfl rfl rfl ?_
      refine g_aload_n (pc' := 40) (i := 0) hC dX6_readPlaces_39 rfl rfl rfl ?_
      refine g_iload_n (pc' := 41) (i := 1) hC dX6_readPlaces_40 rfl rfl rfl ?_
      refine g_iload_n (pc' := 42) (i := 3) hC dX6_readPlaces_41 rfl rfl rfl ?_
      obtain ⟨a_11, mn_12, ma_13, mb_14, mba_15, mbl_16, mby_17, hc_18, h⟩ := bd7_some h
      refine g_callV (pc' := 45) hC (c_X6_readRuns _ hc_18) ml_X6_266 (rc_M) (by decide) rfl rfl rfl rfl dX6_readPlaces_42 rfl ?_
      refine g_if_ne (pc' := 48) (tgt := 50) hC dX6_readPlaces_45 (by decide) rfl h (fun h => ?_) (fun h => ?_)
      · refine g_iconst (pc' := 49) (v := (nI 0)) hC dX6_readPlaces_48 (by decide) rfl ?_
        obtain ⟨rfl, rfl, rfl, rfl, rfl, rfl, rfl, rfl, rfl, rfl, rfl⟩ := inj11 h; exact g_zret hC (by decide) dX6_readPlaces_49
      · refine g_iconst (pc' := 51) (v := (nI 0)) hC dX6_readPlaces_50 (by decide) rfl ?_
        refine g_istore (pc' := 53) (i := 5) (lo' := [some (.ref (ea E 0)), some (.int v1), some (.int ma), some (.int a_1), some (.int ma_2), some (.int (nI 0)), none]) hC dX6_readPlaces_51 rfl rfl rfl rfl ?_
        refine g_weak (lo' := [some (.ref (ea E 0)), some (.int v1), none, none, some (.int ma_2), some (.int (nI 0)), none]) rfl ?_
        refine w_X6_readPlaces_L53 hC  ?_ _ _ h
        · intro h
          refine g_iconst (pc' := 91) (v := (nI 0)) hC dX6_readPlaces_90 (by decide) rfl ?_
          refine g_istore (pc' := 93) (i := 5) (lo' := [some (.ref (ea E 0)), some (.int v1), none, none, none, some (.int (nI 0)), none]) hC dX6_readPlaces_91 rfl rfl rfl rfl ?_
          refine w_X6_readPlaces_L93 hC   _ _ _ _ _ _ h
  · refine g_iconst (pc' := 18) (v := (nI 0)) hC dX6_readPlaces_17 (by decide) rfl ?_
    obtain ⟨rfl, rfl, rfl, rfl, rfl, rfl, rfl, rfl, rfl, rfl, rfl⟩ := inj11 h; exact g_zret hC (by decide) dX6_readPlaces_18
set_option maxRecDepth 200000 in
theorem w_X6_readTexts_J52 {κ : GK} {E : GE} {rr : Int32} {mmz : Nat → Int32} {mtz : Nat → Int32} {mvz : Nat → Int64} {mxz : Nat → Int32} {mnz : Nat → Int64} {maz : Int32} {mbz : Int32} {mbaz : Int32} {mblz : Int32} {mbyz : Int32} {mwz : Nat → Int32} {v1 : Int32} {v2 : Int32} {v3 : Int64} {v6 : Int32} {s0 : Int32} {k19 : Int64 → Int32 → Int32 → Option (Int32 × (Nat → Int32) × (Nat → Int32) × (Nat → Int64) × (Nat → Int32) × (Nat → Int64) × Int32 × Int32 × Int32 × Int32 × Int32 × (Nat → Int32))} (hC : gC κ E cX6_readTexts RX6 (some .boolean) rm_X6_readTexts 7)  (hk19 : ∀ (v3 : Int64) (v5 : Int32) (v6 : Int32), k19 v3 v5 v6 = some (rr, mmz, mtz, mvz, mxz, mnz, maz, mbz, mbaz, mblz, mbyz, mwz) → GG κ E (mws E mk mo mmz mtz mvz mxz mp mtd mf ms md mdd mnz mst mpl mbb maz me mbz mbaz mpg mdi mblz mbyz mwz mz mso mbo mco mcd ml mr, some (.int rr)) (mws E mk mo mm mt mv mx mp mtd mf ms md mdd mn mst mpl mbb ma me mb mba mpg mdi mbl mby mw mz mso mbo mco mcd ml mr) 19 [some (.ref (ea E 0)), some (.int v1), some (.int v2), some (.long v3), none, some (.int v5), some (.int v6)] []) (h : p_X6_readTexts_J52 v3 v6 s0 mn k19 = some (rr, mmz, mtz, mvz, mxz, mnz, maz, mbz, mbaz, mblz, mbyz, mwz)) : GG κ E (mws E mk mo mmz mtz mvz mxz mp mtd mf ms md mdd mnz mst mpl mbb maz me mbz mbaz mpg mdi mblz mbyz mwz mz mso mbo mco mcd ml mr, some (.int rr)) (mws E mk mo mm mt mv mx mp mtd mf ms md mdd mn mst mpl mbb ma me mb mba mpg mdi mbl mby mw mz mso mbo mco mcd ml mr) 52 [some (.ref (ea E 0)), some (.int v1), some (.int v2), some (.long v3), none, none, some (.int v6)] [.int s0] := by
  unfold p_X6_readTexts_J52 at h
  refine g_istore (pc' := 54) (i := 5) (lo' := [some (.ref (ea E 0)), some (.int v1), some (.int v2), some (.long v3), none, some (.int s0), some (.int v6)]) hC dX6_readTexts_52 rfl rfl rfl rfl ?_
  refine g_lload_n (pc' := 55) (i := 3) hC dX6_readTexts_54 rfl rfl rfl ?_
  refine g_aload_n (pc' := 56) (i := 0) hC dX6_readTexts_55 rfl rfl rfl ?_
  refine gf_X6_42 (pc' := 59) hC dX6_readTexts_56 rfl ?_
  refine g_iload (pc' := 61) (i := 6) hC dX6_readTexts_59 rfl rfl ?_
  obtain ⟨g_10, h⟩ := gd_some h
  refine ld_mn (pc' := 62) hC g_10 dX6_readTexts_61 rfl ?_
  refine g_ladd (pc' := 63) hC dX6_readTexts_62 rfl ?_
  refine g_lstore_n (pc' := 64) (i := 3) (lo' := [some (.ref (ea E 0)), some (.int v1), some (.int v2), some (.long (v3 + (mn (ix v6)))), none, some (.int s0), some (.int v6)]) hC dX6_readTexts_63 rfl rfl rfl rfl rfl ?_
  refine g_iinc (pc' := 67) (i := 6) (x := v6) (k := (nI 1)) (lo' := [some (.ref (ea E 0)), some (.int v1), some (.int v2), some (.long (v3 + (mn (ix v6)))), none, some (.int s0), some (.int (v6 + (nI 1)))]) hC dX6_readTexts_64 rfl (by decide) rfl rfl rfl rfl ?_
  refine g_goto (tgt := 19) hC dX6_readTexts_67 (by decide) ?_
  exact hk19 _ _ _ h
set_option maxRecDepth 200000 in
theorem w_X6_readTexts_J51 {κ : GK} {E : GE} {rr : Int32} {mmz : Nat → Int32} {mtz : Nat → Int32} {mvz : Nat → Int64} {mxz : Nat → Int32} {mnz : Nat → Int64} {maz : Int32} {mbz : Int32} {mbaz : Int32} {mblz : Int32} {mbyz : Int32} {mwz : Nat → Int32} {v1 : Int32} {v2 : Int32} {v3 : Int64} {v6 : Int32} {k19 : Int64 → Int32 → Int32 → Option (Int32 × (Nat → Int32) × (Nat → Int32) × (Nat → Int64) × (Nat → Int32) × (Nat → Int64) × Int32 × Int32 × Int32 × Int32 × Int32 × (Nat → Int32))} (hC : gC κ E cX6_readTexts RX6 (some .boolean) rm_X6_readTexts 7)  (hk19 : ∀ (v3 : Int64) (v5 : Int32) (v6 : Int32), k19 v3 v5 v6 = some (rr, mmz, mtz, mvz, mxz, mnz, maz, mbz, mbaz, mblz, mbyz, mwz) → GG κ E (mws E mk mo mmz mtz mvz mxz mp mtd mf ms md mdd mnz mst mpl mbb maz me mbz mbaz mpg mdi mblz mbyz mwz mz mso mbo mco mcd ml mr, some (.int rr)) (mws E mk mo mm mt mv mx mp mtd mf ms md mdd mn mst mpl mbb ma me mb mba mpg mdi mbl mby mw mz mso mbo mco mcd ml mr) 19 [some (.ref (ea E 0)), some (.int v1), some (.int v2), some (.long v3), none, some (.int v5), some (.int v6)] []) (h : p_X6_readTexts_J51 v3 v6 mn k19 = some (rr, mmz, mtz, mvz, mxz, mnz, maz, mbz, mbaz, mblz, mbyz, mwz)) : GG κ E (mws E mk mo mmz mtz mvz mxz mp mtd mf ms md mdd mnz mst mpl mbb maz me mbz mbaz mpg mdi mblz mbyz mwz mz mso mbo mco mcd ml mr, some (.int rr)) (mws E mk mo mm mt mv mx mp mtd mf ms md mdd mn mst mpl mbb ma me mb mba mpg mdi mbl mby mw mz mso mbo mco mcd ml mr) 51 [some (.ref (ea E 0)), some (.int v1), some (.int v2), some (.long v3), none, none, some (.int v6)] [] := by
  unfold p_X6_readTexts_J51 at h
  refine g_iconst (pc' := 52) (v := (nI 0)) hC dX6_readTexts_51 (by decide) rfl ?_
  exact w_X6_readTexts_J52 hC  hk19 h
set_option maxRecDepth 200000 in
theorem w_X6_readTexts_L19 {κ : GK} {E : GE} {rr : Int32} {mmz : Nat → Int32} {mtz : Nat → Int32} {mvz : Nat → Int64} {mxz : Nat → Int32} {mnz : Nat → Int64} {maz : Int32} {mbz : Int32} {mbaz : Int32} {mblz : Int32} {mbyz : Int32} {mwz : Nat → Int32} {v1 : Int32} {v2 : Int32} {k70 : Int64 → Int32 → Option (Int32 × (Nat → Int32) × (Nat → Int32) × (Nat → Int64) × (Nat → Int32) × (Nat → Int64) × Int32 × Int32 × Int32 × Int32 × Int32 × (Nat → Int32))} (hC : gC κ E cX6_readTexts RX6 (some .boolean) rm_X6_readTexts 7)  (hk70 : ∀ (v3 : Int64) (v5 : Int32), k70 v3 v5 = some (rr, mmz, mtz, mvz, mxz, mnz, maz, mbz, mbaz, mblz, mbyz, mwz) → GG κ E (mws E mk mo mmz mtz mvz mxz mp mtd mf ms md mdd mnz mst mpl mbb maz me mbz mbaz mpg mdi mblz mbyz mwz mz mso mbo mco mcd ml mr, some (.int rr)) (mws E mk mo mm mt mv mx mp mtd mf ms md mdd mn mst mpl mbb ma me mb mba mpg mdi mbl mby mw mz mso mbo mco mcd ml mr) 70 [some (.ref (ea E 0)), some (.int v1), some (.int v2), some (.long v3), none, some (.int v5), none] []) : ∀ (n : Nat) (v3 : Int64) (v5 : Int32) (v6 : Int32), itr3 (p_X6_readTexts_L19 v1 mn k70) n v3 v5 v6 = some (rr, mmz, mtz, mvz, mxz, mnz, maz, mbz, mbaz, mblz, mbyz, mwz) → GG κ E (mws E mk mo mmz mtz mvz mxz mp mtd mf ms md mdd mnz mst mpl mbb maz me mbz mbaz mpg mdi mblz mbyz mwz mz mso mbo mco mcd ml mr, some (.int rr)) (mws E mk mo mm mt mv mx mp mtd mf ms md mdd mn mst mpl mbb ma me mb mba mpg mdi mbl mby mw mz mso mbo mco mcd ml mr) 19 [some (.ref (ea E 0)), some (.int v1), some (.int v2), some (.long v3), none, some (.int v5), some (.int v6)] [] :=
  itr3_ind (fun k19 hk19 v3 v5 v6 h => by
    unfold p_X6_readTexts_L19 at h
    refine g_iload (pc' := 21) (i := 6) hC dX6_readTexts_19 rfl rfl ?_
    refine g_iload_n (pc' := 22) (i := 1) hC dX6_readTexts_21 rfl rfl rfl ?_
    refine g_icmp_ge (pc' := 25) (tgt := 70) hC dX6_readTexts_22 (by decide) rfl h (fun h => ?_) (fun h => ?_)
    · refine g_iload (pc' := 27) (i := 5) hC dX6_readTexts_25 rfl rfl ?_
      refine g_if_eq (pc' := 30) (tgt := 51) hC dX6_readTexts_27 (by decide) rfl h (fun h => ?_) (fun h => ?_)
      · refine g_weak (lo' := [some (.ref (ea E 0)), some (.int v1), some (.int v2), some (.long v3), none, none, some (.int v6)]) rfl ?_
        exact w_X6_readTexts_J51 hC  hk19 h
      · refine g_aload_n (pc' := 31) (i := 0) hC dX6_readTexts_30 rfl rfl rfl ?_
        refine gf_X6_42 (pc' := 34) hC dX6_readTexts_31 rfl ?_
        refine g_iload (pc' := 36) (i := 6) hC dX6_readTexts_34 rfl rfl ?_
        obtain ⟨g_11, h⟩ := gd_some h
        refine ld_mn (pc' := 37) hC g_11 dX6_readTexts_36 rfl ?_
        refine g_lconst (pc' := 38) (v := (lN 0)) hC dX6_readTexts_37 (by decide) rfl ?_
        refine g_ldc2_w (pc' := 41) (v := (lN 40)) hC u_24 dX6_readTexts_38 rfl ?_
        obtain ⟨a_12, hc_13, h⟩ := bd1_some h
        refine g_callS (pc' := 44) hC (c_X6_in _ hc_13) ml_X6_62  (by decide) rfl rfl rfl dX6_readTexts_41 rfl ?_
        refine g_if_eq (pc' := 47) (tgt := 51) hC dX6_readTexts_44 (by decide) rfl h (fun h => ?_) (fun h => ?_)
        · refine g_weak (lo' := [some (.ref (ea E 0)), some (.int v1), some (.int v2), some (.long v3), none, none, some (.int v6)]) rfl ?_
          exact w_X6_readTexts_J51 hC  hk19 h
        · refine g_iconst (pc' := 48) (v := (nI 1)) hC dX6_readTexts_47 (by decide) rfl ?_
          refine g_goto (tgt := 52) hC dX6_readTexts_48 (by decide) ?_
          refine g_weak (lo' := [some (.ref (ea E 0)), some (.int v1), some (.int v2), some (.long v3), none, none, some (.int v6)]) rfl ?_
          exact w_X6_readTexts_J52 hC  hk19 h
    · refine g_weak (lo' := [some (.ref (ea E 0)), some (.int v1), some (.int v2), some (.long v3), none, some (.int v5), none]) rfl ?_
      exact hk70 _ _ h)
set_option maxRecDepth 200000 in
theorem w_X6_readTexts_L101 {κ : GK} {E : GE} {rr : Int32} {mmz : Nat → Int32} {mtz : Nat → Int32} {mvz : Nat → Int64} {mxz : Nat → Int32} {mnz : Nat → Int64} {maz : Int32} {mbz : Int32} {mbaz : Int32} {mblz : Int32} {mbyz : Int32} {mwz : Nat → Int32} {v1 : Int32}  (hC : gC κ E cX6_readTexts RX6 (some .boolean) rm_X6_readTexts 7)   : ∀ (n : Nat) (v6 : Int32) (mm : Nat → Int32) (mt : Nat → Int32) (mv : Nat → Int64) (mx : Nat → Int32) (ma : Int32) (mb : Int32) (mba : Int32), itr8 (p_X6_readTexts_L101 v1 mf mn me mbl mby mw) n v6 mm mt mv mx ma mb mba = some (rr, mmz, mtz, mvz, mxz, mnz, maz, mbz, mbaz, mblz, mbyz, mwz) → GG κ E (mws E mk mo mmz mtz mvz mxz mp mtd mf ms md mdd mnz mst mpl mbb maz me mbz mbaz mpg mdi mblz mbyz mwz mz mso mbo mco mcd ml mr, some (.int rr)) (mws E mk mo mm mt mv mx mp mtd mf ms md mdd mn mst mpl mbb ma me mb mba mpg mdi mbl mby mw mz mso mbo mco mcd ml mr) 101 [some (.ref (ea E 0)), some (.int v1), none, none, none, none, some (.int v6)] [] :=
  itr8_ind (fun k101 hk101 v6 mm mt mv mx ma mb mba h => by
    unfold p_X6_readTexts_L101 at h
    refine g_iload (pc' := 103) (i := 6) hC dX6_readTexts_101 rfl rfl ?_
    refine g_iload_n (pc' := 104) (i := 1) hC dX6_readTexts_103 rfl rfl rfl ?_
    refine g_icmp_ge (pc' := 107) (tgt := 132) hC dX6_readTexts_104 (by decide) rfl h (fun h => ?_) (fun h => ?_)
    · refine g_aload_n (pc' := 108) (i := 0) hC dX6_readTexts_107 rfl rfl rfl ?_
      refine g_bipush (pc' := 110) (v := (nI 6)) hC dX6_readTexts_108 (by decide) rfl ?_
      refine g_aload_n (pc' := 111) (i := 0) hC dX6_readTexts_110 rfl rfl rfl ?_
      refine gf_X6_42 (pc' := 114) hC dX6_readTexts_111 rfl ?_
      refine g_iload (pc' := 116) (i := 6) hC dX6_readTexts_114 rfl rfl ?_
      obtain ⟨g_26, h⟩ := gd_some h
      refine ld_mn (pc' := 117) hC g_26 dX6_readTexts_116 rfl ?_
      refine g_l2i (pc' := 118) hC dX6_readTexts_117 rfl ?_
      obtain ⟨a_27, mm_28, mt_29, mv_30, mx_31, ma_32, mb_33, mba_34, hc_35, h⟩ := bd8_some h
      refine g_callV (pc' := 121) hC (c_X6_readLetters _ hc_35) ml_X6_216 (rc_M) (by decide) rfl rfl rfl rfl dX6_readTexts_118 rfl ?_
      refine g_if_ne (pc' := 124) (tgt := 126) hC dX6_readTexts_121 (by decide) rfl h (fun h => ?_) (fun h => ?_)
      · refine g_iconst (pc' := 125) (v := (nI 0)) hC dX6_readTexts_124 (by decide) rfl ?_
        obtain ⟨rfl, rfl, rfl, rfl, rfl, rfl, rfl, rfl, rfl, rfl, rfl, rfl⟩ := inj12 h; exact g_zret hC (by decide) dX6_readTexts_125
      · refine g_iinc (pc' := 129) (i := 6) (x := v6) (k := (nI 1)) (lo' := [some (.ref (ea E 0)), some (.int v1), none, none, none, none, some (.int (v6 + (nI 1)))]) hC dX6_readTexts_126 rfl (by decide) rfl rfl rfl rfl ?_
        refine g_goto (tgt := 101) hC dX6_readTexts_129 (by decide) ?_
        exact hk101 _ _ _ _ _ _ _ _ h
    · refine g_iconst (pc' := 133) (v := (nI 1)) hC dX6_readTexts_132 (by decide) rfl ?_
      obtain ⟨rfl, rfl, rfl, rfl, rfl, rfl, rfl, rfl, rfl, rfl, rfl, rfl⟩ := inj12 h; exact g_zret hC (by decide) dX6_readTexts_133)
set_option maxRecDepth 200000 in
theorem c_X6_readTexts (l : Launch) {E : GE} {rr : Int32} {mmz : Nat → Int32} {mtz : Nat → Int32} {mvz : Nat → Int64} {mxz : Nat → Int32} {mnz : Nat → Int64} {maz : Int32} {mbz : Int32} {mbaz : Int32} {mblz : Int32} {mbyz : Int32} {mwz : Nat → Int32} {v1 : Int32} {v2 : Int32}  (h : p_X6_readTexts v1 v2 mm mt mv mx mf mn ma me mb mba mbl mby mw = some (rr, mmz, mtz, mvz, mxz, mnz, maz, mbz, mbaz, mblz, mbyz, mwz)) : Met l yX6_readTexts (.code yX6_readTexts cX6_readTexts 7 (some .boolean) :: gU) rm_X6_readTexts (gP E (mws E mk mo mm mt mv mx mp mtd mf ms md mdd mn mst mpl mbb ma me mb mba mpg mdi mbl mby mw mz mso mbo mco mcd ml mr) [.ref (ea E 0), .int v1, .int v2]) (gQ E (mws E mk mo mmz mtz mvz mxz mp mtd mf ms md mdd mnz mst mpl mbb maz me mbz mbaz mpg mdi mblz mbyz mwz mz mso mbo mco mcd ml mr) (some (.int rr))) 0 0 E.2.2.1 := by
  refine met_of (y := yX6_readTexts) (own := RX6) (lo := [some (.ref (ea E 0)), some (.int v1), some (.int v2), none, none, none, none]) (by decide) rfl rfl rfl (fun κ hl hC => ?_)
  subst hl
  unfold p_X6_readTexts at h
  refine g_aload_n (pc' := 1) (i := 0) hC dX6_readTexts_0 rfl rfl rfl ?_
  refine g_iload_n (pc' := 2) (i := 1) hC dX6_readTexts_1 rfl rfl rfl ?_
  refine g_iconst (pc' := 3) (v := (nI 1)) hC dX6_readTexts_2 (by decide) rfl ?_
  obtain ⟨a_1, mn_2, ma_3, mb_4, mba_5, mbl_6, mby_7, mw_8, hc_9, h⟩ := bd8_some h
  refine g_callV (pc' := 6) hC (c_X6_readDifferences _ hc_9) ml_X6_272 (rc_M) (by decide) rfl rfl rfl rfl dX6_readTexts_3 rfl ?_
  refine g_if_ne (pc' := 9) (tgt := 11) hC dX6_readTexts_6 (by decide) rfl h (fun h => ?_) (fun h => ?_)
  · refine g_iconst (pc' := 10) (v := (nI 0)) hC dX6_readTexts_9 (by decide) rfl ?_
    obtain ⟨rfl, rfl, rfl, rfl, rfl, rfl, rfl, rfl, rfl, rfl, rfl, rfl⟩ := inj12 h; exact g_zret hC (by decide) dX6_readTexts_10
  · refine g_lconst (pc' := 12) (v := (lN 0)) hC dX6_readTexts_11 (by decide) rfl ?_
    refine g_lstore_n (pc' := 13) (i := 3) (lo' := [some (.ref (ea E 0)), some (.int v1), some (.int v2), some (.long (lN 0)), none, none, none]) hC dX6_readTexts_12 rfl rfl rfl rfl rfl ?_
    refine g_iconst (pc' := 14) (v := (nI 1)) hC dX6_readTexts_13 (by decide) rfl ?_
    refine g_istore (pc' := 16) (i := 5) (lo' := [some (.ref (ea E 0)), some (.int v1), some (.int v2), some (.long (lN 0)), none, some (.int (nI 1)), none]) hC dX6_readTexts_14 rfl rfl rfl rfl ?_
    refine g_iconst (pc' := 17) (v := (nI 0)) hC dX6_readTexts_16 (by decide) rfl ?_
    refine g_istore (pc' := 19) (i := 6) (lo' := [some (.ref (ea E 0)), some (.int v1), some (.int v2), some (.long (lN 0)), none, some (.int (nI 1)), some (.int (nI 0))]) hC dX6_readTexts_17 rfl rfl rfl rfl ?_
    refine w_X6_readTexts_L19 hC  ?_ _ _ _ _ h
    · intro v3_14 v5_15 h
      refine g_iload (pc' := 72) (i := 5) hC dX6_readTexts_70 rfl rfl ?_
      refine g_if_eq (pc' := 75) (tgt := 87) hC dX6_readTexts_72 (by decide) rfl h (fun h => ?_) (fun h => ?_)
      · refine g_aload_n (pc' := 88) (i := 0) hC dX6_readTexts_87 rfl rfl rfl ?_
        refine g_bipush (pc' := 90) (v := (nI 10)) hC dX6_readTexts_88 (by decide) rfl ?_
        refine g_aload_n (pc' := 91) (i := 0) hC dX6_readTexts_90 rfl rfl rfl ?_
        refine gf_X6_175 (pc' := 94) hC dX6_readTexts_91 rfl ?_
        obtain ⟨a_16, mb_17, mba_18, hc_19, h⟩ := bd3_some h
        refine g_callV (pc' := 97) hC (c_X6_fails _ hc_19) ml_X6_181 (rc_M) (by decide) rfl rfl rfl rfl dX6_readTexts_94 rfl ?_
        obtain ⟨g_20, h⟩ := gd_some h
        obtain ⟨rfl, rfl, rfl, rfl, rfl, rfl, rfl, rfl, rfl, rfl, rfl, rfl⟩ := inj12 h; exact g_zret hC g_20 dX6_readTexts_97
      · refine g_lload_n (pc' := 76) (i := 3) hC dX6_readTexts_75 rfl rfl rfl ?_
        refine g_iload_n (pc' := 77) (i := 2) hC dX6_readTexts_76 rfl rfl rfl ?_
        refine g_aload_n (pc' := 78) (i := 0) hC dX6_readTexts_77 rfl rfl rfl ?_
        refine gf_X6_175 (pc' := 81) hC dX6_readTexts_78 rfl ?_
        refine g_isub (pc' := 82) hC dX6_readTexts_81 rfl ?_
        refine g_i2l (pc' := 83) hC dX6_readTexts_82 rfl ?_
        refine g_lcmp_le (pc' := 87) (tgt := 98) hC dX6_readTexts_83 dX6_readTexts_84 rfl (by decide) rfl h (fun h => ?_) (fun h => ?_)
        · refine g_aload_n (pc' := 88) (i := 0) hC dX6_readTexts_87 rfl rfl rfl ?_
          refine g_bipush (pc' := 90) (v := (nI 10)) hC dX6_readTexts_88 (by decide) rfl ?_
          refine g_aload_n (pc' := 91) (i := 0) hC dX6_readTexts_90 rfl rfl rfl ?_
          refine gf_X6_175 (pc' := 94) hC dX6_readTexts_91 rfl ?_
          obtain ⟨a_21, mb_22, mba_23, hc_24, h⟩ := bd3_some h
          refine g_callV (pc' := 97) hC (c_X6_fails _ hc_24) ml_X6_181 (rc_M) (by decide) rfl rfl rfl rfl dX6_readTexts_94 rfl ?_
          obtain ⟨g_25, h⟩ := gd_some h
          obtain ⟨rfl, rfl, rfl, rfl, rfl, rfl, rfl, rfl, rfl, rfl, rfl, rfl⟩ := inj12 h; exact g_zret hC g_25 dX6_readTexts_97
        · refine g_iconst (pc' := 99) (v := (nI 0)) hC dX6_readTexts_98 (by decide) rfl ?_
          refine g_istore (pc' := 101) (i := 6) (lo' := [some (.ref (ea E 0)), some (.int v1), some (.int v2), some (.long v3_14), none, some (.int v5_15), some (.int (nI 0))]) hC dX6_readTexts_99 rfl rfl rfl rfl ?_
          refine g_weak (lo' := [some (.ref (ea E 0)), some (.int v1), none, none, none, none, some (.int (nI 0))]) rfl ?_
          refine w_X6_readTexts_L101 hC   _ _ _ _ _ _ _ _ _ h
set_option maxRecDepth 200000 in
theorem w_X6_readValues_L33 {κ : GK} {E : GE} {rr : Int32} {mmz : Nat → Int32} {mtz : Nat → Int32} {mvz : Nat → Int64} {mxz : Nat → Int32} {mnz : Nat → Int64} {maz : Int32} {mez : Int32} {mbz : Int32} {mbaz : Int32} {mblz : Int32} {mbyz : Int32} {mwz : Nat → Int32} {v2 : Int32}  (hC : gC κ E cX6_readValues RX6 (some .boolean) rm_X6_readValues 7)   : ∀ (n : Nat) (v4 : Int32) (mm : Nat → Int32) (mt : Nat → Int32) (mv : Nat → Int64) (mx : Nat → Int32) (ma : Int32) (mb : Int32) (mba : Int32) (mbl : Int32) (mby : Int32), itr10 (p_X6_readValues_L33 v2 mf mn me mw) n v4 mm mt mv mx ma mb mba mbl mby = some (rr, mmz, mtz, mvz, mxz, mnz, maz, mez, mbz, mbaz, mblz, mbyz, mwz) → GG κ E (mws E mk mo mmz mtz mvz mxz mp mtd mf ms md mdd mnz mst mpl mbb maz mez mbz mbaz mpg mdi mblz mbyz mwz mz mso mbo mco mcd ml mr, some (.int rr)) (mws E mk mo mm mt mv mx mp mtd mf ms md mdd mn mst mpl mbb ma me mb mba mpg mdi mbl mby mw mz mso mbo mco mcd ml mr) 33 [some (.ref (ea E 0)), none, some (.int v2), none, some (.int v4), none, none] [] :=
  itr10_ind (fun k33 hk33 v4 mm mt mv mx ma mb mba mbl mby h => by
    unfold p_X6_readValues_L33 at h
    refine g_iload (pc' := 35) (i := 4) hC dX6_readValues_33 rfl rfl ?_
    refine g_iload_n (pc' := 36) (i := 2) hC dX6_readValues_35 rfl rfl rfl ?_
    refine g_icmp_ge (pc' := 39) (tgt := 69) hC dX6_readValues_36 (by decide) rfl h (fun h => ?_) (fun h => ?_)
    · refine g_aload_n (pc' := 40) (i := 0) hC dX6_readValues_39 rfl rfl rfl ?_
      refine g_iconst (pc' := 41) (v := (nI 1)) hC dX6_readValues_40 (by decide) rfl ?_
      obtain ⟨a_2, ma_3, mb_4, mba_5, mbl_6, mby_7, hc_8, h⟩ := bd6_some h
      refine g_callV (pc' := 44) hC (c_X6_readPacked _ hc_8) ml_X6_198 (rc_M) (by decide) rfl rfl rfl rfl dX6_readValues_41 rfl ?_
      refine g_lstore (pc' := 46) (i := 5) (lo' := [some (.ref (ea E 0)), none, some (.int v2), none, some (.int v4), some (.long a_2), none]) hC dX6_readValues_44 rfl rfl rfl rfl ?_
      refine g_aload_n (pc' := 47) (i := 0) hC dX6_readValues_46 rfl rfl rfl ?_
      refine gf_X6_169 (pc' := 50) hC dX6_readValues_47 rfl ?_
      refine g_if_eq (pc' := 53) (tgt := 55) hC dX6_readValues_50 (by decide) rfl h (fun h => ?_) (fun h => ?_)
      · refine g_aload_n (pc' := 56) (i := 0) hC dX6_readValues_55 rfl rfl rfl ?_
        refine g_bipush (pc' := 58) (v := (nI 6)) hC dX6_readValues_56 (by decide) rfl ?_
        refine g_lload (pc' := 60) (i := 5) hC dX6_readValues_58 rfl rfl ?_
        obtain ⟨mm_9, mt_10, mv_11, mx_12, hc_13, h⟩ := bd4_some h
        refine g_callV (pc' := 63) hC (c_X6_reads _ hc_13) ml_X6_219 (rc_M) (by decide) rfl rfl rfl rfl dX6_readValues_60 rfl ?_
        refine g_iinc (pc' := 66) (i := 4) (x := v4) (k := (nI 1)) (lo' := [some (.ref (ea E 0)), none, some (.int v2), none, some (.int (v4 + (nI 1))), some (.long a_2), none]) hC dX6_readValues_63 rfl (by decide) rfl rfl rfl rfl ?_
        refine g_goto (tgt := 33) hC dX6_readValues_66 (by decide) ?_
        refine g_weak (lo' := [some (.ref (ea E 0)), none, some (.int v2), none, some (.int (v4 + (nI 1))), none, none]) rfl ?_
        exact hk33 _ _ _ _ _ _ _ _ _ _ h
      · refine g_iconst (pc' := 54) (v := (nI 0)) hC dX6_readValues_53 (by decide) rfl ?_
        obtain ⟨rfl, rfl, rfl, rfl, rfl, rfl, rfl, rfl, rfl, rfl, rfl, rfl, rfl⟩ := inj13 h; exact g_zret hC (by decide) dX6_readValues_54
    · refine g_iconst (pc' := 70) (v := (nI 1)) hC dX6_readValues_69 (by decide) rfl ?_
      obtain ⟨rfl, rfl, rfl, rfl, rfl, rfl, rfl, rfl, rfl, rfl, rfl, rfl, rfl⟩ := inj13 h; exact g_zret hC (by decide) dX6_readValues_70)
set_option maxRecDepth 200000 in
theorem w_X6_readValues_L84 {κ : GK} {E : GE} {rr : Int32} {mmz : Nat → Int32} {mtz : Nat → Int32} {mvz : Nat → Int64} {mxz : Nat → Int32} {mnz : Nat → Int64} {maz : Int32} {mez : Int32} {mbz : Int32} {mbaz : Int32} {mblz : Int32} {mbyz : Int32} {mwz : Nat → Int32} {v1 : Int32} {v2 : Int32}  (hC : gC κ E cX6_readValues RX6 (some .boolean) rm_X6_readValues 7)   : ∀ (n : Nat) (v4 : Int32) (v5 : Int32) (mm : Nat → Int32) (mt : Nat → Int32) (mv : Nat → Int64) (mx : Nat → Int32) (ma : Int32) (mb : Int32) (mba : Int32), itr9 (p_X6_readValues_L84 v1 v2 mf mn me mbl mby mw) n v4 v5 mm mt mv mx ma mb mba = some (rr, mmz, mtz, mvz, mxz, mnz, maz, mez, mbz, mbaz, mblz, mbyz, mwz) → GG κ E (mws E mk mo mmz mtz mvz mxz mp mtd mf ms md mdd mnz mst mpl mbb maz mez mbz mbaz mpg mdi mblz mbyz mwz mz mso mbo mco mcd ml mr, some (.int rr)) (mws E mk mo mm mt mv mx mp mtd mf ms md mdd mn mst mpl mbb ma me mb mba mpg mdi mbl mby mw mz mso mbo mco mcd ml mr) 84 [some (.ref (ea E 0)), some (.int v1), some (.int v2), none, some (.int v4), some (.int v5), none] [] :=
  itr9_ind (fun k84 hk84 v4 v5 mm mt mv mx ma mb mba h => by
    unfold p_X6_readValues_L84 at h
    refine g_iload (pc' := 86) (i := 5) hC dX6_readValues_84 rfl rfl ?_
    refine g_iload_n (pc' := 87) (i := 2) hC dX6_readValues_86 rfl rfl rfl ?_
    refine g_icmp_ge (pc' := 90) (tgt := 110) hC dX6_readValues_87 (by decide) rfl h (fun h => ?_) (fun h => ?_)
    · refine g_iload (pc' := 92) (i := 4) hC dX6_readValues_90 rfl rfl ?_
      refine g_if_eq (pc' := 95) (tgt := 110) hC dX6_readValues_92 (by decide) rfl h (fun h => ?_) (fun h => ?_)
      · refine g_iload (pc' := 112) (i := 4) hC dX6_readValues_110 rfl rfl ?_
        obtain ⟨g_14, h⟩ := gd_some h
        obtain ⟨rfl, rfl, rfl, rfl, rfl, rfl, rfl, rfl, rfl, rfl, rfl, rfl, rfl⟩ := inj13 h; exact g_zret hC g_14 dX6_readValues_112
      · refine g_aload_n (pc' := 96) (i := 0) hC dX6_readValues_95 rfl rfl rfl ?_
        refine g_bipush (pc' := 98) (v := (nI 6)) hC dX6_readValues_96 (by decide) rfl ?_
        refine g_iload_n (pc' := 99) (i := 1) hC dX6_readValues_98 rfl rfl rfl ?_
        obtain ⟨a_15, mm_16, mt_17, mv_18, mx_19, ma_20, mb_21, mba_22, hc_23, h⟩ := bd8_some h
        refine g_callV (pc' := 102) hC (c_X6_readPlain _ hc_23) ml_X6_257 (rc_M) (by decide) rfl rfl rfl rfl dX6_readValues_99 rfl ?_
        refine g_istore (pc' := 104) (i := 4) (lo' := [some (.ref (ea E 0)), some (.int v1), some (.int v2), none, some (.int a_15), some (.int v5), none]) hC dX6_readValues_102 rfl rfl rfl rfl ?_
        refine g_iinc (pc' := 107) (i := 5) (x := v5) (k := (nI 1)) (lo' := [some (.ref (ea E 0)), some (.int v1), some (.int v2), none, some (.int a_15), some (.int (v5 + (nI 1))), none]) hC dX6_readValues_104 rfl (by decide) rfl rfl rfl rfl ?_
        refine g_goto (tgt := 84) hC dX6_readValues_107 (by decide) ?_
        exact hk84 _ _ _ _ _ _ _ _ _ h
    · refine g_iload (pc' := 112) (i := 4) hC dX6_readValues_110 rfl rfl ?_
      obtain ⟨g_24, h⟩ := gd_some h
      obtain ⟨rfl, rfl, rfl, rfl, rfl, rfl, rfl, rfl, rfl, rfl, rfl, rfl, rfl⟩ := inj13 h; exact g_zret hC g_24 dX6_readValues_112)
set_option maxRecDepth 200000 in
theorem w_X6_readValues_L143 {κ : GK} {E : GE} {rr : Int32} {mmz : Nat → Int32} {mtz : Nat → Int32} {mvz : Nat → Int64} {mxz : Nat → Int32} {mnz : Nat → Int64} {maz : Int32} {mez : Int32} {mbz : Int32} {mbaz : Int32} {mblz : Int32} {mbyz : Int32} {mwz : Nat → Int32} {v2 : Int32}  (hC : gC κ E cX6_readValues RX6 (some .boolean) rm_X6_readValues 7)   : ∀ (n : Nat) (v4 : Int32) (mm : Nat → Int32) (mt : Nat → Int32) (mv : Nat → Int64) (mx : Nat → Int32), itr5 (p_X6_readValues_L143 v2 mn ma me mb mba mbl mby mw) n v4 mm mt mv mx = some (rr, mmz, mtz, mvz, mxz, mnz, maz, mez, mbz, mbaz, mblz, mbyz, mwz) → GG κ E (mws E mk mo mmz mtz mvz mxz mp mtd mf ms md mdd mnz mst mpl mbb maz mez mbz mbaz mpg mdi mblz mbyz mwz mz mso mbo mco mcd ml mr, some (.int rr)) (mws E mk mo mm mt mv mx mp mtd mf ms md mdd mn mst mpl mbb ma me mb mba mpg mdi mbl mby mw mz mso mbo mco mcd ml mr) 143 [some (.ref (ea E 0)), none, some (.int v2), none, some (.int v4), none, none] [] :=
  itr5_ind (fun k143 hk143 v4 mm mt mv mx h => by
    unfold p_X6_readValues_L143 at h
    refine g_iload (pc' := 145) (i := 4) hC dX6_readValues_143 rfl rfl ?_
    refine g_iload_n (pc' := 146) (i := 2) hC dX6_readValues_145 rfl rfl rfl ?_
    refine g_icmp_ge (pc' := 149) (tgt := 168) hC dX6_readValues_146 (by decide) rfl h (fun h => ?_) (fun h => ?_)
    · refine g_aload_n (pc' := 150) (i := 0) hC dX6_readValues_149 rfl rfl rfl ?_
      refine g_bipush (pc' := 152) (v := (nI 6)) hC dX6_readValues_150 (by decide) rfl ?_
      refine g_aload_n (pc' := 153) (i := 0) hC dX6_readValues_152 rfl rfl rfl ?_
      refine gf_X6_42 (pc' := 156) hC dX6_readValues_153 rfl ?_
      refine g_iload (pc' := 158) (i := 4) hC dX6_readValues_156 rfl rfl ?_
      obtain ⟨g_34, h⟩ := gd_some h
      refine ld_mn (pc' := 159) hC g_34 dX6_readValues_158 rfl ?_
      obtain ⟨mm_35, mt_36, mv_37, mx_38, hc_39, h⟩ := bd4_some h
      refine g_callV (pc' := 162) hC (c_X6_reads _ hc_39) ml_X6_219 (rc_M) (by decide) rfl rfl rfl rfl dX6_readValues_159 rfl ?_
      refine g_iinc (pc' := 165) (i := 4) (x := v4) (k := (nI 1)) (lo' := [some (.ref (ea E 0)), none, some (.int v2), none, some (.int (v4 + (nI 1))), none, none]) hC dX6_readValues_162 rfl (by decide) rfl rfl rfl rfl ?_
      refine g_goto (tgt := 143) hC dX6_readValues_165 (by decide) ?_
      exact hk143 _ _ _ _ _ h
    · refine g_iconst (pc' := 169) (v := (nI 1)) hC dX6_readValues_168 (by decide) rfl ?_
      obtain ⟨rfl, rfl, rfl, rfl, rfl, rfl, rfl, rfl, rfl, rfl, rfl, rfl, rfl⟩ := inj13 h; exact g_zret hC (by decide) dX6_readValues_169)
set_option maxRecDepth 200000 in
theorem w_X6_readValues_J132 {κ : GK} {E : GE} {rr : Int32} {mmz : Nat → Int32} {mtz : Nat → Int32} {mvz : Nat → Int64} {mxz : Nat → Int32} {mnz : Nat → Int64} {maz : Int32} {mez : Int32} {mbz : Int32} {mbaz : Int32} {mblz : Int32} {mbyz : Int32} {mwz : Nat → Int32} {v2 : Int32} {s1 : Int32} {s2 : Int32}  (hC : gC κ E cX6_readValues RX6 (some .boolean) rm_X6_readValues 7)   (h : p_X6_readValues_J132 v2 s1 s2 mm mt mv mx mf mn ma me mb mba mbl mby mw = some (rr, mmz, mtz, mvz, mxz, mnz, maz, mez, mbz, mbaz, mblz, mbyz, mwz)) : GG κ E (mws E mk mo mmz mtz mvz mxz mp mtd mf ms md mdd mnz mst mpl mbb maz mez mbz mbaz mpg mdi mblz mbyz mwz mz mso mbo mco mcd ml mr, some (.int rr)) (mws E mk mo mm mt mv mx mp mtd mf ms md mdd mn mst mpl mbb ma me mb mba mpg mdi mbl mby mw mz mso mbo mco mcd ml mr) 132 [some (.ref (ea E 0)), none, some (.int v2), none, none, none, none] [.int s2, .int s1, .ref (ea E 0)] := by
  unfold p_X6_readValues_J132 at h
  obtain ⟨a_25, mn_26, ma_27, mb_28, mba_29, mbl_30, mby_31, mw_32, hc_33, h⟩ := bd8_some h
  refine g_callV (pc' := 135) hC (c_X6_readDifferences _ hc_33) ml_X6_272 (rc_M) (by decide) rfl rfl rfl rfl dX6_readValues_132 rfl ?_
  refine g_if_ne (pc' := 138) (tgt := 140) hC dX6_readValues_135 (by decide) rfl h (fun h => ?_) (fun h => ?_)
  · refine g_iconst (pc' := 139) (v := (nI 0)) hC dX6_readValues_138 (by decide) rfl ?_
    obtain ⟨rfl, rfl, rfl, rfl, rfl, rfl, rfl, rfl, rfl, rfl, rfl, rfl, rfl⟩ := inj13 h; exact g_zret hC (by decide) dX6_readValues_139
  · refine g_iconst (pc' := 141) (v := (nI 0)) hC dX6_readValues_140 (by decide) rfl ?_
    refine g_istore (pc' := 143) (i := 4) (lo' := [some (.ref (ea E 0)), none, some (.int v2), none, some (.int (nI 0)), none, none]) hC dX6_readValues_141 rfl rfl rfl rfl ?_
    refine w_X6_readValues_L143 hC   _ _ _ _ _ _ h
set_option maxRecDepth 200000 in
theorem w_X6_readValues_L258 {κ : GK} {E : GE} {rr : Int32} {mmz : Nat → Int32} {mtz : Nat → Int32} {mvz : Nat → Int64} {mxz : Nat → Int32} {mnz : Nat → Int64} {maz : Int32} {mez : Int32} {mbz : Int32} {mbaz : Int32} {mblz : Int32} {mbyz : Int32} {mwz : Nat → Int32} {v2 : Int32}  (hC : gC κ E cX6_readValues RX6 (some .boolean) rm_X6_readValues 7)   : ∀ (n : Nat) (v5 : Int32) (mm : Nat → Int32) (mt : Nat → Int32) (mv : Nat → Int64) (mx : Nat → Int32), itr5 (p_X6_readValues_L258 v2 mn ma me mb mba mbl mby mw) n v5 mm mt mv mx = some (rr, mmz, mtz, mvz, mxz, mnz, maz, mez, mbz, mbaz, mblz, mbyz, mwz) → GG κ E (mws E mk mo mmz mtz mvz mxz mp mtd mf ms md mdd mnz mst mpl mbb maz mez mbz mbaz mpg mdi mblz mbyz mwz mz mso mbo mco mcd ml mr, some (.int rr)) (mws E mk mo mm mt mv mx mp mtd mf ms md mdd mn mst mpl mbb ma me mb mba mpg mdi mbl mby mw mz mso mbo mco mcd ml mr) 258 [some (.ref (ea E 0)), none, some (.int v2), none, none, some (.int v5), none] [] :=
  itr5_ind (fun k258 hk258 v5 mm mt mv mx h => by
    unfold p_X6_readValues_L258 at h
    refine g_iload (pc' := 260) (i := 5) hC dX6_readValues_258 rfl rfl ?_
    refine g_iload_n (pc' := 261) (i := 2) hC dX6_readValues_260 rfl rfl rfl ?_
    refine g_icmp_ge (pc' := 264) (tgt := 283) hC dX6_readValues_261 (by decide) rfl h (fun h => ?_) (fun h => ?_)
    · refine g_aload_n (pc' := 265) (i := 0) hC dX6_readValues_264 rfl rfl rfl ?_
      refine g_bipush (pc' := 267) (v := (nI 6)) hC dX6_readValues_265 (by decide) rfl ?_
      refine g_aload_n (pc' := 268) (i := 0) hC dX6_readValues_267 rfl rfl rfl ?_
      refine gf_X6_42 (pc' := 271) hC dX6_readValues_268 rfl ?_
      refine g_iload (pc' := 273) (i := 5) hC dX6_readValues_271 rfl rfl ?_
      obtain ⟨g_84, h⟩ := gd_some h
      refine ld_mn (pc' := 274) hC g_84 dX6_readValues_273 rfl ?_
      obtain ⟨mm_85, mt_86, mv_87, mx_88, hc_89, h⟩ := bd4_some h
      refine g_callV (pc' := 277) hC (c_X6_reads _ hc_89) ml_X6_219 (rc_M) (by decide) rfl rfl rfl rfl dX6_readValues_274 rfl ?_
      refine g_iinc (pc' := 280) (i := 5) (x := v5) (k := (nI 1)) (lo' := [some (.ref (ea E 0)), none, some (.int v2), none, none, some (.int (v5 + (nI 1))), none]) hC dX6_readValues_277 rfl (by decide) rfl rfl rfl rfl ?_
      refine g_goto (tgt := 258) hC dX6_readValues_280 (by decide) ?_
      exact hk258 _ _ _ _ _ h
    · refine g_iconst (pc' := 284) (v := (nI 1)) hC dX6_readValues_283 (by decide) rfl ?_
      obtain ⟨rfl, rfl, rfl, rfl, rfl, rfl, rfl, rfl, rfl, rfl, rfl, rfl, rfl⟩ := inj13 h; exact g_zret hC (by decide) dX6_readValues_284)
set_option maxRecDepth 200000 in
theorem w_X6_readValues_J71 {κ : GK} {E : GE} {rr : Int32} {mmz : Nat → Int32} {mtz : Nat → Int32} {mvz : Nat → Int64} {mxz : Nat → Int32} {mnz : Nat → Int64} {maz : Int32} {mez : Int32} {mbz : Int32} {mbaz : Int32} {mblz : Int32} {mbyz : Int32} {mwz : Nat → Int32} {v1 : Int32} {v2 : Int32} {v3 : Int32}  (hC : gC κ E cX6_readValues RX6 (some .boolean) rm_X6_readValues 7)   (h : p_X6_readValues_J71 v1 v2 v3 mm mt mv mx mf mn ma me mb mba mdi mbl mby mw mcd = some (rr, mmz, mtz, mvz, mxz, mnz, maz, mez, mbz, mbaz, mblz, mbyz, mwz)) : GG κ E (mws E mk mo mmz mtz mvz mxz mp mtd mf ms md mdd mnz mst mpl mbb maz mez mbz mbaz mpg mdi mblz mbyz mwz mz mso mbo mco mcd ml mr, some (.int rr)) (mws E mk mo mm mt mv mx mp mtd mf ms md mdd mn mst mpl mbb ma me mb mba mpg mdi mbl mby mw mz mso mbo mco mcd ml mr) 71 [some (.ref (ea E 0)), some (.int v1), some (.int v2), some (.int v3), none, none, none] [] := by
  unfold p_X6_readValues_J71 at h
  refine g_aload_n (pc' := 72) (i := 0) hC dX6_readValues_71 rfl rfl rfl ?_
  refine gf_X6_251 (pc' := 75) hC dX6_readValues_72 rfl ?_
  refine g_if_ne (pc' := 78) (tgt := 113) hC dX6_readValues_75 (by decide) rfl h (fun h => ?_) (fun h => ?_)
  · refine g_iconst (pc' := 79) (v := (nI 1)) hC dX6_readValues_78 (by decide) rfl ?_
    refine g_istore (pc' := 81) (i := 4) (lo' := [some (.ref (ea E 0)), some (.int v1), some (.int v2), some (.int v3), some (.int (nI 1)), none, none]) hC dX6_readValues_79 rfl rfl rfl rfl ?_
    refine g_iconst (pc' := 82) (v := (nI 0)) hC dX6_readValues_81 (by decide) rfl ?_
    refine g_istore (pc' := 84) (i := 5) (lo' := [some (.ref (ea E 0)), some (.int v1), some (.int v2), some (.int v3), some (.int (nI 1)), some (.int (nI 0)), none]) hC dX6_readValues_82 rfl rfl rfl rfl ?_
    refine g_weak (lo' := [some (.ref (ea E 0)), some (.int v1), some (.int v2), none, some (.int (nI 1)), some (.int (nI 0)), none]) rfl ?_
    refine w_X6_readValues_L84 hC   _ _ _ _ _ _ _ _ _ _ h
  · refine g_aload_n (pc' := 114) (i := 0) hC dX6_readValues_113 rfl rfl rfl ?_
    refine gf_X6_251 (pc' := 117) hC dX6_readValues_114 rfl ?_
    refine g_iconst (pc' := 118) (v := (nI 5)) hC dX6_readValues_117 (by decide) rfl ?_
    refine g_icmp_ne (pc' := 121) (tgt := 170) hC dX6_readValues_118 (by decide) rfl h (fun h => ?_) (fun h => ?_)
    · refine g_aload_n (pc' := 122) (i := 0) hC dX6_readValues_121 rfl rfl rfl ?_
      refine g_iload_n (pc' := 123) (i := 2) hC dX6_readValues_122 rfl rfl rfl ?_
      refine g_iload_n (pc' := 124) (i := 1) hC dX6_readValues_123 rfl rfl rfl ?_
      refine g_if_ne (pc' := 127) (tgt := 131) hC dX6_readValues_124 (by decide) rfl h (fun h => ?_) (fun h => ?_)
      · refine g_iconst (pc' := 128) (v := (nI 1)) hC dX6_readValues_127 (by decide) rfl ?_
        refine g_goto (tgt := 132) hC dX6_readValues_128 (by decide) ?_
        refine g_weak (lo' := [some (.ref (ea E 0)), none, some (.int v2), none, none, none, none]) rfl ?_
        exact w_X6_readValues_J132 hC   h
      · refine g_iconst (pc' := 132) (v := (nI 0)) hC dX6_readValues_131 (by decide) rfl ?_
        refine g_weak (lo' := [some (.ref (ea E 0)), none, some (.int v2), none, none, none, none]) rfl ?_
        exact w_X6_readValues_J132 hC   h
    · refine g_aload_n (pc' := 171) (i := 0) hC dX6_readValues_170 rfl rfl rfl ?_
      refine gf_X6_251 (pc' := 174) hC dX6_readValues_171 rfl ?_
      refine g_bipush (pc' := 176) (v := (nI 6)) hC dX6_readValues_174 (by decide) rfl ?_
      refine g_icmp_ne (pc' := 179) (tgt := 186) hC dX6_readValues_176 (by decide) rfl h (fun h => ?_) (fun h => ?_)
      · refine g_aload_n (pc' := 180) (i := 0) hC dX6_readValues_179 rfl rfl rfl ?_
        refine g_iload_n (pc' := 181) (i := 2) hC dX6_readValues_180 rfl rfl rfl ?_
        refine g_iload_n (pc' := 182) (i := 3) hC dX6_readValues_181 rfl rfl rfl ?_
        obtain ⟨a_40, mm_41, mt_42, mv_43, mx_44, mn_45, ma_46, mb_47, mba_48, mbl_49, mby_50, mw_51, hc_52, h⟩ := bd12_some h
        refine g_callV (pc' := 185) hC (c_X6_readTexts _ hc_52) ml_X6_276 (rc_M) (by decide) rfl rfl rfl rfl dX6_readValues_182 rfl ?_
        obtain ⟨g_53, h⟩ := gd_some h
        obtain ⟨rfl, rfl, rfl, rfl, rfl, rfl, rfl, rfl, rfl, rfl, rfl, rfl, rfl⟩ := inj13 h; exact g_zret hC g_53 dX6_readValues_185
      · refine g_aload_n (pc' := 187) (i := 0) hC dX6_readValues_186 rfl rfl rfl ?_
        refine gf_X6_251 (pc' := 190) hC dX6_readValues_187 rfl ?_
        refine g_bipush (pc' := 192) (v := (nI 8)) hC dX6_readValues_190 (by decide) rfl ?_
        refine g_icmp_ne (pc' := 195) (tgt := 201) hC dX6_readValues_192 (by decide) rfl h (fun h => ?_) (fun h => ?_)
        · refine g_aload_n (pc' := 196) (i := 0) hC dX6_readValues_195 rfl rfl rfl ?_
          refine g_iload_n (pc' := 197) (i := 2) hC dX6_readValues_196 rfl rfl rfl ?_
          obtain ⟨a_54, mm_55, mt_56, mv_57, mx_58, mn_59, ma_60, mb_61, mba_62, mbl_63, mby_64, hc_65, h⟩ := bd11_some h
          refine g_callV (pc' := 200) hC (c_X6_readPlaces _ hc_65) ml_X6_279 (rc_M) (by decide) rfl rfl rfl rfl dX6_readValues_197 rfl ?_
          obtain ⟨g_66, h⟩ := gd_some h
          obtain ⟨rfl, rfl, rfl, rfl, rfl, rfl, rfl, rfl, rfl, rfl, rfl, rfl, rfl⟩ := inj13 h; exact g_zret hC g_66 dX6_readValues_200
        · refine g_aload_n (pc' := 202) (i := 0) hC dX6_readValues_201 rfl rfl rfl ?_
          refine g_sipush (pc' := 205) (v := (nI 12000)) hC dX6_readValues_202 (by decide) rfl ?_
          obtain ⟨a_67, ma_68, mb_69, mba_70, hc_71, h⟩ := bd4_some h
          refine g_callV (pc' := 208) hC (c_X6_readLength _ hc_71) ml_X6_212 (rc_M) (by decide) rfl rfl rfl rfl dX6_readValues_205 rfl ?_
          refine g_istore (pc' := 210) (i := 4) (lo' := [some (.ref (ea E 0)), some (.int v1), some (.int v2), some (.int v3), some (.int a_67), none, none]) hC dX6_readValues_208 rfl rfl rfl rfl ?_
          refine g_iload (pc' := 212) (i := 4) hC dX6_readValues_210 rfl rfl ?_
          refine g_if_ge (pc' := 215) (tgt := 217) hC dX6_readValues_212 (by decide) rfl h (fun h => ?_) (fun h => ?_)
          · refine g_iconst (pc' := 216) (v := (nI 0)) hC dX6_readValues_215 (by decide) rfl ?_
            obtain ⟨rfl, rfl, rfl, rfl, rfl, rfl, rfl, rfl, rfl, rfl, rfl, rfl, rfl⟩ := inj13 h; exact g_zret hC (by decide) dX6_readValues_216
          · refine g_aload_n (pc' := 218) (i := 0) hC dX6_readValues_217 rfl rfl rfl ?_
            refine g_aload_n (pc' := 219) (i := 0) hC dX6_readValues_218 rfl rfl rfl ?_
            refine gf_X6_175 (pc' := 222) hC dX6_readValues_219 rfl ?_
            refine g_iload (pc' := 224) (i := 4) hC dX6_readValues_222 rfl rfl ?_
            refine g_iadd (pc' := 225) hC dX6_readValues_224 rfl ?_
            refine pf_X6_178 (pc' := 228) hC dX6_readValues_225 rfl ?_
            refine g_aload_n (pc' := 229) (i := 0) hC dX6_readValues_228 rfl rfl rfl ?_
            refine g_iload_n (pc' := 230) (i := 2) hC dX6_readValues_229 rfl rfl rfl ?_
            refine g_iconst (pc' := 231) (v := (nI 1)) hC dX6_readValues_230 (by decide) rfl ?_
            obtain ⟨a_72, mn_73, ma_74, mb_75, mba_76, mbl_77, mby_78, hc_79, h⟩ := bd7_some h
            refine g_callV (pc' := 234) hC (c_X6_readRuns _ hc_79) ml_X6_266 (rc_M) (by decide) rfl rfl rfl rfl dX6_readValues_231 rfl ?_
            refine g_if_eq (pc' := 237) (tgt := 248) hC dX6_readValues_234 (by decide) rfl h (fun h => ?_) (fun h => ?_)
            · refine g_iconst (pc' := 249) (v := (nI 0)) hC dX6_readValues_248 (by decide) rfl ?_
              obtain ⟨rfl, rfl, rfl, rfl, rfl, rfl, rfl, rfl, rfl, rfl, rfl, rfl, rfl⟩ := inj13 h; exact g_zret hC (by decide) dX6_readValues_249
            · refine g_aload_n (pc' := 238) (i := 0) hC dX6_readValues_237 rfl rfl rfl ?_
              refine g_aload_n (pc' := 239) (i := 0) hC dX6_readValues_238 rfl rfl rfl ?_
              refine gf_X6_178 (pc' := 242) hC dX6_readValues_239 rfl ?_
              obtain ⟨a_80, mb_81, mba_82, hc_83, h⟩ := bd3_some h
              refine g_callV (pc' := 245) hC (c_X6_isOver _ hc_83) ml_X6_260 (rc_M) (by decide) rfl rfl rfl rfl dX6_readValues_242 rfl ?_
              refine g_if_ne (pc' := 248) (tgt := 250) hC dX6_readValues_245 (by decide) rfl h (fun h => ?_) (fun h => ?_)
              · refine g_iconst (pc' := 249) (v := (nI 0)) hC dX6_readValues_248 (by decide) rfl ?_
                obtain ⟨rfl, rfl, rfl, rfl, rfl, rfl, rfl, rfl, rfl, rfl, rfl, rfl, rfl⟩ := inj13 h; exact g_zret hC (by decide) dX6_readValues_249
              · refine g_aload_n (pc' := 251) (i := 0) hC dX6_readValues_250 rfl rfl rfl ?_
                refine g_iload_n (pc' := 252) (i := 3) hC dX6_readValues_251 rfl rfl rfl ?_
                refine pf_X6_178 (pc' := 255) hC dX6_readValues_252 rfl ?_
                refine g_iconst (pc' := 256) (v := (nI 0)) hC dX6_readValues_255 (by decide) rfl ?_
                refine g_istore (pc' := 258) (i := 5) (lo' := [some (.ref (ea E 0)), some (.int v1), some (.int v2), some (.int v3), some (.int a_67), some (.int (nI 0)), none]) hC dX6_readValues_256 rfl rfl rfl rfl ?_
                refine g_weak (lo' := [some (.ref (ea E 0)), none, some (.int v2), none, none, some (.int (nI 0)), none]) rfl ?_
                refine w_X6_readValues_L258 hC   _ _ _ _ _ _ h
set_option maxRecDepth 200000 in
theorem c_X6_readValues (l : Launch) {E : GE} {rr : Int32} {mmz : Nat → Int32} {mtz : Nat → Int32} {mvz : Nat → Int64} {mxz : Nat → Int32} {mnz : Nat → Int64} {maz : Int32} {mez : Int32} {mbz : Int32} {mbaz : Int32} {mblz : Int32} {mbyz : Int32} {mwz : Nat → Int32} {v1 : Int32} {v2 : Int32}  (h : p_X6_readValues v1 v2 mm mt mv mx mf mn ma me mb mba mdi mbl mby mw mcd = some (rr, mmz, mtz, mvz, mxz, mnz, maz, mez, mbz, mbaz, mblz, mbyz, mwz)) : Met l yX6_readValues (.code yX6_readValues cX6_readValues 7 (some .boolean) :: gU) rm_X6_readValues (gP E (mws E mk mo mm mt mv mx mp mtd mf ms md mdd mn mst mpl mbb ma me mb mba mpg mdi mbl mby mw mz mso mbo mco mcd ml mr) [.ref (ea E 0), .int v1, .int v2]) (gQ E (mws E mk mo mmz mtz mvz mxz mp mtd mf ms md mdd mnz mst mpl mbb maz mez mbz mbaz mpg mdi mblz mbyz mwz mz mso mbo mco mcd ml mr) (some (.int rr))) 0 0 E.2.2.1 := by
  refine met_of (y := yX6_readValues) (own := RX6) (lo := [some (.ref (ea E 0)), some (.int v1), some (.int v2), none, none, none, none]) (by decide) rfl rfl rfl (fun κ hl hC => ?_)
  subst hl
  unfold p_X6_readValues at h
  refine g_aload_n (pc' := 1) (i := 0) hC dX6_readValues_0 rfl rfl rfl ?_
  refine gf_X6_178 (pc' := 4) hC dX6_readValues_1 rfl ?_
  refine g_istore_n (pc' := 5) (i := 3) (lo' := [some (.ref (ea E 0)), some (.int v1), some (.int v2), some (.int me), none, none, none]) hC dX6_readValues_4 rfl rfl rfl rfl rfl ?_
  refine g_aload_n (pc' := 6) (i := 0) hC dX6_readValues_5 rfl rfl rfl ?_
  refine gf_X6_17 (pc' := 9) hC dX6_readValues_6 rfl ?_
  refine g_bipush (pc' := 11) (v := (nI 6)) hC dX6_readValues_9 (by decide) rfl ?_
  refine g_iconst (pc' := 12) (v := (nI 0)) hC dX6_readValues_11 (by decide) rfl ?_
  obtain ⟨g_1, h⟩ := gd_some h
  refine st_mm (pc' := 13) hC g_1 dX6_readValues_12 rfl ?_
  refine g_aload_n (pc' := 14) (i := 0) hC dX6_readValues_13 rfl rfl rfl ?_
  refine gf_X6_251 (pc' := 17) hC dX6_readValues_14 rfl ?_
  refine g_if_ne (pc' := 20) (tgt := 71) hC dX6_readValues_17 (by decide) rfl h (fun h => ?_) (fun h => ?_)
  · refine g_iload_n (pc' := 21) (i := 1) hC dX6_readValues_20 rfl rfl rfl ?_
    refine g_iconst (pc' := 22) (v := (nI 3)) hC dX6_readValues_21 (by decide) rfl ?_
    refine g_icmp_ne (pc' := 25) (tgt := 71) hC dX6_readValues_22 (by decide) rfl h (fun h => ?_) (fun h => ?_)
    · refine g_aload_n (pc' := 26) (i := 0) hC dX6_readValues_25 rfl rfl rfl ?_
      refine g_iconst (pc' := 27) (v := (nI 0)) hC dX6_readValues_26 (by decide) rfl ?_
      refine pf_X6_192 (pc' := 30) hC dX6_readValues_27 rfl ?_
      refine g_iconst (pc' := 31) (v := (nI 0)) hC dX6_readValues_30 (by decide) rfl ?_
      refine g_istore (pc' := 33) (i := 4) (lo' := [some (.ref (ea E 0)), some (.int v1), some (.int v2), some (.int me), some (.int (nI 0)), none, none]) hC dX6_readValues_31 rfl rfl rfl rfl ?_
      refine g_weak (lo' := [some (.ref (ea E 0)), none, some (.int v2), none, some (.int (nI 0)), none, none]) rfl ?_
      refine w_X6_readValues_L33 hC   _ _ _ _ _ _ _ _ _ _ _ h
    · exact w_X6_readValues_J71 hC   h
  · exact w_X6_readValues_J71 hC   h
set_option maxRecDepth 200000 in
theorem w_X6_readPage_L62 {κ : GK} {E : GE} {rr : Int32} {mmz : Nat → Int32} {mtz : Nat → Int32} {mvz : Nat → Int64} {mxz : Nat → Int32} {mnz : Nat → Int64} {maz : Int32} {mez : Int32} {mbz : Int32} {mbaz : Int32} {mpgz : Int32} {mdiz : Int32} {mblz : Int32} {mbyz : Int32} {mwz : Nat → Int32} {mzz : Int32} {msoz : Int32} {mboz : Int32} {mcoz : Int32} {mcdz : Int32} {mlz : Nat → Int32} {v1 : Int32} {v3 : Int32} {k88 : (Nat → Int32) → (Nat → Int32) → (Nat → Int64) → (Nat → Int32) → Int32 → Int32 → Int32 → Option (Int32 × (Nat → Int32) × (Nat → Int32) × (Nat → Int64) × (Nat → Int32) × (Nat → Int64) × Int32 × Int32 × Int32 × Int32 × Int32 × Int32 × Int32 × Int32 × (Nat → Int32) × Int32 × Int32 × Int32 × Int32 × Int32 × (Nat → Int32))} (hC : gC κ E cX6_readPage RX6 (some .boolean) rm_X6_readPage 8)  (hk88 : ∀ (mm : Nat → Int32) (mt : Nat → Int32) (mv : Nat → Int64) (mx : Nat → Int32) (ma : Int32) (mb : Int32) (mba : Int32), k88 mm mt mv mx ma mb mba = some (rr, mmz, mtz, mvz, mxz, mnz, maz, mez, mbz, mbaz, mpgz, mdiz, mblz, mbyz, mwz, mzz, msoz, mboz, mcoz, mcdz, mlz) → GG κ E (mws E mk mo mmz mtz mvz mxz mp mtd mf ms md mdd mnz mst mpl mbb maz mez mbz mbaz mpgz mdiz mblz mbyz mwz mzz msoz mboz mcoz mcdz mlz mr, some (.int rr)) (mws E mk mo mm mt mv mx mp mtd mf ms md mdd mn mst mpl mbb ma me mb mba mpg mdi mbl mby mw mz mso mbo mco mcd ml mr) 88 [some (.ref (ea E 0)), none, none, some (.int v3), none, none, none, none] []) : ∀ (n : Nat) (v4 : Int32) (mm : Nat → Int32) (mt : Nat → Int32) (mv : Nat → Int64) (mx : Nat → Int32) (ma : Int32) (mb : Int32) (mba : Int32), itr8 (p_X6_readPage_L62 v1 mf mn me mpg mdi mbl mby mw mz mso mbo mco mcd ml k88) n v4 mm mt mv mx ma mb mba = some (rr, mmz, mtz, mvz, mxz, mnz, maz, mez, mbz, mbaz, mpgz, mdiz, mblz, mbyz, mwz, mzz, msoz, mboz, mcoz, mcdz, mlz) → GG κ E (mws E mk mo mmz mtz mvz mxz mp mtd mf ms md mdd mnz mst mpl mbb maz mez mbz mbaz mpgz mdiz mblz mbyz mwz mzz msoz mboz mcoz mcdz mlz mr, some (.int rr)) (mws E mk mo mm mt mv mx mp mtd mf ms md mdd mn mst mpl mbb ma me mb mba mpg mdi mbl mby mw mz mso mbo mco mcd ml mr) 62 [some (.ref (ea E 0)), some (.int v1), none, some (.int v3), some (.int v4), none, none, none] [] :=
  itr8_ind (fun k62 hk62 v4 mm mt mv mx ma mb mba h => by
    unfold p_X6_readPage_L62 at h
    refine g_iload (pc' := 64) (i := 4) hC dX6_readPage_62 rfl rfl ?_
    refine g_aload_n (pc' := 65) (i := 0) hC dX6_readPage_64 rfl rfl rfl ?_
    refine gf_X6_241 (pc' := 68) hC dX6_readPage_65 rfl ?_
    refine g_icmp_ge (pc' := 71) (tgt := 88) hC dX6_readPage_68 (by decide) rfl h (fun h => ?_) (fun h => ?_)
    · refine g_aload_n (pc' := 72) (i := 0) hC dX6_readPage_71 rfl rfl rfl ?_
      refine g_iconst (pc' := 73) (v := (nI 5)) hC dX6_readPage_72 (by decide) rfl ?_
      refine g_iload_n (pc' := 74) (i := 1) hC dX6_readPage_73 rfl rfl rfl ?_
      obtain ⟨a_17, mm_18, mt_19, mv_20, mx_21, ma_22, mb_23, mba_24, hc_25, h⟩ := bd8_some h
      refine g_callV (pc' := 77) hC (c_X6_readPlain _ hc_25) ml_X6_257 (rc_M) (by decide) rfl rfl rfl rfl dX6_readPage_74 rfl ?_
      refine g_if_ne (pc' := 80) (tgt := 82) hC dX6_readPage_77 (by decide) rfl h (fun h => ?_) (fun h => ?_)
      · refine g_iconst (pc' := 81) (v := (nI 0)) hC dX6_readPage_80 (by decide) rfl ?_
        obtain ⟨rfl, rfl, rfl, rfl, rfl, rfl, rfl, rfl, rfl, rfl, rfl, rfl, rfl, rfl, rfl, rfl, rfl, rfl, rfl, rfl, rfl⟩ := inj21 h; exact g_zret hC (by decide) dX6_readPage_81
      · refine g_iinc (pc' := 85) (i := 4) (x := v4) (k := (nI 1)) (lo' := [some (.ref (ea E 0)), some (.int v1), none, some (.int v3), some (.int (v4 + (nI 1))), none, none, none]) hC dX6_readPage_82 rfl (by decide) rfl rfl rfl rfl ?_
        refine g_goto (tgt := 62) hC dX6_readPage_85 (by decide) ?_
        exact hk62 _ _ _ _ _ _ _ _ h
    · refine g_weak (lo' := [some (.ref (ea E 0)), none, none, some (.int v3), none, none, none, none]) rfl ?_
      exact hk88 _ _ _ _ _ _ _ h)
set_option maxRecDepth 200000 in
theorem w_X6_readPage_L127 {κ : GK} {E : GE} {rr : Int32} {mmz : Nat → Int32} {mtz : Nat → Int32} {mvz : Nat → Int64} {mxz : Nat → Int32} {mnz : Nat → Int64} {maz : Int32} {mez : Int32} {mbz : Int32} {mbaz : Int32} {mpgz : Int32} {mdiz : Int32} {mblz : Int32} {mbyz : Int32} {mwz : Nat → Int32} {mzz : Int32} {msoz : Int32} {mboz : Int32} {mcoz : Int32} {mcdz : Int32} {mlz : Nat → Int32} {v1 : Int32} {v2 : Int32} {v3 : Int32} {v4 : Int32} {k150 : (Nat → Int32) → Option (Int32 × (Nat → Int32) × (Nat → Int32) × (Nat → Int64) × (Nat → Int32) × (Nat → Int64) × Int32 × Int32 × Int32 × Int32 × Int32 × Int32 × Int32 × Int32 × (Nat → Int32) × Int32 × Int32 × Int32 × Int32 × Int32 × (Nat → Int32))} (hC : gC κ E cX6_readPage RX6 (some .boolean) rm_X6_readPage 8)  (hk150 : ∀ (ml : Nat → Int32), k150 ml = some (rr, mmz, mtz, mvz, mxz, mnz, maz, mez, mbz, mbaz, mpgz, mdiz, mblz, mbyz, mwz, mzz, msoz, mboz, mcoz, mcdz, mlz) → GG κ E (mws E mk mo mmz mtz mvz mxz mp mtd mf ms md mdd mnz mst mpl mbb maz mez mbz mbaz mpgz mdiz mblz mbyz mwz mzz msoz mboz mcoz mcdz mlz mr, some (.int rr)) (mws E mk mo mm mt mv mx mp mtd mf ms md mdd mn mst mpl mbb ma me mb mba mpg mdi mbl mby mw mz mso mbo mco mcd ml mr) 150 [some (.ref (ea E 0)), some (.int v1), some (.int v2), some (.int v3), some (.int v4), none, none, none] []) : ∀ (n : Nat) (v5 : Int32) (ml : Nat → Int32), itr2 (p_X6_readPage_L127 mco k150) n v5 ml = some (rr, mmz, mtz, mvz, mxz, mnz, maz, mez, mbz, mbaz, mpgz, mdiz, mblz, mbyz, mwz, mzz, msoz, mboz, mcoz, mcdz, mlz) → GG κ E (mws E mk mo mmz mtz mvz mxz mp mtd mf ms md mdd mnz mst mpl mbb maz mez mbz mbaz mpgz mdiz mblz mbyz mwz mzz msoz mboz mcoz mcdz mlz mr, some (.int rr)) (mws E mk mo mm mt mv mx mp mtd mf ms md mdd mn mst mpl mbb ma me mb mba mpg mdi mbl mby mw mz mso mbo mco mcd ml mr) 127 [some (.ref (ea E 0)), some (.int v1), some (.int v2), some (.int v3), some (.int v4), some (.int v5), none, none] [] :=
  itr2_ind (fun k127 hk127 v5 ml h => by
    unfold p_X6_readPage_L127 at h
    refine g_iload (pc' := 129) (i := 5) hC dX6_readPage_127 rfl rfl ?_
    refine g_aload_n (pc' := 130) (i := 0) hC dX6_readPage_129 rfl rfl rfl ?_
    refine gf_X6_241 (pc' := 133) hC dX6_readPage_130 rfl ?_
    refine g_icmp_ge (pc' := 136) (tgt := 150) hC dX6_readPage_133 (by decide) rfl h (fun h => ?_) (fun h => ?_)
    · refine g_aload_n (pc' := 137) (i := 0) hC dX6_readPage_136 rfl rfl rfl ?_
      refine gf_X6_57 (pc' := 140) hC dX6_readPage_137 rfl ?_
      refine g_iload (pc' := 142) (i := 5) hC dX6_readPage_140 rfl rfl ?_
      refine g_iconst (pc' := 143) (v := (nI 1)) hC dX6_readPage_142 (by decide) rfl ?_
      obtain ⟨g_37, h⟩ := gd_some h
      refine st_ml (pc' := 144) hC (by decide) g_37 dX6_readPage_143 rfl ?_
      refine g_iinc (pc' := 147) (i := 5) (x := v5) (k := (nI 1)) (lo' := [some (.ref (ea E 0)), some (.int v1), some (.int v2), some (.int v3), some (.int v4), some (.int (v5 + (nI 1))), none, none]) hC dX6_readPage_144 rfl (by decide) rfl rfl rfl rfl ?_
      refine g_goto (tgt := 127) hC dX6_readPage_147 (by decide) ?_
      exact hk127 _ _ h
    · refine g_weak (lo' := [some (.ref (ea E 0)), some (.int v1), some (.int v2), some (.int v3), some (.int v4), none, none, none]) rfl ?_
      exact hk150 _ h)
set_option maxRecDepth 200000 in
theorem w_X6_readPage_L302 {κ : GK} {E : GE} {rr : Int32} {mmz : Nat → Int32} {mtz : Nat → Int32} {mvz : Nat → Int64} {mxz : Nat → Int32} {mnz : Nat → Int64} {maz : Int32} {mez : Int32} {mbz : Int32} {mbaz : Int32} {mpgz : Int32} {mdiz : Int32} {mblz : Int32} {mbyz : Int32} {mwz : Nat → Int32} {mzz : Int32} {msoz : Int32} {mboz : Int32} {mcoz : Int32} {mcdz : Int32} {mlz : Nat → Int32}   (hC : gC κ E cX6_readPage RX6 (some .boolean) rm_X6_readPage 8)   : ∀ (n : Nat) (v5 : Int32) (v6 : Int32) (mm : Nat → Int32) (mt : Nat → Int32) (mv : Nat → Int64) (mx : Nat → Int32), itr6 (p_X6_readPage_L302 mn ma me mb mba mpg mdi mbl mby mw mz mso mbo mco mcd ml) n v5 v6 mm mt mv mx = some (rr, mmz, mtz, mvz, mxz, mnz, maz, mez, mbz, mbaz, mpgz, mdiz, mblz, mbyz, mwz, mzz, msoz, mboz, mcoz, mcdz, mlz) → GG κ E (mws E mk mo mmz mtz mvz mxz mp mtd mf ms md mdd mnz mst mpl mbb maz mez mbz mbaz mpgz mdiz mblz mbyz mwz mzz msoz mboz mcoz mcdz mlz mr, some (.int rr)) (mws E mk mo mm mt mv mx mp mtd mf ms md mdd mn mst mpl mbb ma me mb mba mpg mdi mbl mby mw mz mso mbo mco mcd ml mr) 302 [some (.ref (ea E 0)), none, none, none, none, some (.int v5), some (.int v6), none] [] :=
  itr6_ind (fun k302 hk302 v5 v6 mm mt mv mx h => by
    unfold p_X6_readPage_L302 at h
    refine g_iload (pc' := 304) (i := 6) hC dX6_readPage_302 rfl rfl ?_
    refine g_aload_n (pc' := 305) (i := 0) hC dX6_readPage_304 rfl rfl rfl ?_
    refine gf_X6_241 (pc' := 308) hC dX6_readPage_305 rfl ?_
    refine g_icmp_ge (pc' := 311) (tgt := 367) hC dX6_readPage_308 (by decide) rfl h (fun h => ?_) (fun h => ?_)
    · refine g_aload_n (pc' := 312) (i := 0) hC dX6_readPage_311 rfl rfl rfl ?_
      refine gf_X6_57 (pc' := 315) hC dX6_readPage_312 rfl ?_
      refine g_iload (pc' := 317) (i := 6) hC dX6_readPage_315 rfl rfl ?_
      obtain ⟨g_57, h⟩ := gd_some h
      refine ld_ml (pc' := 318) hC g_57 dX6_readPage_317 rfl ?_
      refine g_if_eq (pc' := 321) (tgt := 352) hC dX6_readPage_318 (by decide) rfl h (fun h => ?_) (fun h => ?_)
      · refine g_aload_n (pc' := 353) (i := 0) hC dX6_readPage_352 rfl rfl rfl ?_
        refine g_iconst (pc' := 354) (v := (nI 4)) hC dX6_readPage_353 (by decide) rfl ?_
        refine g_iconst (pc' := 355) (v := (nI 0)) hC dX6_readPage_354 (by decide) rfl ?_
        refine g_lconst (pc' := 356) (v := (lN 0)) hC dX6_readPage_355 (by decide) rfl ?_
        obtain ⟨a_58, mm_59, mt_60, mv_61, mx_62, hc_63, h⟩ := bd5_some h
        refine g_callV (pc' := 359) hC (c_X6_adds _ hc_63) ml_X6_70 (rc_M) (by decide) rfl rfl rfl rfl dX6_readPage_356 rfl ?_
        refine g_istore (pc' := 361) (i := 7) (lo' := [some (.ref (ea E 0)), none, none, none, none, some (.int v5), some (.int v6), some (.int a_58)]) hC dX6_readPage_359 rfl rfl rfl rfl ?_
        refine g_iinc (pc' := 364) (i := 6) (x := v6) (k := (nI 1)) (lo' := [some (.ref (ea E 0)), none, none, none, none, some (.int v5), some (.int (v6 + (nI 1))), some (.int a_58)]) hC dX6_readPage_361 rfl (by decide) rfl rfl rfl rfl ?_
        refine g_goto (tgt := 302) hC dX6_readPage_364 (by decide) ?_
        refine g_weak (lo' := [some (.ref (ea E 0)), none, none, none, none, some (.int v5), some (.int (v6 + (nI 1))), none]) rfl ?_
        exact hk302 _ _ _ _ _ _ h
      · refine g_aload_n (pc' := 322) (i := 0) hC dX6_readPage_321 rfl rfl rfl ?_
        refine g_iconst (pc' := 323) (v := (nI 4)) hC dX6_readPage_322 (by decide) rfl ?_
        refine g_iconst (pc' := 324) (v := (nI 1)) hC dX6_readPage_323 (by decide) rfl ?_
        refine g_lconst (pc' := 325) (v := (lN 0)) hC dX6_readPage_324 (by decide) rfl ?_
        obtain ⟨a_64, mm_65, mt_66, mv_67, mx_68, hc_69, h⟩ := bd5_some h
        refine g_callV (pc' := 328) hC (c_X6_adds _ hc_69) ml_X6_70 (rc_M) (by decide) rfl rfl rfl rfl dX6_readPage_325 rfl ?_
        refine g_istore (pc' := 330) (i := 7) (lo' := [some (.ref (ea E 0)), none, none, none, none, some (.int v5), some (.int v6), some (.int a_64)]) hC dX6_readPage_328 rfl rfl rfl rfl ?_
        refine g_aload_n (pc' := 331) (i := 0) hC dX6_readPage_330 rfl rfl rfl ?_
        refine g_sipush (pc' := 334) (v := (nI 800)) hC dX6_readPage_331 (by decide) rfl ?_
        refine g_iload (pc' := 336) (i := 7) hC dX6_readPage_334 rfl rfl ?_
        refine g_iadd (pc' := 337) hC dX6_readPage_336 rfl ?_
        refine g_sipush (pc' := 340) (v := (nI 1200)) hC dX6_readPage_337 (by decide) rfl ?_
        refine g_iload (pc' := 342) (i := 5) hC dX6_readPage_340 rfl rfl ?_
        refine g_iadd (pc' := 343) hC dX6_readPage_342 rfl ?_
        obtain ⟨mt_70, mv_71, mx_72, hc_73, h⟩ := bd3_some h
        refine g_callV (pc' := 346) hC (c_X6_copies _ hc_73) ml_X6_82 (rc_M) (by decide) rfl rfl rfl rfl dX6_readPage_343 rfl ?_
        refine g_iinc (pc' := 349) (i := 5) (x := v5) (k := (nI 1)) (lo' := [some (.ref (ea E 0)), none, none, none, none, some (.int (v5 + (nI 1))), some (.int v6), some (.int a_64)]) hC dX6_readPage_346 rfl (by decide) rfl rfl rfl rfl ?_
        refine g_goto (tgt := 361) hC dX6_readPage_349 (by decide) ?_
        refine g_iinc (pc' := 364) (i := 6) (x := v6) (k := (nI 1)) (lo' := [some (.ref (ea E 0)), none, none, none, none, some (.int (v5 + (nI 1))), some (.int (v6 + (nI 1))), some (.int a_64)]) hC dX6_readPage_361 rfl (by decide) rfl rfl rfl rfl ?_
        refine g_goto (tgt := 302) hC dX6_readPage_364 (by decide) ?_
        refine g_weak (lo' := [some (.ref (ea E 0)), none, none, none, none, some (.int (v5 + (nI 1))), some (.int (v6 + (nI 1))), none]) rfl ?_
        exact hk302 _ _ _ _ _ _ h
    · refine g_aload_n (pc' := 368) (i := 0) hC dX6_readPage_367 rfl rfl rfl ?_
      refine g_dup (pc' := 369) hC dX6_readPage_368 rfl rfl ?_
      refine gf_X6_263 (pc' := 372) hC dX6_readPage_369 rfl ?_
      refine g_iconst (pc' := 373) (v := (nI 1)) hC dX6_readPage_372 (by decide) rfl ?_
      refine g_iadd (pc' := 374) hC dX6_readPage_373 rfl ?_
      refine pf_X6_263 (pc' := 377) hC dX6_readPage_374 rfl ?_
      refine g_iconst (pc' := 378) (v := (nI 1)) hC dX6_readPage_377 (by decide) rfl ?_
      obtain ⟨rfl, rfl, rfl, rfl, rfl, rfl, rfl, rfl, rfl, rfl, rfl, rfl, rfl, rfl, rfl, rfl, rfl, rfl, rfl, rfl, rfl⟩ := inj21 h; exact g_zret hC (by decide) dX6_readPage_378)
set_option maxRecDepth 200000 in
theorem w_X6_readPage_J276 {κ : GK} {E : GE} {rr : Int32} {mmz : Nat → Int32} {mtz : Nat → Int32} {mvz : Nat → Int64} {mxz : Nat → Int32} {mnz : Nat → Int64} {maz : Int32} {mez : Int32} {mbz : Int32} {mbaz : Int32} {mpgz : Int32} {mdiz : Int32} {mblz : Int32} {mbyz : Int32} {mwz : Nat → Int32} {mzz : Int32} {msoz : Int32} {mboz : Int32} {mcoz : Int32} {mcdz : Int32} {mlz : Nat → Int32} {v1 : Int32} {v3 : Int32} {v4 : Int32}  (hC : gC κ E cX6_readPage RX6 (some .boolean) rm_X6_readPage 8)   (h : p_X6_readPage_J276 v1 v3 v4 mm mt mv mx mf mn ma me mb mba mpg mdi mbl mby mw mz mso mbo mco mcd ml = some (rr, mmz, mtz, mvz, mxz, mnz, maz, mez, mbz, mbaz, mpgz, mdiz, mblz, mbyz, mwz, mzz, msoz, mboz, mcoz, mcdz, mlz)) : GG κ E (mws E mk mo mmz mtz mvz mxz mp mtd mf ms md mdd mnz mst mpl mbb maz mez mbz mbaz mpgz mdiz mblz mbyz mwz mzz msoz mboz mcoz mcdz mlz mr, some (.int rr)) (mws E mk mo mm mt mv mx mp mtd mf ms md mdd mn mst mpl mbb ma me mb mba mpg mdi mbl mby mw mz mso mbo mco mcd ml mr) 276 [some (.ref (ea E 0)), some (.int v1), none, some (.int v3), some (.int v4), none, none, none] [] := by
  unfold p_X6_readPage_J276 at h
  refine g_aload_n (pc' := 277) (i := 0) hC dX6_readPage_276 rfl rfl rfl ?_
  refine g_iload_n (pc' := 278) (i := 1) hC dX6_readPage_277 rfl rfl rfl ?_
  refine g_iload (pc' := 280) (i := 4) hC dX6_readPage_278 rfl rfl ?_
  obtain ⟨a_39, mm_40, mt_41, mv_42, mx_43, mn_44, ma_45, me_46, mb_47, mba_48, mbl_49, mby_50, mw_51, hc_52, h⟩ := bd13_some h
  refine g_callV (pc' := 283) hC (c_X6_readValues _ hc_52) ml_X6_269 (rc_M) (by decide) rfl rfl rfl rfl dX6_readPage_280 rfl ?_
  refine g_if_eq (pc' := 286) (tgt := 294) hC dX6_readPage_283 (by decide) rfl h (fun h => ?_) (fun h => ?_)
  · refine g_iconst (pc' := 295) (v := (nI 0)) hC dX6_readPage_294 (by decide) rfl ?_
    obtain ⟨rfl, rfl, rfl, rfl, rfl, rfl, rfl, rfl, rfl, rfl, rfl, rfl, rfl, rfl, rfl, rfl, rfl, rfl, rfl, rfl, rfl⟩ := inj21 h; exact g_zret hC (by decide) dX6_readPage_295
  · refine g_aload_n (pc' := 287) (i := 0) hC dX6_readPage_286 rfl rfl rfl ?_
    refine g_iload_n (pc' := 288) (i := 3) hC dX6_readPage_287 rfl rfl rfl ?_
    obtain ⟨a_53, mb_54, mba_55, hc_56, h⟩ := bd3_some h
    refine g_callV (pc' := 291) hC (c_X6_isOver _ hc_56) ml_X6_260 (rc_M) (by decide) rfl rfl rfl rfl dX6_readPage_288 rfl ?_
    refine g_if_ne (pc' := 294) (tgt := 296) hC dX6_readPage_291 (by decide) rfl h (fun h => ?_) (fun h => ?_)
    · refine g_iconst (pc' := 295) (v := (nI 0)) hC dX6_readPage_294 (by decide) rfl ?_
      obtain ⟨rfl, rfl, rfl, rfl, rfl, rfl, rfl, rfl, rfl, rfl, rfl, rfl, rfl, rfl, rfl, rfl, rfl, rfl, rfl, rfl, rfl⟩ := inj21 h; exact g_zret hC (by decide) dX6_readPage_295
    · refine g_iconst (pc' := 297) (v := (nI 0)) hC dX6_readPage_296 (by decide) rfl ?_
      refine g_istore (pc' := 299) (i := 5) (lo' := [some (.ref (ea E 0)), some (.int v1), none, some (.int v3), some (.int v4), some (.int (nI 0)), none, none]) hC dX6_readPage_297 rfl rfl rfl rfl ?_
      refine g_iconst (pc' := 300) (v := (nI 0)) hC dX6_readPage_299 (by decide) rfl ?_
      refine g_istore (pc' := 302) (i := 6) (lo' := [some (.ref (ea E 0)), some (.int v1), none, some (.int v3), some (.int v4), some (.int (nI 0)), some (.int (nI 0)), none]) hC dX6_readPage_300 rfl rfl rfl rfl ?_
      refine g_weak (lo' := [some (.ref (ea E 0)), none, none, none, none, some (.int (nI 0)), some (.int (nI 0)), none]) rfl ?_
      refine w_X6_readPage_L302 hC   _ _ _ _ _ _ _ h
set_option maxRecDepth 200000 in
theorem w_X6_readPage_J249 {κ : GK} {E : GE} {rr : Int32} {mmz : Nat → Int32} {mtz : Nat → Int32} {mvz : Nat → Int64} {mxz : Nat → Int32} {mnz : Nat → Int64} {maz : Int32} {mez : Int32} {mbz : Int32} {mbaz : Int32} {mpgz : Int32} {mdiz : Int32} {mblz : Int32} {mbyz : Int32} {mwz : Nat → Int32} {mzz : Int32} {msoz : Int32} {mboz : Int32} {mcoz : Int32} {mcdz : Int32} {mlz : Nat → Int32} {v1 : Int32} {v3 : Int32} {v4 : Int32} {v6 : Int32} {s1 : Int32} {s2 : Int32} {k217 : Int32 → Int32 → (Nat → Int32) → Option (Int32 × (Nat → Int32) × (Nat → Int32) × (Nat → Int64) × (Nat → Int32) × (Nat → Int64) × Int32 × Int32 × Int32 × Int32 × Int32 × Int32 × Int32 × Int32 × (Nat → Int32) × Int32 × Int32 × Int32 × Int32 × Int32 × (Nat → Int32))} (hC : gC κ E cX6_readPage RX6 (some .boolean) rm_X6_readPage 8)  (hk217 : ∀ (v4 : Int32) (v6 : Int32) (ml : Nat → Int32), k217 v4 v6 ml = some (rr, mmz, mtz, mvz, mxz, mnz, maz, mez, mbz, mbaz, mpgz, mdiz, mblz, mbyz, mwz, mzz, msoz, mboz, mcoz, mcdz, mlz) → GG κ E (mws E mk mo mmz mtz mvz mxz mp mtd mf ms md mdd mnz mst mpl mbb maz mez mbz mbaz mpgz mdiz mblz mbyz mwz mzz msoz mboz mcoz mcdz mlz mr, some (.int rr)) (mws E mk mo mm mt mv mx mp mtd mf ms md mdd mn mst mpl mbb ma me mb mba mpg mdi mbl mby mw mz mso mbo mco mcd ml mr) 217 [some (.ref (ea E 0)), some (.int v1), none, some (.int v3), some (.int v4), none, some (.int v6), none] []) (h : p_X6_readPage_J249 v4 v6 s1 s2 ml k217 = some (rr, mmz, mtz, mvz, mxz, mnz, maz, mez, mbz, mbaz, mpgz, mdiz, mblz, mbyz, mwz, mzz, msoz, mboz, mcoz, mcdz, mlz)) : GG κ E (mws E mk mo mmz mtz mvz mxz mp mtd mf ms md mdd mnz mst mpl mbb maz mez mbz mbaz mpgz mdiz mblz mbyz mwz mzz msoz mboz mcoz mcdz mlz mr, some (.int rr)) (mws E mk mo mm mt mv mx mp mtd mf ms md mdd mn mst mpl mbb ma me mb mba mpg mdi mbl mby mw mz mso mbo mco mcd ml mr) 249 [some (.ref (ea E 0)), some (.int v1), none, some (.int v3), some (.int v4), none, some (.int v6), none] [.int s2, .int s1, .ref (ea E 15)] := by
  unfold p_X6_readPage_J249 at h
  obtain ⟨g_92, h⟩ := gd_some h
  obtain ⟨g_93, h⟩ := gd_some h
  refine st_ml (pc' := 250) hC g_93 g_92 dX6_readPage_249 rfl ?_
  refine g_iload (pc' := 252) (i := 4) hC dX6_readPage_250 rfl rfl ?_
  refine g_aload_n (pc' := 253) (i := 0) hC dX6_readPage_252 rfl rfl rfl ?_
  refine gf_X6_57 (pc' := 256) hC dX6_readPage_253 rfl ?_
  refine g_iload (pc' := 258) (i := 6) hC dX6_readPage_256 rfl rfl ?_
  obtain ⟨g_94, h⟩ := gd_some h
  refine ld_ml (pc' := 259) hC g_94 dX6_readPage_258 rfl ?_
  refine g_if_eq (pc' := 262) (tgt := 266) hC dX6_readPage_259 (by decide) rfl h (fun h => ?_) (fun h => ?_)
  · refine g_iconst (pc' := 267) (v := (nI 0)) hC dX6_readPage_266 (by decide) rfl ?_
    refine g_iadd (pc' := 268) hC dX6_readPage_267 rfl ?_
    refine g_istore (pc' := 270) (i := 4) (lo' := [some (.ref (ea E 0)), some (.int v1), none, some (.int v3), some (.int (v4 + (nI 0))), none, some (.int v6), none]) hC dX6_readPage_268 rfl rfl rfl rfl ?_
    refine g_iinc (pc' := 273) (i := 6) (x := v6) (k := (nI 1)) (lo' := [some (.ref (ea E 0)), some (.int v1), none, some (.int v3), some (.int (v4 + (nI 0))), none, some (.int (v6 + (nI 1))), none]) hC dX6_readPage_270 rfl (by decide) rfl rfl rfl rfl ?_
    refine g_goto (tgt := 217) hC dX6_readPage_273 (by decide) ?_
    exact hk217 _ _ _ h
  · refine g_iconst (pc' := 263) (v := (nI 1)) hC dX6_readPage_262 (by decide) rfl ?_
    refine g_goto (tgt := 267) hC dX6_readPage_263 (by decide) ?_
    refine g_iadd (pc' := 268) hC dX6_readPage_267 rfl ?_
    refine g_istore (pc' := 270) (i := 4) (lo' := [some (.ref (ea E 0)), some (.int v1), none, some (.int v3), some (.int (v4 + (nI 1))), none, some (.int v6), none]) hC dX6_readPage_268 rfl rfl rfl rfl ?_
    refine g_iinc (pc' := 273) (i := 6) (x := v6) (k := (nI 1)) (lo' := [some (.ref (ea E 0)), some (.int v1), none, some (.int v3), some (.int (v4 + (nI 1))), none, some (.int (v6 + (nI 1))), none]) hC dX6_readPage_270 rfl (by decide) rfl rfl rfl rfl ?_
    refine g_goto (tgt := 217) hC dX6_readPage_273 (by decide) ?_
    exact hk217 _ _ _ h
set_option maxRecDepth 200000 in
theorem w_X6_readPage_L217 {κ : GK} {E : GE} {rr : Int32} {mmz : Nat → Int32} {mtz : Nat → Int32} {mvz : Nat → Int64} {mxz : Nat → Int32} {mnz : Nat → Int64} {maz : Int32} {mez : Int32} {mbz : Int32} {mbaz : Int32} {mpgz : Int32} {mdiz : Int32} {mblz : Int32} {mbyz : Int32} {mwz : Nat → Int32} {mzz : Int32} {msoz : Int32} {mboz : Int32} {mcoz : Int32} {mcdz : Int32} {mlz : Nat → Int32} {v1 : Int32} {v3 : Int32} {k276 : Int32 → (Nat → Int32) → Option (Int32 × (Nat → Int32) × (Nat → Int32) × (Nat → Int64) × (Nat → Int32) × (Nat → Int64) × Int32 × Int32 × Int32 × Int32 × Int32 × Int32 × Int32 × Int32 × (Nat → Int32) × Int32 × Int32 × Int32 × Int32 × Int32 × (Nat → Int32))} (hC : gC κ E cX6_readPage RX6 (some .boolean) rm_X6_readPage 8)  (hk276 : ∀ (v4 : Int32) (ml : Nat → Int32), k276 v4 ml = some (rr, mmz, mtz, mvz, mxz, mnz, maz, mez, mbz, mbaz, mpgz, mdiz, mblz, mbyz, mwz, mzz, msoz, mboz, mcoz, mcdz, mlz) → GG κ E (mws E mk mo mmz mtz mvz mxz mp mtd mf ms md mdd mnz mst mpl mbb maz mez mbz mbaz mpgz mdiz mblz mbyz mwz mzz msoz mboz mcoz mcdz mlz mr, some (.int rr)) (mws E mk mo mm mt mv mx mp mtd mf ms md mdd mn mst mpl mbb ma me mb mba mpg mdi mbl mby mw mz mso mbo mco mcd ml mr) 276 [some (.ref (ea E 0)), some (.int v1), none, some (.int v3), some (.int v4), none, none, none] []) : ∀ (n : Nat) (v4 : Int32) (v6 : Int32) (ml : Nat → Int32), itr3 (p_X6_readPage_L217 mn mco k276) n v4 v6 ml = some (rr, mmz, mtz, mvz, mxz, mnz, maz, mez, mbz, mbaz, mpgz, mdiz, mblz, mbyz, mwz, mzz, msoz, mboz, mcoz, mcdz, mlz) → GG κ E (mws E mk mo mmz mtz mvz mxz mp mtd mf ms md mdd mnz mst mpl mbb maz mez mbz mbaz mpgz mdiz mblz mbyz mwz mzz msoz mboz mcoz mcdz mlz mr, some (.int rr)) (mws E mk mo mm mt mv mx mp mtd mf ms md mdd mn mst mpl mbb ma me mb mba mpg mdi mbl mby mw mz mso mbo mco mcd ml mr) 217 [some (.ref (ea E 0)), some (.int v1), none, some (.int v3), some (.int v4), none, some (.int v6), none] [] :=
  itr3_ind (fun k217 hk217 v4 v6 ml h => by
    unfold p_X6_readPage_L217 at h
    refine g_iload (pc' := 219) (i := 6) hC dX6_readPage_217 rfl rfl ?_
    refine g_aload_n (pc' := 220) (i := 0) hC dX6_readPage_219 rfl rfl rfl ?_
    refine gf_X6_241 (pc' := 223) hC dX6_readPage_220 rfl ?_
    refine g_icmp_ge (pc' := 226) (tgt := 276) hC dX6_readPage_223 (by decide) rfl h (fun h => ?_) (fun h => ?_)
    · refine g_aload_n (pc' := 227) (i := 0) hC dX6_readPage_226 rfl rfl rfl ?_
      refine gf_X6_57 (pc' := 230) hC dX6_readPage_227 rfl ?_
      refine g_iload (pc' := 232) (i := 6) hC dX6_readPage_230 rfl rfl ?_
      refine g_aload_n (pc' := 233) (i := 0) hC dX6_readPage_232 rfl rfl rfl ?_
      refine gf_X6_42 (pc' := 236) hC dX6_readPage_233 rfl ?_
      refine g_iload (pc' := 238) (i := 6) hC dX6_readPage_236 rfl rfl ?_
      obtain ⟨g_91, h⟩ := gd_some h
      refine ld_mn (pc' := 239) hC g_91 dX6_readPage_238 rfl ?_
      refine g_lconst (pc' := 240) (v := (lN 1)) hC dX6_readPage_239 (by decide) rfl ?_
      refine g_lcmp_ne (pc' := 244) (tgt := 248) hC dX6_readPage_240 dX6_readPage_241 rfl (by decide) rfl h (fun h => ?_) (fun h => ?_)
      · refine g_iconst (pc' := 245) (v := (nI 1)) hC dX6_readPage_244 (by decide) rfl ?_
        refine g_goto (tgt := 249) hC dX6_readPage_245 (by decide) ?_
        exact w_X6_readPage_J249 hC  hk217 h
      · refine g_iconst (pc' := 249) (v := (nI 0)) hC dX6_readPage_248 (by decide) rfl ?_
        exact w_X6_readPage_J249 hC  hk217 h
    · refine g_weak (lo' := [some (.ref (ea E 0)), some (.int v1), none, some (.int v3), some (.int v4), none, none, none]) rfl ?_
      exact hk276 _ _ h)
set_option maxRecDepth 200000 in
theorem c_X6_readPage (l : Launch) {E : GE} {rr : Int32} {mmz : Nat → Int32} {mtz : Nat → Int32} {mvz : Nat → Int64} {mxz : Nat → Int32} {mnz : Nat → Int64} {maz : Int32} {mez : Int32} {mbz : Int32} {mbaz : Int32} {mpgz : Int32} {mdiz : Int32} {mblz : Int32} {mbyz : Int32} {mwz : Nat → Int32} {mzz : Int32} {msoz : Int32} {mboz : Int32} {mcoz : Int32} {mcdz : Int32} {mlz : Nat → Int32} {v1 : Int32} {v2 : Int32}  (h : p_X6_readPage v1 v2 mm mt mv mx mf ms mn ma me mb mba mpg mdi mbl mby mw mz mso mbo mco mcd ml = some (rr, mmz, mtz, mvz, mxz, mnz, maz, mez, mbz, mbaz, mpgz, mdiz, mblz, mbyz, mwz, mzz, msoz, mboz, mcoz, mcdz, mlz)) : Met l yX6_readPage (.code yX6_readPage cX6_readPage 8 (some .boolean) :: gU) rm_X6_readPage (gP E (mws E mk mo mm mt mv mx mp mtd mf ms md mdd mn mst mpl mbb ma me mb mba mpg mdi mbl mby mw mz mso mbo mco mcd ml mr) [.ref (ea E 0), .int v1, .int v2]) (gQ E (mws E mk mo mmz mtz mvz mxz mp mtd mf ms md mdd mnz mst mpl mbb maz mez mbz mbaz mpgz mdiz mblz mbyz mwz mzz msoz mboz mcoz mcdz mlz mr) (some (.int rr))) 0 0 E.2.2.1 := by
  refine met_of (y := yX6_readPage) (own := RX6) (lo := [some (.ref (ea E 0)), some (.int v1), some (.int v2), none, none, none, none, none]) (by decide) rfl rfl rfl (fun κ hl hC => ?_)
  subst hl
  unfold p_X6_readPage at h
  refine g_aload_n (pc' := 1) (i := 0) hC dX6_readPage_0 rfl rfl rfl ?_
  refine g_iload_n (pc' := 2) (i := 1) hC dX6_readPage_1 rfl rfl rfl ?_
  obtain ⟨a_1, ma_2, me_3, mb_4, mba_5, mz_6, mso_7, mbo_8, mco_9, mcd_10, hc_11, h⟩ := bd10_some h
  refine g_callV (pc' := 5) hC (c_X6_readHead _ hc_11) ml_X6_254 (rc_M) (by decide) rfl rfl rfl rfl dX6_readPage_2 rfl ?_
  refine g_if_ne (pc' := 8) (tgt := 10) hC dX6_readPage_5 (by decide) rfl h (fun h => ?_) (fun h => ?_)
  · refine g_iconst (pc' := 9) (v := (nI 0)) hC dX6_readPage_8 (by decide) rfl ?_
    obtain ⟨rfl, rfl, rfl, rfl, rfl, rfl, rfl, rfl, rfl, rfl, rfl, rfl, rfl, rfl, rfl, rfl, rfl, rfl, rfl, rfl, rfl⟩ := inj21 h; exact g_zret hC (by decide) dX6_readPage_9
  · refine g_aload_n (pc' := 11) (i := 0) hC dX6_readPage_10 rfl rfl rfl ?_
    refine gf_X6_175 (pc' := 14) hC dX6_readPage_11 rfl ?_
    refine g_aload_n (pc' := 15) (i := 0) hC dX6_readPage_14 rfl rfl rfl ?_
    refine gf_X6_235 (pc' := 18) hC dX6_readPage_15 rfl ?_
    refine g_iadd (pc' := 19) hC dX6_readPage_18 rfl ?_
    refine g_aload_n (pc' := 20) (i := 0) hC dX6_readPage_19 rfl rfl rfl ?_
    refine gf_X6_166 (pc' := 23) hC dX6_readPage_20 rfl ?_
    refine g_icmp_le (pc' := 26) (tgt := 36) hC dX6_readPage_23 (by decide) rfl h (fun h => ?_) (fun h => ?_)
    · refine g_aload_n (pc' := 27) (i := 0) hC dX6_readPage_26 rfl rfl rfl ?_
      refine g_iconst (pc' := 28) (v := (nI 1)) hC dX6_readPage_27 (by decide) rfl ?_
      refine g_aload_n (pc' := 29) (i := 0) hC dX6_readPage_28 rfl rfl rfl ?_
      refine gf_X6_166 (pc' := 32) hC dX6_readPage_29 rfl ?_
      obtain ⟨a_12, mb_13, mba_14, hc_15, h⟩ := bd3_some h
      refine g_callV (pc' := 35) hC (c_X6_fails _ hc_15) ml_X6_181 (rc_M) (by decide) rfl rfl rfl rfl dX6_readPage_32 rfl ?_
      obtain ⟨g_16, h⟩ := gd_some h
      obtain ⟨rfl, rfl, rfl, rfl, rfl, rfl, rfl, rfl, rfl, rfl, rfl, rfl, rfl, rfl, rfl, rfl, rfl, rfl, rfl, rfl, rfl⟩ := inj21 h; exact g_zret hC g_16 dX6_readPage_35
    · refine g_aload_n (pc' := 37) (i := 0) hC dX6_readPage_36 rfl rfl rfl ?_
      refine gf_X6_175 (pc' := 40) hC dX6_readPage_37 rfl ?_
      refine g_aload_n (pc' := 41) (i := 0) hC dX6_readPage_40 rfl rfl rfl ?_
      refine gf_X6_235 (pc' := 44) hC dX6_readPage_41 rfl ?_
      refine g_iadd (pc' := 45) hC dX6_readPage_44 rfl ?_
      refine g_istore_n (pc' := 46) (i := 3) (lo' := [some (.ref (ea E 0)), some (.int v1), some (.int v2), some (.int (ma_2 + mbo_8)), none, none, none, none]) hC dX6_readPage_45 rfl rfl rfl rfl rfl ?_
      refine g_aload_n (pc' := 47) (i := 0) hC dX6_readPage_46 rfl rfl rfl ?_
      refine g_iload_n (pc' := 48) (i := 3) hC dX6_readPage_47 rfl rfl rfl ?_
      refine pf_X6_178 (pc' := 51) hC dX6_readPage_48 rfl ?_
      refine g_aload_n (pc' := 52) (i := 0) hC dX6_readPage_51 rfl rfl rfl ?_
      refine gf_X6_232 (pc' := 55) hC dX6_readPage_52 rfl ?_
      refine g_iconst (pc' := 56) (v := (nI 2)) hC dX6_readPage_55 (by decide) rfl ?_
      refine g_icmp_ne (pc' := 59) (tgt := 118) hC dX6_readPage_56 (by decide) rfl h (fun h => ?_) (fun h => ?_)
      · refine g_iconst (pc' := 60) (v := (nI 0)) hC dX6_readPage_59 (by decide) rfl ?_
        refine g_istore (pc' := 62) (i := 4) (lo' := [some (.ref (ea E 0)), some (.int v1), some (.int v2), some (.int (ma_2 + mbo_8)), some (.int (nI 0)), none, none, none]) hC dX6_readPage_60 rfl rfl rfl rfl ?_
        refine g_weak (lo' := [some (.ref (ea E 0)), some (.int v1), none, some (.int (ma_2 + mbo_8)), some (.int (nI 0)), none, none, none]) rfl ?_
        refine w_X6_readPage_L62 hC  ?_ _ _ _ _ _ _ _ _ _ h
        · intro mm_26 mt_27 mv_28 mx_29 ma_30 mb_31 mba_32 h
          refine g_aload_n (pc' := 89) (i := 0) hC dX6_readPage_88 rfl rfl rfl ?_
          refine g_aload_n (pc' := 90) (i := 0) hC dX6_readPage_89 rfl rfl rfl ?_
          refine gf_X6_241 (pc' := 93) hC dX6_readPage_90 rfl ?_
          refine pf_X6_248 (pc' := 96) hC dX6_readPage_93 rfl ?_
          refine g_aload_n (pc' := 97) (i := 0) hC dX6_readPage_96 rfl rfl rfl ?_
          refine g_iload_n (pc' := 98) (i := 3) hC dX6_readPage_97 rfl rfl rfl ?_
          obtain ⟨a_33, mb_34, mba_35, hc_36, h⟩ := bd3_some h
          refine g_callV (pc' := 101) hC (c_X6_isOver _ hc_36) ml_X6_260 (rc_M) (by decide) rfl rfl rfl rfl dX6_readPage_98 rfl ?_
          refine g_if_ne (pc' := 104) (tgt := 106) hC dX6_readPage_101 (by decide) rfl h (fun h => ?_) (fun h => ?_)
          · refine g_iconst (pc' := 105) (v := (nI 0)) hC dX6_readPage_104 (by decide) rfl ?_
            obtain ⟨rfl, rfl, rfl, rfl, rfl, rfl, rfl, rfl, rfl, rfl, rfl, rfl, rfl, rfl, rfl, rfl, rfl, rfl, rfl, rfl, rfl⟩ := inj21 h; exact g_zret hC (by decide) dX6_readPage_105
          · refine g_aload_n (pc' := 107) (i := 0) hC dX6_readPage_106 rfl rfl rfl ?_
            refine g_dup (pc' := 108) hC dX6_readPage_107 rfl rfl ?_
            refine gf_X6_263 (pc' := 111) hC dX6_readPage_108 rfl ?_
            refine g_iconst (pc' := 112) (v := (nI 1)) hC dX6_readPage_111 (by decide) rfl ?_
            refine g_iadd (pc' := 113) hC dX6_readPage_112 rfl ?_
            refine pf_X6_263 (pc' := 116) hC dX6_readPage_113 rfl ?_
            refine g_iconst (pc' := 117) (v := (nI 1)) hC dX6_readPage_116 (by decide) rfl ?_
            obtain ⟨rfl, rfl, rfl, rfl, rfl, rfl, rfl, rfl, rfl, rfl, rfl, rfl, rfl, rfl, rfl, rfl, rfl, rfl, rfl, rfl, rfl⟩ := inj21 h; exact g_zret hC (by decide) dX6_readPage_117
      · refine g_aload_n (pc' := 119) (i := 0) hC dX6_readPage_118 rfl rfl rfl ?_
        refine gf_X6_241 (pc' := 122) hC dX6_readPage_119 rfl ?_
        refine g_istore (pc' := 124) (i := 4) (lo' := [some (.ref (ea E 0)), some (.int v1), some (.int v2), some (.int (ma_2 + mbo_8)), some (.int mco_9), none, none, none]) hC dX6_readPage_122 rfl rfl rfl rfl ?_
        refine g_iconst (pc' := 125) (v := (nI 0)) hC dX6_readPage_124 (by decide) rfl ?_
        refine g_istore (pc' := 127) (i := 5) (lo' := [some (.ref (ea E 0)), some (.int v1), some (.int v2), some (.int (ma_2 + mbo_8)), some (.int mco_9), some (.int (nI 0)), none, none]) hC dX6_readPage_125 rfl rfl rfl rfl ?_
        refine w_X6_readPage_L127 hC  ?_ _ _ _ h
        · intro ml_38 h
          refine g_iload_n (pc' := 151) (i := 2) hC dX6_readPage_150 rfl rfl rfl ?_
          refine g_if_eq (pc' := 154) (tgt := 276) hC dX6_readPage_151 (by decide) rfl h (fun h => ?_) (fun h => ?_)
          · refine g_weak (lo' := [some (.ref (ea E 0)), some (.int v1), none, some (.int (ma_2 + mbo_8)), some (.int mco_9), none, none, none]) rfl ?_
            exact w_X6_readPage_J276 hC   h
          · refine g_aload_n (pc' := 155) (i := 0) hC dX6_readPage_154 rfl rfl rfl ?_
            refine g_sipush (pc' := 158) (v := (nI 12000)) hC dX6_readPage_155 (by decide) rfl ?_
            obtain ⟨a_74, ma_75, mb_76, mba_77, hc_78, h⟩ := bd4_some h
            refine g_callV (pc' := 161) hC (c_X6_readLength _ hc_78) ml_X6_212 (rc_M) (by decide) rfl rfl rfl rfl dX6_readPage_158 rfl ?_
            refine g_istore (pc' := 163) (i := 5) (lo' := [some (.ref (ea E 0)), some (.int v1), some (.int v2), some (.int (ma_2 + mbo_8)), some (.int mco_9), some (.int a_74), none, none]) hC dX6_readPage_161 rfl rfl rfl rfl ?_
            refine g_iload (pc' := 165) (i := 5) hC dX6_readPage_163 rfl rfl ?_
            refine g_if_ge (pc' := 168) (tgt := 170) hC dX6_readPage_165 (by decide) rfl h (fun h => ?_) (fun h => ?_)
            · refine g_iconst (pc' := 169) (v := (nI 0)) hC dX6_readPage_168 (by decide) rfl ?_
              obtain ⟨rfl, rfl, rfl, rfl, rfl, rfl, rfl, rfl, rfl, rfl, rfl, rfl, rfl, rfl, rfl, rfl, rfl, rfl, rfl, rfl, rfl⟩ := inj21 h; exact g_zret hC (by decide) dX6_readPage_169
            · refine g_aload_n (pc' := 171) (i := 0) hC dX6_readPage_170 rfl rfl rfl ?_
              refine g_aload_n (pc' := 172) (i := 0) hC dX6_readPage_171 rfl rfl rfl ?_
              refine gf_X6_175 (pc' := 175) hC dX6_readPage_172 rfl ?_
              refine g_iload (pc' := 177) (i := 5) hC dX6_readPage_175 rfl rfl ?_
              refine g_iadd (pc' := 178) hC dX6_readPage_177 rfl ?_
              refine pf_X6_178 (pc' := 181) hC dX6_readPage_178 rfl ?_
              refine g_aload_n (pc' := 182) (i := 0) hC dX6_readPage_181 rfl rfl rfl ?_
              refine g_aload_n (pc' := 183) (i := 0) hC dX6_readPage_182 rfl rfl rfl ?_
              refine gf_X6_241 (pc' := 186) hC dX6_readPage_183 rfl ?_
              refine g_iconst (pc' := 187) (v := (nI 1)) hC dX6_readPage_186 (by decide) rfl ?_
              obtain ⟨a_79, mn_80, ma_81, mb_82, mba_83, mbl_84, mby_85, hc_86, h⟩ := bd7_some h
              refine g_callV (pc' := 190) hC (c_X6_readRuns _ hc_86) ml_X6_266 (rc_M) (by decide) rfl rfl rfl rfl dX6_readPage_187 rfl ?_
              refine g_if_eq (pc' := 193) (tgt := 204) hC dX6_readPage_190 (by decide) rfl h (fun h => ?_) (fun h => ?_)
              · refine g_iconst (pc' := 205) (v := (nI 0)) hC dX6_readPage_204 (by decide) rfl ?_
                obtain ⟨rfl, rfl, rfl, rfl, rfl, rfl, rfl, rfl, rfl, rfl, rfl, rfl, rfl, rfl, rfl, rfl, rfl, rfl, rfl, rfl, rfl⟩ := inj21 h; exact g_zret hC (by decide) dX6_readPage_205
              · refine g_aload_n (pc' := 194) (i := 0) hC dX6_readPage_193 rfl rfl rfl ?_
                refine g_aload_n (pc' := 195) (i := 0) hC dX6_readPage_194 rfl rfl rfl ?_
                refine gf_X6_178 (pc' := 198) hC dX6_readPage_195 rfl ?_
                obtain ⟨a_87, mb_88, mba_89, hc_90, h⟩ := bd3_some h
                refine g_callV (pc' := 201) hC (c_X6_isOver _ hc_90) ml_X6_260 (rc_M) (by decide) rfl rfl rfl rfl dX6_readPage_198 rfl ?_
                refine g_if_ne (pc' := 204) (tgt := 206) hC dX6_readPage_201 (by decide) rfl h (fun h => ?_) (fun h => ?_)
                · refine g_iconst (pc' := 205) (v := (nI 0)) hC dX6_readPage_204 (by decide) rfl ?_
                  obtain ⟨rfl, rfl, rfl, rfl, rfl, rfl, rfl, rfl, rfl, rfl, rfl, rfl, rfl, rfl, rfl, rfl, rfl, rfl, rfl, rfl, rfl⟩ := inj21 h; exact g_zret hC (by decide) dX6_readPage_205
                · refine g_aload_n (pc' := 207) (i := 0) hC dX6_readPage_206 rfl rfl rfl ?_
                  refine g_iload_n (pc' := 208) (i := 3) hC dX6_readPage_207 rfl rfl rfl ?_
                  refine pf_X6_178 (pc' := 211) hC dX6_readPage_208 rfl ?_
                  refine g_iconst (pc' := 212) (v := (nI 0)) hC dX6_readPage_211 (by decide) rfl ?_
                  refine g_istore (pc' := 214) (i := 4) (lo' := [some (.ref (ea E 0)), some (.int v1), some (.int v2), some (.int (ma_2 + mbo_8)), some (.int (nI 0)), some (.int a_74), none, none]) hC dX6_readPage_212 rfl rfl rfl rfl ?_
                  refine g_iconst (pc' := 215) (v := (nI 0)) hC dX6_readPage_214 (by decide) rfl ?_
                  refine g_istore (pc' := 217) (i := 6) (lo' := [some (.ref (ea E 0)), some (.int v1), some (.int v2), some (.int (ma_2 + mbo_8)), some (.int (nI 0)), some (.int a_74), some (.int (nI 0)), none]) hC dX6_readPage_215 rfl rfl rfl rfl ?_
                  refine g_weak (lo' := [some (.ref (ea E 0)), some (.int v1), none, some (.int (ma_2 + mbo_8)), some (.int (nI 0)), none, some (.int (nI 0)), none]) rfl ?_
                  refine w_X6_readPage_L217 hC  ?_ _ _ _ _ h
                  · intro v4_95 ml_96 h
                    exact w_X6_readPage_J276 hC   h
set_option maxRecDepth 200000 in
theorem w_X6_read_L53 {κ : GK} {E : GE} {rr : Int32} {mmz : Nat → Int32} {mtz : Nat → Int32} {mvz : Nat → Int64} {mxz : Nat → Int32} {mnz : Nat → Int64} {maz : Int32} {mez : Int32} {mbz : Int32} {mbaz : Int32} {mpgz : Int32} {mdiz : Int32} {mblz : Int32} {mbyz : Int32} {mwz : Nat → Int32} {mzz : Int32} {msoz : Int32} {mboz : Int32} {mcoz : Int32} {mcdz : Int32} {mlz : Nat → Int32} {mrz : Int32} {v1 : Int32} {k91 : (Nat → Int32) → (Nat → Int32) → (Nat → Int64) → (Nat → Int32) → (Nat → Int64) → Int32 → Int32 → Int32 → Int32 → Int32 → Int32 → Int32 → Int32 → (Nat → Int32) → Int32 → Int32 → Int32 → Int32 → Int32 → (Nat → Int32) → Option (Int32 × (Nat → Int32) × (Nat → Int32) × (Nat → Int64) × (Nat → Int32) × (Nat → Int64) × Int32 × Int32 × Int32 × Int32 × Int32 × Int32 × Int32 × Int32 × (Nat → Int32) × Int32 × Int32 × Int32 × Int32 × Int32 × (Nat → Int32) × Int32)} (hC : gC κ E cX6_read RX6 (some .int) rm_X6_read 3)  (hk91 : ∀ (mm : Nat → Int32) (mt : Nat → Int32) (mv : Nat → Int64) (mx : Nat → Int32) (mn : Nat → Int64) (ma : Int32) (me : Int32) (mb : Int32) (mba : Int32) (mpg : Int32) (mdi : Int32) (mbl : Int32) (mby : Int32) (mw : Nat → Int32) (mz : Int32) (mso : Int32) (mbo : Int32) (mco : Int32) (mcd : Int32) (ml : Nat → Int32), k91 mm mt mv mx mn ma me mb mba mpg mdi mbl mby mw mz mso mbo mco mcd ml = some (rr, mmz, mtz, mvz, mxz, mnz, maz, mez, mbz, mbaz, mpgz, mdiz, mblz, mbyz, mwz, mzz, msoz, mboz, mcoz, mcdz, mlz, mrz) → GG κ E (mws E mk mo mmz mtz mvz mxz mp mtd mf ms md mdd mnz mst mpl mbb maz mez mbz mbaz mpgz mdiz mblz mbyz mwz mzz msoz mboz mcoz mcdz mlz mrz, some (.int rr)) (mws E mk mo mm mt mv mx mp mtd mf ms md mdd mn mst mpl mbb ma me mb mba mpg mdi mbl mby mw mz mso mbo mco mcd ml mr) 91 [some (.ref (ea E 0)), some (.int v1), none] []) : ∀ (n : Nat) (mm : Nat → Int32) (mt : Nat → Int32) (mv : Nat → Int64) (mx : Nat → Int32) (mn : Nat → Int64) (ma : Int32) (me : Int32) (mb : Int32) (mba : Int32) (mpg : Int32) (mdi : Int32) (mbl : Int32) (mby : Int32) (mw : Nat → Int32) (mz : Int32) (mso : Int32) (mbo : Int32) (mco : Int32) (mcd : Int32) (ml : Nat → Int32), itr20 (p_X6_read_L53 v1 mk mo mf ms mr k91) n mm mt mv mx mn ma me mb mba mpg mdi mbl mby mw mz mso mbo mco mcd ml = some (rr, mmz, mtz, mvz, mxz, mnz, maz, mez, mbz, mbaz, mpgz, mdiz, mblz, mbyz, mwz, mzz, msoz, mboz, mcoz, mcdz, mlz, mrz) → GG κ E (mws E mk mo mmz mtz mvz mxz mp mtd mf ms md mdd mnz mst mpl mbb maz mez mbz mbaz mpgz mdiz mblz mbyz mwz mzz msoz mboz mcoz mcdz mlz mrz, some (.int rr)) (mws E mk mo mm mt mv mx mp mtd mf ms md mdd mn mst mpl mbb ma me mb mba mpg mdi mbl mby mw mz mso mbo mco mcd ml mr) 53 [some (.ref (ea E 0)), some (.int v1), none] [] :=
  itr20_ind (fun k53 hk53 mm mt mv mx mn ma me mb mba mpg mdi mbl mby mw mz mso mbo mco mcd ml h => by
    unfold p_X6_read_L53 at h
    refine g_aload_n (pc' := 54) (i := 0) hC dX6_read_53 rfl rfl rfl ?_
    refine gf_X6_175 (pc' := 57) hC dX6_read_54 rfl ?_
    refine g_aload_n (pc' := 58) (i := 0) hC dX6_read_57 rfl rfl rfl ?_
    refine gf_X6_166 (pc' := 61) hC dX6_read_58 rfl ?_
    refine g_icmp_ge (pc' := 64) (tgt := 91) hC dX6_read_61 (by decide) rfl h (fun h => ?_) (fun h => ?_)
    · refine g_aload_n (pc' := 65) (i := 0) hC dX6_read_64 rfl rfl rfl ?_
      refine g_aload_n (pc' := 66) (i := 0) hC dX6_read_65 rfl rfl rfl ?_
      refine gf_X6_7 (pc' := 69) hC dX6_read_66 rfl ?_
      refine g_iload_n (pc' := 70) (i := 1) hC dX6_read_69 rfl rfl rfl ?_
      obtain ⟨g_5, h⟩ := gd_some h
      refine ld_mk (pc' := 71) hC g_5 dX6_read_70 rfl ?_
      refine g_aload_n (pc' := 72) (i := 0) hC dX6_read_71 rfl rfl rfl ?_
      refine gf_X6_13 (pc' := 75) hC dX6_read_72 rfl ?_
      refine g_iload_n (pc' := 76) (i := 1) hC dX6_read_75 rfl rfl rfl ?_
      obtain ⟨g_6, h⟩ := gd_some h
      refine ld_mo (pc' := 77) hC g_6 dX6_read_76 rfl ?_
      obtain ⟨a_7, mm_8, mt_9, mv_10, mx_11, mn_12, ma_13, me_14, mb_15, mba_16, mpg_17, mdi_18, mbl_19, mby_20, mw_21, mz_22, mso_23, mbo_24, mco_25, mcd_26, ml_27, hc_28, h⟩ := bd21_some h
      refine g_callV (pc' := 80) hC (c_X6_readPage _ hc_28) ml_X6_288 (rc_M) (by decide) rfl rfl rfl rfl dX6_read_77 rfl ?_
      refine g_if_ne (pc' := 83) (tgt := 53) hC dX6_read_80 (by decide) rfl h (fun h => ?_) (fun h => ?_)
      · refine g_bipush (pc' := 85) (v := (-10 : Int32)) hC dX6_read_83 (by decide) rfl ?_
        refine g_aload_n (pc' := 86) (i := 0) hC dX6_read_85 rfl rfl rfl ?_
        refine gf_X6_169 (pc' := 89) hC dX6_read_86 rfl ?_
        refine g_isub (pc' := 90) hC dX6_read_89 rfl ?_
        obtain ⟨rfl, rfl, rfl, rfl, rfl, rfl, rfl, rfl, rfl, rfl, rfl, rfl, rfl, rfl, rfl, rfl, rfl, rfl, rfl, rfl, rfl, rfl⟩ := inj22 h; exact g_iret hC dX6_read_90
      · exact hk53 _ _ _ _ _ _ _ _ _ _ _ _ _ _ _ _ _ _ _ _ h
    · exact hk91 _ _ _ _ _ _ _ _ _ _ _ _ _ _ _ _ _ _ _ _ h)
set_option maxRecDepth 200000 in
theorem w_X6_read_L105 {κ : GK} {E : GE} {rr : Int32} {mmz : Nat → Int32} {mtz : Nat → Int32} {mvz : Nat → Int64} {mxz : Nat → Int32} {mnz : Nat → Int64} {maz : Int32} {mez : Int32} {mbz : Int32} {mbaz : Int32} {mpgz : Int32} {mdiz : Int32} {mblz : Int32} {mbyz : Int32} {mwz : Nat → Int32} {mzz : Int32} {msoz : Int32} {mboz : Int32} {mcoz : Int32} {mcdz : Int32} {mlz : Nat → Int32} {mrz : Int32} {v1 : Int32}  (hC : gC κ E cX6_read RX6 (some .int) rm_X6_read 3)   : ∀ (n : Nat) (v2 : Int32) (mt : Nat → Int32) (mv : Nat → Int64) (mx : Nat → Int32), itr4 (p_X6_read_L105 v1 mm mn ma me mb mba mpg mdi mbl mby mw mz mso mbo mco mcd ml mr) n v2 mt mv mx = some (rr, mmz, mtz, mvz, mxz, mnz, maz, mez, mbz, mbaz, mpgz, mdiz, mblz, mbyz, mwz, mzz, msoz, mboz, mcoz, mcdz, mlz, mrz) → GG κ E (mws E mk mo mmz mtz mvz mxz mp mtd mf ms md mdd mnz mst mpl mbb maz mez mbz mbaz mpgz mdiz mblz mbyz mwz mzz msoz mboz mcoz mcdz mlz mrz, some (.int rr)) (mws E mk mo mm mt mv mx mp mtd mf ms md mdd mn mst mpl mbb ma me mb mba mpg mdi mbl mby mw mz mso mbo mco mcd ml mr) 105 [some (.ref (ea E 0)), some (.int v1), some (.int v2)] [] :=
  itr4_ind (fun k105 hk105 v2 mt mv mx h => by
    unfold p_X6_read_L105 at h
    refine g_iload_n (pc' := 106) (i := 2) hC dX6_read_105 rfl rfl rfl ?_
    refine g_aload_n (pc' := 107) (i := 0) hC dX6_read_106 rfl rfl rfl ?_
    refine gf_X6_17 (pc' := 110) hC dX6_read_107 rfl ?_
    refine g_iconst (pc' := 111) (v := (nI 4)) hC dX6_read_110 (by decide) rfl ?_
    obtain ⟨g_51, h⟩ := gd_some h
    refine ld_mm (pc' := 112) hC g_51 dX6_read_111 rfl ?_
    refine g_icmp_ge (pc' := 115) (tgt := 137) hC dX6_read_112 (by decide) rfl h (fun h => ?_) (fun h => ?_)
    · refine g_aload_n (pc' := 116) (i := 0) hC dX6_read_115 rfl rfl rfl ?_
      refine g_sipush (pc' := 119) (v := (nI 200)) hC dX6_read_116 (by decide) rfl ?_
      refine g_iload_n (pc' := 120) (i := 1) hC dX6_read_119 rfl rfl rfl ?_
      refine g_imul (pc' := 121) hC dX6_read_120 rfl ?_
      refine g_iload_n (pc' := 122) (i := 2) hC dX6_read_121 rfl rfl rfl ?_
      refine g_iadd (pc' := 123) hC dX6_read_122 rfl ?_
      refine g_sipush (pc' := 126) (v := (nI 800)) hC dX6_read_123 (by decide) rfl ?_
      refine g_iload_n (pc' := 127) (i := 2) hC dX6_read_126 rfl rfl rfl ?_
      refine g_iadd (pc' := 128) hC dX6_read_127 rfl ?_
      obtain ⟨mt_52, mv_53, mx_54, hc_55, h⟩ := bd3_some h
      refine g_callV (pc' := 131) hC (c_X6_copies _ hc_55) ml_X6_82 (rc_M) (by decide) rfl rfl rfl rfl dX6_read_128 rfl ?_
      refine g_iinc (pc' := 134) (i := 2) (x := v2) (k := (nI 1)) (lo' := [some (.ref (ea E 0)), some (.int v1), some (.int (v2 + (nI 1)))]) hC dX6_read_131 rfl (by decide) rfl rfl rfl rfl ?_
      refine g_goto (tgt := 105) hC dX6_read_134 (by decide) ?_
      exact hk105 _ _ _ _ h
    · refine g_aload_n (pc' := 138) (i := 0) hC dX6_read_137 rfl rfl rfl ?_
      refine gf_X6_17 (pc' := 141) hC dX6_read_138 rfl ?_
      refine g_iload_n (pc' := 142) (i := 1) hC dX6_read_141 rfl rfl rfl ?_
      obtain ⟨g_56, h⟩ := gd_some h
      refine ld_mm (pc' := 143) hC g_56 dX6_read_142 rfl ?_
      obtain ⟨rfl, rfl, rfl, rfl, rfl, rfl, rfl, rfl, rfl, rfl, rfl, rfl, rfl, rfl, rfl, rfl, rfl, rfl, rfl, rfl, rfl, rfl⟩ := inj22 h; exact g_iret hC dX6_read_143)
set_option maxRecDepth 200000 in
theorem c_X6_read (l : Launch) {E : GE} {rr : Int32} {mmz : Nat → Int32} {mtz : Nat → Int32} {mvz : Nat → Int64} {mxz : Nat → Int32} {mnz : Nat → Int64} {maz : Int32} {mez : Int32} {mbz : Int32} {mbaz : Int32} {mpgz : Int32} {mdiz : Int32} {mblz : Int32} {mbyz : Int32} {mwz : Nat → Int32} {mzz : Int32} {msoz : Int32} {mboz : Int32} {mcoz : Int32} {mcdz : Int32} {mlz : Nat → Int32} {mrz : Int32} {v1 : Int32}  (h : p_X6_read v1 mk mo mm mt mv mx mf ms mn ma me mb mba mpg mdi mbl mby mw mz mso mbo mco mcd ml mr = some (rr, mmz, mtz, mvz, mxz, mnz, maz, mez, mbz, mbaz, mpgz, mdiz, mblz, mbyz, mwz, mzz, msoz, mboz, mcoz, mcdz, mlz, mrz)) : Met l yX6_read (.code yX6_read cX6_read 3 (some .int) :: gU) rm_X6_read (gP E (mws E mk mo mm mt mv mx mp mtd mf ms md mdd mn mst mpl mbb ma me mb mba mpg mdi mbl mby mw mz mso mbo mco mcd ml mr) [.ref (ea E 0), .int v1]) (gQ E (mws E mk mo mmz mtz mvz mxz mp mtd mf ms md mdd mnz mst mpl mbb maz mez mbz mbaz mpgz mdiz mblz mbyz mwz mzz msoz mboz mcoz mcdz mlz mrz) (some (.int rr))) 0 0 E.2.2.1 := by
  refine met_of (y := yX6_read) (own := RX6) (lo := [some (.ref (ea E 0)), some (.int v1), none]) (by decide) rfl rfl rfl (fun κ hl hC => ?_)
  subst hl
  unfold p_X6_read at h
  refine g_iload_n (pc' := 1) (i := 1) hC dX6_read_0 rfl rfl rfl ?_
  obtain ⟨a_1, hc_2, h⟩ := bd1_some h
  refine g_callS (pc' := 4) hC (c_X6_isColumn _ hc_2) ml_X6_66  (by decide) rfl rfl rfl dX6_read_1 rfl ?_
  refine g_if_ne (pc' := 7) (tgt := 9) hC dX6_read_4 (by decide) rfl h (fun h => ?_) (fun h => ?_)
  · refine g_iconst (pc' := 8) (v := (-1 : Int32)) hC dX6_read_7 (by decide) rfl ?_
    obtain ⟨rfl, rfl, rfl, rfl, rfl, rfl, rfl, rfl, rfl, rfl, rfl, rfl, rfl, rfl, rfl, rfl, rfl, rfl, rfl, rfl, rfl, rfl⟩ := inj22 h; exact g_iret hC dX6_read_8
  · refine g_aload_n (pc' := 10) (i := 0) hC dX6_read_9 rfl rfl rfl ?_
    refine g_iconst (pc' := 11) (v := (nI 1)) hC dX6_read_10 (by decide) rfl ?_
    refine pf_X6_284 (pc' := 14) hC (by decide) dX6_read_11 rfl ?_
    refine g_aload_n (pc' := 15) (i := 0) hC dX6_read_14 rfl rfl rfl ?_
    refine g_iconst (pc' := 16) (v := (nI 0)) hC dX6_read_15 (by decide) rfl ?_
    refine pf_X6_263 (pc' := 19) hC dX6_read_16 rfl ?_
    refine g_aload_n (pc' := 20) (i := 0) hC dX6_read_19 rfl rfl rfl ?_
    refine g_iconst (pc' := 21) (v := (-1 : Int32)) hC dX6_read_20 (by decide) rfl ?_
    refine pf_X6_248 (pc' := 24) hC dX6_read_21 rfl ?_
    refine g_aload_n (pc' := 25) (i := 0) hC dX6_read_24 rfl rfl rfl ?_
    refine gf_X6_17 (pc' := 28) hC dX6_read_25 rfl ?_
    refine g_iconst (pc' := 29) (v := (nI 4)) hC dX6_read_28 (by decide) rfl ?_
    refine g_iconst (pc' := 30) (v := (nI 0)) hC dX6_read_29 (by decide) rfl ?_
    obtain ⟨g_3, h⟩ := gd_some h
    refine st_mm (pc' := 31) hC g_3 dX6_read_30 rfl ?_
    refine g_aload_n (pc' := 32) (i := 0) hC dX6_read_31 rfl rfl rfl ?_
    refine gf_X6_17 (pc' := 35) hC dX6_read_32 rfl ?_
    refine g_iconst (pc' := 36) (v := (nI 5)) hC dX6_read_35 (by decide) rfl ?_
    refine g_iconst (pc' := 37) (v := (nI 0)) hC dX6_read_36 (by decide) rfl ?_
    obtain ⟨g_4, h⟩ := gd_some h
    refine st_mm (pc' := 38) hC g_4 dX6_read_37 rfl ?_
    refine g_aload_n (pc' := 39) (i := 0) hC dX6_read_38 rfl rfl rfl ?_
    refine g_iconst (pc' := 40) (v := (nI 0)) hC dX6_read_39 (by decide) rfl ?_
    refine pf_X6_175 (pc' := 43) hC dX6_read_40 rfl ?_
    refine g_aload_n (pc' := 44) (i := 0) hC dX6_read_43 rfl rfl rfl ?_
    refine g_iconst (pc' := 45) (v := (nI 0)) hC dX6_read_44 (by decide) rfl ?_
    refine pf_X6_169 (pc' := 48) hC dX6_read_45 rfl ?_
    refine g_aload_n (pc' := 49) (i := 0) hC dX6_read_48 rfl rfl rfl ?_
    refine g_iconst (pc' := 50) (v := (nI 0)) hC dX6_read_49 (by decide) rfl ?_
    refine pf_X6_172 (pc' := 53) hC dX6_read_50 rfl ?_
    refine w_X6_read_L53 hC  ?_ _ _ _ _ _ _ _ _ _ _ _ _ _ _ _ _ _ _ _ _ _ h
    · intro mm_29 mt_30 mv_31 mx_32 mn_33 ma_34 me_35 mb_36 mba_37 mpg_38 mdi_39 mbl_40 mby_41 mw_42 mz_43 mso_44 mbo_45 mco_46 mcd_47 ml_48 h
      refine g_aload_n (pc' := 92) (i := 0) hC dX6_read_91 rfl rfl rfl ?_
      refine gf_X6_17 (pc' := 95) hC dX6_read_92 rfl ?_
      refine g_iload_n (pc' := 96) (i := 1) hC dX6_read_95 rfl rfl rfl ?_
      refine g_aload_n (pc' := 97) (i := 0) hC dX6_read_96 rfl rfl rfl ?_
      refine gf_X6_17 (pc' := 100) hC dX6_read_97 rfl ?_
      refine g_iconst (pc' := 101) (v := (nI 4)) hC dX6_read_100 (by decide) rfl ?_
      obtain ⟨g_49, h⟩ := gd_some h
      refine ld_mm (pc' := 102) hC g_49 dX6_read_101 rfl ?_
      obtain ⟨g_50, h⟩ := gd_some h
      refine st_mm (pc' := 103) hC g_50 dX6_read_102 rfl ?_
      refine g_iconst (pc' := 104) (v := (nI 0)) hC dX6_read_103 (by decide) rfl ?_
      refine g_istore_n (pc' := 105) (i := 2) (lo' := [some (.ref (ea E 0)), some (.int v1), some (.int (nI 0))]) hC dX6_read_104 rfl rfl rfl rfl rfl ?_
      refine w_X6_read_L105 hC   _ _ _ _ _ h
set_option maxRecDepth 200000 in
theorem c_X6_fault (l : Launch) {E : GE} {rr : Int32} {v1 : Int32}  (h : p_X6_fault v1 mb mba mpg mdi mr = some rr) : Met l yX6_fault (.code yX6_fault cX6_fault 2 (some .int) :: gU) rm_X6_fault (gP E (mws E mk mo mm mt mv mx mp mtd mf ms md mdd mn mst mpl mbb ma me mb mba mpg mdi mbl mby mw mz mso mbo mco mcd ml mr) [.ref (ea E 0), .int v1]) (gQ E (mws E mk mo mm mt mv mx mp mtd mf ms md mdd mn mst mpl mbb ma me mb mba mpg mdi mbl mby mw mz mso mbo mco mcd ml mr) (some (.int rr))) 0 0 E.2.2.1 := by
  refine met_of (y := yX6_fault) (own := RX6) (lo := [some (.ref (ea E 0)), some (.int v1)]) (by decide) rfl rfl rfl (fun κ hl hC => ?_)
  subst hl
  unfold p_X6_fault at h
  refine g_iload_n (pc' := 1) (i := 1) hC dX6_fault_0 rfl rfl rfl ?_
  refine g_i2l (pc' := 2) hC dX6_fault_1 rfl ?_
  refine g_lconst (pc' := 3) (v := (lN 0)) hC dX6_fault_2 (by decide) rfl ?_
  refine g_ldc2_w (pc' := 6) (v := (lN 3)) hC u_13 dX6_fault_3 rfl ?_
  obtain ⟨a_1, hc_2, h⟩ := bd1_some h
  refine g_callS (pc' := 9) hC (c_X6_in _ hc_2) ml_X6_62  (by decide) rfl rfl rfl dX6_fault_6 rfl ?_
  refine g_if_ne (pc' := 12) (tgt := 14) hC dX6_fault_9 (by decide) rfl h (fun h => ?_) (fun h => ?_)
  · refine g_iconst (pc' := 13) (v := (-1 : Int32)) hC dX6_fault_12 (by decide) rfl ?_
    obtain rfl := inj1 h; exact g_iret hC dX6_fault_13
  · refine g_aload_n (pc' := 15) (i := 0) hC dX6_fault_14 rfl rfl rfl ?_
    refine gf_X6_284 (pc' := 18) hC dX6_fault_15 rfl ?_
    refine g_if_ne (pc' := 21) (tgt := 23) hC dX6_fault_18 (by decide) rfl h (fun h => ?_) (fun h => ?_)
    · refine g_iconst (pc' := 22) (v := (nI 0)) hC dX6_fault_21 (by decide) rfl ?_
      obtain rfl := inj1 h; exact g_iret hC dX6_fault_22
    · refine g_iload_n (pc' := 24) (i := 1) hC dX6_fault_23 rfl rfl rfl ?_
      refine g_if_ne (pc' := 27) (tgt := 34) hC dX6_fault_24 (by decide) rfl h (fun h => ?_) (fun h => ?_)
      · refine g_aload_n (pc' := 28) (i := 0) hC dX6_fault_27 rfl rfl rfl ?_
        refine gf_X6_169 (pc' := 31) hC dX6_fault_28 rfl ?_
        refine g_goto (tgt := 73) hC dX6_fault_31 (by decide) ?_
        obtain rfl := inj1 h; exact g_iret hC dX6_fault_73
      · refine g_iload_n (pc' := 35) (i := 1) hC dX6_fault_34 rfl rfl rfl ?_
        refine g_iconst (pc' := 36) (v := (nI 1)) hC dX6_fault_35 (by decide) rfl ?_
        refine g_icmp_ne (pc' := 39) (tgt := 46) hC dX6_fault_36 (by decide) rfl h (fun h => ?_) (fun h => ?_)
        · refine g_aload_n (pc' := 40) (i := 0) hC dX6_fault_39 rfl rfl rfl ?_
          refine gf_X6_172 (pc' := 43) hC dX6_fault_40 rfl ?_
          refine g_goto (tgt := 73) hC dX6_fault_43 (by decide) ?_
          obtain rfl := inj1 h; exact g_iret hC dX6_fault_73
        · refine g_iload_n (pc' := 47) (i := 1) hC dX6_fault_46 rfl rfl rfl ?_
          refine g_iconst (pc' := 48) (v := (nI 2)) hC dX6_fault_47 (by decide) rfl ?_
          refine g_icmp_ne (pc' := 51) (tgt := 58) hC dX6_fault_48 (by decide) rfl h (fun h => ?_) (fun h => ?_)
          · refine g_aload_n (pc' := 52) (i := 0) hC dX6_fault_51 rfl rfl rfl ?_
            refine gf_X6_263 (pc' := 55) hC dX6_fault_52 rfl ?_
            refine g_goto (tgt := 73) hC dX6_fault_55 (by decide) ?_
            obtain rfl := inj1 h; exact g_iret hC dX6_fault_73
          · refine g_aload_n (pc' := 59) (i := 0) hC dX6_fault_58 rfl rfl rfl ?_
            refine gf_X6_248 (pc' := 62) hC dX6_fault_59 rfl ?_
            refine g_if_ge (pc' := 65) (tgt := 69) hC dX6_fault_62 (by decide) rfl h (fun h => ?_) (fun h => ?_)
            · refine g_iconst (pc' := 66) (v := (nI 0)) hC dX6_fault_65 (by decide) rfl ?_
              refine g_goto (tgt := 73) hC dX6_fault_66 (by decide) ?_
              obtain rfl := inj1 h; exact g_iret hC dX6_fault_73
            · refine g_aload_n (pc' := 70) (i := 0) hC dX6_fault_69 rfl rfl rfl ?_
              refine gf_X6_248 (pc' := 73) hC dX6_fault_70 rfl ?_
              obtain rfl := inj1 h; exact g_iret hC dX6_fault_73
set_option maxRecDepth 200000 in
theorem c_X6_size (l : Launch) {E : GE} {rr : Int32}   (h : p_X6_size ms = some rr) : Met l yX6_size (.code yX6_size cX6_size 1 (some .int) :: gU) rm_X6_size (gP E (mws E mk mo mm mt mv mx mp mtd mf ms md mdd mn mst mpl mbb ma me mb mba mpg mdi mbl mby mw mz mso mbo mco mcd ml mr) [.ref (ea E 0)]) (gQ E (mws E mk mo mm mt mv mx mp mtd mf ms md mdd mn mst mpl mbb ma me mb mba mpg mdi mbl mby mw mz mso mbo mco mcd ml mr) (some (.int rr))) 0 0 E.2.2.1 := by
  refine met_of (y := yX6_size) (own := RX6) (lo := [some (.ref (ea E 0))]) (by decide) rfl rfl rfl (fun κ hl hC => ?_)
  subst hl
  unfold p_X6_size at h
  refine g_aload_n (pc' := 1) (i := 0) hC dX6_size_0 rfl rfl rfl ?_
  refine gf_X6_166 (pc' := 4) hC dX6_size_1 rfl ?_
  obtain rfl := inj1 h; exact g_iret hC dX6_size_4
set_option maxRecDepth 200000 in
theorem c_X6_byteAt (l : Launch) {E : GE} {rr : Int32} {v1 : Int32}  (h : p_X6_byteAt v1 mf ms = some rr) : Met l yX6_byteAt (.code yX6_byteAt cX6_byteAt 2 (some .int) :: gU) rm_X6_byteAt (gP E (mws E mk mo mm mt mv mx mp mtd mf ms md mdd mn mst mpl mbb ma me mb mba mpg mdi mbl mby mw mz mso mbo mco mcd ml mr) [.ref (ea E 0), .int v1]) (gQ E (mws E mk mo mm mt mv mx mp mtd mf ms md mdd mn mst mpl mbb ma me mb mba mpg mdi mbl mby mw mz mso mbo mco mcd ml mr) (some (.int rr))) 0 0 E.2.2.1 := by
  refine met_of (y := yX6_byteAt) (own := RX6) (lo := [some (.ref (ea E 0)), some (.int v1)]) (by decide) rfl rfl rfl (fun κ hl hC => ?_)
  subst hl
  unfold p_X6_byteAt at h
  refine g_iload_n (pc' := 1) (i := 1) hC dX6_byteAt_0 rfl rfl rfl ?_
  refine g_i2l (pc' := 2) hC dX6_byteAt_1 rfl ?_
  refine g_lconst (pc' := 3) (v := (lN 0)) hC dX6_byteAt_2 (by decide) rfl ?_
  refine g_aload_n (pc' := 4) (i := 0) hC dX6_byteAt_3 rfl rfl rfl ?_
  refine gf_X6_166 (pc' := 7) hC dX6_byteAt_4 rfl ?_
  refine g_iconst (pc' := 8) (v := (nI 1)) hC dX6_byteAt_7 (by decide) rfl ?_
  refine g_isub (pc' := 9) hC dX6_byteAt_8 rfl ?_
  refine g_i2l (pc' := 10) hC dX6_byteAt_9 rfl ?_
  obtain ⟨a_1, hc_2, h⟩ := bd1_some h
  refine g_callS (pc' := 13) hC (c_X6_in _ hc_2) ml_X6_62  (by decide) rfl rfl rfl dX6_byteAt_10 rfl ?_
  refine g_if_eq (pc' := 16) (tgt := 29) hC dX6_byteAt_13 (by decide) rfl h (fun h => ?_) (fun h => ?_)
  · refine g_iconst (pc' := 30) (v := (-1 : Int32)) hC dX6_byteAt_29 (by decide) rfl ?_
    obtain rfl := inj1 h; exact g_iret hC dX6_byteAt_30
  · refine g_aload_n (pc' := 17) (i := 0) hC dX6_byteAt_16 rfl rfl rfl ?_
    refine gf_X6_35 (pc' := 20) hC dX6_byteAt_17 rfl ?_
    refine g_iload_n (pc' := 21) (i := 1) hC dX6_byteAt_20 rfl rfl rfl ?_
    obtain ⟨g_3, h⟩ := gd_some h
    refine ld_mf (pc' := 22) hC g_3 dX6_byteAt_21 rfl ?_
    refine g_sipush (pc' := 25) (v := (nI 255)) hC dX6_byteAt_22 (by decide) rfl ?_
    refine g_iand (pc' := 26) hC dX6_byteAt_25 rfl ?_
    refine g_goto (tgt := 30) hC dX6_byteAt_26 (by decide) ?_
    obtain rfl := inj1 h; exact g_iret hC dX6_byteAt_30
set_option maxRecDepth 200000 in
theorem c_X6_poke (l : Launch) {E : GE} {rr : Int32} {mfz : Nat → Int32} {v1 : Int32} {v2 : Int32}  (h : p_X6_poke v1 v2 mf ms = some (rr, mfz)) : Met l yX6_poke (.code yX6_poke cX6_poke 3 (some .int) :: gU) rm_X6_poke (gP E (mws E mk mo mm mt mv mx mp mtd mf ms md mdd mn mst mpl mbb ma me mb mba mpg mdi mbl mby mw mz mso mbo mco mcd ml mr) [.ref (ea E 0), .int v1, .int v2]) (gQ E (mws E mk mo mm mt mv mx mp mtd mfz ms md mdd mn mst mpl mbb ma me mb mba mpg mdi mbl mby mw mz mso mbo mco mcd ml mr) (some (.int rr))) 0 0 E.2.2.1 := by
  refine met_of (y := yX6_poke) (own := RX6) (lo := [some (.ref (ea E 0)), some (.int v1), some (.int v2)]) (by decide) rfl rfl rfl (fun κ hl hC => ?_)
  subst hl
  unfold p_X6_poke at h
  refine g_iload_n (pc' := 1) (i := 1) hC dX6_poke_0 rfl rfl rfl ?_
  refine g_i2l (pc' := 2) hC dX6_poke_1 rfl ?_
  refine g_lconst (pc' := 3) (v := (lN 0)) hC dX6_poke_2 (by decide) rfl ?_
  refine g_aload_n (pc' := 4) (i := 0) hC dX6_poke_3 rfl rfl rfl ?_
  refine gf_X6_166 (pc' := 7) hC dX6_poke_4 rfl ?_
  refine g_iconst (pc' := 8) (v := (nI 1)) hC dX6_poke_7 (by decide) rfl ?_
  refine g_isub (pc' := 9) hC dX6_poke_8 rfl ?_
  refine g_i2l (pc' := 10) hC dX6_poke_9 rfl ?_
  obtain ⟨a_1, hc_2, h⟩ := bd1_some h
  refine g_callS (pc' := 13) hC (c_X6_in _ hc_2) ml_X6_62  (by decide) rfl rfl rfl dX6_poke_10 rfl ?_
  refine g_if_ne (pc' := 16) (tgt := 18) hC dX6_poke_13 (by decide) rfl h (fun h => ?_) (fun h => ?_)
  · refine g_iconst (pc' := 17) (v := (-1 : Int32)) hC dX6_poke_16 (by decide) rfl ?_
    obtain ⟨rfl, rfl⟩ := inj2 h; exact g_iret hC dX6_poke_17
  · refine g_aload_n (pc' := 19) (i := 0) hC dX6_poke_18 rfl rfl rfl ?_
    refine gf_X6_35 (pc' := 22) hC dX6_poke_19 rfl ?_
    refine g_iload_n (pc' := 23) (i := 1) hC dX6_poke_22 rfl rfl rfl ?_
    refine g_aload_n (pc' := 24) (i := 0) hC dX6_poke_23 rfl rfl rfl ?_
    refine gf_X6_35 (pc' := 27) hC dX6_poke_24 rfl ?_
    refine g_iload_n (pc' := 28) (i := 1) hC dX6_poke_27 rfl rfl rfl ?_
    obtain ⟨g_3, h⟩ := gd_some h
    refine ld_mf (pc' := 29) hC g_3 dX6_poke_28 rfl ?_
    refine g_iload_n (pc' := 30) (i := 2) hC dX6_poke_29 rfl rfl rfl ?_
    refine g_ixor (pc' := 31) hC dX6_poke_30 rfl ?_
    refine g_i2b (pc' := 32) hC dX6_poke_31 rfl ?_
    obtain ⟨g_4, h⟩ := gd_some h
    refine st_mfb (pc' := 33) hC g_4 dX6_poke_32 rfl ?_
    refine g_aload_n (pc' := 34) (i := 0) hC dX6_poke_33 rfl rfl rfl ?_
    refine gf_X6_35 (pc' := 37) hC dX6_poke_34 rfl ?_
    refine g_iload_n (pc' := 38) (i := 1) hC dX6_poke_37 rfl rfl rfl ?_
    obtain ⟨g_5, h⟩ := gd_some h
    refine ld_mf (pc' := 39) hC g_5 dX6_poke_38 rfl ?_
    refine g_sipush (pc' := 42) (v := (nI 255)) hC dX6_poke_39 (by decide) rfl ?_
    refine g_iand (pc' := 43) hC dX6_poke_42 rfl ?_
    obtain ⟨rfl, rfl⟩ := inj2 h; exact g_iret hC dX6_poke_43
set_option maxRecDepth 200000 in
theorem c_X6_cut (l : Launch) {E : GE} {rr : Int32} {msz : Int32} {v1 : Int32}  (h : p_X6_cut v1 ms = some (rr, msz)) : Met l yX6_cut (.code yX6_cut cX6_cut 3 (some .int) :: gU) rm_X6_cut (gP E (mws E mk mo mm mt mv mx mp mtd mf ms md mdd mn mst mpl mbb ma me mb mba mpg mdi mbl mby mw mz mso mbo mco mcd ml mr) [.ref (ea E 0), .int v1]) (gQ E (mws E mk mo mm mt mv mx mp mtd mf msz md mdd mn mst mpl mbb ma me mb mba mpg mdi mbl mby mw mz mso mbo mco mcd ml mr) (some (.int rr))) 0 0 E.2.2.1 := by
  refine met_of (y := yX6_cut) (own := RX6) (lo := [some (.ref (ea E 0)), some (.int v1), none]) (by decide) rfl rfl rfl (fun κ hl hC => ?_)
  subst hl
  unfold p_X6_cut at h
  refine g_iload_n (pc' := 1) (i := 1) hC dX6_cut_0 rfl rfl rfl ?_
  refine g_i2l (pc' := 2) hC dX6_cut_1 rfl ?_
  refine g_lconst (pc' := 3) (v := (lN 0)) hC dX6_cut_2 (by decide) rfl ?_
  refine g_aload_n (pc' := 4) (i := 0) hC dX6_cut_3 rfl rfl rfl ?_
  refine gf_X6_166 (pc' := 7) hC dX6_cut_4 rfl ?_
  refine g_i2l (pc' := 8) hC dX6_cut_7 rfl ?_
  obtain ⟨a_1, hc_2, h⟩ := bd1_some h
  refine g_callS (pc' := 11) hC (c_X6_in _ hc_2) ml_X6_62  (by decide) rfl rfl rfl dX6_cut_8 rfl ?_
  refine g_if_ne (pc' := 14) (tgt := 16) hC dX6_cut_11 (by decide) rfl h (fun h => ?_) (fun h => ?_)
  · refine g_iconst (pc' := 15) (v := (-1 : Int32)) hC dX6_cut_14 (by decide) rfl ?_
    obtain ⟨rfl, rfl⟩ := inj2 h; exact g_iret hC dX6_cut_15
  · refine g_aload_n (pc' := 17) (i := 0) hC dX6_cut_16 rfl rfl rfl ?_
    refine gf_X6_166 (pc' := 20) hC dX6_cut_17 rfl ?_
    refine g_iload_n (pc' := 21) (i := 1) hC dX6_cut_20 rfl rfl rfl ?_
    refine g_isub (pc' := 22) hC dX6_cut_21 rfl ?_
    refine g_istore_n (pc' := 23) (i := 2) (lo' := [some (.ref (ea E 0)), some (.int v1), some (.int (ms - v1))]) hC dX6_cut_22 rfl rfl rfl rfl rfl ?_
    refine g_aload_n (pc' := 24) (i := 0) hC dX6_cut_23 rfl rfl rfl ?_
    refine g_iload_n (pc' := 25) (i := 1) hC dX6_cut_24 rfl rfl rfl ?_
    refine pf_X6_166 (pc' := 28) hC dX6_cut_25 rfl ?_
    refine g_iload_n (pc' := 29) (i := 2) hC dX6_cut_28 rfl rfl rfl ?_
    obtain ⟨rfl, rfl⟩ := inj2 h; exact g_iret hC dX6_cut_29
end WALK
